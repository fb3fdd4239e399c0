/-! the relation in the law's loop -/
theorem fr_C {ad : Nat → Nat} {a b : va_W} {M : List Nat} (h : Fr SC M a b) (h1 : 1 ∉ M) (h14 : 14 ∉ M) (h15 : 15 ∉ M) (h16 : 16 ∉ M) (h17 : 17 ∉ M) (h46 : 46 ∉ M) : ∀ t c k, pnC t c k → xso SC ad b t c k = xso SC ad a t c k := by
  intro t c k q
  refine xso_of ?_ t k
  rcases (show c = 77 ∨ c = 78 ∨ c = 117 ∨ c = 1 ∨ c = 39 ∨ c = 58 ∨ c = 18 ∨ c = 19 ∨ c = 56 ∨ c = 57 ∨ c = 75 ∨ c = 76 by unfold pnC at q; omega) with rfl | rfl | rfl | rfl | rfl | rfl | rfl | rfl | rfl | rfl | rfl | rfl
  · exact h _ _ kSC_77 h16
  · exact h _ _ kSC_78 h17
  · exact h _ _ kSC_117 h46
  · exact h _ _ kSC_1 h1
  · exact h _ _ kSC_39 h1
  · exact h _ _ kSC_58 h1
  · exact h _ _ kSC_18 h14
  · exact h _ _ kSC_19 h15
  · exact h _ _ kSC_56 h14
  · exact h _ _ kSC_57 h15
  · exact h _ _ kSC_75 h14
  · exact h _ _ kSC_76 h15
theorem rows_fr {a b : va_W} {M : List Nat} (h : Fr SM M a b) (h1 : 1 ∉ M) : ∀ k, (k % 1774 = 1 ∨ k % 1774 = 2 ∨ (11 ≤ k % 1774 ∧ k % 1774 ≤ 35)) → aI b 1 k = aI a 1 k := fun _ _ => h.aI kSM_1 h1
theorem rows_pw {a b : va_W} (h : Pa a b) (g : Pw a b) : ∀ k, (k % 1774 = 1 ∨ k % 1774 = 2 ∨ (11 ≤ k % 1774 ∧ k % 1774 ≤ 35)) → aI b 1 k = aI a 1 k := fun k q => by
  by_cases z : k < 10 ∨ 872 < k
  · exact h k z
  · exact g k (by omega) (by omega)
theorem fr_M {ad : Nat → Nat} {a b : va_W} {M : List Nat} (h : Fr SM M a b) (h2 : 2 ∉ M) (h3 : 3 ∉ M) (hA : ∀ k, (k % 1774 = 1 ∨ k % 1774 = 2 ∨ (11 ≤ k % 1774 ∧ k % 1774 ≤ 35)) → aI b 1 k = aI a 1 k) (h5 : KP P5 (xso SM ad b) (xso SM ad a)) : ∀ t c k, pnM t c k → xso SM ad b t c k = xso SM ad a t c k := by
  intro t c k q
  rcases q with ⟨rfl, rfl, q⟩ | ⟨rfl, rfl | rfl⟩ | ⟨rfl, rfl, q⟩
  · exact h5 0 0 k ⟨rfl, rfl, q⟩
  · exact xso_of (h _ _ kSM_2 h2) 1 k
  · exact xso_of (h _ _ kSM_3 h3) 1 k
  · rw [xso1, xso1, hA k q]
theorem fr_H {ad : Nat → Nat} {a b : va_W} {M : List Nat} (h : Fr SC M a b) (h1 : 1 ∉ M) (h14 : 14 ∉ M) (h15 : 15 ∉ M) (h16 : 16 ∉ M) (h17 : 17 ∉ M) (h46 : 46 ∉ M) : ∀ t c k, phC t c k → xso SC ad b t c k = xso SC ad a t c k := by
  rintro t c k (q | ⟨rfl, rfl, rfl⟩)
  · exact fr_C h h1 h14 h15 h16 h17 h46 t c k q
  · exact xso_of (h _ _ kSC_77 h16) 3 10
theorem fr_H4 {ad : Nat → Nat} {a b : va_W} {M : List Nat} (h : Fr SC M a b) (h39 : 39 ∉ M) : ∀ k, xso SC ad b 0 104 k = xso SC ad a 0 104 k := fun k => xso_of (h _ _ kSC_104 h39) 0 k
theorem fr_H5 {ad : Nat → Nat} {a b : va_W} {M : List Nat} (h : Fr SC M a b) (h40 : 40 ∉ M) : ∀ k, xso SC ad b 1 105 k = xso SC ad a 1 105 k := fun k => xso_of (h _ _ kSC_105 h40) 1 k
theorem RN_start (G : GG) (ad ad' : Nat → Nat) : RN (xso SC ad (sW G ad)) (xso SM ad' (rW G ad')) := by
  have z : (0 : Int32).toInt = 0 := by decide
  have n1 : (-1 : Int32).toInt = -1 := by decide
  have c2 : xso SC ad (sW G ad) 0 77 2 = 0 := by rw [xso0, show fI (sW G ad) 77 2 = 0 from rfl, z]
  have c8 : xso SC ad (sW G ad) 0 77 8 = 0 := by rw [xso0, show fI (sW G ad) 77 8 = 0 from rfl, z]
  have c9 : xso SC ad (sW G ad) 0 77 9 = -1 := by rw [xso0, show fI (sW G ad) 77 9 = -1 from rfl, n1]
  have m5 : xso SM ad' (rW G ad') 0 0 5 = 0 := by rw [xso0, show fI (rW G ad') 0 5 = 0 from rfl, z]
  have m13 : xso SM ad' (rW G ad') 0 0 13 = 0 := by rw [xso0, show fI (rW G ad') 0 13 = 0 from rfl, z]
  have m14 : xso SM ad' (rW G ad') 0 0 14 = -1 := by rw [xso0, show fI (rW G ad') 0 14 = -1 from rfl, n1]
  have c78 : ∀ k, xso SC ad (sW G ad) 1 78 k = 0 := fun k => by rw [xso1, show aI (sW G ad) 78 k = 0 from rfl, z]
  have c117 : ∀ k, xso SC ad (sW G ad) 1 117 k = 0 := fun k => by rw [xso1, show aI (sW G ad) 117 k = 0 from rfl, z]
  have e1 : ∀ k, xso SM ad' (rW G ad') 1 1 k = 0 := fun k => by rw [xso1, show aI (rW G ad') 1 k = 0 from rfl, z]
  have e2 : ∀ k, xso SM ad' (rW G ad') 1 2 k = 0 := fun k => by rw [xso1, show aI (rW G ad') 2 k = 0 from rfl, z]
  have e3 : ∀ k, xso SM ad' (rW G ad') 1 3 k = 0 := fun k => by rw [xso1, show aI (rW G ad') 3 k = 0 from rfl, z]
  have w5 : xso SC ad (sW G ad) 0 1 5 = 0 := by rw [xso0, show fI (sW G ad) 1 5 = 0 from rfl, z]
  have w6 : xso SC ad (sW G ad) 0 1 6 = 0 := by rw [xso0, show fI (sW G ad) 1 6 = 0 from rfl, z]
  refine ⟨⟨fun j => ?_, by rw [c2, m5], by rw [c2]; decide⟩, by rw [c2]; decide, by rw [c8, m13], by rw [c9, m14], ⟨by rw [e1, w5], by rw [e1, w6], fun c _ => by rw [e1]; decide, Or.inl ⟨w5, w6, fun c _ => e1 _⟩⟩, ⟨by rw [c117, e2], fun q => absurd (e2 0) q⟩, ⟨by rw [c117, e2], fun q => absurd (e2 1) q⟩⟩
  rw [c78, e3]
  exact Or.inl ⟨by decide, by decide, rfl⟩
set_option maxRecDepth 100000 in
theorem RH_start (G : GG) (ad ad' : Nat → Nat) {A : Nat → Prop} {s : State} {H : Heap} {locs : List Loc} (hw : Wt G SC ad A s H locs (sW G ad)) : RH (xso SC ad (sW G ad)) (xso SM ad' (rW G ad')) := by
  have z : (0 : Int32).toInt = 0 := by decide
  have e2 : ∀ k, xso SM ad' (rW G ad') 1 2 k = 0 := fun k => by rw [xso1, show aI (rW G ad') 2 k = 0 from rfl, z]
  have c18 : ∀ k, xso SC ad (sW G ad) 1 18 k = 0 := fun k => by rw [xso1, show aI (sW G ad) 18 k = 0 from rfl, z]
  have c105 : ∀ k, xso SC ad (sW G ad) 1 105 k = 0 := fun k => by rw [xso1, show aI (sW G ad) 105 k = 0 from rfl, z]
  have h3 : xso SC ad (sW G ad) 0 104 3 = 0 := by rw [xso0, show fI (sW G ad) 104 3 = 0 from rfl, z]
  have h4 : xso SC ad (sW G ad) 0 104 4 = 0 := by rw [xso0, show fI (sW G ad) 104 4 = 0 from rfl, z]
  have lw : xso SC ad (sW G ad) 3 77 10 = 21 := by
    obtain ⟨fs, f1, f2⟩ : ∃ fs : List Value, (sW G ad)[77]? = some (ad 77, .inr (5, fs)) ∧ fs[10]? = some (.ref (ad 21)) := ⟨_, rfl, rfl⟩
    rw [xso3, xrI_obj (ci := 5) (fts := ftsSC_16) rfl f1, f2]
    have q : xrF SC ad (some (3, 2, 0)) (some (.ref (ad 21))) = 21 := xrF_ref (j := 21) hw kSC_21
    show ((xrF SC ad (some (3, 2, 0)) (some (.ref (ad 21))) : Nat) : Int) = 21
    rw [q]
    rfl
  refine ⟨RN_start G ad ad', Or.inl lw, fun d hd c hc q => ?_, fun q => absurd (e2 0) q, fun q => absurd (e2 1) q, HV.zero h3 h4 (fun k => by rw [c105]; decide)⟩
  rw [show 1 + 17 = 18 from rfl, c18, bz_0] at q
  cases q
theorem fr_8 {ad : Nat → Nat} {a b : va_W} {M : List Nat} (h : Fr SC M a b) (h22 : 22 ∉ M) (h23 : 23 ∉ M) (S : SQ 0 (xso SC ad a)) : SQ 0 (xso SC ad b) := by
  refine S.of8 (fun t c k q1 q2 => xso_of ?_ t k)
  rcases (show c = 83 ∨ c = 84 ∨ c = 85 by omega) with rfl | rfl | rfl
  · exact h _ _ kSC_83 h22
  · exact h _ _ kSC_84 h23
  · exact h _ _ kSC_85 h23
set_option maxRecDepth 100000 in
theorem RS_start (G : GG) (ad ad' : Nat → Nat) {A : Nat → Prop} {s : State} {H : Heap} {locs : List Loc} (hw : Wt G SC ad A s H locs (sW G ad)) : RS (xso SC ad (sW G ad)) (xso SM ad' (rW G ad')) := by
  have z : (0 : Int32).toInt = 0 := by decide
  have a84 : ∀ k, xso SC ad (sW G ad) 1 84 k = 0 := fun k => by rw [xso1, show aI (sW G ad) 84 k = 0 from rfl, z]
  have a85 : ∀ k, xso SC ad (sW G ad) 1 85 k = 0 := fun k => by rw [xso1, show aI (sW G ad) 85 k = 0 from rfl, z]
  have h4 : xso SC ad (sW G ad) 0 83 4 = 0 := by rw [xso0, show fI (sW G ad) 83 4 = 0 from rfl, z]
  obtain ⟨fs, f1, f2, f3⟩ : ∃ fs : List Value, (sW G ad)[83]? = some (ad 83, .inr (8, fs)) ∧ fs[2]? = some (.ref (ad 84)) ∧ fs[3]? = some (.ref (ad 85)) := ⟨_, rfl, rfl, rfl⟩
  have t2 : xso SC ad (sW G ad) 3 83 2 = 84 := by
    rw [xso3, xrI_obj (ci := 8) (fts := ftsSC_22) rfl f1, f2]
    have q : xrF SC ad (some (3, 23, 0)) (some (.ref (ad 84))) = 84 := xrF_ref (j := 84) hw kSC_84
    show ((xrF SC ad (some (3, 23, 0)) (some (.ref (ad 84))) : Nat) : Int) = 84
    rw [q]
    rfl
  have t3 : xso SC ad (sW G ad) 3 83 3 = 85 := by
    rw [xso3, xrI_obj (ci := 8) (fts := ftsSC_22) rfl f1, f3]
    have q : xrF SC ad (some (3, 23, 0)) (some (.ref (ad 85))) = 85 := xrF_ref (j := 85) hw kSC_85
    show ((xrF SC ad (some (3, 23, 0)) (some (.ref (ad 85))) : Nat) : Int) = 85
    rw [q]
    rfl
  exact ⟨RH_start G ad ad' hw, 84, 85, Or.inl ⟨rfl, rfl⟩, t2, t3, fun j _ => a85 j, 0, h4, by decide, fun j _ => a84 j⟩
theorem aI_n1 {G : GG} {ad : Nat → Nat} : ∀ t, t < 4 → aI (rW G ad) 23 t = -1 := fun t ht => by
  rcases (show t = 0 ∨ t = 1 ∨ t = 2 ∨ t = 3 by omega) with rfl | rfl | rfl | rfl <;> rfl
theorem fI_n1 {G : GG} {ad : Nat → Nat} : ∀ t, t < 4 → fI (sW G ad) (107 + 2 * t) 2 = -1 := fun t ht => by
  rcases (show t = 0 ∨ t = 1 ∨ t = 2 ∨ t = 3 by omega) with rfl | rfl | rfl | rfl <;> rfl
theorem RA_zero {s m : XS} (hS : RS s m) (eA : m 1 1 = fun _ => 0) (e2 : ∀ k, m 1 2 k = 0) (e3 : ∀ t, t < 4 → m 1 23 t = -1) (e4 : ∀ t, t < 4 → s 0 (107 + 2 * t) 2 = -1) (w5 : s 0 1 5 = 0) (w6 : s 0 1 6 = 0) (w7 : s 0 1 7 = 0) (w8 : s 0 1 8 = 0) (l2 : s 0 2 3 = 0) (l6 : s 0 6 3 = 0) (f7 : s 0 10 7 = 0) (f8 : s 0 10 8 = 0) (g15 : ∀ k, s 1 15 k = 0) (g16 : ∀ k, s 1 16 k = 0) (g17 : ∀ k, s 1 17 k = 0) (r16 : s 0 0 16 = 0) (r17 : s 0 0 17 = 0) (h4 : s 0 79 4 = 0) : RA 1000 s m := by
  have hN := hS.1.1.2.2.2.2.1
  rw [eA] at hN
  have i0 : IB 1000 0 39 s m := fun q => absurd (e2 0) q
  have i1 : IB 1000 1 58 s m := fun q => absurd (e2 1) q
  refine ⟨0, 0, hS, ⟨Or.inl ⟨rfl, rfl, w5, w6, by rw [eA], by rw [eA]⟩, ?_, by rw [l2]; decide, by rw [l6]; decide, ?_, by rw [eA]; exact ⟨by decide, by decide⟩, by decide⟩, ⟨0, 0, r16, r17, by decide, by decide, by rw [eA]; rfl, fun j hj => absurd hj (Nat.not_lt_zero _)⟩, fun j hj => ?_, fun t ht => Or.inl ⟨e3 t ht, e4 t ht⟩, ⟨0, h4, by decide, fun t ht => absurd ht (Nat.not_lt_zero _), fun t d ht => absurd ht (Nat.not_lt_zero _)⟩, i0, i1⟩
  · rw [eA]
    refine ⟨w7.symm, w8.symm, hN, ⟨f7.symm, by rw [f7]; decide, by rw [f7]; decide, f8.symm, fun p hp => ?_, fun p hp => (g15 p).symm, fun c hc => ⟨(g16 c).symm, (g17 c).symm⟩⟩, by decide, by decide, Or.inl ⟨rfl, l2⟩, Or.inl ⟨rfl, l6⟩⟩
    have hp' : (p : Int) < s 0 10 7 := hp
    rw [f7] at hp'
    omega
  · rw [eA]
    unfold rA
    exact ⟨fun p hp => absurd hp (by show ¬ ((p : Int) < 0); omega), fun p hp => ⟨by show (0 : Int) ≤ 0; decide, by show (0 : Int) ≤ 999; decide⟩, fun c hc => ⟨⟨by show (0 : Int) ≤ 0; decide, by show (0 : Int) ≤ 1000; decide⟩, ⟨by show (0 : Int) ≤ 0; decide, by show (0 : Int) ≤ 1000 + 99; decide⟩, fun _ => rfl⟩, by decide, by decide⟩
  · rw [eA] at hj
    have hj' : (j : Int) < 0 := hj
    omega
set_option maxRecDepth 100000 in
theorem RA_start (G : GG) (ad ad' : Nat → Nat) {A : Nat → Prop} {s : State} {H : Heap} {locs : List Loc} (hw : Wt G SC ad A s H locs (sW G ad)) : RA 1000 (xso SC ad (sW G ad)) (xso SM ad' (rW G ad')) := by
  have z : (0 : Int32).toInt = 0 := by decide
  have n1 : (-1 : Int32).toInt = -1 := by decide
  refine RA_zero (RS_start G ad ad' hw) (funext fun k => ?_) (fun k => ?_) (fun t ht => ?_) (fun t ht => ?_) ?_ ?_ ?_ ?_ ?_ ?_ ?_ ?_ (fun k => ?_) (fun k => ?_) (fun k => ?_) ?_ ?_ ?_
  · rw [xso1, show aI (rW G ad') 1 k = 0 from rfl, z]
  · rw [xso1, show aI (rW G ad') 2 k = 0 from rfl, z]
  · rw [xso1, aI_n1 t ht, n1]
  · rw [xso0, fI_n1 t ht, n1]
  · rw [xso0, show fI (sW G ad) 1 5 = 0 from rfl, z]
  · rw [xso0, show fI (sW G ad) 1 6 = 0 from rfl, z]
  · rw [xso0, show fI (sW G ad) 1 7 = 0 from rfl, z]
  · rw [xso0, show fI (sW G ad) 1 8 = 0 from rfl, z]
  · rw [xso0, show fI (sW G ad) 2 3 = 0 from rfl, z]
  · rw [xso0, show fI (sW G ad) 6 3 = 0 from rfl, z]
  · rw [xso0, show fI (sW G ad) 10 7 = 0 from rfl, z]
  · rw [xso0, show fI (sW G ad) 10 8 = 0 from rfl, z]
  · rw [xso1, show aI (sW G ad) 15 k = 0 from rfl, z]
  · rw [xso1, show aI (sW G ad) 16 k = 0 from rfl, z]
  · rw [xso1, show aI (sW G ad) 17 k = 0 from rfl, z]
  · rw [xso0, show fI (sW G ad) 0 16 = 0 from rfl, z]
  · rw [xso0, show fI (sW G ad) 0 17 = 0 from rfl, z]
  · rw [xso0, show fI (sW G ad) 79 4 = 0 from rfl, z]
