/-! fogs: what they do, both -/
theorem BB.fog {B : Int} {N : Nat} {P : Int} {R : Nat → Int} {c : Nat} {v : Int} (h : BB B N P R) (h5 : P ≤ 5) (hN : N ≤ 25) (hc : c < N) (hv : 0 ≤ v ∧ v ≤ B + 99) : BB B N P (up1 R (50 + c) v) := by
  obtain ⟨h1, h2, h3, h4⟩ := h
  refine ⟨fun p hp => ?_, fun p hp => ?_, fun c' hc' => ?_, ?_⟩
  · rw [up1_n (by omega), up1_n (by omega), up1_n (by omega), up1_n (by omega)]
    exact h1 p hp
  · rw [up1_n (by omega)]
    exact h2 p hp
  · rw [up1_n (show 25 + c' ≠ 50 + c by omega)]
    obtain ⟨g1, g2, g3⟩ := h3 c' hc'
    by_cases e : c' = c
    · subst e
      rw [up1_s]
      exact ⟨g1, hv, fun q => by omega⟩
    · rw [up1_n (by omega)]
      exact ⟨g1, g2, g3⟩
  · rw [up1_n (by omega)]
    exact h4
theorem bc_p (s : XS) (v : Int) : (f_J6_bitCount_0f7a4 s v).1 = s := rfl
theorem fm_p {m : XS} {B : Int} {w h : Nat} {s : XS} (H : CS B w h s m) : ∀ (n : Nat) (x1 x2 : Int), 0 ≤ x2 → (L1_X12_freeMany n m x1 x2).1 = m
  | 0, x1, x2, _ => rfl
  | n + 1, x1, x2, h0 => by
    have b25 := H.1.b25
    have e : ∃ v : Int, L1_X12_freeMany (n + 1) m x1 x2 = if x2 < m 1 1 1 * m 1 1 2 then L1_X12_freeMany n m v (x2 + 1) else (m, x1) := by
      by_cases z : x2 < m 1 1 1 * m 1 1 2
      · have x25 : x2 < ((w * h : Nat) : Int) := by
          rcases H.1 with ⟨-, -, -, -, q5, q6⟩ | L
          · rw [q5] at z; omega
          · rw [L.2.1.2.2.1, L.2.1.2.2.2, ← Int.natCast_mul] at z; exact z
        obtain ⟨c, rfl⟩ : ∃ c : Nat, x2 = (c : Int) := ⟨x2.toNat, by omega⟩
        have fr := freeM_x (m := m) (c := c) (hr := 0) (by omega) H.2.2.2.2.2.1 (by have := H.bd.2.2.2; unfold rgI; omega)
        refine ⟨if (@ite Int (frQ (m 1 1) c 0) (Classical.propDecidable _) 1 0) = 0 then x1 + 0 else Xiadd x1 1, ?_⟩
        show g2l_X12_freeMany (L1_X12_freeMany n) m x1 (c : Int) = _
        simp only [g2l_X12_freeMany, g3c_X12_freeMany, g4b_X12_freeMany, g5_X12_freeMany, g6_X12_freeMany, g7c_X12_freeMany, g8b_X12_freeMany, g9_X12_freeMany, g10_X12_freeMany, f_X12_crossings, show Int.toNat 1 = 1 from rfl, show Int.toNat 2 = 2 from rfl, fr]
        rw [if_pos z, if_pos z]
        split <;> rfl
      · refine ⟨0, ?_⟩
        show g2l_X12_freeMany (L1_X12_freeMany n) m x1 x2 = _
        simp only [g2l_X12_freeMany, g3c_X12_freeMany, g4b_X12_freeMany, g5_X12_freeMany, f_X12_crossings, show Int.toNat 1 = 1 from rfl, show Int.toNat 2 = 2 from rfl]
        rw [if_neg z, if_neg z]
    obtain ⟨v, e⟩ := e
    rw [e]
    split
    · exact fm_p H n v (x2 + 1) (by omega)
    · rfl
theorem fog_s {B : Int} {w h : Nat} {s m : XS} (H : CS B w h s m) (hB : B ≤ 900000) (R : Rg s m) {a1 a2 : Int} : CS B w h (f_X11_fog s a1 a2).1 (f_X12_fog m a1 a2).1 ∧ Rg (f_X11_fog s a1 a2).1 (f_X12_fog m a1 a2).1 ∧ FdC (f_X11_fog s a1 a2).1 s ∧ FdM (f_X12_fog m a1 a2).1 m ∧ KF (f_X11_fog s a1 a2).1 s (f_X12_fog m a1 a2).1 m ∧ (RB B (w * h) m → RB B (w * h) (f_X12_fog m a1 a2).1) ∧ ((f_X11_fog s a1 a2).2 = (f_X12_fog m a1 a2).2 ∨ ((f_X11_fog s a1 a2).2 = (f_J6_bitCount_0f7a4 s (f_X0_freeBits (f_X11_fog s a1 a2).1 1 ((f_X11_fog s a1 a2).1 0 10 8)).2).2 ∧ (f_X12_fog m a1 a2).2 = (f_X12_freeMany (f_X12_fog m a1 a2).1).2)) := by
  obtain ⟨m0, hm0⟩ : ∃ m0, m0 = xup m 0 0 0 0 := ⟨_, rfl⟩
  have m0o : ∀ t c k, ¬ (t = 0 ∧ c = 0 ∧ k = 0) → m0 t c k = m t c k := fun t c k q => by rw [hm0]; exact thr_f q
  have m0r : m0 1 1 = m 1 1 := funext fun k => m0o 1 1 k (by omega)
  have fm0 : FdM m0 m := by rw [hm0]; exact FdM.thr
  have H0 : CS B w h s m0 := H.fr FrA.rf m0r
  have R0 : Rg s m0 := R.same rfl rfl (fun _ _ _ _ _ => rfl) (by rw [m0r]) (fun k _ _ => by rw [m0r])
  obtain ⟨p1, p2, p3, p4, p5, p6, p7, p8⟩ := H.pl
  obtain ⟨b1, b2, b3, b4, b5⟩ := H.bd
  have b25 := H.1.b25
  have one : ¬ (1 : Int) = 0 := by decide
  have ewh : s 0 1 5 * s 0 1 6 = ((w * h : Nat) : Int) ∧ m 1 1 1 * m 1 1 2 = ((w * h : Nat) : Int) := by
    rcases H.1 with ⟨q1, q2, q3, q4, q5, q6⟩ | L
    · rw [q1, q2, q3, q4, q5, q6]; decide
    · rw [L.2.1.1, L.2.1.2.1, L.2.1.2.2.1, L.2.1.2.2.2, Int.natCast_mul]; exact ⟨rfl, rfl⟩
  have iscC : f_X11_isCrossing s a1 = (s, if 0 ≤ a1 ∧ a1 < ((w * h : Nat) : Int) then 1 else 0) := by
    have e0 : f_X11_isCrossing s a1 = if a1 < 0 then (s, 0) else if a1 < s 0 1 5 * s 0 1 6 then (s, 1) else (s, 0) := rfl
    rw [e0, ewh.1]
    by_cases z1 : a1 < 0
    · rw [if_pos z1, if_neg (fun q => by omega)]
    · rw [if_neg z1]
      by_cases z2 : a1 < ((w * h : Nat) : Int)
      · rw [if_pos z2, if_pos ⟨by omega, z2⟩]
      · rw [if_neg z2, if_neg (fun q => z2 q.2)]
  have iscM : f_X12_isCrossing m0 a1 = (m0, if 0 ≤ a1 ∧ a1 < ((w * h : Nat) : Int) then 1 else 0) := by
    rw [iscM_x, m0r, ewh.2]
    by_cases z : 0 ≤ a1 ∧ a1 < ((w * h : Nat) : Int)
    · rw [if_pos z, if_pos (show 0 ≤ a1 ∧ a1 ≤ ((w * h : Nat) : Int) - 1 by omega)]
    · rw [if_neg z, if_neg (show ¬ (0 ≤ a1 ∧ a1 ≤ ((w * h : Nat) : Int) - 1) by omega)]
  have none : ∀ x : Int, CS B w h s m0 ∧ Rg s m0 ∧ FdC s s ∧ FdM m0 m ∧ KF s s m0 m ∧ (RB B (w * h) m → RB B (w * h) m0) ∧ (((s, x) : XR).2 = ((m0, x) : XR).2 ∨ (x = (f_J6_bitCount_0f7a4 s (f_X0_freeBits s 1 (s 0 10 8)).2).2 ∧ x = (f_X12_freeMany m0).2)) := fun x => ⟨H0, R0, FdC.rf, fm0, Or.inr ⟨rfl, fun k _ _ => by rw [m0r]⟩, fun hr => hr.row m0r, Or.inl rfl⟩
  have ec : f_X11_fog s a1 a2 = if 0 ≤ a1 ∧ a1 < ((w * h : Nat) : Int) then (if 1 ≤ a2 ∧ a2 ≤ 99 then g9_X11_fog s a1 a2 else (s, -3)) else (s, -2) := by
    simp only [f_X11_fog, g1c_X11_fog, g2b_X11_fog, g3_X11_fog, g4_X11_fog, g5b_X11_fog, g6_X11_fog, g7_X11_fog, g8b_X11_fog, g10_X11_fog, iscC]
    by_cases z1 : 0 ≤ a1 ∧ a1 < ((w * h : Nat) : Int)
    · rw [if_pos z1, if_neg one, if_pos z1]
      by_cases z2 : a2 < 1
      · rw [if_pos z2, if_neg (fun q => by omega)]
      · rw [if_neg z2]
        by_cases z3 : 99 < a2
        · rw [if_pos z3, if_neg (fun q => by omega)]
        · rw [if_neg z3, if_pos (show 1 ≤ a2 ∧ a2 ≤ 99 by omega)]
    · rw [if_neg z1, if_pos rfl, if_neg z1]
  have em : f_X12_fog m a1 a2 = if 0 ≤ a1 ∧ a1 < ((w * h : Nat) : Int) then (if 1 ≤ a2 ∧ a2 ≤ 99 then g8_X12_fog m0 a1 a2 else (m0, -3)) else (m0, -2) := by
    simp only [f_X12_fog, g1w_X12_fog, g2c_X12_fog, g3b_X12_fog, g4_X12_fog, g5_X12_fog, g6c_X12_fog, g7b_X12_fog, g9_X12_fog, within_x, ← hm0, iscM]
    by_cases z1 : 0 ≤ a1 ∧ a1 < ((w * h : Nat) : Int)
    · rw [if_pos z1, if_neg one, if_pos z1]
      by_cases z2 : 1 ≤ a2 ∧ a2 ≤ 99
      · rw [if_pos z2, if_neg one, if_pos z2]
      · rw [if_neg z2, if_pos rfl, if_neg z2]
    · rw [if_neg z1, if_pos rfl, if_neg z1]
  rw [ec, em]
  by_cases z1 : 0 ≤ a1 ∧ a1 < ((w * h : Nat) : Int)
  · rw [if_pos z1, if_pos z1]
    by_cases z2 : 1 ≤ a2 ∧ a2 ≤ 99
    · rw [if_pos z2, if_pos z2]
      obtain ⟨c, rfl⟩ : ∃ c : Nat, a1 = (c : Int) := ⟨a1.toNat, by omega⟩
      have cw : c < w * h := by omega
      have c25 : c < 25 := by omega
      have k1 := keeps_x m0
      obtain ⟨mk, hmk⟩ : ∃ mk, mk = (f_X12_keeps m0).1 := ⟨_, rfl⟩
      rw [← hmk] at k1
      have mkr : ∀ j, mk 1 1 j = m 1 1 j := fun j => by rw [k1, if_neg (by omega), m0r]
      obtain ⟨F, hF⟩ : ∃ F, F = m 1 1 111 + a2 := ⟨_, rfl⟩
      obtain ⟨y, hy⟩ : ∃ y, y = xup mk 1 1 (86 + c) F := ⟨_, rfl⟩
      have yo : ∀ t c' k, ¬ (t = 1 ∧ c' = 1 ∧ k = 86 + c) → y t c' k = mk t c' k := fun t c' k q => by
        rw [hy]
        unfold xup
        rw [if_neg q]
      obtain ⟨n1, n2, n3, n4⟩ := kn_x (y := y) H R (by rw [yo _ _ _ (by omega), mkr]) (fun k q1 q2 => by rw [yo _ _ _ (by omega), mkr]) (fun k hk => by rw [yo _ _ _ (by omega), k1, if_pos ⟨rfl, rfl, hk⟩, m0r])
      obtain ⟨s2, hs2⟩ : ∃ s2, s2 = (f_X11_keep s 10).1 := ⟨_, rfl⟩
      rw [← hs2] at n1 n2
      have s2c : ∀ t c k, 1 ≤ c → c ≤ 19 → s2 t c k = s t c k := fun t c k q1 q2 => n2 t c k (by omega) (by omega)
      obtain ⟨x, hx⟩ : ∃ x, x = xup (xup s2 1 17 c F) 0 79 4 0 := ⟨_, rfl⟩
      have xo : ∀ t c' k, ¬ (t = 1 ∧ c' = 17) → ¬ (t = 0 ∧ c' = 79 ∧ k = 4) → x t c' k = s2 t c' k := fun t c' k q1 q2 => by
        rw [hx]
        unfold xup
        rw [if_neg q2, if_neg (fun z => q1 ⟨z.1, z.2.1⟩)]
      have i1 : Xiadd (m 1 1 111) a2 = F := by rw [hF]; exact iadd_v (by unfold rgI; omega)
      have x108 : x 0 10 8 = m 1 1 111 := by rw [xo _ _ _ (by omega) (by omega), s2c _ _ _ (by decide) (by decide)]; exact p4.symm
      have eg : g9_X11_fog s (c : Int) a2 = (x, (f_J6_bitCount_0f7a4 s (f_X0_freeBits x 1 (x 0 10 8)).2).2) := by
        have fp := (free_x x 1 (x 0 10 8)).1
        simp only [g9_X11_fog, g11c_X11_fog, g12w_X11_fog, g13c_X11_fog, g14c_X11_fog, g15c_X11_fog, ← hs2, forg_x, show Int.toNat (c : Int) = c from rfl]
        rw [s2c 0 10 8 (by decide) (by decide), ← p4, i1, ← hx, bc_p, fp]
        rfl
      have eh : g8_X12_fog m0 (c : Int) a2 = ((f_X12_freeMany (f_X12_notes y).1).1, (f_X12_freeMany (f_X12_notes y).1).2) := by
        simp only [g8_X12_fog, g10c_X12_fog, g11w_X12_fog, g12c_X12_fog, g13c_X12_fog, ← hmk, show Int.toNat 111 = 111 from rfl, show Int.toNat (86 + (c : Int)) = 86 + c by omega]
        rw [mkr, i1, ← hy]
      rw [eg, eh]
      obtain ⟨nt, hnt⟩ : ∃ nt, nt = (f_X12_notes y).1 := ⟨_, rfl⟩
      rw [← hnt] at n1 n3 n4 ⊢
      have rx : ∀ k, k < 76 → rwC x 10 k = up1 (rwC s 10) (50 + c) F k := fun k hk => by
        rw [hx, rwC_same (s := xup s2 1 17 c F) (b := 10) (fun t c k q1 q2 => xup_c (by omega)), rwC_u7 (b := 10) c25 k hk]
        exact up1_c (fun i hi => by rw [rwC_same (s := s) (b := 10) (fun t c k q1 q2 => s2c t c k (by omega) (by omega))]) k hk
      have ry : ∀ k, k < 76 → y 1 1 (36 + k) = up1 (rA (m 1 1)) (50 + c) F k := fun k hk => by
        rw [hy]
        unfold up1 xup rA
        (repeat' split) <;> first | rfl | exact mkr _ | (exfalso; omega)
      have Cy : CS B w h x y := by
        refine H.mk (fun t c' k q1 q2 q3 q4 q5 => (xo t c' k (by omega) (by omega)).trans (s2c t c' k q1 q2)) (fun k hk => (yo _ _ _ (by omega)).trans (mkr _)) (fun k hk => ?_) ?_ b5
        · rw [rx k hk.1]
          refine Eq.trans ?_ (ry k hk.1).symm
          exact H.fw.up k hk
        · exact (H.2.2.2.2.1.fog p3 b25 cw (v := F) (by omega)).same (fun k hk => ry k hk.1) p3
      have Cn : CS B w h x nt := Cy.row (fun k hk => n3 _ _ _ (by omega))
      have fp : (f_X12_freeMany nt).1 = nt := fm_p Cn _ 0 0 (by decide)
      rw [fp]
      refine ⟨Cn, ?_, fun t c' k q1 q2 q3 q4 q5 q6 => ?_, fun t c' k q1 q2 q3 => ?_, Or.inl ?_, n4, Or.inr ⟨rfl, rfl⟩⟩
      · exact n1.same (xo _ _ _ (by omega) (by omega)) (xo _ _ _ (by omega) (by omega)) (fun t c k q1 q2 => xo t c k (by omega) (by omega)) rfl (fun _ _ _ => rfl)
      · show x t c' k = s t c' k
        rw [xo t c' k (by omega) q5]
        exact n2 t c' k q3 (by omega)
      · show nt t c' k = m t c' k
        rw [n3 t c' k (by omega), yo t c' k (by omega), k1, if_neg (by omega)]
        exact fm0 t c' k q1 q2 q3
      · show x 0 79 4 = 0
        rw [hx, xup_s]
    · rw [if_neg z2, if_neg z2]; exact none _
  · rw [if_neg z1, if_neg z1]; exact none _
