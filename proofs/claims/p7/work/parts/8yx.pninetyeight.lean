/-! rounds: the class leaves all right -/
theorem fo_c {B : Int} {w h : Nat} {s m : XS} (H : CS B w h s m) (L : Ld s (m 1 1) w h) {t0 len cc K : Nat} (el : s 0 87 5 = (len : Int)) (h240 : t0 + len ≤ 240) (h60 : len ≤ 60) (h1000 : K ≤ 1000) (Bj : ∀ j, j < len → BL (m 1 1) (w * h) (t0 + len) cc K j s) : ∀ (n i c d left : Nat) (v : XS), FV (w * h) v (m 1 1) → FrTr v s → v 0 87 6 = ((4 * c + d : Nat) : Int) → c < w * h → d < 4 → left ≤ K → (∃ l, l ≤ left ∧ Bk (m 1 1) (t0 + len) cc (len - i) c d l) → i ≤ len → len < i + n → ∃ u, L2_X7_follow n v (t0 : Int) (left : Int) (i : Int) = (u, 0) ∧ FV (w * h) u (m 1 1) ∧ FrTr u s ∧ ∃ c' d' : Nat, c' < w * h ∧ d' < 4 ∧ u 0 87 6 = ((4 * c' + d' : Nat) : Int) := by
  intro n
  induction n with
  | zero => intro i c d left v _ _ _ _ _ _ _ h1 h2; omega
  | succ n ih =>
    intro i c d left v Vv Fv e6 hc hd hK ex h1 h2
    have e5 : v 0 87 5 = (len : Int) := by rw [Fv _ _ _ (by omega) (by omega) (by omega)]; exact el
    have ec : L2_X7_follow (n + 1) v (t0 : Int) (left : Int) (i : Int) = if i < len then L7_X7_follow (L2_X7_follow n) 5 v (t0 : Int) (left : Int) (i : Int) ((0 : Nat) : Int) else (v, 0) := by
      show g3l_X7_follow (L2_X7_follow n) v (t0 : Int) (left : Int) (i : Int) = _
      simp only [g3l_X7_follow, g4b_X7_follow, g5_X7_follow, g6_X7_follow, e5]
      by_cases z : i < len
      · rw [if_pos z, if_pos (by omega)]
        rfl
      · rw [if_neg z, if_neg (by omega)]
    rw [ec]
    by_cases z : i < len
    · rw [if_pos z]
      obtain ⟨l, l1, l2⟩ := ex
      have gx := GoT.ex L z hc l2 l1
      obtain ⟨u, T1, k1, q1, a1, a2, a3, a4, a5, a6, a7, a8, a9, a10⟩ := fo_in (Fv.cs H) (Fv.ld L) (K := K) e5 e6 h240 h60 z hc hd hK h1000 ((Bj (len - i - 1) (by omega)).fr (funext fun x => Fv _ _ _ (by omega) (by omega) (by omega))) (R11 := L2_X7_follow n) 5 0 v Vv FrF.rf (fun T' q => absurd q (by omega)) gx (by decide) (by decide)
      rw [a10]
      obtain ⟨k', q', l', c1, c2, c3, c4, c5⟩ := a2
      have k3 : k' = k1 := by omega
      rw [k3] at c4
      refine ih (i + 1) k1 (tdr d T1) (left - q1) _ ?_ ?_ ?_ a5 (tdr_lt d T1) (by omega) ⟨l', by omega, by rw [show len - (i + 1) = len - i - 1 by omega]; exact c4⟩ (by omega) (by omega)
      · exact a8.fr (by rw [xup_k (by decide), xup_t (by decide)]) (fun c' k' q => by rw [xup_t (by decide), xup_c (by omega)])
      · intro t c' k' p1 p2 p3
        have f1 : xup (xup u 1 89 i (T1 : Int)) 0 87 6 ((4 * k1 + tdr d T1 : Nat) : Int) t c' k' = u t c' k' := by
          unfold xup
          rw [if_neg (by omega), if_neg (by omega)]
        rw [f1, a9 t c' k' (by omega) p2]
        exact Fv t c' k' p1 p2 p3
      · rw [xup_s]
    · rw [if_neg z]
      exact ⟨v, rfl, Vv, Fv, c, d, hc, hd, e6⟩
theorem tr_c {B : Int} {w h : Nat} {s m : XS} (H : CS B w h s m) (L : Ld s (m 1 1) w h) (V : FV (w * h) s (m 1 1)) {t0 len cc k c0 d0 : Nat} (h60 : len ≤ 60) (h240 : t0 + len ≤ 240) (hc0 : c0 < w * h) (hd0 : d0 < 4) (hcc : cc < w * h) (hk : k ≤ 1000) (ex : ∃ l, l ≤ k ∧ Bk (m 1 1) (t0 + len) cc len c0 d0 l) : ∃ u, f_X7_trace s ((4 * c0 + d0 : Nat) : Int) (t0 : Int) (cc : Int) (k : Int) (len : Int) = (u, 0) ∧ FV (w * h) u (m 1 1) ∧ FrTt u s ∧ u 0 87 5 = (len : Int) ∧ ∃ c' d' : Nat, c' < w * h ∧ d' < 4 ∧ u 0 87 6 = ((4 * c' + d' : Nat) : Int) := by
  obtain ⟨s1, hs1⟩ : ∃ s1, s1 = xup s 0 87 5 (len : Int) := ⟨_, rfl⟩
  have F1 : FrTt s1 s := by rw [hs1]; exact FrTt.up (Or.inl rfl)
  have e1 : s1 0 87 5 = (len : Int) := by rw [hs1, xup_s]
  have V1 : FV (w * h) s1 (m 1 1) := V.fr (by rw [hs1, xup_c (by decide)]) (fun c k' q => by rw [hs1, xup_t (by decide)])
  obtain ⟨s2, a1, V2, F2, a4⟩ := look_x (F1.cs H) (F1.ld L) V1 (t0 := t0) (K := k) e1 h240 h60 hcc
  obtain ⟨s3, hs3⟩ : ∃ s3, s3 = xup s2 0 87 6 ((4 * c0 + d0 : Nat) : Int) := ⟨_, rfl⟩
  have F3 : FrTt s3 s := by rw [hs3]; exact (FrTt.up (Or.inr rfl)).tr (F2.tt.tr F1)
  have e3 : s3 0 87 5 = (len : Int) := by rw [hs3, xup_k (by decide), F2 _ _ _ (by omega) (by omega)]; exact e1
  have e36 : s3 0 87 6 = ((4 * c0 + d0 : Nat) : Int) := by rw [hs3, xup_s]
  have V3 : FV (w * h) s3 (m 1 1) := V2.fr (by rw [hs3, xup_c (by decide)]) (fun c k' q => by rw [hs3, xup_t (by decide)])
  have B3 : ∀ j, j < len → BL (m 1 1) (w * h) (t0 + len) cc k j s3 := fun j hj => (a4 j hj).fr (funext fun x => by rw [hs3, xup_t (by decide)])
  obtain ⟨u, u1, u3, u4, u7⟩ := fo_c (F3.cs H) (F3.ld L) e3 h240 h60 hk B3 61 0 c0 d0 k s3 V3 FrTr.rf e36 hc0 hd0 (Nat.le_refl _) ex (by omega) (by omega)
  refine ⟨u, ?_, u3, u4.tt.tr F3, ?_, u7⟩
  · have u1' : L2_X7_follow (Int.toNat (60 - 0 + 1)) s3 (t0 : Int) (k : Int) 0 = (u, 0) := u1
    simp only [f_X7_trace, g1w_X7_trace, g2c_X7_trace, g3c_X7_trace, f_X7_follow, g1w_X7_follow, ← hs1, a1, ← hs3, u1']
  · rw [u4 _ _ _ (by omega) (by omega) (by omega)]
    exact e3
/-- the stops are crossings -/
def StO (w h : Nat) (s : XS) : Prop := ∀ x : Nat, (x : Int) < s 0 90 5 → ∃ c : Nat, c < w * h ∧ s 1 91 x = (c : Int)
def VT (B : Int) (w h : Nat) (m s0 s : XS) : Prop := VS B w h m s0 s ∧ StO w h s
theorem StO.fr {w h : Nat} {s u : XS} (H : StO w h s) (e5 : u 0 90 5 = s 0 90 5) (e1 : ∀ k, u 1 91 k = s 1 91 k) : StO w h u := fun x hx => by
  rw [e5] at hx
  rw [e1]
  exact H x hx
theorem VT.up {B : Int} {w h : Nat} {m s0 s : XS} {t c k : Nat} {v : Int} (H : VT B w h m s0 s) (hc : 86 ≤ c ∧ c ≤ 103) (h1 : ¬ (t = 0 ∧ c = 90 ∧ k = 5)) (h2 : ¬ (t = 1 ∧ c = 91)) : VT B w h m s0 (xup s t c k v) :=
  ⟨H.1.up hc, H.2.fr (if_neg (fun y => h1 ⟨y.1.symm, y.2.1.symm, y.2.2.symm⟩)) (fun j => if_neg (fun y => h2 ⟨y.1.symm, y.2.1.symm⟩))⟩
theorem VT.cp {B : Int} {w h : Nat} {m s0 s : XS} {n : Int} (H : VT B w h m s0 s) : VT B w h m s0 (xcp s 92 93 n) :=
  have o : ∀ t' c' k', ¬ (c' = 93) → xcp s 92 93 n t' c' k' = s t' c' k' := fun t' c' k' q => xcp_c q
  ⟨⟨H.1.1.mv (fun t' c' k' _ q => o _ _ _ (by omega)) (H.1.1.2.1.fr (o _ _ _ (by omega)) (fun c' k' q => o _ _ _ (by omega))), H.1.2.of8 (fun t' c' k' q1 q2 => o _ _ _ (by omega))⟩, H.2.fr (o _ _ _ (by omega)) (fun k => o _ _ _ (by omega))⟩
theorem leg_c {B : Int} {w h : Nat} {m s0 s : XS} (H : VT B w h m s0 s) {c d t c' : Nat} (hc : c < w * h) (hd : d < 4) (ht : t ≤ 180) (hc' : c' < w * h) : ∃ u r, f_X8_fewestLefts s ((4 * c + d : Nat) : Int) (t : Int) (c' : Int) 60 0 = (u, r) ∧ (∀ k, u 1 91 k = s 1 91 k) ∧ VT B w h m s0 u ∧ (¬ r < 0 → ∃ z, ∃ len c2 d2 : Nat, f_X7_trace u ((4 * c + d : Nat) : Int) (t : Int) (c' : Int) r (u 0 83 5) = (z, 0) ∧ VT B w h m s0 z ∧ len ≤ 60 ∧ c2 < w * h ∧ d2 < 4 ∧ z 0 87 5 = (len : Int) ∧ z 0 87 6 = ((4 * c2 + d2 : Nat) : Int)) := by
  obtain ⟨⟨⟨C, V, F⟩, Sq⟩, St⟩ := H
  have L := C.ld (show 0 < w * h by omega)
  obtain ⟨u, r, u1, u2, u3, u4, u5, u6⟩ := fewestLefts_s C L V Sq (t0 := t) (c0 := c) (d0 := d) (c := c') (n' := 60) hc hd hc' (by decide) (by omega) (mo := noM) (more := 0) (fun c' _ => by rw [bz_0]; exact ⟨(fun q => by cases q), fun q => q.elim⟩)
  have Su : VT B w h m s0 u := ⟨⟨⟨u3.cs C, u2, u3.q.p.tr F⟩, u4⟩, St.fr (u3 _ _ _ (by omega) (by omega) (by omega)) (fun k => u3 _ _ _ (by omega) (by omega) (by omega))⟩
  refine ⟨u, r, u1, fun k => u3 _ _ _ (by omega) (by omega) (by omega), Su, fun q => ?_⟩
  rcases u5 with ⟨q1, -⟩ | ⟨l, q1, -, -⟩
  · exact absurd (show r < 0 by omega) q
  · obtain ⟨i, d', i1, i2, i3, i4⟩ := u6 l q1
    have le := Wy.le i c' d' l i4
    have bk := Wy.bk (t0 := t) (len := i) (cc := c') i c' d' l 0 (Nat.le_refl _) i4 (by rw [Nat.sub_self]; exact ⟨rfl, rfl⟩)
    obtain ⟨z, z1, z2, z3, z4, c2, d2, z5, z6, z7⟩ := tr_c Su.1.1.1 (u3.ld L) u2 (t0 := t) (len := i) (cc := c') (k := l) i1 (by omega) hc hd hc' (by omega) ⟨l + 0, by omega, bk⟩
    refine ⟨z, i, c2, d2, by rw [i2, q1]; exact z1, ⟨⟨Su.1.1.mv (fun t c k q1 q2 => z3 t c k (by omega) (by omega) (by omega)) z2, u4.of8 (fun t c k q1 q2 => z3 t c k (by omega) (by omega) (by omega))⟩, Su.2.fr (z3 _ _ _ (by omega) (by omega) (by omega)) (fun k => z3 _ _ _ (by omega) (by omega) (by omega))⟩, i1, z5, z6, z4, z7⟩
theorem VT.cmp {B : Int} {w h : Nat} {m s0 s : XS} {a1 a2 : Int} (H : VT B w h m s0 s) : VT B w h m s0 (f_X6_compare s a1 a2).1 := by
  have fin : VT B w h m s0 (xcp (xup (xup (xup s 0 90 7 1) 0 90 8 a1) 0 90 9 a2) 92 93 (xup (xup (xup s 0 90 7 1) 0 90 8 a1) 0 90 9 a2 0 90 5)) := (((H.up (by decide) (by decide) (by decide)).up (by decide) (by decide) (by decide)).up (by decide) (by decide) (by decide)).cp
  simp only [f_X6_compare, g1b_X6_compare, g2_X6_compare, g3_X6_compare, g4w_X6_compare, g5w_X6_compare, g6w_X6_compare, g7w_X6_compare, g8b_X6_compare, g9_X6_compare, g10_X6_compare, g11b_X6_compare, g12_X6_compare, g13_X6_compare, g14w_X6_compare, g15w_X6_compare, g16w_X6_compare, g17w_X6_compare, g18b_X6_compare, g19_X6_compare, g20_X6_compare, g21w_X6_compare, g22w_X6_compare, g23w_X6_compare, g24w_X6_compare]
  (repeat' refine ite_v (fun _ => ?_) (fun _ => ?_)) <;> first | exact H | exact fin
theorem tour_4k {B : Int} {w h : Nat} {m s0 s : XS} {a1 a2 a3 a4 : Int} (H : VT B w h m s0 s) : VT B w h m s0 (f_X6_tour_4 s a1 a2 a3 a4).1 := by
  simp only [f_X6_tour_4, g1c_X6_tour_4]
  exact H.cmp
theorem tour_3l {B : Int} {w h : Nat} {m s0 : XS} {c d t : Nat} {a3 : Int} (hc : c < w * h) (hd : d < 4) (ht : t ≤ 60 * 3) : ∀ (n x : Nat) (s : XS), VT B w h m s0 s → VT B w h m s0 (L4_X6_tour_3 n s ((4 * c + d : Nat) : Int) a3 (t : Int) (x : Int)).1 := by
  intro n
  induction n with
  | zero => intro x s H; exact H
  | succ n ih =>
    intro x s H
    have ih' : ∀ s, VT B w h m s0 s → VT B w h m s0 (L4_X6_tour_3 n s ((4 * c + d : Nat) : Int) a3 (t : Int) ((x : Int) + 1)).1 := fun s H => ih (x + 1) s H
    show VT B w h m s0 (g5l_X6_tour_3 (L4_X6_tour_3 n) s ((4 * c + d : Nat) : Int) a3 (t : Int) (x : Int)).1
    simp only [g5l_X6_tour_3, g6b_X6_tour_3, g7_X6_tour_3, g8_X6_tour_3, g9b_X6_tour_3, g10_X6_tour_3, g11_X6_tour_3, g12c_X6_tour_3, g13b_X6_tour_3, g14_X6_tour_3, g15_X6_tour_3, g16b_X6_tour_3, g18_X6_tour_3, g27b_X6_tour_3, g29_X6_tour_3, Int.toNat_natCast]
    refine ite_v (fun q => ?_) (fun _ => H)
    obtain ⟨c', hc', e91⟩ := H.2 x (by omega)
    refine ite_v (fun _ => ?_) (fun _ => ih' s H)
    obtain ⟨u, r, u1, u91, Hu, ur⟩ := leg_c (t := t) H hc hd (by omega) hc'
    have e91' : u 1 91 x = (c' : Int) := (u91 x).trans e91
    simp only [e91, u1]
    refine ite_v (fun _ => ih' u Hu) (fun q2 => ?_)
    obtain ⟨z, len, c2, d2, z1, Hz, l60, hc2, hd2, z5, z6⟩ := ur q2

    have e6 : ∀ (a : Nat) (b v : Int), xup (xup z 1 92 a b) 0 90 6 v 0 87 6 = ((4 * c2 + d2 : Nat) : Int) := fun a b v => by rw [xup_c (by decide), xup_t (by decide)]; exact z6
    have e5 : ∀ (a : Nat) (b v : Int), xup (xup z 1 92 a b) 0 90 6 v 0 87 5 = (len : Int) := fun a b v => by rw [xup_c (by decide), xup_t (by decide)]; exact z5
    have et : (t : Int) + (len : Int) = ((t + len : Nat) : Int) := rfl
    have fin : ∀ (b v v2 y : Int), VT B w h m s0 (L4_X6_tour_3 n (xup (f_X6_tour_4 (xup (xup z 1 92 3 b) 0 90 6 v) 4 ((4 * c2 + d2 : Nat) : Int) y ((t + len : Nat) : Int)).1 0 90 6 v2) ((4 * c + d : Nat) : Int) a3 (t : Int) ((x : Int) + 1)).1 := fun b v v2 y => ih' _ (VT.up (tour_4k ((Hz.up (by decide) (by decide) (by decide)).up (by decide) (by decide) (by decide))) (by decide) (by decide) (by decide))
    have i92 : Int.toNat 3 = 3 := rfl
    refine ite_v (fun _ => ?_) (fun _ => ite_v (fun _ => ih' u Hu) (fun _ => ?_))
    · simp only [g17_X6_tour_3, g19c_X6_tour_3, g20c_X6_tour_3, g21w_X6_tour_3, g22w_X6_tour_3, g23c_X6_tour_3, g24c_X6_tour_3, g25c_X6_tour_3, g26w_X6_tour_3, f_X8_streets, f_X7_last, f_X7_length, Int.toNat_natCast, i92, e91', z1, e6, e5, et]
      exact fin _ _ _ _
    · simp only [g28_X6_tour_3, g30c_X6_tour_3, g31c_X6_tour_3, g32w_X6_tour_3, g33w_X6_tour_3, g34c_X6_tour_3, g35c_X6_tour_3, g36c_X6_tour_3, g37w_X6_tour_3, f_X8_streets, f_X7_last, f_X7_length, Int.toNat_natCast, i92, e91', z1, e6, e5, et]
      exact fin _ _ _ _
theorem tour_3k {B : Int} {w h : Nat} {m s0 s : XS} {c d t : Nat} {a3 : Int} (H : VT B w h m s0 s) (hc : c < w * h) (hd : d < 4) (ht : t ≤ 60 * 3) : VT B w h m s0 (f_X6_tour_3 s 3 ((4 * c + d : Nat) : Int) a3 (t : Int)).1 := by
  simp only [f_X6_tour_3, g1b_X6_tour_3, g2_X6_tour_3, g3_X6_tour_3, g38c_X6_tour_3]
  exact ite_v (fun _ => tour_3l hc hd ht _ 0 s H) (fun _ => H.cmp)
theorem tour_2l {B : Int} {w h : Nat} {m s0 : XS} {c d t : Nat} {a3 : Int} (hc : c < w * h) (hd : d < 4) (ht : t ≤ 60 * 2) : ∀ (n x : Nat) (s : XS), VT B w h m s0 s → VT B w h m s0 (L4_X6_tour_2 n s ((4 * c + d : Nat) : Int) a3 (t : Int) (x : Int)).1 := by
  intro n
  induction n with
  | zero => intro x s H; exact H
  | succ n ih =>
    intro x s H
    have ih' : ∀ s, VT B w h m s0 s → VT B w h m s0 (L4_X6_tour_2 n s ((4 * c + d : Nat) : Int) a3 (t : Int) ((x : Int) + 1)).1 := fun s H => ih (x + 1) s H
    show VT B w h m s0 (g5l_X6_tour_2 (L4_X6_tour_2 n) s ((4 * c + d : Nat) : Int) a3 (t : Int) (x : Int)).1
    simp only [g5l_X6_tour_2, g6b_X6_tour_2, g7_X6_tour_2, g8_X6_tour_2, g9b_X6_tour_2, g10_X6_tour_2, g11_X6_tour_2, g12c_X6_tour_2, g13b_X6_tour_2, g14_X6_tour_2, g15_X6_tour_2, g16b_X6_tour_2, g18_X6_tour_2, g27b_X6_tour_2, g29_X6_tour_2, Int.toNat_natCast]
    refine ite_v (fun q => ?_) (fun _ => H)
    obtain ⟨c', hc', e91⟩ := H.2 x (by omega)
    refine ite_v (fun _ => ?_) (fun _ => ih' s H)
    obtain ⟨u, r, u1, u91, Hu, ur⟩ := leg_c (t := t) H hc hd (by omega) hc'
    have e91' : u 1 91 x = (c' : Int) := (u91 x).trans e91
    simp only [e91, u1]
    refine ite_v (fun _ => ih' u Hu) (fun q2 => ?_)
    obtain ⟨z, len, c2, d2, z1, Hz, l60, hc2, hd2, z5, z6⟩ := ur q2

    have e6 : ∀ (a : Nat) (b v : Int), xup (xup z 1 92 a b) 0 90 6 v 0 87 6 = ((4 * c2 + d2 : Nat) : Int) := fun a b v => by rw [xup_c (by decide), xup_t (by decide)]; exact z6
    have e5 : ∀ (a : Nat) (b v : Int), xup (xup z 1 92 a b) 0 90 6 v 0 87 5 = (len : Int) := fun a b v => by rw [xup_c (by decide), xup_t (by decide)]; exact z5
    have et : (t : Int) + (len : Int) = ((t + len : Nat) : Int) := rfl
    have fin : ∀ (b v v2 y : Int), VT B w h m s0 (L4_X6_tour_2 n (xup (f_X6_tour_3 (xup (xup z 1 92 2 b) 0 90 6 v) 3 ((4 * c2 + d2 : Nat) : Int) y ((t + len : Nat) : Int)).1 0 90 6 v2) ((4 * c + d : Nat) : Int) a3 (t : Int) ((x : Int) + 1)).1 := fun b v v2 y => ih' _ (VT.up (tour_3k ((Hz.up (by decide) (by decide) (by decide)).up (by decide) (by decide) (by decide)) hc2 hd2 (by omega)) (by decide) (by decide) (by decide))
    have i92 : Int.toNat 2 = 2 := rfl
    refine ite_v (fun _ => ?_) (fun _ => ite_v (fun _ => ih' u Hu) (fun _ => ?_))
    · simp only [g17_X6_tour_2, g19c_X6_tour_2, g20c_X6_tour_2, g21w_X6_tour_2, g22w_X6_tour_2, g23c_X6_tour_2, g24c_X6_tour_2, g25c_X6_tour_2, g26w_X6_tour_2, f_X8_streets, f_X7_last, f_X7_length, Int.toNat_natCast, i92, e91', z1, e6, e5, et]
      exact fin _ _ _ _
    · simp only [g28_X6_tour_2, g30c_X6_tour_2, g31c_X6_tour_2, g32w_X6_tour_2, g33w_X6_tour_2, g34c_X6_tour_2, g35c_X6_tour_2, g36c_X6_tour_2, g37w_X6_tour_2, f_X8_streets, f_X7_last, f_X7_length, Int.toNat_natCast, i92, e91', z1, e6, e5, et]
      exact fin _ _ _ _
theorem tour_2k {B : Int} {w h : Nat} {m s0 s : XS} {c d t : Nat} {a3 : Int} (H : VT B w h m s0 s) (hc : c < w * h) (hd : d < 4) (ht : t ≤ 60 * 2) : VT B w h m s0 (f_X6_tour_2 s 2 ((4 * c + d : Nat) : Int) a3 (t : Int)).1 := by
  simp only [f_X6_tour_2, g1b_X6_tour_2, g2_X6_tour_2, g3_X6_tour_2, g38c_X6_tour_2]
  exact ite_v (fun _ => tour_2l hc hd ht _ 0 s H) (fun _ => H.cmp)
theorem tour_1l {B : Int} {w h : Nat} {m s0 : XS} {c d t : Nat} {a3 : Int} (hc : c < w * h) (hd : d < 4) (ht : t ≤ 60 * 1) : ∀ (n x : Nat) (s : XS), VT B w h m s0 s → VT B w h m s0 (L4_X6_tour_1 n s ((4 * c + d : Nat) : Int) a3 (t : Int) (x : Int)).1 := by
  intro n
  induction n with
  | zero => intro x s H; exact H
  | succ n ih =>
    intro x s H
    have ih' : ∀ s, VT B w h m s0 s → VT B w h m s0 (L4_X6_tour_1 n s ((4 * c + d : Nat) : Int) a3 (t : Int) ((x : Int) + 1)).1 := fun s H => ih (x + 1) s H
    show VT B w h m s0 (g5l_X6_tour_1 (L4_X6_tour_1 n) s ((4 * c + d : Nat) : Int) a3 (t : Int) (x : Int)).1
    simp only [g5l_X6_tour_1, g6b_X6_tour_1, g7_X6_tour_1, g8_X6_tour_1, g9b_X6_tour_1, g10_X6_tour_1, g11_X6_tour_1, g12c_X6_tour_1, g13b_X6_tour_1, g14_X6_tour_1, g15_X6_tour_1, g16b_X6_tour_1, g18_X6_tour_1, g27b_X6_tour_1, g29_X6_tour_1, Int.toNat_natCast]
    refine ite_v (fun q => ?_) (fun _ => H)
    obtain ⟨c', hc', e91⟩ := H.2 x (by omega)
    refine ite_v (fun _ => ?_) (fun _ => ih' s H)
    obtain ⟨u, r, u1, u91, Hu, ur⟩ := leg_c (t := t) H hc hd (by omega) hc'
    have e91' : u 1 91 x = (c' : Int) := (u91 x).trans e91
    simp only [e91, u1]
    refine ite_v (fun _ => ih' u Hu) (fun q2 => ?_)
    obtain ⟨z, len, c2, d2, z1, Hz, l60, hc2, hd2, z5, z6⟩ := ur q2

    have e6 : ∀ (a : Nat) (b v : Int), xup (xup z 1 92 a b) 0 90 6 v 0 87 6 = ((4 * c2 + d2 : Nat) : Int) := fun a b v => by rw [xup_c (by decide), xup_t (by decide)]; exact z6
    have e5 : ∀ (a : Nat) (b v : Int), xup (xup z 1 92 a b) 0 90 6 v 0 87 5 = (len : Int) := fun a b v => by rw [xup_c (by decide), xup_t (by decide)]; exact z5
    have et : (t : Int) + (len : Int) = ((t + len : Nat) : Int) := rfl
    have fin : ∀ (b v v2 y : Int), VT B w h m s0 (L4_X6_tour_1 n (xup (f_X6_tour_2 (xup (xup z 1 92 1 b) 0 90 6 v) 2 ((4 * c2 + d2 : Nat) : Int) y ((t + len : Nat) : Int)).1 0 90 6 v2) ((4 * c + d : Nat) : Int) a3 (t : Int) ((x : Int) + 1)).1 := fun b v v2 y => ih' _ (VT.up (tour_2k ((Hz.up (by decide) (by decide) (by decide)).up (by decide) (by decide) (by decide)) hc2 hd2 (by omega)) (by decide) (by decide) (by decide))
    have i92 : Int.toNat 1 = 1 := rfl
    refine ite_v (fun _ => ?_) (fun _ => ite_v (fun _ => ih' u Hu) (fun _ => ?_))
    · simp only [g17_X6_tour_1, g19c_X6_tour_1, g20c_X6_tour_1, g21w_X6_tour_1, g22w_X6_tour_1, g23c_X6_tour_1, g24c_X6_tour_1, g25c_X6_tour_1, g26w_X6_tour_1, f_X8_streets, f_X7_last, f_X7_length, Int.toNat_natCast, i92, e91', z1, e6, e5, et]
      exact fin _ _ _ _
    · simp only [g28_X6_tour_1, g30c_X6_tour_1, g31c_X6_tour_1, g32w_X6_tour_1, g33w_X6_tour_1, g34c_X6_tour_1, g35c_X6_tour_1, g36c_X6_tour_1, g37w_X6_tour_1, f_X8_streets, f_X7_last, f_X7_length, Int.toNat_natCast, i92, e91', z1, e6, e5, et]
      exact fin _ _ _ _
theorem tour_1k {B : Int} {w h : Nat} {m s0 s : XS} {c d t : Nat} {a3 : Int} (H : VT B w h m s0 s) (hc : c < w * h) (hd : d < 4) (ht : t ≤ 60 * 1) : VT B w h m s0 (f_X6_tour_1 s 1 ((4 * c + d : Nat) : Int) a3 (t : Int)).1 := by
  simp only [f_X6_tour_1, g1b_X6_tour_1, g2_X6_tour_1, g3_X6_tour_1, g38c_X6_tour_1]
  exact ite_v (fun _ => tour_1l hc hd ht _ 0 s H) (fun _ => H.cmp)
theorem tour_0l {B : Int} {w h : Nat} {m s0 : XS} {c d t : Nat} {a3 : Int} (hc : c < w * h) (hd : d < 4) (ht : t ≤ 60 * 0) : ∀ (n x : Nat) (s : XS), VT B w h m s0 s → VT B w h m s0 (L4_X6_tour_0 n s ((4 * c + d : Nat) : Int) a3 (x : Int)).1 := by
  intro n
  induction n with
  | zero => intro x s H; exact H
  | succ n ih =>
    intro x s H
    have ih' : ∀ s, VT B w h m s0 s → VT B w h m s0 (L4_X6_tour_0 n s ((4 * c + d : Nat) : Int) a3 ((x : Int) + 1)).1 := fun s H => ih (x + 1) s H
    show VT B w h m s0 (g5l_X6_tour_0 (L4_X6_tour_0 n) s ((4 * c + d : Nat) : Int) a3 (x : Int)).1
    simp only [g5l_X6_tour_0, g6b_X6_tour_0, g7_X6_tour_0, g8_X6_tour_0, g9b_X6_tour_0, g10_X6_tour_0, g11_X6_tour_0, g12c_X6_tour_0, g13b_X6_tour_0, g14_X6_tour_0, g15_X6_tour_0, g16b_X6_tour_0, g18_X6_tour_0, g27b_X6_tour_0, g29_X6_tour_0, Int.toNat_natCast]
    refine ite_v (fun q => ?_) (fun _ => H)
    obtain ⟨c', hc', e91⟩ := H.2 x (by omega)
    refine ite_v (fun _ => ?_) (fun _ => ih' s H)
    obtain ⟨u, r, u1, u91, Hu, ur⟩ := leg_c (t := 0) H hc hd (by omega) hc'
    have u1' : f_X8_fewestLefts s ((4 * c + d : Nat) : Int) 0 (c' : Int) 60 0 = (u, r) := u1
    have e91' : u 1 91 x = (c' : Int) := (u91 x).trans e91
    simp only [e91, u1']
    refine ite_v (fun _ => ih' u Hu) (fun q2 => ?_)
    obtain ⟨z, len, c2, d2, z1, Hz, l60, hc2, hd2, z5, z6⟩ := ur q2
    have z1' : f_X7_trace u ((4 * c + d : Nat) : Int) 0 (c' : Int) r (u 0 83 5) = (z, 0) := z1
    have e6 : ∀ (a : Nat) (b v : Int), xup (xup z 1 92 a b) 0 90 6 v 0 87 6 = ((4 * c2 + d2 : Nat) : Int) := fun a b v => by rw [xup_c (by decide), xup_t (by decide)]; exact z6
    have e5 : ∀ (a : Nat) (b v : Int), xup (xup z 1 92 a b) 0 90 6 v 0 87 5 = (len : Int) := fun a b v => by rw [xup_c (by decide), xup_t (by decide)]; exact z5
    have et : (0 : Int) + (len : Int) = ((len : Nat) : Int) := Int.zero_add _
    have fin : ∀ (b v v2 y : Int), VT B w h m s0 (L4_X6_tour_0 n (xup (f_X6_tour_1 (xup (xup z 1 92 0 b) 0 90 6 v) 1 ((4 * c2 + d2 : Nat) : Int) y ((len : Nat) : Int)).1 0 90 6 v2) ((4 * c + d : Nat) : Int) a3 ((x : Int) + 1)).1 := fun b v v2 y => ih' _ (VT.up (tour_1k ((Hz.up (by decide) (by decide) (by decide)).up (by decide) (by decide) (by decide)) hc2 hd2 (by omega)) (by decide) (by decide) (by decide))
    have i92 : Int.toNat 0 = 0 := rfl
    refine ite_v (fun _ => ?_) (fun _ => ite_v (fun _ => ih' u Hu) (fun _ => ?_))
    · simp only [g17_X6_tour_0, g19c_X6_tour_0, g20c_X6_tour_0, g21w_X6_tour_0, g22w_X6_tour_0, g23c_X6_tour_0, g24c_X6_tour_0, g25c_X6_tour_0, g26w_X6_tour_0, f_X8_streets, f_X7_last, f_X7_length, Int.toNat_natCast, i92, e91', z1', e6, e5, et]
      exact fin _ _ _ _
    · simp only [g28_X6_tour_0, g30c_X6_tour_0, g31c_X6_tour_0, g32w_X6_tour_0, g33w_X6_tour_0, g34c_X6_tour_0, g35c_X6_tour_0, g36c_X6_tour_0, g37w_X6_tour_0, f_X8_streets, f_X7_last, f_X7_length, Int.toNat_natCast, i92, e91', z1', e6, e5, et]
      exact fin _ _ _ _
theorem tour_0k {B : Int} {w h : Nat} {m s0 s : XS} {c d : Nat} {a3 : Int} (H : VT B w h m s0 s) (hc : c < w * h) (hd : d < 4) : VT B w h m s0 (f_X6_tour_0 s 0 ((4 * c + d : Nat) : Int) a3 0).1 := by
  simp only [f_X6_tour_0, g1b_X6_tour_0, g2_X6_tour_0, g3_X6_tour_0, g38c_X6_tour_0]
  exact ite_v (fun _ => tour_0l (t := 0) hc hd (by decide) _ 0 s H) (fun _ => H.cmp)
/-- all numbers below -/
theorem alb_l {s : XS} {i N : Nat} : ∀ (n x : Nat), (L1_X10_allBelow n s i (N : Int) (x : Int)).2 ≠ 0 → ∀ j : Nat, x ≤ j → (j : Int) < s 0 i 2 → ∃ c : Nat, c < N ∧ s 2 (i + 1) j = (c : Int) := by
  intro n
  induction n with
  | zero => intro x q; exact absurd rfl q
  | succ n ih =>
    intro x q j hj hs
    have e : L1_X10_allBelow (n + 1) s i (N : Int) (x : Int) = if (x : Int) < s 0 i 2 then (if Xcmp (s 2 (i + 1) x) 0 < 0 then (s, 0) else if Xcmp (s 2 (i + 1) x) (N : Int) < 0 then L1_X10_allBelow n s i (N : Int) ((x + 1 : Nat) : Int) else (s, 0)) else (s, 1) := by
      show g2l_X10_allBelow (L1_X10_allBelow n) s i (N : Int) (x : Int) = _
      simp only [g2l_X10_allBelow, g3b_X10_allBelow, g4_X10_allBelow, g5_X10_allBelow, g6b_X10_allBelow, g7_X10_allBelow, g8_X10_allBelow, g9b_X10_allBelow, g10_X10_allBelow, g11_X10_allBelow, Int.toNat_natCast]
      rfl
    rw [e] at q
    rw [if_pos (by omega)] at q
    have c1 : Xcmp (s 2 (i + 1) x) 0 < 0 ↔ s 2 (i + 1) x < 0 := by
      unfold Xcmp
      (repeat' split) <;> omega
    have c2 : Xcmp (s 2 (i + 1) x) (N : Int) < 0 ↔ s 2 (i + 1) x < (N : Int) := by
      unfold Xcmp
      (repeat' split) <;> omega
    by_cases y1 : Xcmp (s 2 (i + 1) x) 0 < 0
    · rw [if_pos y1] at q; exact absurd rfl q
    rw [if_neg y1] at q
    by_cases y2 : Xcmp (s 2 (i + 1) x) (N : Int) < 0
    · rw [if_pos y2] at q
      by_cases jx : j = x
      · subst jx
        exact ⟨(s 2 (i + 1) j).toNat, by omega, by omega⟩
      · exact ih (x + 1) q j (by omega) hs
    · rw [if_neg y2] at q; exact absurd rfl q
theorem rb_l {B : Int} {w h : Nat} {m s0 : XS} {i : Nat} {Z : Int} (hi : 107 ≤ i ∧ i ≤ 113) (hZ : Z ≤ 4) : ∀ (n x : Nat) (s : XS), VS B w h m s0 s → s 0 90 5 = Z → Z ≤ s 0 i 2 → (∀ j : Nat, (j : Int) < Z → ∃ c : Nat, c < w * h ∧ s 2 (i + 1) j = (c : Int)) → (∀ j : Nat, j < x → (j : Int) < Z → ∃ c : Nat, c < w * h ∧ s 1 91 j = (c : Int)) → Z < (x : Int) + (n : Int) → VT B w h m s0 (L2_X6_begin n s i (x : Int)).1 := by
  intro n
  induction n with
  | zero =>
    intro x s H e5 h2 hv hd hx
    show VT B w h m s0 s
    exact ⟨H, fun j hj => hd j (by rw [e5] at hj; omega) (by rw [e5] at hj; exact hj)⟩
  | succ n ih =>
    intro x s H e5 h2 hv hd hx
    have e : L2_X6_begin (n + 1) s i (x : Int) = if (x : Int) < Z then L2_X6_begin n (xup s 1 91 x (f_X10_asSmall s i (x : Int)).2) i ((x + 1 : Nat) : Int) else (xup (xup s 0 90 6 0) 0 90 7 0, 0) := by
      show g3l_X6_begin (L2_X6_begin n) s i (x : Int) = _
      simp only [g3l_X6_begin, g4b_X6_begin, g5_X6_begin, g6_X6_begin, g7w_X6_begin, g8w_X6_begin, g9c_X6_begin, g10w_X6_begin, e5, asm_x, Int.toNat_natCast]
      rfl
    rw [e]
    by_cases z : (x : Int) < Z
    · rw [if_pos z]
      obtain ⟨c, c1, c2⟩ := hv x z
      have b25 := H.1.1.1.b25
      have ev : (f_X10_asSmall s i (x : Int)).2 = (c : Int) := by
        rw [asm_x]
        dsimp only
        rw [if_pos (by omega), Int.toNat_natCast, c2]
        unfold smV
        rw [if_pos (by omega)]
      rw [ev]
      refine ih (x + 1) _ (H.up (by decide)) ((xup_t (by decide)).trans e5) (by rw [xup_t (by decide)]; exact h2) (fun j hj => by rw [xup_t (by decide)]; exact hv j hj) (fun j hj hz => ?_) (by omega)
      by_cases jx : j = x
      · subst jx
        exact ⟨c, c1, xup_s⟩
      · rw [xup_k jx]
        exact hd j (by omega) hz
    · rw [if_neg z]
      refine VT.up (VT.up ⟨H, fun j hj => hd j (by rw [e5] at hj; omega) (by rw [e5] at hj; exact hj)⟩ (by decide) (by decide) (by decide)) (by decide) (by decide) (by decide)
theorem VS.rbeg {B : Int} {w h : Nat} {m s0 s : XS} {i : Nat} (hi : 107 ≤ i ∧ i ≤ 113) (H : VS B w h m s0 s) (hz : s 0 i 2 ≤ 4) (ha : (f_X10_allBelow s i ((w * h : Nat) : Int)).2 ≠ 0) : VT B w h m s0 (f_X6_begin s i).1 := by
  have al := alb_l (s := s) (i := i) (N := w * h) (Int.toNat (40 - 0 + 1)) 0 ha
  have e : f_X6_begin s i = L2_X6_begin (Int.toNat (4 - 0 + 1)) (xup s 0 90 5 (min (s 0 i 2) 4)) i 0 := rfl
  rw [e, show min (s 0 i 2) 4 = s 0 i 2 by omega]
  have o : ∀ t' c' k', ¬ (c' = 90) → xup s 0 90 5 (s 0 i 2) t' c' k' = s t' c' k' := fun t' c' k' q => if_neg (fun y => q y.2.1)
  exact rb_l (Z := s 0 i 2) hi hz _ 0 _ (H.up (by decide)) xup_s (by rw [o _ _ _ (by omega)]; exact Int.le_refl _) (fun j hj => by rw [o _ _ _ (by omega)]; exact al j (by omega) hj) (fun j hj => absurd hj (by omega)) (by show s 0 i 2 < ((0 : Nat) : Int) + ((5 : Nat) : Int); omega)
theorem ans_p (s : XS) (a : Int) : (f_X6_answer s a).1 = s := by
  simp only [f_X6_answer, g1b_X6_answer, g2_X6_answer, g3_X6_answer, g4b_X6_answer, g5_X6_answer, g6_X6_answer, g7b_X6_answer, g8_X6_answer, g9_X6_answer, g10b_X6_answer, g11_X6_answer, g12_X6_answer]
  (repeat' split) <;> rfl
theorem VS.round {B : Int} {w h : Nat} {m s0 s : XS} {a1 a2 a3 : Int} (H : VS B w h m s0 s) : VS B w h m s0 (f_X11_round s a1 a2 a3).1 := by
  by_cases z : 0 ≤ a1 ∧ a1 < s 0 10 7
  · by_cases y : 0 ≤ a2 ∧ a2 ≤ 3
    · have hi : 107 ≤ 107 + 2 * Int.toNat a2 ∧ 107 + 2 * Int.toNat a2 ≤ 113 := by omega
      obtain ⟨c0, d0, c1, d1, est⟩ := H.1.1.sta z
      have fin : s 0 (107 + 2 * Int.toNat a2) 2 ≤ 4 → ¬ (f_X10_allBelow s (107 + 2 * Int.toNat a2) ((w * h : Nat) : Int)).2 = 0 → VS B w h m s0 (f_X6_tour_0 (f_X6_begin s (107 + 2 * Int.toNat a2)).1 0 (4 * (f_X6_begin s (107 + 2 * Int.toNat a2)).1 1 11 a1.toNat + (f_X6_begin s (107 + 2 * Int.toNat a2)).1 1 12 a1.toNat) 0 0).1 := fun q1 q2 => by
        have V := H.rbeg hi q1 q2
        have F := V.1.1.1.sta (a1 := a1) (by
          rw [← V.1.1.1.pl.1, H.1.1.pl.1]
          exact z)
        obtain ⟨c2, d2, c3, d3, est2⟩ := F
        rw [est2]
        exact (tour_0k V c3 d3).1
      simp only [f_X11_round, g1c_X11_round, g2b_X11_round, g3_X11_round, g4_X11_round, g5c_X11_round, g6b_X11_round, g7_X11_round, g8_X11_round, g9b_X11_round, g10_X11_round, g11_X11_round, g12b_X11_round, g13_X11_round, g14_X11_round, g15b_X11_round, g16_X11_round, g17_X11_round, g18b_X11_round, g19_X11_round, g20_X11_round, g21b_X11_round, g22_X11_round, g23_X11_round, g24c_X11_round, g25c_X11_round, g26b_X11_round, g27_X11_round, g28_X11_round, g29c_X11_round, g30c_X11_round, g31c_X11_round, g32c_X11_round, g33b_X11_round, g34_X11_round, g35_X11_round, g36b_X11_round, g37_X11_round, g38_X11_round, g39b_X11_round, g40_X11_round, g41_X11_round, g42b_X11_round, g43_X11_round, g44_X11_round, g45c_X11_round, g46c_X11_round, g47b_X11_round, g48_X11_round, g49_X11_round, g50c_X11_round, g51c_X11_round, g52c_X11_round, g53c_X11_round, ispC_x, istC_x, if_pos z, if_pos y, n10, if_false, f_X1_stand, crC_x H.1.1, alb_p, ans_p]
      exact ite_v (fun _ => H) (fun _ => ite_v (fun _ => ite_v (fun _ => H) (fun _ => ite_v (fun _ => H) (fun _ => ite_v (fun _ => H) (fun _ => ite_v (fun _ => H) (fun q1 => ite_v (fun _ => H) (fun q2 => fin (by omega) q2)))))) (fun _ => ite_v (fun _ => H) (fun _ => ite_v (fun _ => H) (fun _ => ite_v (fun _ => H) (fun q1 => ite_v (fun _ => H) (fun q2 => fin (by omega) q2))))))
    · simp only [f_X11_round, g1c_X11_round, g2b_X11_round, g3_X11_round, g4_X11_round, g5c_X11_round, g6b_X11_round, g7_X11_round, g8_X11_round, g9b_X11_round, g10_X11_round, g11_X11_round, g12b_X11_round, g13_X11_round, g14_X11_round, g15b_X11_round, g16_X11_round, g17_X11_round, g18b_X11_round, g19_X11_round, g20_X11_round, g21b_X11_round, g22_X11_round, g23_X11_round, g24c_X11_round, g25c_X11_round, g26b_X11_round, g27_X11_round, g28_X11_round, g29c_X11_round, g30c_X11_round, g31c_X11_round, g32c_X11_round, g33b_X11_round, g34_X11_round, g35_X11_round, g36b_X11_round, g37_X11_round, g38_X11_round, g39b_X11_round, g40_X11_round, g41_X11_round, g42b_X11_round, g43_X11_round, g44_X11_round, g45c_X11_round, g46c_X11_round, g47b_X11_round, g48_X11_round, g49_X11_round, g50c_X11_round, g51c_X11_round, g52c_X11_round, g53c_X11_round, ispC_x, istC_x, if_pos z, if_neg y, n10, if_false, if_true]
      exact H
  · simp only [f_X11_round, g1c_X11_round, g2b_X11_round, g3_X11_round, g4_X11_round, g5c_X11_round, g6b_X11_round, g7_X11_round, g8_X11_round, g9b_X11_round, g10_X11_round, g11_X11_round, g12b_X11_round, g13_X11_round, g14_X11_round, g15b_X11_round, g16_X11_round, g17_X11_round, g18b_X11_round, g19_X11_round, g20_X11_round, g21b_X11_round, g22_X11_round, g23_X11_round, g24c_X11_round, g25c_X11_round, g26b_X11_round, g27_X11_round, g28_X11_round, g29c_X11_round, g30c_X11_round, g31c_X11_round, g32c_X11_round, g33b_X11_round, g34_X11_round, g35_X11_round, g36b_X11_round, g37_X11_round, g38_X11_round, g39b_X11_round, g40_X11_round, g41_X11_round, g42b_X11_round, g43_X11_round, g44_X11_round, g45c_X11_round, g46c_X11_round, g47b_X11_round, g48_X11_round, g49_X11_round, g50c_X11_round, g51c_X11_round, g52c_X11_round, g53c_X11_round, ispC_x, if_neg z, if_true]
    exact H
theorem RK_round {N : Int} (h0 : 1000 ≤ N ∧ N ≤ 800000) {s m : XS} {a1 a2 a3 : Int} (h : RA N s m) : RA (N + 120) (f_X11_round s a1 a2 a3).1 (f_X12_round m a1 a2 a3).1 := by
  obtain ⟨w, hh, H⟩ := h
  have V : VS N w hh m s (f_X11_round s a1 a2 a3).1 := VS.round ⟨VQ.st H.2.1 H.2.2.2.2.2.1, H.1.2⟩
  have G : KP PM9 (f_X12_round m a1 a2 a3).1 m := m9_f_X12_round
  exact ⟨w, hh, (H.way V.1.2.2.w (fun t c k q => G t c k (by unfold PM9; omega)) V.2 V.1.2.1 (fun t ht => (H.2.2.2.2.1 t ht).fr ht (fun T c k _ _ => V.1.2.2 _ _ _ (by omega) (by omega)) (fun k => G _ _ _ (by unfold PM9; omega)) (fun k => G _ _ _ (by unfold PM9; omega)) (fun k => G _ _ _ (by unfold PM9; omega)))).le (by omega) (by omega)⟩
