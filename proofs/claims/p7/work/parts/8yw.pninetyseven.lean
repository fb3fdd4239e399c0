/-! ways counted, ways paid: the class leaves all right -/
def FrP (u s : XS) : Prop := ∀ t c k, ¬ (t = 1 ∧ (c = 4 ∨ c = 5 ∨ c = 8 ∨ c = 9)) → ¬ (79 ≤ c ∧ c ≤ 103) → u t c k = s t c k
theorem FrP.rf {s : XS} : FrP s s := fun _ _ _ _ _ => rfl
theorem FrP.tr {x y z : XS} (h : FrP x y) (g : FrP y z) : FrP x z := fun t c k q1 q2 => (h t c k q1 q2).trans (g t c k q1 q2)
theorem FrQ.p {u s : XS} (h : FrQ u s) : FrP u s := fun t c k q1 q2 => h t c k (by omega) q2
theorem FrP.w {u s : XS} (h : FrP u s) : FrW u s := fun t c k q1 q2 _ _ => h t c k q1 q2
theorem FrF.p {u s : XS} (h : FrF u s) : FrP u s := fun t c k q1 q2 => h t c k (by omega) (by omega)
/-- all that ways of the class lean on; where it began -/
def VQ (B : Int) (w h : Nat) (m s0 u : XS) : Prop := CS B w h u m ∧ FV (w * h) u (m 1 1) ∧ FrP u s0
def VS (B : Int) (w h : Nat) (m s0 u : XS) : Prop := VQ B w h m s0 u ∧ SQ 0 u
theorem VQ.mv {B : Int} {w h : Nat} {m s0 s u : XS} (H : VQ B w h m s0 s) (F : FrP u s) (V : FV (w * h) u (m 1 1)) : VQ B w h m s0 u := ⟨H.1.k (F.w.k) rfl, V, F.tr H.2.2⟩
theorem VQ.st {B : Int} {w h : Nat} {m s : XS} (H : CS B w h s m) (V : FV (w * h) s (m 1 1)) : VQ B w h m s s := ⟨H, V, FrP.rf⟩
theorem VS.up {B : Int} {w h : Nat} {m s0 s : XS} {t c k : Nat} {v : Int} (H : VS B w h m s0 s) (hc : 86 ≤ c ∧ c ≤ 103) : VS B w h m s0 (xup s t c k v) :=
  have o : ∀ t' c' k', ¬ (c' = c) → xup s t c k v t' c' k' = s t' c' k' := fun t' c' k' q => if_neg (fun y => q y.2.1)
  ⟨H.1.mv (fun t' c' k' _ q => o _ _ _ (by omega)) (H.1.2.1.fr (o _ _ _ (by omega)) (fun c' k' q => o _ _ _ (by omega))), H.2.of8 (fun t' c' k' q1 q2 => o _ _ _ (by omega))⟩
theorem VS.lk {B : Int} {w h : Nat} {m s0 s u : XS} (H : VS B w h m s0 s) (F : KP PLA u s) (F7 : ∀ k, u 1 207 k = s 1 207 k) (F8 : ∀ c k, 207 < c → u 1 c k = s 1 c k) : VS B w h m s0 u :=
  ⟨H.1.mv (fun t c k q1 q2 => by
    by_cases y : t = 1 ∧ 207 ≤ c
    · obtain ⟨rfl, y⟩ := y
      by_cases z : c = 207
      · rw [z]; exact F7 k
      · exact F8 c k (by omega)
    · exact F t c k (by unfold PLA; omega)) (H.1.2.1.fr (F _ _ _ (by unfold PLA; omega)) (fun c k q => F _ _ _ (by unfold PLA; omega))), H.2.of8 (fun t c k q1 q2 => F _ _ _ (by unfold PLA; omega))⟩
theorem ite_v {Q : XS → Prop} {p : Prop} [Decidable p] {a b : XR} (h : p → Q a.1) (g : ¬ p → Q b.1) : Q (if p then a else b).1 := by
  split
  · exact h (by assumption)
  · exact g (by assumption)
theorem and1_r (y : Int) : 0 ≤ Xiand y 1 ∧ Xiand y 1 < 2 := by
  unfold Xiand
  rw [show Int32.ofInt 1 = nI (2 ^ 1 - 1) by decide]
  have h2 : (Int32.ofInt y &&& nI (2 ^ 1 - 1)).toBitVec.toNat = (Int32.ofInt y).toBitVec.toNat % 2 ^ 1 := by
    have e : (Int32.ofInt y &&& nI (2 ^ 1 - 1)).toBitVec = (Int32.ofInt y).toBitVec &&& (nI (2 ^ 1 - 1)).toBitVec := rfl
    rw [e, BitVec.toNat_and, show (nI (2 ^ 1 - 1)).toBitVec.toNat = 2 ^ 1 - 1 by decide, Nat.and_two_pow_sub_one_eq_mod]
  have h3 : (Int32.ofInt y &&& nI (2 ^ 1 - 1)).toInt = (Int32.ofInt y &&& nI (2 ^ 1 - 1)).toBitVec.toInt := rfl
  have l2 := Nat.mod_lt (Int32.ofInt y).toBitVec.toNat (show 0 < 2 ^ 1 by decide)
  rw [h3, BitVec.toInt_eq_toNat_cond, h2, if_pos (by omega)]
  omega
theorem cost_lk (s : XS) (a b c d : Int) : ∀ t c' k, ¬ (t = 1 ∧ (c' = 4 ∨ c' = 5)) → (f_X0_cost s 1 a b c d).1 t c' k = s t c' k := fun t c' k q => by
  have kv : ∀ (u : XS) x1 x2 x3 x4 x5, (f_X4_value u 2 x1 x2 x3 x4 x5).1 t c' k = u t c' k := fun u x1 x2 x3 x4 x5 => vf_f_X4_value t c' k (by unfold PVL; omega)
  simp only [f_X0_cost, g1b_X0_cost, g2_X0_cost, g3_X0_cost, g4c_X0_cost, g5b_X0_cost, g6_X0_cost, g7_X0_cost, g8c_X0_cost, f_X4_isTold, g1b_X4_isTold, g2_X4_isTold, g3_X4_isTold, show 1 + 1 = 2 from rfl]
  (repeat' split) <;> first | rfl | exact kv _ _ _ _ _ _
theorem VS.cost {B : Int} {w h : Nat} {m s0 s : XS} {a b c d : Int} (H : VS B w h m s0 s) : VS B w h m s0 (f_X0_cost s 1 a b c d).1 :=
  have o := cost_lk s a b c d
  ⟨H.1.mv (fun t c' k q1 q2 => o _ _ _ (by omega)) (H.1.2.1.fr (o _ _ _ (by omega)) (fun c' k' q => o _ _ _ (by omega))), H.2.of8 (fun t c' k q1 q2 => o _ _ _ (by omega))⟩
theorem VS.lefts {B : Int} {w h : Nat} {m s0 s : XS} {t c d T : Nat} (H : VS B w h m s0 s) (ht : t < 240) (hc : c < w * h) (hd : d < 4) (hT : T < 4) (hs : sF (m 1 1) c (tdr d T) ≠ -1) : VS B w h m s0 (f_X2_lefts s (t : Int) ((4 * c + d : Nat) : Int) (T : Int)).1 := by
  obtain ⟨u, r, u1, u2, u3, -⟩ := lf_x H.1.1 H.1.2.1 ht hc hd hT hs
  rw [u1]
  exact ⟨H.1.mv u3.p u2, H.2.of8 (fun t c k q1 q2 => u3 _ _ _ (by omega) (by omega))⟩
theorem VS.fl38 {B : Int} {w h : Nat} {m s0 : XS} {i0 : Nat} {a1 : Int} (hi : 86 ≤ i0 ∧ i0 ≤ 103) : ∀ (n : Nat) (s : XS) (x : Int), VS B w h m s0 s → VS B w h m s0 (L1_J7_fill_53178_38 n s i0 a1 x).1
  | 0, s, x, H => H
  | n + 1, s, x, H => by
    have e : L1_J7_fill_53178_38 (n + 1) s i0 a1 x = if x < 100 then L1_J7_fill_53178_38 n (xup s 1 i0 (Int.toNat x) a1) i0 a1 (x + 1) else (s, 0) := by
      show g2l_J7_fill_53178_38 (L1_J7_fill_53178_38 n) s i0 a1 x = _
      simp only [g2l_J7_fill_53178_38, g3b_J7_fill_53178_38, g4_J7_fill_53178_38, g5_J7_fill_53178_38, g6w_J7_fill_53178_38]
    rw [e]
    exact ite_v (fun _ => VS.fl38 hi n _ _ (H.up hi)) (fun _ => H)
theorem VS.fl36 {B : Int} {w h : Nat} {m s0 : XS} {i0 : Nat} {a1 : Int} (hi : 86 ≤ i0 ∧ i0 ≤ 103) : ∀ (n : Nat) (s : XS) (x : Int), VS B w h m s0 s → VS B w h m s0 (L1_J7_fill_53178_36 n s i0 a1 x).1
  | 0, s, x, H => H
  | n + 1, s, x, H => by
    have e : L1_J7_fill_53178_36 (n + 1) s i0 a1 x = if x < 100 then L1_J7_fill_53178_36 n (xup s 1 i0 (Int.toNat x) a1) i0 a1 (x + 1) else (s, 0) := by
      show g2l_J7_fill_53178_36 (L1_J7_fill_53178_36 n) s i0 a1 x = _
      simp only [g2l_J7_fill_53178_36, g3b_J7_fill_53178_36, g4_J7_fill_53178_36, g5_J7_fill_53178_36, g6w_J7_fill_53178_36]
    rw [e]
    exact ite_v (fun _ => VS.fl36 hi n _ _ (H.up hi)) (fun _ => H)
/-- a turn of a stand: who can't go, who can -/
theorem sta_n {B : Int} {w h : Nat} {m s0 s : XS} {x T : Nat} (H : VS B w h m s0 s) (hx : x < 4 * (w * h)) (hT : T < 4) : ∃ r, f_X0_standAfter s 1 (x : Int) (T : Int) = (s, r) ∧ (¬ r < 0 → sF (m 1 1) (x / 4) (tdr (x % 4) T) ≠ -1) := by
  have L := H.1.1.ld (show 0 < w * h by omega)
  have e := sta_x L (c := x / 4) (d := x % 4) (t := T) (by omega) (by omega) hT
  rw [show 4 * (x / 4) + x % 4 = x by omega] at e
  refine ⟨_, e, fun q z => q ?_⟩
  rw [if_pos z]
  decide
theorem ac_in {B : Int} {w h t x : Nat} {m s0 : XS} {a2 v : Int} {i5 i14 : Nat} {R : XS → Int → Int → Nat → Nat → Int → Int → XR} (ht : t < 240) (hx : x < 4 * (w * h)) (hi : 86 ≤ i14 ∧ i14 ≤ 103) (hR : ∀ s, VS B w h m s0 s → VS B w h m s0 (R s (t : Int) a2 i5 i14 v ((x : Int) + 1)).1) : ∀ (n T : Nat) (s : XS), VS B w h m s0 s → VS B w h m s0 (L8_X9_addCoins R n s (t : Int) a2 i5 i14 v (x : Int) (T : Int)).1 := by
  intro n
  induction n with
  | zero => intro T s H; exact H
  | succ n ih =>
    intro T s H
    show VS B w h m s0 (g9l_X9_addCoins R (L8_X9_addCoins R n) s (t : Int) a2 i5 i14 v (x : Int) (T : Int)).1
    have ih' : ∀ s, VS B w h m s0 s → VS B w h m s0 (L8_X9_addCoins R n s (t : Int) a2 i5 i14 v (x : Int) ((T : Int) + 1)).1 := fun s H => ih (T + 1) s H
    simp only [g9l_X9_addCoins, g10b_X9_addCoins]
    refine ite_v (fun z => ?_) (fun _ => hR s H)
    simp only [g12_X9_addCoins, g13b_X9_addCoins]
    refine ite_v (fun _ => ?_) (fun _ => hR s H)
    obtain ⟨r, r1, r2⟩ := sta_n H hx (show T < 4 by omega)
    simp only [g15_X9_addCoins, g16c_X9_addCoins, g17b_X9_addCoins, r1]
    refine ite_v (fun _ => ih' s H) (fun q => ?_)
    have H1 := H.lefts (c := x / 4) (d := x % 4) (T := T) ht (by omega) (by omega) (by omega) (r2 q)
    rw [show 4 * (x / 4) + x % 4 = x by omega] at H1
    simp only [g18_X9_addCoins, g20c_X9_addCoins, g21b_X9_addCoins]
    generalize (f_X2_lefts s (t : Int) (x : Int) (T : Int)).1 = u at *
    refine ite_v (fun _ => ?_) (fun _ => ?_)
    · simp only [g23_X9_addCoins, g28c_X9_addCoins, g29b_X9_addCoins, g30_X9_addCoins, g31_X9_addCoins, g32w_X9_addCoins]
      exact ite_v (fun _ => ih' _ H1.cost) (fun _ => ih' _ (H1.cost.up hi))
    · simp only [g22_X9_addCoins, g24b_X9_addCoins, g25_X9_addCoins, g26_X9_addCoins, g27w_X9_addCoins]
      exact ite_v (fun _ => ih' _ H1) (fun _ => ih' _ (H1.up hi))
theorem ac_out {B : Int} {w h t : Nat} {m s0 : XS} {a2 : Int} {i5 i14 : Nat} (ht : t < 240) (hi : 86 ≤ i14 ∧ i14 ≤ 103) : ∀ (n x : Nat) (s : XS), VS B w h m s0 s → VS B w h m s0 (L3_X9_addCoins n s (t : Int) a2 i5 i14 ((4 * (w * h) : Nat) : Int) (x : Int)).1 := by
  intro n
  induction n with
  | zero => intro x s H; exact H
  | succ n ih =>
    intro x s H
    show VS B w h m s0 (g4l_X9_addCoins (L3_X9_addCoins n) s (t : Int) a2 i5 i14 ((4 * (w * h) : Nat) : Int) (x : Int)).1
    simp only [g4l_X9_addCoins, g5b_X9_addCoins, g6_X9_addCoins, g7_X9_addCoins]
    refine ite_v (fun z => ?_) (fun _ => H)
    exact ac_in ht (by omega) hi (fun s H => ih (x + 1) s H) _ 0 s H
theorem crC_x {B : Int} {w h : Nat} {m s : XS} (H : CS B w h s m) : f_X0_crossings s 1 = (s, ((w * h : Nat) : Int)) := by
  have e : f_X0_crossings s 1 = (s, s 0 1 5 * s 0 1 6) := by simp only [f_X0_crossings]
  rw [e, H.who.1]
theorem VS.coins {B : Int} {w h t : Nat} {m s0 s : XS} {a2 : Int} (ht : t < 240) (H : VS B w h m s0 s) : VS B w h m s0 (f_X9_addCoins s (t : Int) a2).1 := by
  have a1 := and1_r ((t : Int) + 1)
  have a0 := and1_r (t : Int)
  have e : f_X9_addCoins s (t : Int) a2 = g1c_X9_addCoins (L1_J7_fill_53178_38 (Int.toNat (100 - 0 + 1)) s (102 + 1 * Int.toNat (Xiand ((t : Int) + 1) 1)) 1073741824 0).1 (t : Int) a2 (102 + 1 * Int.toNat (Xiand (t : Int) 1)) (102 + 1 * Int.toNat (Xiand ((t : Int) + 1) 1)) := rfl
  rw [e]
  have H1 := VS.fl38 (i0 := 102 + 1 * Int.toNat (Xiand ((t : Int) + 1) 1)) (a1 := 1073741824) (by omega) (Int.toNat (100 - 0 + 1)) s 0 H
  generalize (L1_J7_fill_53178_38 (Int.toNat (100 - 0 + 1)) s (102 + 1 * Int.toNat (Xiand ((t : Int) + 1) 1)) 1073741824 0).1 = u at *
  simp only [g1c_X9_addCoins, g2c_X9_addCoins, crC_x H1.1.1]
  rw [show 4 * ((w * h : Nat) : Int) = ((4 * (w * h) : Nat) : Int) by omega]
  exact ac_out ht (by omega) _ 0 u H1
theorem lc_in {B : Int} {w h t n' : Nat} {m s0 : XS} {a2 : Int} {R : XS → Int → Int → Int → Int → XR} (ht : t < 240) (hR : ∀ s x, VS B w h m s0 s → VS B w h m s0 (R s a2 (n' : Int) x ((t : Int) + 1)).1) : ∀ (n : Nat) (x y : Int) (s : XS), VS B w h m s0 s → VS B w h m s0 (L14_X9_leastCoins R n s a2 (n' : Int) x (t : Int) y).1 := by
  intro n
  induction n with
  | zero => intro x y s H; exact H
  | succ n ih =>
    intro x y s H
    show VS B w h m s0 (g15l_X9_leastCoins R (L14_X9_leastCoins R n) s a2 (n' : Int) x (t : Int) y).1
    simp only [g15l_X9_leastCoins, g16b_X9_leastCoins, g17_X9_leastCoins, g18_X9_leastCoins, g19b_X9_leastCoins, g20_X9_leastCoins, g21_X9_leastCoins, g22c_X9_leastCoins]
    exact ite_v (fun _ => ih _ _ s H) (fun _ => ite_v (fun _ => hR _ _ (H.coins ht)) (fun _ => hR _ _ H))
theorem lc_out {B : Int} {w h n' : Nat} {m s0 : XS} {a2 : Int} (hn : n' ≤ 60) : ∀ (n t : Nat) (x : Int) (s : XS), VS B w h m s0 s → VS B w h m s0 (L3_X9_leastCoins n s a2 (n' : Int) x (t : Int)).1 := by
  intro n
  induction n with
  | zero => intro t x s H; exact H
  | succ n ih =>
    intro t x s H
    show VS B w h m s0 (g4l_X9_leastCoins (L3_X9_leastCoins n) s a2 (n' : Int) x (t : Int)).1
    simp only [g4l_X9_leastCoins, g5b_X9_leastCoins, g6_X9_leastCoins, g7_X9_leastCoins, g8b_X9_leastCoins, g9_X9_leastCoins, g10_X9_leastCoins, g11b_X9_leastCoins, g12_X9_leastCoins, g13_X9_leastCoins]
    refine ite_v (fun _ => ite_v (fun _ => H) (fun _ => H)) (fun q => ite_v (fun _ => ?_) (fun _ => H))
    exact lc_in (by omega) (fun s x H => ih (t + 1) x s H) _ _ _ s H
theorem VS.least {B : Int} {w h n' : Nat} {m s0 s : XS} {a1 a2 : Int} (hn : n' ≤ 60) (H : VS B w h m s0 s) : VS B w h m s0 (f_X9_leastCoins s a1 a2 (n' : Int)).1 := by
  have e : f_X9_leastCoins s a1 a2 (n' : Int) = L3_X9_leastCoins (Int.toNat (61 - 0 + 1)) (xup (L1_J7_fill_53178_38 (Int.toNat (100 - 0 + 1)) s 102 1073741824 0).1 1 102 (Int.toNat a1) 0) a2 (n' : Int) 1073741824 0 := rfl
  rw [e]
  exact lc_out hn _ 0 _ _ ((VS.fl38 (by decide) _ s 0 H).up (by decide))
theorem CS.sta {B : Int} {w h : Nat} {s m : XS} (H : CS B w h s m) {a1 : Int} (z : 0 ≤ a1 ∧ a1 < s 0 10 7) : ∃ c0 d0 : Nat, c0 < w * h ∧ d0 < 4 ∧ 4 * s 1 11 a1.toNat + s 1 12 a1.toNat = ((4 * c0 + d0 : Nat) : Int) := by
  rw [← H.pl.1] at z
  obtain ⟨p, rfl⟩ : ∃ p : Nat, a1 = (p : Int) := ⟨a1.toNat, by omega⟩
  obtain ⟨⟨b1, b2⟩, ⟨b3, b4⟩, -⟩ := H.bd.1 p z.2
  obtain ⟨p1, p2, -⟩ := H.pl.2.2.2.2.1 p z.2
  refine ⟨(m 1 1 (36 + p)).toNat, (m 1 1 (41 + p)).toNat, b2, by omega, ?_⟩
  rw [show (p : Int).toNat = p from rfl, p1, p2]
  omega
theorem VS.cheapest {B : Int} {w h : Nat} {m s0 s : XS} {a1 a2 a3 : Int} (H : VS B w h m s0 s) : VS B w h m s0 (f_X11_cheapest s a1 a2 a3).1 := by
  by_cases z : 0 ≤ a1 ∧ a1 < s 0 10 7
  · simp only [f_X11_cheapest, g1c_X11_cheapest, g2b_X11_cheapest, g3_X11_cheapest, g4_X11_cheapest, g5c_X11_cheapest, g6b_X11_cheapest, g7_X11_cheapest, g8_X11_cheapest, g9b_X11_cheapest, g10_X11_cheapest, g11_X11_cheapest, g12b_X11_cheapest, g13_X11_cheapest, g14_X11_cheapest, g15c_X11_cheapest, g16c_X11_cheapest, ispC_x, iscC_x, f_X1_stand, if_pos z, n10, if_false]
    refine ite_v (fun _ => H) (fun _ => ite_v (fun _ => H) (fun q1 => ite_v (fun _ => H) (fun q2 => ?_)))
    obtain ⟨k, rfl⟩ : ∃ k : Nat, a3 = (k : Int) := ⟨a3.toNat, by omega⟩
    exact H.least (by omega)
  · simp only [f_X11_cheapest, g1c_X11_cheapest, g2b_X11_cheapest, g3_X11_cheapest, g4_X11_cheapest, g5c_X11_cheapest, g6b_X11_cheapest, g7_X11_cheapest, g8_X11_cheapest, g9b_X11_cheapest, g10_X11_cheapest, g11_X11_cheapest, g12b_X11_cheapest, g13_X11_cheapest, g14_X11_cheapest, g15c_X11_cheapest, g16c_X11_cheapest, ispC_x, if_neg z, if_true]
    exact H
theorem RK_cheapest {N : Int} (h0 : 1000 ≤ N ∧ N ≤ 800000) {s m : XS} {a1 a2 a3 : Int} (h : RA N s m) : RA (N + 120) (f_X11_cheapest s a1 a2 a3).1 (f_X12_cheapest m a1 a2 a3).1 := by
  obtain ⟨w, hh, H⟩ := h
  have V : VS N w hh m s (f_X11_cheapest s a1 a2 a3).1 := VS.cheapest ⟨VQ.st H.2.1 H.2.2.2.2.2.1, H.1.2⟩
  have G : KP PM9 (f_X12_cheapest m a1 a2 a3).1 m := m9_f_X12_cheapest
  exact ⟨w, hh, (H.way V.1.2.2.w (fun t c k q => G t c k (by unfold PM9; omega)) V.2 V.1.2.1 (fun t ht => (H.2.2.2.2.1 t ht).fr ht (fun T c k _ _ => V.1.2.2 _ _ _ (by omega) (by omega)) (fun k => G _ _ _ (by unfold PM9; omega)) (fun k => G _ _ _ (by unfold PM9; omega)) (fun k => G _ _ _ (by unfold PM9; omega)))).le (by omega) (by omega)⟩
/-- ways that are counted -/
theorem aw_1 {B : Int} {w h : Nat} {m s0 : XS} {a2 a3 a4 v : Int} {i5 i14 i23 : Nat} (hi : 86 ≤ i14 ∧ i14 ≤ 103) (hj : 86 ≤ i23 ∧ i23 ≤ 103) : ∀ (n : Nat) (s : XS) (x : Int), VS B w h m s0 s → VS B w h m s0 (L1_X9_addWaysBy n s a2 a3 a4 i5 i14 i23 v x).1 := by
  have h7 : ∀ (n : Nat) (s : XS) (x : Int), VS B w h m s0 s → VS B w h m s0 (L7_X9_addWaysBy n s a2 a3 a4 i5 i14 v x).1 := by
    intro n
    induction n with
    | zero => intro s x H; exact H
    | succ n ih =>
      intro s x H
      show VS B w h m s0 (g8l_X9_addWaysBy (L7_X9_addWaysBy n) s a2 a3 a4 i5 i14 v x).1
      simp only [g8l_X9_addWaysBy, g9b_X9_addWaysBy, g10_X9_addWaysBy, g11_X9_addWaysBy, g12w_X9_addWaysBy]
      exact ite_v (fun _ => H) (fun _ => ih _ _ (H.up hi))
  intro n
  induction n with
  | zero => intro s x H; exact H
  | succ n ih =>
    intro s x H
    show VS B w h m s0 (g2l_X9_addWaysBy (L1_X9_addWaysBy n) s a2 a3 a4 i5 i14 i23 v x).1
    simp only [g2l_X9_addWaysBy, g3b_X9_addWaysBy, g4_X9_addWaysBy, g5_X9_addWaysBy, g6w_X9_addWaysBy, g13w_X9_addWaysBy]
    exact ite_v (fun _ => h7 _ _ _ (H.up hj)) (fun _ => ih _ _ (H.up hi))
theorem VS.by {B : Int} {w h : Nat} {m s0 s : XS} {a1 a2 a3 a4 a5 : Int} (H : VS B w h m s0 s) : VS B w h m s0 (f_X9_addWaysBy s a1 a2 a3 a4 a5).1 := by
  have q1 := and1_r (a1 + 1)
  unfold f_X9_addWaysBy
  exact aw_1 (by omega) (by omega) _ s _ H
theorem aw_in {B : Int} {w h t x : Nat} {m s0 : XS} {a2 v : Int} {R : XS → Int → Int → Int → Int → XR} (ht : t < 240) (hx : x < 4 * (w * h)) (hR : ∀ s, VS B w h m s0 s → VS B w h m s0 (R s (t : Int) a2 v ((x : Int) + 1)).1) : ∀ (n T : Nat) (s : XS), VS B w h m s0 s → VS B w h m s0 (L8_X9_addWays R n s (t : Int) a2 v (x : Int) (T : Int)).1 := by
  intro n
  induction n with
  | zero => intro T s H; exact H
  | succ n ih =>
    intro T s H
    show VS B w h m s0 (g9l_X9_addWays R (L8_X9_addWays R n) s (t : Int) a2 v (x : Int) (T : Int)).1
    have ih' : ∀ s, VS B w h m s0 s → VS B w h m s0 (L8_X9_addWays R n s (t : Int) a2 v (x : Int) ((T : Int) + 1)).1 := fun s H => ih (T + 1) s H
    simp only [g9l_X9_addWays, g10b_X9_addWays, g11_X9_addWays]
    refine ite_v (fun z => ?_) (fun _ => hR s H)
    simp only [g12_X9_addWays, g13b_X9_addWays, g14_X9_addWays]
    refine ite_v (fun _ => hR s H) (fun _ => ?_)
    obtain ⟨r, r1, r2⟩ := sta_n H hx (show T < 4 by omega)
    simp only [g15_X9_addWays, g16c_X9_addWays, g17b_X9_addWays, g19_X9_addWays, r1]
    refine ite_v (fun _ => ih' s H) (fun q => ?_)
    have H1 := H.lefts (c := x / 4) (d := x % 4) (T := T) ht (by omega) (by omega) (by omega) (r2 q)
    rw [show 4 * (x / 4) + x % 4 = x by omega] at H1
    simp only [g18_X9_addWays, g20c_X9_addWays, g21b_X9_addWays, g22_X9_addWays]
    generalize (f_X2_lefts s (t : Int) (x : Int) (T : Int)).1 = u at *
    refine ite_v (fun _ => ih' _ H1) (fun _ => ?_)
    simp only [g23_X9_addWays, g24b_X9_addWays, g25_X9_addWays, g26_X9_addWays, g27c_X9_addWays]
    exact ite_v (fun _ => ih' _ H1) (fun _ => ih' _ H1.by)
theorem aw_out {B : Int} {w h t : Nat} {m s0 : XS} {a2 : Int} (ht : t < 240) : ∀ (n x : Nat) (s : XS), VS B w h m s0 s → VS B w h m s0 (L3_X9_addWays n s (t : Int) a2 ((4 * (w * h) : Nat) : Int) (x : Int)).1 := by
  intro n
  induction n with
  | zero => intro x s H; exact H
  | succ n ih =>
    intro x s H
    show VS B w h m s0 (g4l_X9_addWays (L3_X9_addWays n) s (t : Int) a2 ((4 * (w * h) : Nat) : Int) (x : Int)).1
    simp only [g4l_X9_addWays, g5b_X9_addWays, g6_X9_addWays, g7_X9_addWays]
    refine ite_v (fun z => ?_) (fun _ => H)
    exact aw_in ht (by omega) (fun s H => ih (x + 1) s H) _ 0 s H
theorem VS.add {B : Int} {w h t : Nat} {m s0 s : XS} {a2 : Int} (ht : t < 240) (H : VS B w h m s0 s) : VS B w h m s0 (f_X9_addWays s (t : Int) a2).1 := by
  have a1 := and1_r ((t : Int) + 1)
  have e : f_X9_addWays s (t : Int) a2 = g1c_X9_addWays (L1_J7_fill_53178_36 (Int.toNat (100 - 0 + 1)) s (99 + 1 * Int.toNat (Xiand ((t : Int) + 1) 1)) (-1) 0).1 (t : Int) a2 := rfl
  rw [e]
  have H1 := VS.fl36 (i0 := 99 + 1 * Int.toNat (Xiand ((t : Int) + 1) 1)) (a1 := -1) (by omega) (Int.toNat (100 - 0 + 1)) s 0 H
  generalize (L1_J7_fill_53178_36 (Int.toNat (100 - 0 + 1)) s (99 + 1 * Int.toNat (Xiand ((t : Int) + 1) 1)) (-1) 0).1 = u at *
  simp only [g1c_X9_addWays, g2c_X9_addWays, crC_x H1.1.1]
  rw [show 4 * ((w * h : Nat) : Int) = ((4 * (w * h) : Nat) : Int) by omega]
  exact aw_out ht _ 0 u H1
theorem wj_p {a2 a3 : Int} : ∀ (n : Nat) (s : XS) (x y : Int), (L9_X9_waysOfJust n s a2 a3 x y).1 = s := by
  intro n
  induction n with
  | zero => intro s x y; rfl
  | succ n ih =>
    have h14 : ∀ (k : Nat) (s : XS) (x y z : Int), (L14_X9_waysOfJust (L9_X9_waysOfJust n) k s a2 a3 x y z).1 = s := by
      intro k
      induction k with
      | zero => intro s x y z; rfl
      | succ k ih2 =>
        intro s x y z
        show (g15l_X9_waysOfJust (L9_X9_waysOfJust n) (L14_X9_waysOfJust (L9_X9_waysOfJust n) k) s a2 a3 x y z).1 = s
        simp only [g15l_X9_waysOfJust, g16b_X9_waysOfJust, g17_X9_waysOfJust, g18_X9_waysOfJust]
        exact ite_v (Q := fun u => u = s) (fun _ => ih s _ _) (fun _ => ih2 s _ _ _)
    intro s x y
    show (g10l_X9_waysOfJust (L9_X9_waysOfJust n) s a2 a3 x y).1 = s
    simp only [g10l_X9_waysOfJust, g11b_X9_waysOfJust, g12_X9_waysOfJust, g13_X9_waysOfJust]
    exact ite_v (Q := fun u => u = s) (fun _ => h14 _ s _ _ _) (fun _ => rfl)
theorem wj_l {B : Int} {w h n' : Nat} {m s0 : XS} {a2 a4 : Int} (hn : n' ≤ 20) : ∀ (n t : Nat) (s : XS), VS B w h m s0 s → VS B w h m s0 (L4_X9_waysOfJust n s a2 (n' : Int) a4 (t : Int)).1 := by
  intro n
  induction n with
  | zero => intro t s H; exact H
  | succ n ih =>
    intro t s H
    show VS B w h m s0 (g5l_X9_waysOfJust (L4_X9_waysOfJust n) s a2 (n' : Int) a4 (t : Int)).1
    simp only [g5l_X9_waysOfJust, g6b_X9_waysOfJust, g7_X9_waysOfJust, g8_X9_waysOfJust, g19c_X9_waysOfJust]
    refine ite_v (fun z => ih (t + 1) _ (H.add (by omega))) (fun _ => ?_)
    rw [wj_p]
    exact H
theorem VS.just {B : Int} {w h n' : Nat} {m s0 s : XS} {a1 a2 a4 : Int} (hn : n' ≤ 20) (H : VS B w h m s0 s) : VS B w h m s0 (f_X9_waysOfJust s a1 a2 (n' : Int) a4).1 := by
  have e : f_X9_waysOfJust s a1 a2 (n' : Int) a4 = L4_X9_waysOfJust (Int.toNat (20 - 0 + 1)) (xup (xup (L1_J7_fill_53178_36 (Int.toNat (100 - 0 + 1)) s 99 (-1) 0).1 1 99 (Int.toNat a1) 0) 2 96 (Int.toNat (a1 * 41)) 1) a2 (n' : Int) a4 0 := rfl
  rw [e]
  exact wj_l hn _ 0 _ (((VS.fl36 (by decide) _ s 0 H).up (by decide)).up (by decide))
theorem VS.ways {B : Int} {w h : Nat} {m s0 s : XS} {a1 a2 a3 a4 : Int} (H : VS B w h m s0 s) : VS B w h m s0 (f_X11_ways s a1 a2 a3 a4).1 := by
  by_cases z : 0 ≤ a1 ∧ a1 < s 0 10 7
  · simp only [f_X11_ways, g1c_X11_ways, g2b_X11_ways, g3_X11_ways, g4_X11_ways, g5c_X11_ways, g6b_X11_ways, g7_X11_ways, g8_X11_ways, g9b_X11_ways, g10_X11_ways, g11_X11_ways, g12b_X11_ways, g13_X11_ways, g14_X11_ways, g15b_X11_ways, g16_X11_ways, g17_X11_ways, g18b_X11_ways, g19_X11_ways, g20_X11_ways, g21c_X11_ways, g22c_X11_ways, ispC_x, iscC_x, f_X1_stand, if_pos z, n10, if_false]
    refine ite_v (fun _ => H) (fun _ => ite_v (fun _ => H) (fun q1 => ite_v (fun _ => H) (fun q2 => ite_v (fun _ => H) (fun _ => ite_v (fun _ => H) (fun _ => ?_)))))
    obtain ⟨k, rfl⟩ : ∃ k : Nat, a3 = (k : Int) := ⟨a3.toNat, by omega⟩
    exact H.just (by omega)
  · simp only [f_X11_ways, g1c_X11_ways, g2b_X11_ways, g3_X11_ways, g4_X11_ways, g5c_X11_ways, g6b_X11_ways, g7_X11_ways, g8_X11_ways, g9b_X11_ways, g10_X11_ways, g11_X11_ways, g12b_X11_ways, g13_X11_ways, g14_X11_ways, g15b_X11_ways, g16_X11_ways, g17_X11_ways, g18b_X11_ways, g19_X11_ways, g20_X11_ways, g21c_X11_ways, g22c_X11_ways, ispC_x, if_neg z, if_true]
    exact H
theorem RK_ways {N : Int} (h0 : 1000 ≤ N ∧ N ≤ 800000) {s m : XS} {a1 a2 a3 a4 : Int} (h : RA N s m) : RA (N + 120) (f_X11_ways s a1 a2 a3 a4).1 (f_X12_ways m a1 a2 a3 a4).1 := by
  obtain ⟨w, hh, H⟩ := h
  have V : VS N w hh m s (f_X11_ways s a1 a2 a3 a4).1 := VS.ways ⟨VQ.st H.2.1 H.2.2.2.2.2.1, H.1.2⟩
  have G : KP PM9 (f_X12_ways m a1 a2 a3 a4).1 m := m9_f_X12_ways
  exact ⟨w, hh, (H.way V.1.2.2.w (fun t c k q => G t c k (by unfold PM9; omega)) V.2 V.1.2.1 (fun t ht => (H.2.2.2.2.1 t ht).fr ht (fun T c k _ _ => V.1.2.2 _ _ _ (by omega) (by omega)) (fun k => G _ _ _ (by unfold PM9; omega)) (fun k => G _ _ _ (by unfold PM9; omega)) (fun k => G _ _ _ (by unfold PM9; omega)))).le (by omega) (by omega)⟩
