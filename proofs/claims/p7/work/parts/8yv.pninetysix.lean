/-! what the rest of the looks, hunts leave right -/
theorem RK_look {N : Int} (h0 : 1000 ≤ N ∧ N ≤ 800000) {s m u v : XS} (h : RA N s m) (F : KP PLA u s) (G : KP PM9 v m) : RA (N + 120) u v := by
  obtain ⟨w, hh, H⟩ := h
  exact ⟨w, hh, (H.look (fun t c k q => F t c k q) (fun t c k q => G t c k (by unfold PM9; omega)) (fun k => G _ _ _ (by unfold PM9; omega)) (fun k => G _ _ _ (by unfold PM9; omega)) (fun k => G _ _ _ (by unfold PM9; omega))).le (by omega) (by omega)⟩
theorem RK_fault {N : Int} (h0 : 1000 ≤ N ∧ N ≤ 800000) {s m : XS} {a1 : Int} (h : RA N s m) : RA (N + 120) (f_X11_fault s a1).1 (f_X12_fault m a1).1 := RK_look h0 h la_f_X11_fault m9_f_X12_fault
theorem RK_count {N : Int} (h0 : 1000 ≤ N ∧ N ≤ 800000) {s m : XS} {a1 : Int} (h : RA N s m) : RA (N + 120) (f_X11_count s a1).1 (f_X12_count m a1).1 := RK_look h0 h la_f_X11_count m9_f_X12_count
theorem RK_dealing {N : Int} (h0 : 1000 ≤ N ∧ N ≤ 800000) {s m : XS} {a1 a2 a3 : Int} (h : RA N s m) : RA (N + 120) (f_X11_dealing s a1 a2 a3).1 (f_X12_dealing m a1 a2 a3).1 := RK_look h0 h la_f_X11_dealing m9_f_X12_dealing
theorem RK_cheap {N : Int} (h0 : 1000 ≤ N ∧ N ≤ 800000) {s m : XS} (h : RA N s m) : RA (N + 120) (f_X11_cheap s).1 (f_X12_cheap m).1 := RK_look h0 h la_f_X11_cheap m9_f_X12_cheap
theorem RA_chase {N : Int} (h0 : 1000 ≤ N ∧ N ≤ 800000) {s m : XS} {a1 a2 a3 a4 : Int} (h : RA N s m) : (f_X11_chase s a1 a2 a3 a4).2 = (f_X12_chase m a1 a2 a3 a4).2 ∧ RA (N + 120) (f_X11_chase s a1 a2 a3 a4).1 (f_X12_chase m a1 a2 a3 a4).1 := by
  obtain ⟨w, hh, H⟩ := h
  obtain ⟨e, S⟩ := RH_chase (a1 := a1) (a2 := a2) (a3 := a3) (a4 := a4) H.1.1
  have F : KP PHU (f_X11_chase s a1 a2 a3 a4).1 s := hu_f_X11_chase
  have G : KP PM9 (f_X12_chase m a1 a2 a3 a4).1 m := m9_f_X12_chase
  exact ⟨e, w, hh, (H.keep ⟨S, H.1.2.of8 (fun t c k _ _ => F t c k (by unfold PHU; omega))⟩ (fun t c k _ _ q _ => F t c k (by unfold PHU; omega)) (funext fun k => G _ _ _ (by unfold PM9; omega)) (fun k => G _ _ _ (by unfold PM9; omega)) (H.2.2.2.2.2.1.fr (F _ _ _ (by unfold PHU; omega)) (fun c k q => F _ _ _ (by unfold PHU; omega))) (fun t ht => (H.2.2.2.2.1 t ht).fr ht (fun T c k _ _ => F _ _ _ (by unfold PHU; omega)) (fun k => G _ _ _ (by unfold PM9; omega)) (fun k => G _ _ _ (by unfold PM9; omega)) (fun k => G _ _ _ (by unfold PM9; omega)))).le (by omega) (by omega)⟩
theorem RA_posts {N : Int} (h0 : 1000 ≤ N ∧ N ≤ 800000) {s m : XS} {a1 a2 a3 a4 : Int} (h : RA N s m) : (f_X11_posts s a1 a2 a3 a4).2 = (f_X12_posts m a1 a2 a3 a4).2 ∧ RA (N + 120) (f_X11_posts s a1 a2 a3 a4).1 (f_X12_posts m a1 a2 a3 a4).1 := by
  obtain ⟨w, hh, H⟩ := h
  obtain ⟨e, S⟩ := RH_posts (a1 := a1) (a2 := a2) (a3 := a3) (a4 := a4) H.1.1
  have F : KP PHU (f_X11_posts s a1 a2 a3 a4).1 s := hu_f_X11_posts
  have G : KP PM9 (f_X12_posts m a1 a2 a3 a4).1 m := m9_f_X12_posts
  exact ⟨e, w, hh, (H.keep ⟨S, H.1.2.of8 (fun t c k _ _ => F t c k (by unfold PHU; omega))⟩ (fun t c k _ _ q _ => F t c k (by unfold PHU; omega)) (funext fun k => G _ _ _ (by unfold PM9; omega)) (fun k => G _ _ _ (by unfold PM9; omega)) (H.2.2.2.2.2.1.fr (F _ _ _ (by unfold PHU; omega)) (fun c k q => F _ _ _ (by unfold PHU; omega))) (fun t ht => (H.2.2.2.2.1 t ht).fr ht (fun T c k _ _ => F _ _ _ (by unfold PHU; omega)) (fun k => G _ _ _ (by unfold PM9; omega)) (fun k => G _ _ _ (by unfold PM9; omega)) (fun k => G _ _ _ (by unfold PM9; omega)))).le (by omega) (by omega)⟩
/-- ways of the class alone, the reference's frames by m9 -/
theorem RAw.wq {N : Int} {w h : Nat} {s m u v : XS} (H : RAw N w h s m) (F : FrQ u s) (G : KP PM9 v m) (S : SQ 0 u) (V : FV (w * h) u (m 1 1)) : RAw N w h u v :=
  H.way F.w (fun t c k q => G t c k (by unfold PM9; omega)) S V (fun t ht => (H.2.2.2.2.1 t ht).fr ht (fun T c k _ _ => F _ _ _ (by omega) (by omega)) (fun k => G _ _ _ (by unfold PM9; omega)) (fun k => G _ _ _ (by unfold PM9; omega)) (fun k => G _ _ _ (by unfold PM9; omega)))
theorem RA_byRights {N : Int} (h0 : 1000 ≤ N ∧ N ≤ 800000) {s m : XS} {a1 a2 : Int} (h : RA N s m) : (f_X11_byRights s a1 a2).2 = (f_X12_byRights m a1 a2).2 ∧ RA (N + 120) (f_X11_byRights s a1 a2).1 (f_X12_byRights m a1 a2).1 := by
  obtain ⟨w, hh, H⟩ := h
  obtain ⟨e, S⟩ := RS_byRights (a1 := a1) (a2 := a2) H.1
  obtain ⟨n1, n2⟩ := H.2.1.who
  have F : ∀ T c k, ¬ (83 ≤ c ∧ c ≤ 85) → (f_X11_byRights s a1 a2).1 T c k = s T c k := fun T c k q => by
    rw [rightsC_x, n1]
    by_cases z : (0 ≤ a1 ∧ a1 < ((w * hh : Nat) : Int)) ∧ (0 ≤ a2 ∧ a2 < 4)
    · rw [if_pos z]
      obtain ⟨c', rfl⟩ : ∃ c' : Nat, a1 = (c' : Int) := ⟨a1.toNat, by omega⟩
      obtain ⟨d', rfl⟩ : ∃ d' : Nat, a2 = (d' : Int) := ⟨a2.toNat, by omega⟩
      obtain ⟨u, v, r, r1, -, -, r4, -⟩ := byRights_x (m := m) (H.2.1.ld (show 0 < w * hh by omega)) H.1.2 (c := c') (d := d') (by omega) (by omega)
      rw [show (4 * (c' : Int)) + (d' : Int) = ((4 * c' + d' : Nat) : Int) by omega, r1]
      exact r4 T c k (by omega) (by omega)
    · rw [if_neg z]
  exact ⟨e, w, hh, (H.wq (fun t c k q1 q2 => F t c k (by omega)) m9_f_X12_byRights S.2 (H.2.2.2.2.2.1.fr (F _ _ _ (by omega)) (fun c k q => F _ _ _ (by omega)))).le (by omega) (by omega)⟩
/-- what one can afford: the reference buys, and all is brought back -/
theorem bo_up (s : XS) (P : Nat) : (f_X0_buysOne s 1 (P : Int)).2 = 0 ∨ ((f_X0_buysOne s 1 (P : Int)).1 1 13 P = s 1 13 P + 1 ∧ s 1 13 P < 99) := by
  have k : KP PLA (f_X0_costTo s 1 (P : Int) 0).1 s := la_f_X0_costTo_c1
  have k13 : (f_X0_costTo s 1 (P : Int) 0).1 1 13 P = s 1 13 P := k 1 13 P (by unfold PLA; omega)
  simp only [f_X0_buysOne, g1c_X0_buysOne, g2b_X0_buysOne, g3_X0_buysOne, g4_X0_buysOne, g5b_X0_buysOne, g6_X0_buysOne, g7_X0_buysOne, g8w_X0_buysOne, g9w_X0_buysOne, g10w_X0_buysOne, show 1 + 9 + 3 = 13 from rfl, show 1 + 9 + 4 = 14 from rfl, show 1 + 9 + 6 = 16 from rfl, show 1 + 9 + 1 = 11 from rfl, Int.toNat_natCast]
  generalize (f_X0_costTo s 1 (P : Int) 0).1 = u at *
  generalize (f_X0_costTo s 1 (P : Int) 0).2 = r at *
  by_cases z : u 1 14 P < r
  · rw [if_pos z]; exact Or.inl rfl
  · rw [if_neg z]
    by_cases y : u 1 13 P < 99
    · rw [if_pos y]
      refine Or.inr ⟨?_, by omega⟩
      dsimp only
      rw [xup_c (by decide), xup_s, xup_c (by decide), k13]
    · rw [if_neg y]; exact Or.inl rfl
theorem af_l {w h P : Nat} : ∀ (n : Nat) (B : Int) (s m : XS) (x : Int), CS B w h s m → s 0 0 18 = m 0 0 19 → (P : Int) < m 1 1 3 → B + (99 - m 1 1 (46 + P)) < 900000 → 99 - m 1 1 (46 + P) < (n : Int) → ∃ v r, L11_X12_affords n m (P : Int) x = g15_X12_affords v r ∧ FvM v m := by
  intro n
  induction n with
  | zero =>
    intro B s m x H _ hP _ h2
    obtain ⟨-, -, ⟨q1, q2⟩, -⟩ := H.bd.1 P hP
    omega
  | succ n ih =>
    intro B s m x H e18 hP hB h2
    obtain ⟨-, -, ⟨q1, q2⟩, -⟩ := H.bd.1 P hP
    obtain ⟨u, v, r, h1, h3, hr, C, e19, F, G, -⟩ := lvb_x H (by omega) e18 hP
    have e : L11_X12_affords (n + 1) m (P : Int) x = if (f_X12_boughtBy m (P : Int) 1).2 < 0 then g15_X12_affords (f_X12_boughtBy m (P : Int) 1).1 x else L11_X12_affords n (f_X12_boughtBy m (P : Int) 1).1 (P : Int) (Xiadd x 1) := by
      show g12l_X12_affords (L11_X12_affords n) m (P : Int) x = _
      simp only [g12l_X12_affords, g13c_X12_affords, g14b_X12_affords, g16_X12_affords]
    rw [e]
    by_cases z : (f_X12_boughtBy m (P : Int) 1).2 < 0
    · rw [if_pos z] at h3 ⊢
      obtain ⟨ev, -⟩ := Prod.mk.inj h3
      rw [ev]
      exact ⟨v, x, rfl, G⟩
    · rw [if_neg z] at h3 ⊢
      obtain ⟨ev, er⟩ := Prod.mk.inj h3
      rw [ev]
      have v3 : v 1 1 3 = m 1 1 3 := G _ _ _ (by omega) (by omega) (by omega)
      have up := bo_up s P
      rw [h1] at up
      have hu : u 1 13 P = s 1 13 P + 1 := by
        rcases up with q | q
        · exact absurd q (by show ¬ r = 0; omega)
        · exact q.1
      have m46 := (H.pl.2.2.2.2.1 P hP).2.2.1
      have v46 := (C.pl.2.2.2.2.1 P (by rw [v3]; exact hP)).2.2.1
      obtain ⟨v', r', w1, w2⟩ := ih (B + 1) u v (Xiadd x 1) C e19 (by rw [v3]; exact hP) (by omega) (by omega)
      exact ⟨v', r', w1, w2.tr G⟩
theorem af6_l {a1 : Int} : ∀ (n : Nat) (m : XS) (x : Int), 0 ≤ x → x ≤ 76 → 76 - x < (n : Int) → ∃ v, L6_X12_affords n m a1 x = g9_X12_affords v a1 ∧ ∀ t c k, v t c k = if t = 1 ∧ c = 7 ∧ x ≤ (k : Int) ∧ (k : Int) < 76 then m 1 1 (36 + k) else m t c k
  | 0, m, x, h0, h1, hn => by omega
  | n + 1, m, x, h0, h1, hn => by
    have e : L6_X12_affords (n + 1) m a1 x = if x < 76 then L6_X12_affords n (xup m 1 7 (Int.toNat x) (m 1 1 (Int.toNat (36 + x)))) a1 (x + 1) else g9_X12_affords m a1 := by
      show g7l_X12_affords (L6_X12_affords n) m a1 x = _
      simp only [g7l_X12_affords, g8b_X12_affords, g10_X12_affords, g23w_X12_affords]
    rw [e]
    by_cases z : x < 76
    · rw [if_pos z]
      obtain ⟨v, v1, v2⟩ := af6_l (a1 := a1) n (xup m 1 7 (Int.toNat x) (m 1 1 (Int.toNat (36 + x)))) (x + 1) (by omega) (by omega) (by omega)
      refine ⟨v, v1, fun t c k => ?_⟩
      rw [v2]
      by_cases q : t = 1 ∧ c = 7 ∧ x ≤ (k : Int) ∧ (k : Int) < 76
      · rw [if_pos q]
        obtain ⟨rfl, rfl, q3, q4⟩ := q
        by_cases y : (k : Int) = x
        · rw [if_neg (by omega), show Int.toNat x = k by omega, xup_s, show Int.toNat (36 + x) = 36 + k by omega]
        · rw [if_pos ⟨rfl, rfl, by omega, q4⟩, xup_c (by decide)]
      · rw [if_neg q, if_neg (fun y => q ⟨y.1, y.2.1, by omega, y.2.2.2⟩)]
        unfold xup
        exact if_neg (fun y => q ⟨y.1, y.2.1, by omega, by omega⟩)
    · rw [if_neg z]
      exact ⟨m, rfl, fun t c k => by rw [if_neg (fun q => by omega)]⟩
theorem af17_l {r : Int} : ∀ (n : Nat) (m : XS) (x : Int), 0 ≤ x → x ≤ 76 → 76 - x < (n : Int) → (L17_X12_affords n m r x).2 = r ∧ ∀ t c k, (L17_X12_affords n m r x).1 t c k = if t = 1 ∧ c = 1 ∧ 36 + x ≤ (k : Int) ∧ (k : Int) < 112 then m 1 7 (k - 36) else m t c k
  | 0, m, x, h0, h1, hn => by omega
  | n + 1, m, x, h0, h1, hn => by
    have e : L17_X12_affords (n + 1) m r x = if x < 76 then L17_X12_affords n (xup m 1 1 (Int.toNat (36 + x)) (m 1 7 (Int.toNat x))) r (x + 1) else (m, r) := by
      show g18l_X12_affords (L17_X12_affords n) m r x = _
      simp only [g18l_X12_affords, g19b_X12_affords, g20_X12_affords, g21_X12_affords, g22w_X12_affords]
    rw [e]
    by_cases z : x < 76
    · rw [if_pos z]
      obtain ⟨v1, v2⟩ := af17_l (r := r) n (xup m 1 1 (Int.toNat (36 + x)) (m 1 7 (Int.toNat x))) (x + 1) (by omega) (by omega) (by omega)
      refine ⟨v1, fun t c k => ?_⟩
      rw [v2]
      by_cases q : t = 1 ∧ c = 1 ∧ 36 + x ≤ (k : Int) ∧ (k : Int) < 112
      · rw [if_pos q]
        obtain ⟨rfl, rfl, q3, q4⟩ := q
        by_cases y : (k : Int) = 36 + x
        · rw [if_neg (by omega), show Int.toNat (36 + x) = k by omega, xup_s, show Int.toNat x = k - 36 by omega]
        · rw [if_pos ⟨rfl, rfl, by omega, q4⟩, xup_c (by decide)]
      · rw [if_neg q, if_neg (fun y => q ⟨y.1, y.2.1, by omega, y.2.2.2⟩)]
        unfold xup
        exact if_neg (fun y => q ⟨y.1, y.2.1, by omega, by omega⟩)
    · rw [if_neg z]
      exact ⟨rfl, fun t c k => by rw [if_neg (fun q => by omega)]⟩
theorem aff_m {B : Int} {w h : Nat} {s m : XS} (H : CS B w h s m) (hB : B ≤ 800000) {a1 : Int} : KP PM9 (f_X12_affords m a1).1 m := by
  have f3 : ∀ k, (xup m 0 0 0 0) 1 1 k = m 1 1 k := fun k => xup_t (by decide)
  have m0r : (xup m 0 0 0 0) 1 1 = m 1 1 := funext f3
  have em : f_X12_affords m a1 = if 0 ≤ a1 ∧ a1 < m 1 1 3 then L6_X12_affords (Int.toNat (76 - 0 + 1)) (xup m 0 0 0 0) a1 0 else (xup m 0 0 0 0, -2) := by
    simp only [f_X12_affords, g1w_X12_affords, g2c_X12_affords, g3b_X12_affords, g4_X12_affords, g5_X12_affords, ispM_x, f3]
    by_cases z : 0 ≤ a1 ∧ a1 < m 1 1 3
    · rw [if_pos z, if_neg (show ¬ (1 : Int) = 0 by decide), if_pos z]
    · rw [if_neg z, if_pos rfl, if_neg z]
  rw [em]
  by_cases z : 0 ≤ a1 ∧ a1 < m 1 1 3
  · rw [if_pos z]
    obtain ⟨P, rfl⟩ : ∃ P : Nat, a1 = (P : Int) := ⟨a1.toNat, by omega⟩
    obtain ⟨v, v1, v2⟩ := af6_l (a1 := (P : Int)) (Int.toNat (76 - 0 + 1)) (xup m 0 0 0 0) 0 (by decide) (by decide) (by decide)
    rw [v1]
    have vr : v 1 1 = m 1 1 := funext fun k => by rw [v2, if_neg (by omega), f3]
    have C : CS B w h (xup s 0 0 18 (v 0 0 19)) v := (H.cls (fun t c k q1 q2 => xup_c (by omega))).fr FrA.rf vr
    obtain ⟨-, -, ⟨q1, q2⟩, -⟩ := H.bd.1 P z.2
    have e9 : g9_X12_affords v (P : Int) = L11_X12_affords (Int.toNat (99 - v 1 1 (46 + P) + 1)) v (P : Int) 0 := rfl
    rw [e9]
    obtain ⟨y, r, y1, y2⟩ := af_l (w := w) (h := h) (P := P) (Int.toNat (99 - v 1 1 (46 + P) + 1)) B (xup s 0 0 18 (v 0 0 19)) v 0 C xup_s (by rw [vr]; exact z.2) (by rw [vr]; omega) (by rw [vr]; omega)
    rw [y1]
    have e15 : g15_X12_affords y r = L17_X12_affords (Int.toNat (76 - 0 + 1)) y r 0 := rfl
    rw [e15]
    obtain ⟨-, x2⟩ := af17_l (r := r) (Int.toNat (76 - 0 + 1)) y 0 (by decide) (by decide) (by decide)
    intro t c k q
    rw [x2]
    have vo : ∀ t c k, ¬ (t = 1 ∧ c = 7) → ¬ (t = 0 ∧ c = 0 ∧ k = 0) → v t c k = m t c k := fun t c k q1 q2 => by rw [v2, if_neg (fun y => q1 ⟨y.1, y.2.1⟩)]; exact thr_f q2
    by_cases b : t = 1 ∧ c = 1 ∧ 36 + 0 ≤ (k : Int) ∧ (k : Int) < 112
    · rw [if_pos b]
      obtain ⟨rfl, rfl, b3, b4⟩ := b
      rw [y2 _ _ _ (by omega) (by omega) (by omega), v2, if_pos ⟨rfl, rfl, by omega, by omega⟩, f3, show 36 + (k - 36) = k by omega]
    · rw [if_neg b]
      unfold PM9 at q
      rw [y2 _ _ _ (by omega) (by omega) (by omega), vo _ _ _ (by omega) (by omega)]
  · rw [if_neg z]
    exact fun t c k q => thr_f (by unfold PM9 at q; omega)
theorem RK_affords {N : Int} (h0 : 1000 ≤ N ∧ N ≤ 800000) {s m : XS} {a1 : Int} (h : RA N s m) : RA (N + 120) (f_X11_affords s a1).1 (f_X12_affords m a1).1 := by
  have h' := h
  obtain ⟨w, hh, H⟩ := h'
  exact RK_look h0 h la_f_X11_affords (aff_m H.2.1 h0.2)
