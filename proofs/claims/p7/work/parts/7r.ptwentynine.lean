/-! watch and thief: a round of the class -/
theorem Ld.fr {s u : XS} {A : Nat → Int} {w h : Nat} (e5 : u 0 1 5 = s 0 1 5) (e6 : u 0 1 6 = s 0 1 6) (e18 : u 1 18 = s 1 18) (e19 : u 1 19 = s 1 19) (L : Ld s A w h) : Ld u A w h := by
  unfold Ld
  rw [e5, e6, e18, e19]
  exact L
def FH (u s : XS) : Prop := ∀ t c k, ¬ (t = 1 ∧ (c = 105 ∨ c = 106)) → u t c k = s t c k
theorem FH.rf {s : XS} : FH s s := fun _ _ _ _ => rfl
theorem FH.tr {a b c : XS} (h : FH a b) (g : FH b c) : FH a c := fun t c' k q => (h t c' k q).trans (g t c' k q)
theorem FH.up {s : XS} {c k : Nat} {v : Int} (h : c = 105 ∨ c = 106) : FH (xup s 1 c k v) s := fun t c' k' q => by
  unfold xup
  exact if_neg (fun e => q ⟨e.1, by omega⟩)
theorem FH.ld {u s : XS} {A : Nat → Int} {w h : Nat} (F : FH u s) (L : Ld s A w h) : Ld u A w h := L.fr (F _ _ _ (by decide)) (F _ _ _ (by decide)) (funext fun k => F _ _ _ (by decide)) (funext fun k => F _ _ _ (by decide))
def IT (A : Nat → Int) (N g t hd c : Nat) : Prop := c = t / 4 ∨ (0 < g ∧ c < N ∧ WG A (g - 1) t c hd)
theorem CC_IT {A : Nat → Int} {N g t hd c : Nat} (hc : c < N) (hh : hd < 4) : CC A g t (4 * c + hd) ↔ (t / 4 = c ∨ ∀ k, k < 2 → gOn A t k = -1 ∨ IT A N g (gOn A t k).toNat hd c) := by
  obtain ⟨x1, x2⟩ := xr4 (c := c) hh
  cases g with
  | zero =>
    unfold CC IT
    rw [x1]
    constructor
    · rintro (q | q)
      · exact Or.inl q
      · exact Or.inr (fun k hk => (q k hk).elim Or.inl (fun y => Or.inr (Or.inl y.symm)))
    · rintro (q | q)
      · exact Or.inl q
      · refine Or.inr (fun k hk => ?_)
        rcases q k hk with y | y | y
        · exact Or.inl y
        · exact Or.inr y.symm
        · exact absurd y.1 (by decide)
  | succ n =>
    unfold CC IT WG
    rw [x1, show n + 1 - 1 = n from rfl]
    constructor
    · rintro (q | q)
      · exact Or.inl q
      · refine Or.inr (fun k hk => ?_)
        rcases q k hk with y | y | y
        · exact Or.inl y
        · exact Or.inr (Or.inl y.symm)
        · exact Or.inr (Or.inr ⟨by omega, hc, y⟩)
    · rintro (q | q)
      · exact Or.inl q
      · refine Or.inr (fun k hk => ?_)
        rcases q k hk with y | y | y
        · exact Or.inl y
        · exact Or.inr (Or.inl y.symm)
        · exact Or.inr (Or.inr y.2.2)
theorem IT.lt {s : XS} {A : Nat → Int} {w h g t hd c : Nat} (ht : t < 4 * (w * h)) (q : IT A (w * h) g t hd c) : c < w * h := by
  rcases q with q | q
  · omega
  · exact q.2.1
/-- the stands before a thief -/
theorem sta2_x {u : XS} {A : Nat → Int} {w h : Nat} (L : Ld u A w h) {t : Nat} (ht : t < 4 * (w * h)) : ∃ a b : Int, (f_X0_standAfter u 1 (t : Int) 0).2 = a ∧ (f_X0_standAfter u 1 (t : Int) 1).2 = b ∧ (a = -1 ∨ 0 ≤ a) ∧ (b = -1 ∨ 0 ≤ b) ∧ gOn A t 0 = (if a = -1 then (if b = -1 then (t : Int) else -1) else a) ∧ gOn A t 1 = b := by
  have hc : t / 4 < w * h := by omega
  have q0 := sta_x L (c := t / 4) (d := t % 4) (t := 0) hc (by omega) (by decide)
  have q1 := sta_x L (c := t / 4) (d := t % 4) (t := 1) hc (by omega) (by decide)
  rw [show 4 * (t / 4) + t % 4 = t by omega] at q0 q1
  have v0 : (f_X0_standAfter u 1 (t : Int) 0).2 = _ := congrArg Prod.snd q0
  have v1 : (f_X0_standAfter u 1 (t : Int) 1).2 = _ := congrArg Prod.snd q1
  refine ⟨_, _, v0, v1, ?_, ?_, ?_, ?_⟩
  · show (if sF A (t / 4) (tdr (t % 4) 0) = -1 then (-1 : Int) else _) = -1 ∨ 0 ≤ (if sF A (t / 4) (tdr (t % 4) 0) = -1 then (-1 : Int) else _)
    by_cases z : sF A (t / 4) (tdr (t % 4) 0) = -1
    · rw [if_pos z]; exact Or.inl rfl
    · have := (L.2.2.2.1 _ _ hc (tdr_lt _ _) z).2
      rw [if_neg z]; exact Or.inr (by omega)
  · show (if sF A (t / 4) (tdr (t % 4) 1) = -1 then (-1 : Int) else _) = -1 ∨ 0 ≤ (if sF A (t / 4) (tdr (t % 4) 1) = -1 then (-1 : Int) else _)
    by_cases z : sF A (t / 4) (tdr (t % 4) 1) = -1
    · rw [if_pos z]; exact Or.inl rfl
    · have := (L.2.2.2.1 _ _ hc (tdr_lt _ _) z).2
      rw [if_neg z]; exact Or.inr (by omega)
  · show gOn A t 0 = if (if sF A (t / 4) (tdr (t % 4) 0) = -1 then (-1 : Int) else 4 * sF A (t / 4) (tdr (t % 4) 0) + ((tdr (t % 4) 0 : Nat) : Int)) = -1 then (if (if sF A (t / 4) (tdr (t % 4) 1) = -1 then (-1 : Int) else 4 * sF A (t / 4) (tdr (t % 4) 1) + ((tdr (t % 4) 1 : Nat) : Int)) = -1 then (t : Int) else -1) else (if sF A (t / 4) (tdr (t % 4) 0) = -1 then (-1 : Int) else 4 * sF A (t / 4) (tdr (t % 4) 0) + ((tdr (t % 4) 0 : Nat) : Int))
    unfold gOn
    by_cases z : sF A (t / 4) (tdr (t % 4) 0) = -1
    · rw [if_pos z, if_pos z, if_pos rfl]
      by_cases y : sF A (t / 4) (tdr (t % 4) 1) = -1
      · rw [if_pos y, if_pos ⟨rfl, y⟩, if_pos rfl]
      · have := (L.2.2.2.1 _ _ hc (tdr_lt _ _) y).2
        rw [if_neg y, if_neg (fun q => y q.2), if_neg (by omega)]
    · have := (L.2.2.2.1 _ _ hc (tdr_lt _ _) z).2
      rw [if_neg z, if_neg z, if_neg (by omega)]
  · show gOn A t 1 = if sF A (t / 4) (tdr (t % 4) 1) = -1 then (-1 : Int) else 4 * sF A (t / 4) (tdr (t % 4) 1) + ((tdr (t % 4) 1 : Nat) : Int)
    unfold gOn
    by_cases y : sF A (t / 4) (tdr (t % 4) 1) = -1
    · rw [if_pos y, if_pos y, if_neg (fun q => absurd q.1 (by decide))]
    · rw [if_neg y, if_neg y]
theorem cc_it {u : XS} {A : Nat → Int} {w h g t hd c : Nat} (L : Ld u A w h) (ht : t < 4 * (w * h)) (hh : hd < 4) {a b : Int} (ha : a = -1 ∨ 0 ≤ a) (hb : b = -1 ∨ 0 ≤ b) (g0 : gOn A t 0 = (if a = -1 then (if b = -1 then (t : Int) else -1) else a)) (g1 : gOn A t 1 = b) : ((tP a b (t : Int)).toNat < 4 * (w * h) ∧ 0 ≤ tP a b (t : Int)) ∧ ((tQ a b (t : Int)).toNat < 4 * (w * h) ∧ 0 ≤ tQ a b (t : Int)) ∧ ((c = t / 4 ∨ (IT A (w * h) g (tP a b (t : Int)).toNat hd c ∧ IT A (w * h) g (tQ a b (t : Int)).toNat hd c)) ↔ (c < w * h ∧ CC A g t (4 * c + hd))) := by
  have r0 := gon_r L (t := 0) ht
  have r1 := gon_r L (t := 1) ht
  have key : ∀ p q : Nat, p < 4 * (w * h) → q < 4 * (w * h) → ((∀ k, k < 2 → gOn A t k = -1 ∨ IT A (w * h) g (gOn A t k).toNat hd c) ↔ (IT A (w * h) g p hd c ∧ IT A (w * h) g q hd c)) → ((c = t / 4 ∨ (IT A (w * h) g p hd c ∧ IT A (w * h) g q hd c)) ↔ (c < w * h ∧ CC A g t (4 * c + hd))) := by
    intro p q hp hq e
    by_cases hc : c < w * h
    · rw [CC_IT hc hh, e]
      constructor
      · rintro (y | y)
        · exact ⟨hc, Or.inl y.symm⟩
        · exact ⟨hc, Or.inr y⟩
      · rintro ⟨-, y | y⟩
        · exact Or.inl y.symm
        · exact Or.inr y
    · constructor
      · rintro (y | y)
        · omega
        · exact absurd (IT.lt (s := u) hp y.1) hc
      · intro y; exact absurd y.1 hc
  unfold tP tQ
  by_cases za : a = -1
  · rw [if_pos za] at g0
    rw [if_pos (show a < 0 by omega), if_pos (show a < 0 by omega)]
    by_cases zb : b = -1
    · rw [if_pos zb] at g0
      rw [if_pos (show b < 0 by omega), show ((t : Int)).toNat = t from rfl]
      refine ⟨⟨ht, by omega⟩, ⟨ht, by omega⟩, key _ _ ht ht ?_⟩
      constructor
      · intro y
        rcases y 0 (by decide) with q | q
        · omega
        · rw [g0] at q; exact ⟨q, q⟩
      · intro y k hk
        rcases (show k = 0 ∨ k = 1 by omega) with rfl | rfl
        · rw [g0]; exact Or.inr y.1
        · exact Or.inl (g1.trans zb)
    · rw [if_neg zb] at g0
      have rb := r1 (by rw [g1]; exact zb)
      rw [g1] at rb
      rw [if_neg (show ¬ b < 0 by omega)]
      refine ⟨⟨rb.2, rb.1⟩, ⟨rb.2, rb.1⟩, key _ _ rb.2 rb.2 ?_⟩
      constructor
      · intro y
        rcases y 1 (by decide) with q | q
        · exact absurd (g1.symm.trans q) zb
        · rw [g1] at q; exact ⟨q, q⟩
      · intro y k hk
        rcases (show k = 0 ∨ k = 1 by omega) with rfl | rfl
        · exact Or.inl g0
        · rw [g1]; exact Or.inr y.1
  · rw [if_neg za] at g0
    have ra := r0 (by rw [g0]; exact za)
    rw [g0] at ra
    rw [if_neg (show ¬ a < 0 by omega), if_neg (show ¬ a < 0 by omega)]
    by_cases zb : b = -1
    · rw [if_pos (show b < 0 by omega)]
      refine ⟨⟨ra.2, ra.1⟩, ⟨ra.2, ra.1⟩, key _ _ ra.2 ra.2 ?_⟩
      constructor
      · intro y
        rcases y 0 (by decide) with q | q
        · exact absurd (g0.symm.trans q) za
        · rw [g0] at q; exact ⟨q, q⟩
      · intro y k hk
        rcases (show k = 0 ∨ k = 1 by omega) with rfl | rfl
        · rw [g0]; exact Or.inr y.1
        · exact Or.inl (g1.trans zb)
    · have rb := r1 (by rw [g1]; exact zb)
      rw [g1] at rb
      rw [if_neg (show ¬ b < 0 by omega)]
      refine ⟨⟨ra.2, ra.1⟩, ⟨rb.2, rb.1⟩, key _ _ ra.2 rb.2 ?_⟩
      constructor
      · intro y
        refine ⟨?_, ?_⟩
        · rcases y 0 (by decide) with q | q
          · exact absurd (g0.symm.trans q) za
          · rw [g0] at q; exact q
        · rcases y 1 (by decide) with q | q
          · exact absurd (g1.symm.trans q) zb
          · rw [g1] at q; exact q
      · intro y k hk
        rcases (show k = 0 ∨ k = 1 by omega) with rfl | rfl
        · rw [g0]; exact Or.inr y.1
        · rw [g1]; exact Or.inr y.2
/-- the first half: what a watch can answer -/
def P1 (s : XS) (A : Nat → Int) (N g t0 : Nat) (y : Int) (u : XS) : Prop := FH u s ∧ u 1 105 = s 1 105 ∧ ∀ t hd c : Nat, t < 4 * N → hd < 4 → c < 32 → (t < t0 ∨ (t = t0 ∧ (hd : Int) < y)) → (bz (u 1 106 (4 * t + hd)) c = true ↔ IT A N g t hd c)
theorem P1.st {s u : XS} {A : Nat → Int} {w h g t0 y : Nat} (L : Ld s A w h) (K : 0 < g → KT A (s 1 105) (w * h) (g - 1)) (ht0 : t0 < 4 * (w * h)) (hy : y < 4) (H : P1 s A (w * h) g t0 (y : Int) u) : P1 s A (w * h) g t0 ((y : Int) + 1) (fW (g : Int) (t0 : Int) (y : Int) u) := by
  have b25 := L.b25
  obtain ⟨h1, h2, h3⟩ := H
  have ix : Int.toNat (4 * (t0 : Int) + (y : Int)) = 4 * t0 + y := by omega
  unfold fW
  rw [ix]
  refine ⟨(FH.up (Or.inr rfl)).tr h1, ?_, fun t hd c ht hhd hc q => ?_⟩
  · funext k
    rw [xup_c (by decide), h2]
  · by_cases e : t = t0 ∧ hd = y
    · obtain ⟨rfl, rfl⟩ := e
      rw [xup_s, bz_ior, show ((t : Int) / 4) = ((t / 4 : Nat) : Int) by omega, bz_one (by omega) hc, Bool.or_eq_true, decide_eq_true_eq]
      unfold IT
      by_cases hg : 0 < g
      · obtain ⟨n, rfl⟩ : ∃ n, g = n + 1 := ⟨g - 1, by omega⟩
        have L2 := h1.ld L
        have K2 : KT A (u 1 105) (w * h) n := by rw [h2]; exact K hg
        have wg := (wgo_x L2 K2 ht hhd).2 c hc
        rw [if_pos (by omega), show (((n + 1 : Nat) : Int) - 1) * 400 + 4 * (t : Int) = ((400 * n + 4 * t : Nat) : Int) by omega, wg, show n + 1 - 1 = n from rfl]
        constructor
        · rintro (q | q)
          · exact Or.inl q
          · exact Or.inr ⟨hg, q⟩
        · rintro (q | q)
          · exact Or.inl q
          · exact Or.inr q.2
      · rw [if_neg (by omega), bz_0]
        constructor
        · rintro (q | q)
          · exact Or.inl q
          · cases q
        · rintro (q | q)
          · exact Or.inl q
          · exact absurd q.1 hg
    · rw [xup_k (by omega)]
      exact h3 t hd c ht hhd hc (by omega)
theorem P1.row {s u : XS} {A : Nat → Int} {w h g t0 : Nat} (L : Ld s A w h) (K : 0 < g → KT A (s 1 105) (w * h) (g - 1)) (ht0 : t0 < 4 * (w * h)) (H : P1 s A (w * h) g t0 0 u) : P1 s A (w * h) g (t0 + 1) 0 (itr (fW (g : Int) (t0 : Int)) (4 - 0 : Int).toNat 0 u) := by
  have q := itr_all (f := fW (g : Int) (t0 : Int)) (N := 4) (x := 0) (s := u) (fun y u => P1 s A (w * h) g t0 y u) (by decide) H (fun y u h1 h2 hu => by
    obtain ⟨y', rfl⟩ : ∃ y' : Nat, y = (y' : Int) := ⟨y.toNat, by omega⟩
    exact P1.st L K ht0 (by omega) hu)
  exact ⟨q.1, q.2.1, fun t hd c ht hhd hc z => q.2.2 t hd c ht hhd hc (by omega)⟩
/-- the second half: from where it surely catches -/
def P2 (s v : XS) (A : Nat → Int) (N g t0 : Nat) (y : Int) (u : XS) : Prop := FH u s ∧ u 1 106 = v 1 106 ∧ (∀ k, (k < 400 * g ∨ 400 * g + 400 ≤ k) → u 1 105 k = s 1 105 k) ∧ ((∀ k, -2147483648 ≤ s 1 105 k ∧ s 1 105 k ≤ 2147483647) → ∀ k, -2147483648 ≤ u 1 105 k ∧ u 1 105 k ≤ 2147483647) ∧ ∀ t hd c : Nat, t < 4 * N → hd < 4 → c < 32 → (t < t0 ∨ (t = t0 ∧ (hd : Int) < y)) → (bz (u 1 105 (400 * g + 4 * t + hd)) c = true ↔ (c < N ∧ CC A g t (4 * c + hd)))
theorem P2.st {s v u : XS} {A : Nat → Int} {w h g t0 y : Nat} (L : Ld s A w h) (I : ∀ t hd c, t < 4 * (w * h) → hd < 4 → c < 32 → (bz (v 1 106 (4 * t + hd)) c = true ↔ IT A (w * h) g t hd c)) (ht0 : t0 < 4 * (w * h)) (hy : y < 4) {a b : Int} (ha : a = -1 ∨ 0 ≤ a) (hb : b = -1 ∨ 0 ≤ b) (g0 : gOn A t0 0 = (if a = -1 then (if b = -1 then (t0 : Int) else -1) else a)) (g1 : gOn A t0 1 = b) (H : P2 s v A (w * h) g t0 (y : Int) u) : P2 s v A (w * h) g t0 ((y : Int) + 1) (fT (g : Int) (t0 : Int) (tP a b (t0 : Int)) (tQ a b (t0 : Int)) (y : Int) u) := by
  have b25 := L.b25
  obtain ⟨h1, h2, h3, h4, h5⟩ := H
  have ix : Int.toNat (((g : Int) * 400 + 4 * (t0 : Int)) + (y : Int)) = 400 * g + 4 * t0 + y := by omega
  unfold fT
  rw [ix, h2]
  refine ⟨(FH.up (Or.inl rfl)).tr h1, ?_, fun k hk => ?_, fun r k => ?_, fun t hd c ht hhd hc q => ?_⟩
  · funext k
    rw [xup_c (by decide), h2]
  · rw [xup_k (by omega)]
    exact h3 k hk
  · by_cases e : k = 400 * g + 4 * t0 + y
    · rw [e, xup_s]; exact rg_i _
    · rw [xup_k e]; exact h4 r k
  · by_cases e : t = t0 ∧ hd = y
    · obtain ⟨rfl, rfl⟩ := e
      obtain ⟨c1, c2, c3⟩ := cc_it (g := g) (hd := hd) (c := c) L ht hhd ha hb g0 g1
      rw [xup_s, bz_ior, show ((t : Int) / 4) = ((t / 4 : Nat) : Int) by omega, bz_one (by omega) hc, bz_iand, Bool.or_eq_true, decide_eq_true_eq, Bool.and_eq_true, show Int.toNat (4 * tP a b (t : Int) + (hd : Int)) = 4 * (tP a b (t : Int)).toNat + hd by omega, show Int.toNat (4 * tQ a b (t : Int) + (hd : Int)) = 4 * (tQ a b (t : Int)).toNat + hd by omega, I _ hd c c1.1 hhd hc, I _ hd c c2.1 hhd hc]
      exact c3
    · rw [xup_k (by omega)]
      exact h5 t hd c ht hhd hc (by omega)
theorem work_x {s : XS} {A : Nat → Int} {w h g : Nat} (L : Ld s A w h) (K : 0 < g → KT A (s 1 105) (w * h) (g - 1)) : FH (f_X3_workOut s (g : Int)).1 s ∧ (∀ k, (k < 400 * g ∨ 400 * g + 400 ≤ k) → (f_X3_workOut s (g : Int)).1 1 105 k = s 1 105 k) ∧ ((∀ k, -2147483648 ≤ s 1 105 k ∧ s 1 105 k ≤ 2147483647) → ∀ k, -2147483648 ≤ (f_X3_workOut s (g : Int)).1 1 105 k ∧ (f_X3_workOut s (g : Int)).1 1 105 k ≤ 2147483647) ∧ KT A ((f_X3_workOut s (g : Int)).1 1 105) (w * h) g := by
  have b25 := L.b25
  have e4 : 4 * (s 0 1 5 * s 0 1 6) = ((4 * (w * h) : Nat) : Int) := by
    rw [L.2.1.1, L.2.1.2.1, Int.natCast_mul, Int.natCast_mul]; rfl
  have e0 : f_X3_workOut s (g : Int) = L2_X3_workOut (Int.toNat (100 - 0 + 1)) s (g : Int) (4 * (s 0 1 5 * s 0 1 6)) 0 := rfl
  rw [e0, e4]
  have e1 := itr_loop (L := fun n u t => L2_X3_workOut n u (g : Int) ((4 * (w * h) : Nat) : Int) t) (f := fun t u => itr (fW (g : Int) t) (4 - 0 : Int).toNat 0 u) (E := fun u => L7_X3_workOut (Int.toNat (100 - 0 + 1)) u (g : Int) ((4 * (w * h) : Nat) : Int) 0) (N := ((4 * (w * h) : Nat) : Int)) (fun n s x => l2) (Int.toNat (100 - 0 + 1)) 0 s (by omega) (by show _ < ((101 : Nat) : Int); omega)
  rw [e1]
  have p1 := itr_all (f := fun t u => itr (fW (g : Int) t) (4 - 0 : Int).toNat 0 u) (N := ((4 * (w * h) : Nat) : Int)) (x := 0) (s := s) (fun y u => P1 s A (w * h) g y.toNat 0 u) (by omega) ⟨FH.rf, rfl, fun t hd c _ _ _ z => by omega⟩ (fun y u h1 h2 hu => by
    obtain ⟨y', rfl⟩ : ∃ y' : Nat, y = (y' : Int) := ⟨y.toNat, by omega⟩
    exact P1.row L K (t0 := y') (by omega) hu)
  generalize itr (fun t u => itr (fW (g : Int) t) (4 - 0 : Int).toNat 0 u) (((4 * (w * h) : Nat) : Int) - 0).toNat 0 s = v at *
  obtain ⟨v1, v2, v3⟩ := p1
  have I : ∀ t hd c, t < 4 * (w * h) → hd < 4 → c < 32 → (bz (v 1 106 (4 * t + hd)) c = true ↔ IT A (w * h) g t hd c) := fun t hd c ht hh hc => v3 t hd c ht hh hc (by omega)
  have e2 := itr_loop (L := fun n u t => L7_X3_workOut n u (g : Int) ((4 * (w * h) : Nat) : Int) t) (f := fun t u => itr (fT (g : Int) t (tP (f_X0_standAfter u 1 t 0).2 (f_X0_standAfter u 1 t 1).2 t) (tQ (f_X0_standAfter u 1 t 0).2 (f_X0_standAfter u 1 t 1).2 t)) (4 - 0 : Int).toNat 0 u) (E := fun u => (u, 0)) (N := ((4 * (w * h) : Nat) : Int)) (fun n s x => l7) (Int.toNat (100 - 0 + 1)) 0 v (by omega) (by show _ < ((101 : Nat) : Int); omega)
  rw [e2]
  have p2 := itr_all (f := fun t u => itr (fT (g : Int) t (tP (f_X0_standAfter u 1 t 0).2 (f_X0_standAfter u 1 t 1).2 t) (tQ (f_X0_standAfter u 1 t 0).2 (f_X0_standAfter u 1 t 1).2 t)) (4 - 0 : Int).toNat 0 u) (N := ((4 * (w * h) : Nat) : Int)) (x := 0) (s := v) (fun y u => P2 s v A (w * h) g y.toNat 0 u) (by omega) ⟨v1, rfl, fun k _ => by rw [v2], fun r k => by rw [v2]; exact r k, fun t hd c _ _ _ z => by omega⟩ (fun y u h1 h2 hu => by
    obtain ⟨y', rfl⟩ : ∃ y' : Nat, y = (y' : Int) := ⟨y.toNat, by omega⟩
    obtain ⟨a, b, ea, eb, ha, hb, g0, g1⟩ := sta2_x (hu.1.ld L) (t := y') (by omega)
    show P2 s v A (w * h) g ((y' : Int) + 1).toNat 0 (itr (fT (g : Int) (y' : Int) (tP (f_X0_standAfter u 1 (y' : Int) 0).2 (f_X0_standAfter u 1 (y' : Int) 1).2 (y' : Int)) (tQ (f_X0_standAfter u 1 (y' : Int) 0).2 (f_X0_standAfter u 1 (y' : Int) 1).2 (y' : Int))) (4 - 0 : Int).toNat 0 u)
    rw [ea, eb]
    have q := itr_all (f := fT (g : Int) (y' : Int) (tP a b (y' : Int)) (tQ a b (y' : Int))) (N := 4) (x := 0) (s := u) (fun z u => P2 s v A (w * h) g y' z u) (by decide) hu (fun z u k1 k2 ku => by
      obtain ⟨z', rfl⟩ : ∃ z' : Nat, z = (z' : Int) := ⟨z.toNat, by omega⟩
      exact P2.st L I (by omega) (by omega) ha hb g0 g1 ku)
    exact ⟨q.1, q.2.1, q.2.2.1, q.2.2.2.1, fun t hd c ht hhd hc z => q.2.2.2.2 t hd c ht hhd hc (by omega)⟩)
  obtain ⟨q1, q2, q3, q4, q5⟩ := p2
  exact ⟨q1, q3, q4, fun t hd c ht hh hc => q5 t hd c ht hh hc (by omega)⟩
