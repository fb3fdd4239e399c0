/-! looking back from where one goes: the class -/
def noM : Nat → Prop := fun _ => False
def Bk (A : Nat → Int) (tE c : Nat) : Nat → Nat → Nat → Nat → Prop
  | 0, c', _, l => c' = c ∧ l = 0
  | j + 1, c', d', l => ∃ k e l' q, SW A noM (tE - (j + 1)) c' d' k e q ∧ Bk A tE c j k e l' ∧ l = q + l'
def MinB (A : Nat → Int) (tE c j c' d l : Nat) : Prop := Bk A tE c j c' d l ∧ ∀ l', l' < l → ¬ Bk A tE c j c' d l'
theorem MinB.ex {A : Nat → Int} {tE c j c' d : Nat} : ∀ l, Bk A tE c j c' d l → ∃ l0, l0 ≤ l ∧ MinB A tE c j c' d l0 := by
  intro l
  induction l using Nat.strongRecOn with
  | _ l ih =>
    intro q
    by_cases z : ∃ l', l' < l ∧ Bk A tE c j c' d l'
    · obtain ⟨l', z1, z2⟩ := z
      obtain ⟨l0, y1, y2⟩ := ih l' z1 z2
      exact ⟨l0, by omega, y2⟩
    · exact ⟨l, Nat.le_refl _, q, fun l' h1 h2 => z ⟨l', h1, h2⟩⟩
theorem SW.q2 {A : Nat → Int} {mo : Nat → Prop} {t c d k e q : Nat} (h : SW A mo t c d k e q) : q ≤ 2 := by
  obtain ⟨T, t1, t2, t3, t4⟩ := h
  rcases t4 with ⟨-, t4⟩ | ⟨-, -, ⟨-, t4⟩ | ⟨-, t4⟩⟩ <;> omega
theorem Bk.le {A : Nat → Int} {tE c : Nat} : ∀ (j c' d l : Nat), Bk A tE c j c' d l → l ≤ 2 * j
  | 0, c', d, l, q => by rw [q.2]; exact Nat.le_refl _
  | j + 1, c', d, l, q => by
    obtain ⟨k, e, l', q', q1, q2, q3⟩ := q
    have ih := Bk.le j k e l' q2
    have := q1.q2
    omega
/-- who turns so into a direction -/
theorem tdr_iv {h d : Nat} (hh : h < 4) (hd : d < 4) : (tdr h 0 = d ↔ h = d) ∧ (tdr h 1 = d ↔ h = (d + 3) % 4) ∧ (tdr h 2 = d ↔ h = (d + 1) % 4) ∧ (tdr h 3 = d ↔ h = (d + 2) % 4) := by
  have e0 : tdr h 0 = h := tdr0 hh
  have e1 : tdr h 1 = (h + 1) % 4 := tdr1
  have e2 : tdr h 2 = (h + 3) % 4 := rfl
  have e3 : tdr h 3 = (h + 2) % 4 := rfl
  rw [e0, e1, e2, e3]
  exact ⟨Iff.rfl, by omega, by omega, by omega⟩
/-- what looking back writes -/
def FrRb (u s : XS) : Prop := ∀ t c k, ¬ (t = 1 ∧ (c = 8 ∨ c = 9 ∨ c = 80 ∨ c = 81 ∨ c = 82 ∨ c = 88)) → ¬ (t = 0 ∧ c = 79 ∧ k = 4) → u t c k = s t c k
theorem FrRb.rf {s : XS} : FrRb s s := fun _ _ _ _ _ => rfl
theorem FrRb.tr {x y z : XS} (h : FrRb x y) (g : FrRb y z) : FrRb x z := fun t c k q1 q2 => (h t c k q1 q2).trans (g t c k q1 q2)
theorem FrF.r {u s : XS} (h : FrF u s) : FrRb u s := fun t c k q1 q2 => h t c k (by omega) q2
theorem FrRb.up {k : Nat} {v : Int} {s : XS} : FrRb (xup s 1 88 k v) s := fun t c j q _ => if_neg (fun z => q ⟨z.1, by omega⟩)
theorem FrRb.cs {B : Int} {w h : Nat} {s m u : XS} (F : FrRb u s) (H : CS B w h s m) : CS B w h u m := by
  obtain ⟨c1, c2, c3, c4, c5, c6, c7⟩ := H
  refine ⟨c1.fr (F _ _ _ (by omega) (by omega)) (F _ _ _ (by omega) (by omega)) (funext fun k => F _ _ _ (by omega) (by omega)) (funext fun k => F _ _ _ (by omega) (by omega)), c2.sameV (fun t c k _ _ q => F t c k (by omega) (by omega)), ?_, ?_, c5, c6, c7⟩
  · rw [F _ _ _ (by omega) (by omega)]; exact c3
  · rw [F _ _ _ (by omega) (by omega)]; exact c4
theorem FrRb.ld {A : Nat → Int} {w h : Nat} {s u : XS} (F : FrRb u s) (L : Ld s A w h) : Ld u A w h := L.fr (F _ _ _ (by omega) (by omega)) (F _ _ _ (by omega) (by omega)) (funext fun k => F _ _ _ (by omega) (by omega)) (funext fun k => F _ _ _ (by omega) (by omega))
theorem FV.up88 {N k : Nat} {v : Int} {s : XS} {A : Nat → Int} (h : FV N s A) : FV N (xup s 1 88 k v) A := h.fr (xup_t (by decide)) (fun c k' q => xup_c (by omega))
theorem bz_and_inv {a b : Int} {c : Nat} (hc : c < 32) : bz (Xiand a (Xixor b (-1))) c = true ↔ (bz a c = true ∧ ¬ bz b c = true) := by
  rw [bz_iand, Bool.and_eq_true, bz_inv b hc, Bool.not_eq_true']
  cases bz b c <;> simp
/-- those who come from where one turns into a direction -/
theorem come_x {B : Int} {w h : Nat} {s m : XS} (H : CS B w h s m) (V : FV (w * h) s (m 1 1)) {t d R : Nat} (ht : t < 240) (hd : d < 4) {fr : Int} (hfr : ∀ c, c < 32 → bz fr c = true → c < w * h) : ∃ u, f_X7_comeFrom s (t : Int) fr (d : Int) (R : Int) = (u, 0) ∧ FV (w * h) u (m 1 1) ∧ FrRb u s ∧ (∀ j, ¬ (R ≤ j ∧ j < R + 12) → u 1 88 j = s 1 88 j) ∧ ∀ q h', q ≤ 2 → h' < 4 → ∀ c, c < 32 → (bz (u 1 88 (R + (4 * q + h'))) c = true ↔ (bz (s 1 88 (R + (4 * q + h'))) c = true ∨ (bz fr c = true ∧ ∃ T, T < 4 ∧ tdr h' T = d ∧ tcW (m 1 1) noM t c d T q))) := by
  have b25 := H.1.b25
  obtain ⟨x1, hx1⟩ : ∃ x1, x1 = (d + 1) % 4 := ⟨_, rfl⟩
  obtain ⟨x2, hx2⟩ : ∃ x2, x2 = (d + 2) % 4 := ⟨_, rfl⟩
  obtain ⟨x3, hx3⟩ : ∃ x3, x3 = (d + 3) % 4 := ⟨_, rfl⟩
  have a1 : Xiand ((d : Int) + 1) 3 = (x1 : Int) := by rw [and3_x (by omega) (by omega)]; omega
  have a2 : Xiand ((d : Int) + 2) 3 = (x2 : Int) := by rw [and3_x (by omega) (by omega)]; omega
  have a3 : Xiand ((d : Int) + 3) 3 = (x3 : Int) := by rw [and3_x (by omega) (by omega)]; omega
  obtain ⟨s1, hs1⟩ : ∃ s1, s1 = xup s 1 88 (R + d) (Xior (s 1 88 (R + d)) fr) := ⟨_, rfl⟩
  obtain ⟨s2, hs2⟩ : ∃ s2, s2 = xup s1 1 88 (R + x3) (Xior (s1 1 88 (R + x3)) fr) := ⟨_, rfl⟩
  have F2 : FrRb s2 s := by rw [hs2, hs1]; exact FrRb.up.tr FrRb.up
  have V2 : FV (w * h) s2 (m 1 1) := by rw [hs2, hs1]; exact V.up88.up88
  obtain ⟨s3, fb, e3, V3, F3, f3⟩ := freeAt_x (F2.cs H) V2 ht
  obtain ⟨s4, al, e4, V4, F4, f4⟩ := allow_x (F3.r.cs (F2.cs H)) V3 ht hd hfr
  obtain ⟨s5, hs5⟩ : ∃ s5, s5 = xup s4 1 88 (R + x1) (Xior (s4 1 88 (R + x1)) (Xiand al fb)) := ⟨_, rfl⟩
  obtain ⟨s6, hs6⟩ : ∃ s6, s6 = xup s5 1 88 (R + x2) (Xior (s5 1 88 (R + x2)) (Xiand al fb)) := ⟨_, rfl⟩
  obtain ⟨s7, hs7⟩ : ∃ s7, s7 = xup s6 1 88 (R + (4 + x1)) (Xior (s6 1 88 (R + (4 + x1))) (Xiand al (Xixor fb (-1)))) := ⟨_, rfl⟩
  obtain ⟨s8, hs8⟩ : ∃ s8, s8 = xup s7 1 88 (R + (8 + x2)) (Xior (s7 1 88 (R + (8 + x2))) (Xiand al (Xixor fb (-1)))) := ⟨_, rfl⟩
  have e : f_X7_comeFrom s (t : Int) fr (d : Int) (R : Int) = (s8, 0) := by
    simp only [f_X7_comeFrom, g1w_X7_comeFrom, g2w_X7_comeFrom, g3c_X7_comeFrom, g4c_X7_comeFrom, g5w_X7_comeFrom, g6w_X7_comeFrom, g7w_X7_comeFrom, g8w_X7_comeFrom, a1, a2, a3, show Int.toNat ((R : Int) + (d : Int)) = R + d by omega, show Int.toNat ((R : Int) + (x3 : Int)) = R + x3 by omega, show Int.toNat ((R : Int) + (x1 : Int)) = R + x1 by omega, show Int.toNat ((R : Int) + (x2 : Int)) = R + x2 by omega, show Int.toNat (((R : Int) + 4) + (x1 : Int)) = R + (4 + x1) by omega, show Int.toNat (((R : Int) + 8) + (x2 : Int)) = R + (8 + x2) by omega, ← hs1, ← hs2, e3, e4, ← hs5, ← hs6, ← hs7, ← hs8]
  have b4 : ∀ j, s4 1 88 j = s2 1 88 j := fun j => (F4 _ _ _ (by omega) (by omega)).trans (F3 _ _ _ (by omega) (by omega))
  have F8 : FrRb s8 s := by
    have F84 : FrRb s8 s4 := by rw [hs8, hs7, hs6, hs5]; exact FrRb.up.tr (FrRb.up.tr (FrRb.up.tr FrRb.up))
    exact F84.tr (F4.r.tr (F3.r.tr F2))
  have V8 : FV (w * h) s8 (m 1 1) := by rw [hs8, hs7, hs6, hs5]; exact V4.up88.up88.up88.up88
  -- every place of the rows, after all
  have val : ∀ j, s8 1 88 j = if j = R + d then Xior (s 1 88 j) fr else if j = R + x3 then Xior (s 1 88 j) fr else if j = R + x1 then Xior (s 1 88 j) (Xiand al fb) else if j = R + x2 then Xior (s 1 88 j) (Xiand al fb) else if j = R + (4 + x1) then Xior (s 1 88 j) (Xiand al (Xixor fb (-1))) else if j = R + (8 + x2) then Xior (s 1 88 j) (Xiand al (Xixor fb (-1))) else s 1 88 j := fun j => by
    have q1 : ∀ j, s1 1 88 j = if j = R + d then Xior (s 1 88 j) fr else s 1 88 j := fun j => by
      rw [hs1]
      by_cases z : j = R + d
      · rw [z, xup_s, if_pos rfl]
      · rw [xup_k z, if_neg z]
    have q2 : ∀ j, s2 1 88 j = if j = R + x3 then Xior (s 1 88 j) fr else s1 1 88 j := fun j => by
      rw [hs2]
      by_cases z : j = R + x3
      · rw [z, xup_s, if_pos rfl, q1, if_neg (by omega)]
      · rw [xup_k z, if_neg z]
    have q5 : ∀ j, s5 1 88 j = if j = R + x1 then Xior (s 1 88 j) (Xiand al fb) else s2 1 88 j := fun j => by
      rw [hs5]
      by_cases z : j = R + x1
      · rw [z, xup_s, if_pos rfl, b4, q2, if_neg (by omega), q1, if_neg (by omega)]
      · rw [xup_k z, if_neg z, b4]
    have q6 : ∀ j, s6 1 88 j = if j = R + x2 then Xior (s 1 88 j) (Xiand al fb) else s5 1 88 j := fun j => by
      rw [hs6]
      by_cases z : j = R + x2
      · rw [z, xup_s, if_pos rfl, q5, if_neg (by omega), q2, if_neg (by omega), q1, if_neg (by omega)]
      · rw [xup_k z, if_neg z]
    have q7 : ∀ j, s7 1 88 j = if j = R + (4 + x1) then Xior (s 1 88 j) (Xiand al (Xixor fb (-1))) else s6 1 88 j := fun j => by
      rw [hs7]
      by_cases z : j = R + (4 + x1)
      · rw [z, xup_s, if_pos rfl, q6, if_neg (by omega), q5, if_neg (by omega), q2, if_neg (by omega), q1, if_neg (by omega)]
      · rw [xup_k z, if_neg z]
    have q8 : ∀ j, s8 1 88 j = if j = R + (8 + x2) then Xior (s 1 88 j) (Xiand al (Xixor fb (-1))) else s7 1 88 j := fun j => by
      rw [hs8]
      by_cases z : j = R + (8 + x2)
      · rw [z, xup_s, if_pos rfl, q7, if_neg (by omega), q6, if_neg (by omega), q5, if_neg (by omega), q2, if_neg (by omega), q1, if_neg (by omega)]
      · rw [xup_k z, if_neg z]
    rw [q8, q7, q6, q5, q2, q1]
    (repeat' split) <;> first | rfl | (exfalso; omega)
  refine ⟨s8, e, V8, F8, fun j hj => ?_, fun q h' hq hh c hc => ?_⟩
  · rw [val, if_neg (by omega), if_neg (by omega), if_neg (by omega), if_neg (by omega), if_neg (by omega), if_neg (by omega)]
  · obtain ⟨v0, v1, v2, v3⟩ := tdr_iv (h := h') (d := d) hh hd
    rw [← hx3] at v1
    rw [← hx1] at v2
    rw [← hx2] at v3
    have alb := f4 c hc
    have ex : (bz fr c = true ∧ ∃ T, T < 4 ∧ tdr h' T = d ∧ tcW (m 1 1) noM t c d T q) ↔ (bz fr c = true ∧ ((h' = d ∧ q = 0) ∨ (h' = x3 ∧ q = 0) ∨ (h' = x1 ∧ mayQ (m 1 1) c (t : Int) (d : Int) ∧ ((frQ (m 1 1) c (t : Int) ∧ q = 0) ∨ (¬ frQ (m 1 1) c (t : Int) ∧ q = 1))) ∨ (h' = x2 ∧ mayQ (m 1 1) c (t : Int) (d : Int) ∧ ((frQ (m 1 1) c (t : Int) ∧ q = 0) ∨ (¬ frQ (m 1 1) c (t : Int) ∧ q = 2))))) := by
      have nm : (frQ (m 1 1) c (t : Int) ∨ noM c) ↔ frQ (m 1 1) c (t : Int) := ⟨fun y => y.elim id (fun z => z.elim), Or.inl⟩
      constructor
      · rintro ⟨p0, T, p1, p2, p3⟩
        refine ⟨p0, ?_⟩
        unfold tcW at p3
        rw [nm] at p3
        rcases (show T = 0 ∨ T = 1 ∨ T = 2 ∨ T = 3 by omega) with rfl | rfl | rfl | rfl
        · exact Or.inl ⟨v0.mp p2, p3.elim And.right (fun y => absurd y.1 (by decide))⟩
        · exact Or.inr (Or.inl ⟨v1.mp p2, p3.elim And.right (fun y => absurd y.1 (by decide))⟩)
        · exact Or.inr (Or.inr (Or.inl ⟨v2.mp p2, p3.elim (fun y => absurd y.1 (by decide)) (fun y => y.2)⟩))
        · exact Or.inr (Or.inr (Or.inr ⟨v3.mp p2, p3.elim (fun y => absurd y.1 (by decide)) (fun y => y.2)⟩))
      · rintro ⟨p0, p⟩
        refine ⟨p0, ?_⟩
        rcases p with ⟨p1, p2⟩ | ⟨p1, p2⟩ | ⟨p1, p2, p3⟩ | ⟨p1, p2, p3⟩
        · exact ⟨0, by decide, v0.mpr p1, Or.inl ⟨by decide, p2⟩⟩
        · exact ⟨1, by decide, v1.mpr p1, Or.inl ⟨by decide, p2⟩⟩
        · refine ⟨2, by decide, v2.mpr p1, Or.inr ⟨by decide, p2, ?_⟩⟩
          rw [nm]
          exact p3
        · refine ⟨3, by decide, v3.mpr p1, Or.inr ⟨by decide, p2, ?_⟩⟩
          rw [nm]
          exact p3
    rw [ex, val]
    have frc : bz fr c = true → (bz fb c = true ↔ frQ (m 1 1) c (t : Int)) := fun y => f3 c (hfr c hc y)
    by_cases z0 : R + (4 * q + h') = R + d
    · rw [if_pos z0, bz_ior, Bool.or_eq_true]
      exact ⟨fun y => y.imp id (fun k => ⟨k, Or.inl ⟨by omega, by omega⟩⟩), fun y => y.imp id (fun k => k.1)⟩
    rw [if_neg z0]
    by_cases z1 : R + (4 * q + h') = R + x3
    · rw [if_pos z1, bz_ior, Bool.or_eq_true]
      exact ⟨fun y => y.imp id (fun k => ⟨k, Or.inr (Or.inl ⟨by omega, by omega⟩)⟩), fun y => y.imp id (fun k => k.1)⟩
    rw [if_neg z1]
    by_cases z2 : R + (4 * q + h') = R + x1
    · rw [if_pos z2, bz_ior, Bool.or_eq_true, bz_iand, Bool.and_eq_true, alb]
      constructor
      · rintro (y | ⟨⟨y1, y2⟩, y3⟩)
        · exact Or.inl y
        · exact Or.inr ⟨y1, Or.inr (Or.inr (Or.inl ⟨by omega, y2, Or.inl ⟨(frc y1).mp y3, by omega⟩⟩))⟩
      · rintro (y | ⟨y1, y⟩)
        · exact Or.inl y
        · refine Or.inr ?_
          rcases y with ⟨p1, p2⟩ | ⟨p1, p2⟩ | ⟨p1, p2, ⟨p3, p4⟩ | ⟨p3, p4⟩⟩ | ⟨p1, p2, p3⟩
          · omega
          · omega
          · exact ⟨⟨y1, p2⟩, (frc y1).mpr p3⟩
          · omega
          · omega
    rw [if_neg z2]
    by_cases z3 : R + (4 * q + h') = R + x2
    · rw [if_pos z3, bz_ior, Bool.or_eq_true, bz_iand, Bool.and_eq_true, alb]
      constructor
      · rintro (y | ⟨⟨y1, y2⟩, y3⟩)
        · exact Or.inl y
        · exact Or.inr ⟨y1, Or.inr (Or.inr (Or.inr ⟨by omega, y2, Or.inl ⟨(frc y1).mp y3, by omega⟩⟩))⟩
      · rintro (y | ⟨y1, y⟩)
        · exact Or.inl y
        · refine Or.inr ?_
          rcases y with ⟨p1, p2⟩ | ⟨p1, p2⟩ | ⟨p1, p2, p3⟩ | ⟨p1, p2, ⟨p3, p4⟩ | ⟨p3, p4⟩⟩
          · omega
          · omega
          · omega
          · exact ⟨⟨y1, p2⟩, (frc y1).mpr p3⟩
          · omega
    rw [if_neg z3]
    by_cases z4 : R + (4 * q + h') = R + (4 + x1)
    · rw [if_pos z4, bz_ior, Bool.or_eq_true, bz_and_inv hc, alb]
      constructor
      · rintro (y | ⟨⟨y1, y2⟩, y3⟩)
        · exact Or.inl y
        · exact Or.inr ⟨y1, Or.inr (Or.inr (Or.inl ⟨by omega, y2, Or.inr ⟨fun k => y3 ((frc y1).mpr k), by omega⟩⟩))⟩
      · rintro (y | ⟨y1, y⟩)
        · exact Or.inl y
        · refine Or.inr ?_
          rcases y with ⟨p1, p2⟩ | ⟨p1, p2⟩ | ⟨p1, p2, ⟨p3, p4⟩ | ⟨p3, p4⟩⟩ | ⟨p1, p2, ⟨p3, p4⟩ | ⟨p3, p4⟩⟩
          · omega
          · omega
          · omega
          · exact ⟨⟨y1, p2⟩, fun k => p3 ((frc y1).mp k)⟩
          · omega
          · omega
    rw [if_neg z4]
    by_cases z5 : R + (4 * q + h') = R + (8 + x2)
    · rw [if_pos z5, bz_ior, Bool.or_eq_true, bz_and_inv hc, alb]
      constructor
      · rintro (y | ⟨⟨y1, y2⟩, y3⟩)
        · exact Or.inl y
        · exact Or.inr ⟨y1, Or.inr (Or.inr (Or.inr ⟨by omega, y2, Or.inr ⟨fun k => y3 ((frc y1).mpr k), by omega⟩⟩))⟩
      · rintro (y | ⟨y1, y⟩)
        · exact Or.inl y
        · refine Or.inr ?_
          rcases y with ⟨p1, p2⟩ | ⟨p1, p2⟩ | ⟨p1, p2, ⟨p3, p4⟩ | ⟨p3, p4⟩⟩ | ⟨p1, p2, ⟨p3, p4⟩ | ⟨p3, p4⟩⟩
          · omega
          · omega
          · omega
          · omega
          · omega
          · exact ⟨⟨y1, p2⟩, fun k => p3 ((frc y1).mp k)⟩
    rw [if_neg z5]
    constructor
    · exact Or.inl
    · rintro (y | ⟨y1, y⟩)
      · exact y
      · exfalso
        rcases y with ⟨p1, p2⟩ | ⟨p1, p2⟩ | ⟨p1, p2, ⟨p3, p4⟩ | ⟨p3, p4⟩⟩ | ⟨p1, p2, ⟨p3, p4⟩ | ⟨p3, p4⟩⟩ <;> omega
