/-! the least so far: the reference, hour by hour -/
/-- the least lefts to a stand behind so many streets -/
def DV (A : Nat → Int) (mo : Nat → Prop) (t0 c0 d0 i y : Nat) (v : Int) : Prop := LsV (fun l => Wy A mo t0 c0 d0 i (y / 4) (y % 4) l) v
theorem DV.uq {A : Nat → Int} {mo : Nat → Prop} {t0 c0 d0 i y : Nat} {v v' : Int} (h : DV A mo t0 c0 d0 i y v) (g : DV A mo t0 c0 d0 i y v') : v = v' := by
  rcases h with ⟨h1, h2⟩ | ⟨l, h0, h1, h2, h3⟩
  · rcases g with ⟨g1, g2⟩ | ⟨l', g0, g1, g2, g3⟩
    · rw [h1, g1]
    · exact absurd g2 (h2 l')
  · rcases g with ⟨g1, g2⟩ | ⟨l', g0, g1, g2, g3⟩
    · exact absurd h2 (g2 l)
    · by_cases z : l < l'
      · exact absurd h2 (g3 l z)
      · by_cases y' : l' < l
        · exact absurd g2 (h3 l' y')
        · rw [h1, g1]; omega
theorem Wy.le {A : Nat → Int} {mo : Nat → Prop} {t0 c0 d0 : Nat} : ∀ (i c d l : Nat), Wy A mo t0 c0 d0 i c d l → l ≤ 2 * i
  | 0, c, d, l, q => by rw [q.2.2]; exact Nat.le_refl _
  | i + 1, k, e, l, q => by
    obtain ⟨c, d, l', q', q1, ⟨T, t1, t2, t3, t4⟩, q2⟩ := q
    have ih := Wy.le i c d l' q1
    have b : q' ≤ 2 := by
      rcases t4 with ⟨-, t4⟩ | ⟨-, -, ⟨-, t4⟩ | ⟨-, t4⟩⟩ <;> omega
    omega
theorem sf_x {s m : XS} {w h : Nat} (L : Ld s (m 1 1) w h) {mo : Nat → Prop} {H0 hh i : Nat} (W : LLo (m 1 1) mo (w * h) H0 hh m) (hi : i < hh) (h60 : hh ≤ 60) {r : Nat → Int} (hr : ∀ x, x < 100 → r x = 1000000000 ∨ (0 ≤ r x ∧ r x ≤ 500)) {R44 : XS → Int → Int → Int → XR} : ∀ (n x : Nat) (v : XS), FrE v m → (∀ z, z < 100 → v 1 8 (100 * i + z) = r z) → (∀ y, y < 100 → LsV (CdP (m 1 1) mo (H0 + i) r x 0 y) (v 1 8 (100 * (i + 1) + y))) → x ≤ 4 * (w * h) → 4 * (w * h) < x + n → ∃ u, L12_X12_laysSofar R44 n v (hh : Int) 0 (i : Int) (x : Int) = R44 u (hh : Int) 0 ((i + 1 : Nat) : Int) ∧ FrE u m ∧ (∀ y, y < 100 → LsV (CdP (m 1 1) mo (H0 + i) r (4 * (w * h)) 0 y) (u 1 8 (100 * (i + 1) + y))) ∧ ∀ j, ¬ (100 * (i + 1) ≤ j ∧ j < 100 * (i + 1) + 100) → u 1 8 j = v 1 8 j := by
  intro n
  induction n with
  | zero => intro x v _ _ _ h1 h2; omega
  | succ n ih =>
    intro x v F Vr Bt h1 h2
    have b25 := L.b25
    have vr : v 1 1 = m 1 1 := funext fun k => F _ _ _ (by omega)
    have ewh : v 1 1 1 * v 1 1 2 = ((w * h : Nat) : Int) := by rw [vr, L.2.1.2.2.1, L.2.1.2.2.2, Int.natCast_mul]
    by_cases z : x < 4 * (w * h)
    · have ir : Int.toNat ((100 * (i : Int)) + (x : Int)) = 100 * i + x := by omega
      have e : L12_X12_laysSofar R44 (n + 1) v (hh : Int) 0 (i : Int) (x : Int) = if r x = 1000000000 then L12_X12_laysSofar R44 n v (hh : Int) 0 (i : Int) ((x + 1 : Nat) : Int) else L21_X12_laysSofar R44 (L12_X12_laysSofar R44 n) 5 v (hh : Int) 0 (i : Int) (x : Int) 0 := by
        show g13l_X12_laysSofar R44 (L12_X12_laysSofar R44 n) v (hh : Int) 0 (i : Int) (x : Int) = _
        simp only [g13l_X12_laysSofar, g14c_X12_laysSofar, g15b_X12_laysSofar, g17_X12_laysSofar, g18b_X12_laysSofar, g19_X12_laysSofar, g20_X12_laysSofar, f_X12_crossings, show Int.toNat 1 = 1 from rfl, show Int.toNat 2 = 2 from rfl, ewh, ir, Vr x (by omega)]
        rw [if_pos (show (x : Int) < 4 * ((w * h : Nat) : Int) by omega)]
        rfl
      rw [e]
      by_cases nv : r x = 1000000000
      · rw [if_pos nv]
        refine ih (x + 1) v F Vr (fun y hy => (Bt y hy).iff (fun l => ?_)) (by omega) (by omega)
        constructor
        · rintro ⟨z', U, p1, p2⟩
          exact ⟨z', U, by omega, p2⟩
        · rintro ⟨z', U, p1, p2, p3, p4, p5, p6, p7⟩
          by_cases q0 : z' = x
          · subst q0
            exact absurd nv p6
          · exact ⟨z', U, by omega, p2, p3, p4, p5, p6, p7⟩
      · rw [if_neg nv]
        obtain ⟨u, u1, u2, u3, u4⟩ := sf_T L W hi h60 z ((hr x (by omega)).resolve_left nv) (R44 := R44) (R53 := L12_X12_laysSofar R44 n) 5 0 v F Vr Bt (by decide) (by decide)
        have u1' : L21_X12_laysSofar R44 (L12_X12_laysSofar R44 n) 5 v (hh : Int) 0 (i : Int) (x : Int) 0 = L12_X12_laysSofar R44 n u (hh : Int) 0 (i : Int) ((x + 1 : Nat) : Int) := u1
        rw [u1']
        obtain ⟨y, y1, y2, y3, y4⟩ := ih (x + 1) u u2 (fun z' hz => by rw [u4 _ (by omega)]; exact Vr z' hz) (fun y hy => (u3 y hy).iff (fun l => by
          constructor
          · rintro ⟨z', U, p1, p2⟩
            exact ⟨z', U, by omega, p2⟩
          · rintro ⟨z', U, p1, p2, p3⟩
            exact ⟨z', U, by omega, p2, p3⟩)) (by omega) (by omega)
        exact ⟨y, y1, y2, y3, fun j hj => (y4 j hj).trans (u4 j hj)⟩
    · have xN : x = 4 * (w * h) := by omega
      subst xN
      refine ⟨v, ?_, F, Bt, fun _ _ => rfl⟩
      show g13l_X12_laysSofar R44 (L12_X12_laysSofar R44 n) v (hh : Int) 0 (i : Int) ((4 * (w * h) : Nat) : Int) = _
      simp only [g13l_X12_laysSofar, g14c_X12_laysSofar, g15b_X12_laysSofar, g16_X12_laysSofar, f_X12_crossings, show Int.toNat 1 = 1 from rfl, show Int.toNat 2 = 2 from rfl, ewh]
      rw [if_neg (by omega)]
      rfl
/-- those who come on are those who go one street more -/
theorem cd_wy {s : XS} {A : Nat → Int} {w h : Nat} (L : Ld s A w h) {mo : Nat → Prop} {t0 c0 d0 i : Nat} (hc0 : c0 < w * h) (hd0 : d0 < 4) {r : Nat → Int} (hr : ∀ z, z < 100 → DV A mo t0 c0 d0 i z (r z)) {y : Nat} (hy : y < 100) {v : Int} (hv : LsV (CdP A mo (t0 + i) r (4 * (w * h)) 0 y) v) (i60 : i < 240) : DV A mo t0 c0 d0 (i + 1) y v := by
  have b25 := L.b25
  have toW : ∀ l, CdP A mo (t0 + i) r (4 * (w * h)) 0 y l → Wy A mo t0 c0 d0 (i + 1) (y / 4) (y % 4) l := by
    rintro l ⟨z, U, p1, p2, p3, p4, p5, p6, p7⟩
    have z4 : z < 4 * (w * h) := by omega
    have td := tdr_lt (z % 4) U
    have sk := (L.2.2.2.1 (z / 4) _ (by omega) td p3).2
    rcases hr z (by omega) with ⟨a1, -⟩ | ⟨l1, a0, a1, a2, a3⟩
    · exact absurd a1 p6
    · have cr := (csV_r (A := A) (mo := mo) (t := t0 + i) (c := z / 4) (d := z % 4) p2).resolve_left p5
      obtain ⟨q, hq⟩ : ∃ q : Nat, csV A mo (t0 + i) (z / 4) (z % 4) U = (q : Int) := ⟨(csV A mo (t0 + i) (z / 4) (z % 4) U).toNat, by omega⟩
      have ek : sF A (z / 4) (tdr (z % 4) U) = ((y / 4 : Nat) : Int) := by omega
      have ee : tdr (z % 4) U = y % 4 := by omega
      refine ⟨z / 4, z % 4, l1, q, a2, (csV_sw L (by omega)).mpr ⟨U, p2, ee, by rw [← ee]; exact ek, hq, by omega⟩, by omega⟩
  have ofW : ∀ l, Wy A mo t0 c0 d0 (i + 1) (y / 4) (y % 4) l → ∃ l', l' ≤ l ∧ CdP A mo (t0 + i) r (4 * (w * h)) 0 y l' := by
    rintro l ⟨c, d, l', q, p1, p2, p3⟩
    obtain ⟨p4, p5⟩ := Wy.lt L hc0 hd0 i c d l' p1
    obtain ⟨U, u1, u2, u3, u4, u5⟩ := (csV_sw L p4).mp p2
    have ez1 : (4 * c + d) / 4 = c := by omega
    have ez2 : (4 * c + d) % 4 = d := by omega
    rcases hr (4 * c + d) (by omega) with ⟨a1, a2⟩ | ⟨l1, a0, a1, a2, a3⟩
    · exfalso
      apply a2 l'
      show Wy A mo t0 c0 d0 i ((4 * c + d) / 4) ((4 * c + d) % 4) l'
      rw [ez1, ez2]
      exact p1
    · have l1l : l1 ≤ l' := by
        by_cases z : l' < l1
        · exfalso
          apply a3 l' z
          show Wy A mo t0 c0 d0 i ((4 * c + d) / 4) ((4 * c + d) % 4) l'
          rw [ez1, ez2]
          exact p1
        · omega
      refine ⟨l1 + q, by omega, 4 * c + d, U, by omega, u1, ?_, ?_, ?_, by omega, ?_⟩
      · rw [ez1, ez2, u2]; omega
      · rw [ez1, ez2, u2, u3]; omega
      · rw [ez1, ez2, u4]; omega
      · rw [ez1, ez2, u4, a1]; omega
  rcases hv with ⟨h1, h2⟩ | ⟨l, h0, h1, h2, h3⟩
  · refine Or.inl ⟨h1, fun l W => ?_⟩
    obtain ⟨l', -, q⟩ := ofW l W
    exact h2 l' q
  · refine Or.inr ⟨l, h0, h1, toW l h2, fun l' q W => ?_⟩
    obtain ⟨l'', q1, q2⟩ := ofW l' W
    exact h3 l'' (by omega) q2
theorem sf_1 {a1 a2 hh : Int} : ∀ (n : Nat) (m : XS) (x : Int), 0 ≤ x → x ≤ 100 * (hh + 1) → 100 * (hh + 1) - x < (n : Int) → ∃ v, L1_X12_laysSofar n m a1 a2 hh 0 x = g4_X12_laysSofar v a1 a2 hh 0 ∧ ∀ T c k, v T c k = if T = 1 ∧ c = 8 ∧ x ≤ (k : Int) ∧ (k : Int) < 100 * (hh + 1) then 1000000000 else m T c k := by
  intro n
  induction n with
  | zero => intro m x h0 h1 hn; omega
  | succ n ih =>
    intro m x h0 h1 hn
    have e : L1_X12_laysSofar (n + 1) m a1 a2 hh 0 x = if x < 100 * (hh + 1) then L1_X12_laysSofar n (xup m 1 8 (Int.toNat x) 1000000000) a1 a2 hh 0 (x + 1) else g4_X12_laysSofar m a1 a2 hh 0 := by
      show g2l_X12_laysSofar (L1_X12_laysSofar n) m a1 a2 hh 0 x = _
      simp only [g2l_X12_laysSofar, g3b_X12_laysSofar, g5_X12_laysSofar, g34w_X12_laysSofar]
    rw [e]
    by_cases z : x < 100 * (hh + 1)
    · rw [if_pos z]
      obtain ⟨v, v1, v2⟩ := ih (xup m 1 8 (Int.toNat x) 1000000000) (x + 1) (by omega) (by omega) (by omega)
      refine ⟨v, v1, fun T c k => ?_⟩
      rw [v2]
      unfold xup
      (repeat' split) <;> first | rfl | (exfalso; omega)
    · rw [if_neg z]
      exact ⟨m, rfl, fun T c k => by rw [if_neg (fun q => by omega)]⟩
theorem DV.b {A : Nat → Int} {mo : Nat → Prop} {t0 c0 d0 i y : Nat} {v : Int} (h : DV A mo t0 c0 d0 i y v) : v = 1000000000 ∨ (0 ≤ v ∧ v ≤ 2 * (i : Int)) := by
  rcases h with ⟨h1, -⟩ | ⟨l, -, h1, h2, -⟩
  · exact Or.inl h1
  · have := Wy.le i _ _ l h2
    exact Or.inr (by omega)
theorem sofar_x {s m : XS} {w h : Nat} (L : Ld s (m 1 1) w h) {mo : Nat → Prop} {H0 hh c0 d0 : Nat} (W : LLo (m 1 1) mo (w * h) H0 hh m) (h60 : hh ≤ 60) (h240 : H0 + hh < 240) (hc0 : c0 < w * h) (hd0 : d0 < 4) : ∃ u, f_X12_laysSofar m (c0 : Int) (d0 : Int) (hh : Int) 0 = (u, 0) ∧ FrE u m ∧ ∀ i, i ≤ hh → ∀ y, y < 100 → DV (m 1 1) mo H0 c0 d0 i y (u 1 8 (100 * i + y)) := by
  have b25 := L.b25
  obtain ⟨v, v1, v2⟩ := sf_1 (a1 := (c0 : Int)) (a2 := (d0 : Int)) (hh := (hh : Int)) (Int.toNat (6100 - 0 + 1)) m 0 (by decide) (by omega) (by show 100 * ((hh : Int) + 1) - 0 < (6101 : Int); omega)
  have e0 : f_X12_laysSofar m (c0 : Int) (d0 : Int) (hh : Int) 0 = L1_X12_laysSofar (Int.toNat (6100 - 0 + 1)) m (c0 : Int) (d0 : Int) (hh : Int) 0 0 := rfl
  obtain ⟨v3, hv3⟩ : ∃ v3, v3 = xup v 1 8 (4 * c0 + d0) 0 := ⟨_, rfl⟩
  have e1 : g4_X12_laysSofar v (c0 : Int) (d0 : Int) (hh : Int) 0 = L7_X12_laysSofar (Int.toNat (60 - 0 + 1)) v3 (hh : Int) 0 0 := by
    simp only [g4_X12_laysSofar, g6w_X12_laysSofar, show Int.toNat ((4 * (c0 : Int)) + (d0 : Int)) = 4 * c0 + d0 by omega, ← hv3]
  rw [e0, v1, e1]
  have F3 : FrE v3 m := fun T c k q => by
    rw [hv3]
    have q2 : xup v 1 8 (4 * c0 + d0) 0 T c k = v T c k := if_neg (fun y => q ⟨y.1, y.2.1⟩)
    rw [q2, v2, if_neg (fun y => q ⟨y.1, y.2.1⟩)]
  have key : ∀ (n i : Nat) (y : XS), FrE y m → i ≤ hh → hh < i + n → (∀ i', i' ≤ i → ∀ z, z < 100 → DV (m 1 1) mo H0 c0 d0 i' z (y 1 8 (100 * i' + z))) → (∀ i', i < i' → i' ≤ hh → ∀ z, z < 100 → y 1 8 (100 * i' + z) = 1000000000) → ∃ u, L7_X12_laysSofar n y (hh : Int) 0 (i : Int) = (u, 0) ∧ FrE u m ∧ ∀ i', i' ≤ hh → ∀ z, z < 100 → DV (m 1 1) mo H0 c0 d0 i' z (u 1 8 (100 * i' + z)) := by
    intro n
    induction n with
    | zero => intro i y _ h1 h2; omega
    | succ n ih =>
      intro i y F h1 h2 D1 D2
      have e : L7_X12_laysSofar (n + 1) y (hh : Int) 0 (i : Int) = if i < hh then L12_X12_laysSofar (L7_X12_laysSofar n) (Int.toNat (100 - 0 + 1)) y (hh : Int) 0 (i : Int) 0 else (y, 0) := by
        show g8l_X12_laysSofar (L7_X12_laysSofar n) y (hh : Int) 0 (i : Int) = _
        simp only [g8l_X12_laysSofar, g9b_X12_laysSofar, g10_X12_laysSofar, g11_X12_laysSofar]
        by_cases z : i < hh
        · rw [if_pos z, if_pos (by omega)]
        · rw [if_neg z, if_neg (by omega)]
      rw [e]
      by_cases z : i < hh
      · rw [if_pos z]
        obtain ⟨u, u1, u2, u3, u4⟩ := sf_x L W z h60 (r := fun x => y 1 8 (100 * i + x)) (fun x hx => ((D1 i (Nat.le_refl _) x hx).b).elim Or.inl (fun q => Or.inr (by omega))) (R44 := L7_X12_laysSofar n) (Int.toNat (100 - 0 + 1)) 0 y F (fun _ _ => rfl) (fun x hx => Or.inl ⟨D2 (i + 1) (by omega) (by omega) x hx, fun l ⟨z', U, p1, _⟩ => by omega⟩) (by omega) (by show 4 * (w * h) < 0 + 101; omega)
        have u1' : L12_X12_laysSofar (L7_X12_laysSofar n) (Int.toNat (100 - 0 + 1)) y (hh : Int) 0 (i : Int) 0 = L7_X12_laysSofar n u (hh : Int) 0 ((i + 1 : Nat) : Int) := u1
        rw [u1']
        refine ih (i + 1) u u2 (by omega) (by omega) (fun i' hi' z' hz' => ?_) (fun i' hi' hi2 z' hz' => ?_)
        · by_cases q : i' = i + 1
          · rw [q]
            exact cd_wy L hc0 hd0 (fun x hx => D1 i (Nat.le_refl _) x hx) hz' (u3 z' hz') (by omega)
          · rw [u4 _ (by omega)]
            exact D1 i' (by omega) z' hz'
        · rw [u4 _ (by omega)]
          exact D2 i' (by omega) hi2 z' hz'
      · rw [if_neg z]
        exact ⟨y, rfl, F, fun i' hi' => D1 i' (by omega)⟩
  refine key (Int.toNat (60 - 0 + 1)) 0 v3 F3 (by omega) (by show hh < 0 + 61; omega) (fun i' hi' z hz => ?_) (fun i' hi' hi2 z hz => ?_)
  · have i0 : i' = 0 := by omega
    subst i0
    by_cases q : z = 4 * c0 + d0
    · subst q
      rw [hv3, Nat.mul_zero, Nat.zero_add, xup_s]
      exact Or.inr ⟨0, by decide, rfl, ⟨by omega, by omega, rfl⟩, fun l' q => by omega⟩
    · rw [hv3, xup_k (by omega), v2, if_pos ⟨rfl, rfl, by omega, by omega⟩]
      refine Or.inl ⟨rfl, fun l W' => q ?_⟩
      obtain ⟨w1, w2, -⟩ := W'
      omega
  · rw [hv3, xup_k (by omega), v2, if_pos ⟨rfl, rfl, by omega, by omega⟩]
/-! the soonest: the reference -/
theorem least_x {m : XS} {A : Nat → Int} {mo : Nat → Prop} {H0 c0 d0 i c : Nat} (D : ∀ y, y < 100 → DV A mo H0 c0 d0 i y (m 1 8 (100 * i + y))) (hc : c < 25) : ∃ v, f_X12_leastAt m (i : Int) (c : Int) = (m, v) ∧ LsV (fun l => ∃ d, d < 4 ∧ Wy A mo H0 c0 d0 i c d l) v := by
  have st : ∀ (n d : Nat) (x : Int), d < 4 → L1_X12_leastAt (n + 1) m (i : Int) (c : Int) x (d : Int) = L1_X12_leastAt n m (i : Int) (c : Int) (min x (m 1 8 (100 * i + (4 * c + d)))) ((d + 1 : Nat) : Int) := fun n d x hd => by
    show g2l_X12_leastAt (L1_X12_leastAt n) m (i : Int) (c : Int) x (d : Int) = _
    simp only [g2l_X12_leastAt, g3b_X12_leastAt, g5_X12_leastAt, g6c_X12_leastAt, lesser_x, show Int.toNat (((100 * (i : Int)) + (4 * (c : Int))) + (d : Int)) = 100 * i + (4 * c + d) by omega]
    rw [if_pos (by omega)]
    rfl
  have key : ∀ (n d : Nat) (x : Int), d ≤ 4 → 4 < d + n → LsV (fun l => ∃ e, e < d ∧ Wy A mo H0 c0 d0 i c e l) x → ∃ v, L1_X12_leastAt n m (i : Int) (c : Int) x (d : Int) = (m, v) ∧ LsV (fun l => ∃ d, d < 4 ∧ Wy A mo H0 c0 d0 i c d l) v := by
    intro n
    induction n with
    | zero => intro d x h1 h2; omega
    | succ n ih =>
      intro d x h1 h2 Lx
      by_cases z : d < 4
      · rw [st n d x z]
        refine ih (d + 1) _ (by omega) (by omega) ?_
        have Dd := D (4 * c + d) (by omega)
        unfold DV at Dd
        rw [show (4 * c + d) / 4 = c by omega, show (4 * c + d) % 4 = d by omega] at Dd
        rcases Dd with ⟨a1, a2⟩ | ⟨l, a0, a1, a2, a3⟩
        · rw [a1]
          have xb : x ≤ 1000000000 := by
            rcases Lx with ⟨b1, -⟩ | ⟨l', b0, b1, -⟩
            · omega
            · omega
          rw [show min x 1000000000 = x by omega]
          refine Lx.iff (fun l => ?_)
          constructor
          · rintro ⟨e, q1, q2⟩
            exact ⟨e, by omega, q2⟩
          · rintro ⟨e, q1, q2⟩
            by_cases y : e = d
            · subst y
              exact absurd q2 (a2 l)
            · exact ⟨e, by omega, q2⟩
        · rw [a1]
          rcases Lx with ⟨b1, b2⟩ | ⟨l', b0, b1, b2, b3⟩
          · rw [b1, show min (1000000000 : Int) (l : Int) = (l : Int) by omega]
            refine Or.inr ⟨l, a0, rfl, ⟨d, by omega, a2⟩, fun l2 q1 q2 => ?_⟩
            obtain ⟨e, q3, q4⟩ := q2
            by_cases y : e = d
            · subst y
              exact a3 l2 q1 q4
            · exact b2 l2 ⟨e, by omega, q4⟩
          · by_cases y : l' ≤ l
            · rw [b1, show min (l' : Int) (l : Int) = (l' : Int) by omega]
              obtain ⟨e, q3, q4⟩ := b2
              refine Or.inr ⟨l', b0, rfl, ⟨e, by omega, q4⟩, fun l2 q1 q2 => ?_⟩
              obtain ⟨e', q5, q6⟩ := q2
              by_cases y' : e' = d
              · subst y'
                exact a3 l2 (by omega) q6
              · exact b3 l2 q1 ⟨e', by omega, q6⟩
            · rw [b1, show min (l' : Int) (l : Int) = (l : Int) by omega]
              refine Or.inr ⟨l, a0, rfl, ⟨d, by omega, a2⟩, fun l2 q1 q2 => ?_⟩
              obtain ⟨e', q5, q6⟩ := q2
              by_cases y' : e' = d
              · subst y'
                exact a3 l2 q1 q6
              · exact b3 l2 (by omega) ⟨e', by omega, q6⟩
      · have d4 : d = 4 := by omega
        subst d4
        refine ⟨x, ?_, Lx⟩
        show g2l_X12_leastAt (L1_X12_leastAt n) m (i : Int) (c : Int) x ((4 : Nat) : Int) = _
        simp only [g2l_X12_leastAt, g3b_X12_leastAt, g4_X12_leastAt]
        rw [if_neg (by decide)]
  exact key 5 0 1000000000 (by decide) (by decide) (Or.inl ⟨rfl, fun l ⟨e, q, _⟩ => by omega⟩)
theorem soon_x {m : XS} {A : Nat → Int} {mo : Nat → Prop} {H0 c0 d0 c k : Nat} (D : ∀ i, i ≤ 60 → ∀ y, y < 100 → DV A mo H0 c0 d0 i y (m 1 8 (100 * i + y))) (hc : c < 25) (hk : k ≤ 120) : ∃ r, f_X12_soonestBy m (c : Int) (k : Int) = (m, r) ∧ FstW A mo H0 c0 d0 k c 60 r := by
  have key : ∀ (n i : Nat), i ≤ 61 → 61 < i + n → (∀ i', i' < i → NoW A mo H0 c0 d0 k c i') → ∃ r, L1_X12_soonestBy n m (c : Int) (k : Int) (i : Int) = (m, r) ∧ FstW A mo H0 c0 d0 k c 60 r := by
    intro n
    induction n with
    | zero => intro i h1 h2; omega
    | succ n ih =>
      intro i h1 h2 hno
      by_cases z : 60 < i
      · refine ⟨-1, ?_, Or.inl ⟨rfl, fun i' hi => hno i' (by omega)⟩⟩
        show g2l_X12_soonestBy (L1_X12_soonestBy n) m (c : Int) (k : Int) (i : Int) = _
        simp only [g2l_X12_soonestBy, g3b_X12_soonestBy, g4_X12_soonestBy]
        rw [if_pos (by omega)]
      · obtain ⟨v, v1, v2⟩ := least_x (D i (by omega)) hc
        have e : L1_X12_soonestBy (n + 1) m (c : Int) (k : Int) (i : Int) = if (k : Int) < v then L1_X12_soonestBy n m (c : Int) (k : Int) ((i + 1 : Nat) : Int) else (m, (i : Int)) := by
          show g2l_X12_soonestBy (L1_X12_soonestBy n) m (c : Int) (k : Int) (i : Int) = _
          simp only [g2l_X12_soonestBy, g3b_X12_soonestBy, g5_X12_soonestBy, g6c_X12_soonestBy, g7b_X12_soonestBy, g8_X12_soonestBy, g9_X12_soonestBy, v1]
          rw [if_neg (by omega)]
          rfl
        rw [e]
        rcases v2 with ⟨a1, a2⟩ | ⟨l, a0, a1, a2, a3⟩
        · rw [if_pos (by omega)]
          refine ih (i + 1) (by omega) (by omega) (fun i' hi => ?_)
          by_cases q : i' = i
          · subst q
            exact fun l d _ hd W => a2 l ⟨d, hd, W⟩
          · exact hno i' (by omega)
        · by_cases y : (k : Int) < v
          · rw [if_pos y]
            refine ih (i + 1) (by omega) (by omega) (fun i' hi => ?_)
            by_cases q : i' = i
            · subst q
              exact fun l' d hl hd W => a3 l' (by omega) ⟨d, hd, W⟩
            · exact hno i' (by omega)
          · rw [if_neg y]
            obtain ⟨d, d1, d2⟩ := a2
            exact ⟨(i : Int), rfl, Or.inr ⟨i, by omega, rfl, fun q => q l d (by omega) d1 d2, hno⟩⟩
  exact key (Int.toNat (61 - 0 + 1)) 0 (by decide) (by decide) (fun i' q => absurd q (by omega))
