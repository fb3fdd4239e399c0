/-! codes of a law: the reference's list l, the class's trl l -/
def tc1 (a : Int) : List Int := if a < 3000 then [a] else if a = 3008 then [0, 2003] else [a - 1000]
def trl : List Int → List Int
  | [] => []
  | a :: l => tc1 a ++ trl l
theorem tr_app : ∀ (l r : List Int), trl (l ++ r) = trl l ++ trl r
  | [], r => rfl
  | a :: l, r => by
    show tc1 a ++ trl (l ++ r) = (tc1 a ++ trl l) ++ trl r
    rw [tr_app l r, List.append_assoc]
/-- the types on the stack: true a truth, false a number -/
def tyf (st : List Bool) (a : Int) : Option (List Bool) :=
  if a < 3000 then (if 0 ≤ a ∧ a ≤ 1005 then some (false :: st) else none)
  else if a = 3008 then (match st with | true :: r => some (true :: r) | _ => none)
  else match st with
    | x :: y :: r => if a ≤ 3002 then (if x = false ∧ y = false then some (false :: r) else none) else if a ≤ 3005 then (if x = false ∧ y = false then some (true :: r) else none) else if a ≤ 3007 ∧ x = true ∧ y = true then some (true :: r) else none
    | _ => none
def tyl : List Int → List Bool → Option (List Bool)
  | [], st => some st
  | a :: l, st => (tyf st a).bind (tyl l)
theorem tyl_app : ∀ (l r : List Int) (st : List Bool), tyl (l ++ r) st = (tyl l st).bind (tyl r)
  | [], r, st => rfl
  | a :: l, r, st => by
    show (tyf st a).bind (tyl (l ++ r)) = ((tyf st a).bind (tyl l)).bind (tyl r)
    rw [Option.bind_assoc]
    congr 1
    funext z
    exact tyl_app l r z
/-- which names stand in it -/
def nmf (v a : Int) : Int := if 1000 ≤ a ∧ a ≤ 1005 then Xior v (Xishl 1 (a - 1000)) else v
def nms (l : List Int) : Int := l.foldl nmf 0
theorem nms_app (l : List Int) (a : Int) : nms (l ++ [a]) = nmf (nms l) a := by
  unfold nms; rw [List.foldl_append]; rfl
def CL (s : XS) (L : Nat) (l : List Int) : Prop := s 0 L 3 = (l.length : Int) ∧ s 0 L 4 = nms l ∧ ∀ k, k < l.length → s 1 (L + 1) k = l.getD k 0
def CM (m : XS) (F : Int) (l : List Int) : Prop := m 1 4 873 = F + (l.length : Int) ∧ 0 ≤ F ∧ ∀ k, k < l.length → m 1 4 (874 + F.toNat + k) = l.getD k 0
theorem getD_app {l r : List Int} {k : Nat} (h : k < l.length) : (l ++ r).getD k 0 = l.getD k 0 := by
  rw [List.getD_eq_getElem?_getD, List.getD_eq_getElem?_getD, List.getElem?_append_left h]
theorem getD_end {l : List Int} {a : Int} : (l ++ [a]).getD l.length 0 = a := by
  rw [List.getD_eq_getElem?_getD, List.getElem?_append_right (Nat.le_refl _), Nat.sub_self]; rfl
/-! add, codes -/
def FrC (L : Nat) (s u : XS) : Prop := ∀ t c k, ¬ (t = 0 ∧ c = 77 ∧ 4 ≤ k ∧ k ≤ 9) → c ≠ L → c ≠ L + 1 → u t c k = s t c k
abbrev tkM (k : Nat) : Prop := k = 6 ∨ k = 7 ∨ (9 ≤ k ∧ k ≤ 12)
def FrM (F : Int) (m v : XS) : Prop := ∀ t c k, ¬ (t = 0 ∧ c = 0 ∧ tkM k) → ¬ (t = 1 ∧ c = 4 ∧ (k = 873 ∨ 874 + F.toNat ≤ k)) → v t c k = m t c k
theorem FrC.rf {L : Nat} {s : XS} : FrC L s s := fun _ _ _ _ _ _ => rfl
theorem FrC.tr {L : Nat} {a b c : XS} (h : FrC L a b) (g : FrC L b c) : FrC L a c := fun t i k q1 q2 q3 => (g t i k q1 q2 q3).trans (h t i k q1 q2 q3)
theorem FrM.rf {F : Int} {m : XS} : FrM F m m := fun _ _ _ _ _ => rfl
theorem FrM.tr {F : Int} {a b c : XS} (h : FrM F a b) (g : FrM F b c) : FrM F a c := fun t i k q1 q2 => (g t i k q1 q2).trans (h t i k q1 q2)
theorem FrC_put {L : Nat} {s : XS} {x : Nat → Int} (h : ∀ k, ¬ (4 ≤ k ∧ k ≤ 9) → x k = s 0 77 k) : FrC L s (pO 77 s x) := fun t c k q1 _ _ => by
  unfold pO
  by_cases e : t = 0 ∧ c = 77
  · rw [if_pos e, e.1, e.2]; exact h k (fun q => q1 ⟨e.1, e.2, q⟩)
  · rw [if_neg e]
theorem failS_fr {a : Int} {x : Nat → Int} : ∀ k, ¬ (4 ≤ k ∧ k ≤ 9) → failS a x k = x k := by
  intro k hk
  unfold failS
  split
  · rw [upI_n (by omega), upI_n (by omega), upI_n (by omega)]
  · rw [upI_n (by omega)]
theorem advN_fr {a : Int} {x : Nat → Int} : ∀ k, ¬ (4 ≤ k ∧ k ≤ 9) → advN a x k = x k := by
  intro k hk
  unfold advN
  split
  · exact failS_fr k hk
  · rfl
theorem advS_fr {T : Nat → Int} {x : Nat → Int} : ∀ k, ¬ (4 ≤ k ∧ k ≤ 9) → advS T x k = x k := by
  intro k hk
  unfold advS advT
  (repeat' split) <;> (try rfl) <;> (try rw [failS_fr k hk]) <;> (try rw [advN_fr k hk]) <;> repeat (rw [upI_n (by omega)])
theorem failM_fr {a : Int} {x : Nat → Int} : ∀ k, ¬ tkM k → failM a x k = x k := by
  intro k hk
  unfold failM
  split
  · rw [upI_n (by omega), upI_n (by omega)]
  · rfl
theorem nxM_fr {U : Nat → Int} {x : Nat → Int} : ∀ k, ¬ tkM k → nxM U x k = x k := by
  intro k hk
  unfold nxM nxT
  (repeat' split) <;> repeat (rw [upI_n (by omega)])
theorem FrM_put {F : Int} {m : XS} {x : Nat → Int} (h : ∀ k, ¬ tkM k → x k = m 0 0 k) : FrM F m (pO 0 m x) := fun t c k q1 _ => by
  unfold pO
  by_cases e : t = 0 ∧ c = 0
  · rw [if_pos e, e.1, e.2]; exact h k (fun q => q1 ⟨e.1, e.2, q⟩)
  · rw [if_neg e]
theorem add_fr (s : XS) (L : Nat) (a : Int) : (∀ t c k, c ≠ L → c ≠ L + 1 → (f_X4_add s L a).1 t c k = s t c k) := by
  intro t c k h1 h2
  simp only [f_X4_add, g1b_X4_add, g2_X4_add, g3_X4_add, g4b_X4_add, g5_X4_add, g6_X4_add, g7b_X4_add, g8_X4_add, g9_X4_add, g10w_X4_add, g11w_X4_add, g12w_X4_add, g13b_X4_add, g14_X4_add, g15_X4_add, g16b_X4_add, g17_X4_add, g18_X4_add, g19w_X4_add]
  (repeat' split) <;> (try rfl) <;> simp only [xup, h1, h2, and_false, false_and, if_false]
theorem add_x {s : XS} {L : Nat} {l : List Int} (h : CL s L l) (a : Int) (hb : (l.length : Int) < 900) : CL (f_X4_add s L a).1 L (l ++ [a]) := by
  obtain ⟨h1, h2, h3⟩ := h
  have e : (f_X4_add s L a).1 = if 1000 ≤ a ∧ a ≤ 1005 then xup (xup (xup s 1 (L + 1) (Int.toNat (s 0 L 3)) a) 0 L 3 (s 0 L 3 + 1)) 0 L 4 (Xior (s 0 L 4) (Xishl 1 (a - 1000))) else xup (xup s 1 (L + 1) (Int.toNat (s 0 L 3)) a) 0 L 3 (s 0 L 3 + 1) := by
    simp only [f_X4_add, g1b_X4_add, g2_X4_add, g3_X4_add, g4b_X4_add, g5_X4_add, g6_X4_add, g7b_X4_add, g8_X4_add, g9_X4_add, g10w_X4_add, g11w_X4_add, g12w_X4_add, g13b_X4_add, g14_X4_add, g15_X4_add, g16b_X4_add, g17_X4_add, g18_X4_add, g19w_X4_add]
    rw [if_pos (show s 0 L 3 < 900 by omega)]
    have e1 : (xup s 1 (L + 1) (Int.toNat (s 0 L 3)) a) 0 L 3 = s 0 L 3 := xup_t (by decide)
    have e2 : (xup (xup s 1 (L + 1) (Int.toNat (s 0 L 3)) a) 0 L 3 ((xup s 1 (L + 1) (Int.toNat (s 0 L 3)) a) 0 L 3 + 1)) 0 L 4 = s 0 L 4 := by rw [xup_k (by decide), xup_t (by decide)]
    by_cases c : 1000 ≤ a ∧ a ≤ 1005
    · rw [if_pos c, if_neg (by omega), if_neg (by omega)]
      rw [e2, e1]
    · rw [if_neg c]
      by_cases c2 : a < 1000
      · rw [if_pos c2]; simp only [e1]
      · rw [if_neg c2, if_pos (by omega)]; simp only [e1]
  have hk : Int.toNat (s 0 L 3) = l.length := by omega
  rw [hk] at e
  refine ⟨?_, ?_, fun k hk2 => ?_⟩
  · rw [e, List.length_append]
    split
    · rw [xup_k (by decide), xup_s, h1]; rfl
    · rw [xup_s, h1]; rfl
  · rw [e, nms_app]
    unfold nmf
    split
    · rw [xup_s, h2]
    · rw [xup_k (by decide), xup_t (by decide), h2]
  · have z : (f_X4_add s L a).1 1 (L + 1) k = (xup s 1 (L + 1) l.length a) 1 (L + 1) k := by
      rw [e]; split
      · rw [xup_t (by decide), xup_t (by decide)]
      · rw [xup_t (by decide)]
    rw [z]
    rw [List.length_append] at hk2
    have hk2 : k < l.length + 1 := hk2
    by_cases q : k = l.length
    · rw [q, xup_s, getD_end]
    · rw [xup_k q, getD_app (by omega)]
      exact h3 k (by omega)
theorem codes_fr (F : Int) (h0 : 0 ≤ F) (m : XS) (a : Int) (hN : F ≤ m 1 4 873) : FrM F m (f_X12_codes m a).1 ∧ F ≤ (f_X12_codes m a).1 1 4 873 ∧ (f_X12_codes m a).1 0 0 = m 0 0 := by
  simp only [f_X12_codes, g1b_X12_codes, g2_X12_codes, g3_X12_codes, g4w_X12_codes, g5w_X12_codes]
  have e7 : Int.toNat 873 = 873 := rfl
  rw [e7]
  by_cases c : m 0 0 11 = 0
  · rw [if_pos c]
    have hk : (873 : Nat) ≠ Int.toNat (874 + m 1 4 873) := by omega
    have e1 : (xup m 1 4 (Int.toNat (874 + m 1 4 873)) a) 1 4 873 = m 1 4 873 := xup_k hk
    refine ⟨fun t c' k q1 q2 => ?_, ?_, ?_⟩
    · show (xup (xup m 1 4 (Int.toNat (874 + m 1 4 873)) a) 1 4 873 _) t c' k = m t c' k
      unfold xup
      rw [if_neg (fun z => q2 ⟨z.1, z.2.1, by omega⟩), if_neg (fun z => q2 ⟨z.1, z.2.1, by omega⟩)]
    · show F ≤ (xup (xup m 1 4 (Int.toNat (874 + m 1 4 873)) a) 1 4 873 ((xup m 1 4 (Int.toNat (874 + m 1 4 873)) a) 1 4 873 + 1)) 1 4 873
      rw [xup_s, e1]; omega
    · funext k
      dsimp only
      rw [xup_t (by decide), xup_t (by decide)]
  · rw [if_neg c]
    exact ⟨FrM.rf, hN, rfl⟩
theorem codes_x {m : XS} {F : Int} {l : List Int} (h : CM m F l) (a : Int) (h0 : m 0 0 11 = 0) : CM (f_X12_codes m a).1 F (l ++ [a]) := by
  obtain ⟨h1, h2, h3⟩ := h
  have e7 : Int.toNat 873 = 873 := rfl
  have hk : (873 : Nat) ≠ Int.toNat (874 + m 1 4 873) := by omega
  have e1 : (xup m 1 4 (Int.toNat (874 + m 1 4 873)) a) 1 4 873 = m 1 4 873 := xup_k hk
  have e : (f_X12_codes m a).1 = xup (xup m 1 4 (Int.toNat (874 + m 1 4 873)) a) 1 4 873 (m 1 4 873 + 1) := by
    simp only [f_X12_codes, g1b_X12_codes, g2_X12_codes, g3_X12_codes, g4w_X12_codes, g5w_X12_codes]
    rw [e7, if_pos h0, e1]
  rw [e]
  refine ⟨?_, h2, fun k hk2 => ?_⟩
  · rw [xup_s, h1, List.length_append]
    show F + (l.length : Int) + 1 = F + ((l.length + 1 : Nat) : Int)
    omega
  · rw [xup_k (by omega)]
    rw [List.length_append] at hk2
    have hk2 : k < l.length + 1 := hk2
    have hq : Int.toNat (874 + m 1 4 873) = 874 + F.toNat + l.length := by omega
    rw [hq]
    by_cases q : k = l.length
    · rw [q, xup_s, getD_end]
    · rw [xup_k (by omega), getD_app (by omega)]
      exact h3 k (by omega)
/-! bounds of the token -/
theorem skP_bd {T : Nat → Int} {n : Int} : ∀ (k : Nat) (p : Int), p ≤ skP T n k p ∧ (p ≤ n → skP T n k p ≤ n)
  | 0, p => ⟨Int.le_refl _, id⟩
  | k + 1, p => by
    unfold skP
    split
    · rename_i c
      have q := skP_bd (T := T) (n := n) k (p + 1)
      exact ⟨by omega, fun _ => q.2 (by omega)⟩
    · exact ⟨Int.le_refl _, id⟩
theorem rnP_bd {T : Nat → Int} {n lo hi : Int} : ∀ (k : Nat) (p : Int), p ≤ rnP T n lo hi k p ∧ (p ≤ n → rnP T n lo hi k p ≤ n)
  | 0, p => ⟨Int.le_refl _, id⟩
  | k + 1, p => by
    unfold rnP
    split
    · rename_i c
      have q := rnP_bd (T := T) (n := n) (lo := lo) (hi := hi) k (p + 1)
      exact ⟨by omega, fun _ => q.2 (by omega)⟩
    · exact ⟨Int.le_refl _, id⟩
theorem nu_bd {T : Nat → Int} {n p : Int} : ∀ (f : Nat) (b v : Int), ((b - p = 0 ∧ v = 0) ∨ (b - p = 1 ∧ 0 ≤ v ∧ v ≤ 9) ∨ (b - p = 2 ∧ 0 ≤ v ∧ v ≤ 99) ∨ (b - p = 3 ∧ 0 ≤ v ∧ v ≤ 999)) → rnP T n 48 57 f b - p ≤ 3 → 0 ≤ nuP T n f b v ∧ nuP T n f b v ≤ 999
  | 0, b, v, hb, hr => by
    show 0 ≤ v ∧ v ≤ 999
    omega
  | f + 1, b, v, hb, hr => by
    unfold nuP
    by_cases c : b < n ∧ (48 ≤ T b.toNat ∧ T b.toNat ≤ 57)
    · have r := rn_ge (T := T) (n := n) (lo := 48) (hi := 57) f (b + 1)
      have e : rnP T n 48 57 (f + 1) b = rnP T n 48 57 f (b + 1) := by
        conv => lhs; unfold rnP
        rw [if_pos c]
      rw [e] at hr
      rw [if_pos c, nxt_small (by omega) (by omega) c.2.1 c.2.2]
      exact nu_bd f (b + 1) _ (by omega) hr
    · rw [if_neg c]
      omega
theorem num_bd {T : Nat → Int} {n p : Int} (hr : run T n 48 57 p - p ≤ 3) : 0 ≤ num T n p 0 ∧ num T n p 0 ≤ 999 := nu_bd _ p 0 (by omega) hr
def Bd (x : Nat → Int) : Prop := 0 ≤ x 5 ∧ x 5 ≤ x 6 ∧ x 6 ≤ x 3 ∧ x 3 ≤ 900 ∧ (x 4 ≠ 0 → x 5 < x 6) ∧ (x 4 = 2 → 0 ≤ x 7 ∧ x 7 ≤ 999)
theorem fail_58 {k : Int} {x : Nat → Int} : failS k x 3 = x 3 ∧ failS k x 5 = x 5 ∧ failS k x 6 = x 6 ∧ failS k x 4 = 0 := by
  unfold failS
  split
  · exact ⟨rfl, rfl, rfl, rfl⟩
  · exact ⟨rfl, rfl, rfl, rfl⟩
theorem Bd.adv {T : Nat → Int} {x : Nat → Int} (h8 : x 8 = 0) (h : Bd x) : Bd (advS T x) ∧ x 6 ≤ advS T x 5 := by
  obtain ⟨b1, b2, b3, b4, -, -⟩ := h
  unfold advS
  rw [if_pos h8]
  have q := skP_bd (T := T) (n := x 3) (901 - x 6).toNat (x 6)
  have e : skP T (x 3) (901 - x 6).toNat (x 6) = skip T (x 3) (x 6) := rfl
  rw [e] at q
  generalize skip T (x 3) (x 6) = p at q ⊢
  unfold advT
  split
  · exact ⟨⟨by show 0 ≤ p; omega, Int.le_refl _, by show p ≤ x 3; omega, b4, fun z => absurd rfl z, fun z => by have z : (0 : Int) = 2 := z; omega⟩, q.1⟩
  · rename_i c0
    split
    · rename_i c1
      have r := rnP_bd (T := T) (n := x 3) (lo := 97) (hi := 122) (901 - (p + 1)).toNat (p + 1)
      have e2 : rnP T (x 3) 97 122 (901 - (p + 1)).toNat (p + 1) = run T (x 3) 97 122 p := run_s (by omega) rfl ⟨by omega, c1⟩
      rw [e2] at r
      exact ⟨⟨by show 0 ≤ p; omega, by show p ≤ run T (x 3) 97 122 p; omega, by show run T (x 3) 97 122 p ≤ x 3; omega, b4, fun _ => by show p < run T (x 3) 97 122 p; omega, fun z => by have z : (1 : Int) = 2 := z; omega⟩, q.1⟩
    · split
      · rename_i c2
        have r := rnP_bd (T := T) (n := x 3) (lo := 48) (hi := 57) (901 - (p + 1)).toNat (p + 1)
        have e2 : rnP T (x 3) 48 57 (901 - (p + 1)).toNat (p + 1) = run T (x 3) 48 57 p := run_s (by omega) rfl ⟨by omega, c2⟩
        rw [e2] at r
        unfold advN
        split
        · obtain ⟨f3, f5, f6, f4⟩ := fail_58 (k := 1) (x := upI (upI (upI (upI (upI (upI x 5 p) 6 p) 4 2) 7 0) 7 (num T (x 3) p 0)) 6 (run T (x 3) 48 57 p))
          unfold Bd
          rw [f3, f5, f6, f4]
          exact ⟨⟨by show 0 ≤ p; omega, by show p ≤ run T (x 3) 48 57 p; omega, by show run T (x 3) 48 57 p ≤ x 3; omega, b4, fun z => absurd rfl z, fun z => by have z : (0 : Int) = 2 := z; omega⟩, q.1⟩
        · exact ⟨⟨by show 0 ≤ p; omega, by show p ≤ run T (x 3) 48 57 p; omega, by show run T (x 3) 48 57 p ≤ x 3; omega, b4, fun _ => by show p < run T (x 3) 48 57 p; omega, fun _ => num_bd (by rename_i c3; omega)⟩, q.1⟩
      · split
        · rename_i c3
          exact ⟨⟨by show 0 ≤ p; omega, by show p ≤ p + 1; omega, by show p + 1 ≤ x 3; omega, b4, fun _ => by show p < p + 1; omega, fun z => by have z : T p.toNat = 2 := z; omega⟩, q.1⟩
        · obtain ⟨f3, f5, f6, f4⟩ := fail_58 (k := 1) (x := upI (upI x 5 p) 6 p)
          unfold Bd
          rw [f3, f5, f6, f4]
          exact ⟨⟨by show 0 ≤ p; omega, Int.le_refl _, by show p ≤ x 3; omega, b4, fun z => absurd rfl z, fun z => by have z : (0 : Int) = 2 := z; omega⟩, q.1⟩
/-! the relation of the two stores while a law is read -/
def Okc (w : WW) (L : Nat) (F : Int) (l : List Int) (p : Int) (s m : XS) : Prop := Ok w (s 0 77) (m 0 0) ∧ s 0 77 5 = m 0 0 6 ∧ Kk (s 1 78) (s 0 77) (m 0 0) ∧ Bd (s 0 77) ∧ CL s L (trl l) ∧ CM m F l ∧ ((trl l).length : Int) + p ≤ s 0 77 5
def Rx (w : WW) (L : Nat) (F : Int) (l : List Int) (p : Int) (s m : XS) : Prop := Okc w L F l p s m ∨ Dead (s 0 77) (m 0 0)
def Ev (L : Nat) (F : Int) (s m : XS) : Prop := Sb (s 1 78) (m 1 3) ∧ s 3 77 10 = (L : Int) ∧ (L = 21 ∨ L = 25) ∧ F ≤ m 1 4 873 ∧ 0 ≤ F
/-- l is what was there, g what has come behind it -/
def Go (w : WW) (L : Nat) (F : Int) (l : List Int) (p k : Int) (P : List Int → Prop) (s m u v : XS) : Prop := FrC L s u ∧ FrM F m v ∧ F ≤ v 1 4 873 ∧ ((∃ d, P d ∧ Okc w L F (l ++ d) p u v ∧ s 0 77 5 + k ≤ u 0 77 5) ∨ Dead (u 0 77) (v 0 0))
/-- how high the stack stands at most while the class works a law out -/
def hgm : List Int → Nat → Nat
  | [], n => n
  | a :: l, n => if a < 3000 then hgm l (n + 1) else if a = 3008 then max (n + 1) (hgm l n) else max n (hgm l (n - 1))
theorem hgm_le : ∀ (l : List Int) (n : Nat), n ≤ hgm l n
  | [], n => Nat.le_refl _
  | a :: l, n => by
    unfold hgm
    split
    · have := hgm_le l (n + 1); omega
    · split
      · omega
      · omega
theorem hgm_c (a : Int) (l : List Int) (n : Nat) : hgm (a :: l) n = if a < 3000 then hgm l (n + 1) else if a = 3008 then max (n + 1) (hgm l n) else max n (hgm l (n - 1)) := rfl
theorem hgm_app : ∀ (l r : List Int) (st st' : List Bool), tyl l st = some st' → hgm (l ++ r) st.length = max (hgm l st.length) (hgm r st'.length)
  | [], r, st, st', h => by
    have h : some st = some st' := h
    cases h
    have := hgm_le r st.length
    show hgm r st.length = max st.length (hgm r st.length)
    omega
  | a :: l, r, st, st', h => by
    have h2 : (tyf st a).bind (tyl l) = some st' := h
    obtain ⟨s1, h3, h4⟩ := Option.bind_eq_some_iff.mp h2
    have ih := hgm_app l r s1 st' h4
    show hgm (a :: (l ++ r)) st.length = _
    rw [hgm_c a (l ++ r), hgm_c a l]
    unfold tyf at h3
    by_cases c1 : a < 3000
    · rw [if_pos c1] at h3
      rw [if_pos c1, if_pos c1]
      split at h3
      · cases h3
        exact ih
      · cases h3
    · rw [if_neg c1] at h3
      rw [if_neg c1, if_neg c1]
      by_cases c2 : a = 3008
      · rw [if_pos c2] at h3
        rw [if_pos c2, if_pos c2]
        split at h3
        · cases h3
          simp only [List.length_cons] at ih ⊢
          rw [ih]
          omega
        · cases h3
      · rw [if_neg c2] at h3
        rw [if_neg c2, if_neg c2]
        have e : s1.length = st.length - 1 := by
          split at h3
          · (repeat' split at h3) <;> first | (cases h3; done) | (cases h3; simp)
          · cases h3
        rw [← e, ih]
        omega
def Num (b : Bool) (H : Nat) (d : List Int) : Prop := ∀ st, tyl d st = some (b :: st) ∧ hgm d st.length ≤ st.length + H
def Bin (b : Bool) (H : Nat) (d : List Int) : Prop := ∀ st, tyl d (b :: st) = some (b :: st) ∧ hgm d (st.length + 1) ≤ st.length + 1 + H
theorem Num.le {b : Bool} {H H' : Nat} {d : List Int} (hH : H ≤ H') (h : Num b H d) : Num b H' d := fun st => ⟨(h st).1, by have := (h st).2; omega⟩
theorem hg1 {st st' : List Bool} {a : Int} (h : tyf st a = some st') : hgm [a] st.length ≤ max (st.length + 1) st'.length := by
  unfold hgm
  split
  · unfold hgm
    omega
  · split
    · unfold hgm
      omega
    · unfold hgm
      omega
theorem Rx.rk {w : WW} {L : Nat} {F : Int} {l : List Int} {p : Int} {s m : XS} (h : Rx w L F l p s m) : Rk (s 1 78) w (s 0 77) (m 0 0) := by
  rcases h with h | h
  · exact Or.inl ⟨h.1, h.2.1, h.2.2.1⟩
  · exact Or.inr h
theorem Rx.ok {w : WW} {L : Nat} {F : Int} {l : List Int} {p : Int} {s m : XS} (h : Rx w L F l p s m) (h1 : m 0 0 11 = 0) (h2 : m 0 0 9 ≠ 25) : Okc w L F l p s m := by
  rcases h with h | ⟨h8, h4, hD⟩
  · exact h
  · exfalso; omega
theorem Ev.fr {L : Nat} {F : Int} {s m u v : XS} (h : Ev L F s m) (h1 : FrC L s u) (h2 : FrM F m v) (h3 : F ≤ v 1 4 873) : Ev L F u v := by
  obtain ⟨e1, e2, e3, e4, e5⟩ := h
  have a1 : u 1 78 = s 1 78 := funext fun k => h1 1 78 k (by omega) (by omega) (by omega)
  have a2 : v 1 3 = m 1 3 := funext fun k => h2 1 3 k (by omega) (by omega)
  have a3 : u 3 77 10 = s 3 77 10 := h1 3 77 10 (by omega) (by omega) (by omega)
  exact ⟨by rw [a1, a2]; exact e1, by rw [a3]; exact e2, e3, h3, e5⟩
theorem X_fail {w : WW} {L : Nat} {F : Int} {l : List Int} {p kk : Int} {s m : XS} {P : List Int → Prop} {k : Int} (hk : k ≠ 0) (E : Ev L F s m) (h : Rx w L F l p s m) : Go w L F l p kk P s m (f_X5_fail s k).1 (f_X12_fails m k).1 := by
  rw [fail_x, fails_x]
  refine ⟨FrC_put failS_fr, FrM_put failM_fr, by show F ≤ pO 0 m (failM k (m 0 0)) 1 4 873; rw [put_1]; exact E.2.2.2.1, Or.inr ?_⟩
  have q := R_fail (k := k) hk h.rk
  show Dead (pO 77 s (failS k (s 0 77)) 0 77) (pO 0 m (failM k (m 0 0)) 0 0)
  rw [put_at, put_at]
  rcases q with ⟨⟨q, -⟩, -⟩ | q
  · exfalso
    unfold failS at q
    split at q
    · exact hk q
    · rename_i c; exact c q
  · exact q
theorem CL_put {s : XS} {x : Nat → Int} {L : Nat} {l : List Int} (hL : L = 21 ∨ L = 25) (h : CL s L l) : CL (pO 77 s x) L l := by
  have e : ∀ t k, ¬ (t = 0 ∧ L = 77) := fun t k => by omega
  obtain ⟨h1, h2, h3⟩ := h
  refine ⟨?_, ?_, fun k hk => ?_⟩
  · rw [put_n (by omega)]; exact h1
  · rw [put_n (by omega)]; exact h2
  · rw [put_1]; exact h3 k hk
theorem CM_put {m : XS} {x : Nat → Int} {F : Int} {l : List Int} (h : CM m F l) : CM (pO 0 m x) F l := by
  unfold CM
  rw [put_1]
  exact h
theorem X_adv {w : WW} {L : Nat} {F : Int} {l : List Int} {p q : Int} {s m : XS} (E : Ev L F s m) (h : Okc w L F l p s m) (hq : ((trl l).length : Int) + q ≤ s 0 77 6) : FrC L s (f_X5_advance s).1 ∧ FrM F m (f_X12_next m).1 ∧ F ≤ (f_X12_next m).1 1 4 873 ∧ Rx w L F l q (f_X5_advance s).1 (f_X12_next m).1 ∧ s 0 77 6 ≤ (f_X5_advance s).1 0 77 5 := by
  obtain ⟨k1, k2, k3, k4, k5, k6, k7⟩ := h
  have k8 := k1.2.2.1
  have k9 := k1.2.2.2.1
  obtain ⟨b1, b2, b3, b4, b5, b6⟩ := k4
  have hT : ∀ j, -128 ≤ s 1 78 j ∧ s 1 78 j ≤ 127 := fun j => by have := E.1 j; omega
  rw [adv_x s b4 ⟨by omega, by omega⟩ hT, nxt_m m (by omega) ⟨by omega, by omega⟩]
  have r := R_adv0 E.1 k1
  have b := Bd.adv (T := s 1 78) k1.1 ⟨b1, b2, b3, b4, b5, b6⟩
  refine ⟨FrC_put advS_fr, FrM_put nxM_fr, by show F ≤ pO 0 m (nxM (m 1 3) (m 0 0)) 1 4 873; rw [put_1]; exact E.2.2.2.1, ?_, by show s 0 77 6 ≤ pO 77 s (advS (s 1 78) (s 0 77)) 0 77 5; rw [put_at]; exact b.2⟩
  show Rx w L F l q (pO 77 s (advS (s 1 78) (s 0 77))) (pO 0 m (nxM (m 1 3) (m 0 0)))
  unfold Rx Okc
  rw [put_at, put_at, put_1]
  rcases r with ⟨r1, r2, r3⟩ | r
  · exact Or.inl ⟨r1, r2, r3, b.1, CL_put E.2.2.1 k5, CM_put k6, by have := b.2; omega⟩
  · exact Or.inr r
/-- one code more in both -/
theorem X_code {w : WW} {L : Nat} {F : Int} {l : List Int} {p q : Int} {s m : XS} {a c : Int} (E : Ev L F s m) (hc : tc1 a = [c]) (h : Rx w L F l p s m) (hz : Okc w L F l p s m → (((trl l).length : Nat) : Int) < 900) (hq : q + 1 ≤ p) : FrC L s (f_X4_add s (Int.toNat (s 3 77 10)) c).1 ∧ FrM F m (f_X12_codes m a).1 ∧ F ≤ (f_X12_codes m a).1 1 4 873 ∧ Rx w L F (l ++ [a]) q (f_X4_add s (Int.toNat (s 3 77 10)) c).1 (f_X12_codes m a).1 ∧ (f_X4_add s (Int.toNat (s 3 77 10)) c).1 0 77 = s 0 77 := by
  have eL : Int.toNat (s 3 77 10) = L := by have := E.2.1; omega
  rw [eL]
  have g := add_fr s L c
  have f := codes_fr F E.2.2.2.2 m a E.2.2.2.1
  have hL := E.2.2.1
  have e77 : (f_X4_add s L c).1 0 77 = s 0 77 := funext fun k => g 0 77 k (by omega) (by omega)
  have e78 : (f_X4_add s L c).1 1 78 = s 1 78 := funext fun k => g 1 78 k (by omega) (by omega)
  refine ⟨fun t c k _ q2 q3 => g t c k q2 q3, f.1, f.2.1, ?_, e77⟩
  unfold Rx Okc
  rw [e77, e78, f.2.2]
  rcases h with h | h
  · have z := hz h
    obtain ⟨k1, k2, k3, k4, k5, k6, k7⟩ := h
    have e : trl (l ++ [a]) = trl l ++ [c] := by
      rw [tr_app]
      show trl l ++ (tc1 a ++ []) = _
      rw [hc]; rfl
    refine Or.inl ⟨k1, k2, k3, k4, ?_, codes_x k6 a k1.2.1, ?_⟩
    · rw [e]
      exact add_x k5 c z
    · rw [e, List.length_append]
      show (((trl l).length + 1 : Nat) : Int) + q ≤ s 0 77 5
      omega
  · exact Or.inr h
