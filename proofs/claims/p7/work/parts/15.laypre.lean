/-! rows for fill, clear, copy, lay -/
theorem fill_0 {x : Int32} {P : Nat → Prop} (h : x.toInt = 0) : ∀ k : Nat, (k : Int) < x.toInt → P k := fun k hk => absurd hk (by omega)
theorem fill_s {a b : va_W} {i : Nat} {x y v : Int32} (h : ∀ k : Nat, (k : Int) < x.toInt → aI a i k = v) (hu : UdA i x.toInt.toNat v a b) (h0 : 0 ≤ x.toInt) (e : y.toInt = x.toInt + 1) : ∀ k : Nat, (k : Int) < y.toInt → aI b i k = v := fun k hk => by
  by_cases q : k = x.toInt.toNat
  · rw [q]; exact hu.2.1
  · rw [hu.2.2 k q]; exact h k (by omega)
theorem fill_e {a : va_W} {i n : Nat} {x v : Int32} (h : ∀ k : Nat, (k : Int) < x.toInt → aI a i k = v) (hx : (n : Int) ≤ x.toInt) : ∀ k : Nat, k < n → aI a i k = v := fun k hk => h k (by omega)
theorem Ud.rf {i : Nat} {a : va_W} : Ud i a a := fun _ _ => rfl
theorem Ud.tr {i : Nat} {a b c : va_W} (h : Ud i a b) (g : Ud i b c) : Ud i a c := fun j hj => (g j hj).trans (h j hj)
theorem four {a b c d e : va_W} {i : Nat} {x0 x1 x2 x3 v0 v1 v2 v3 : Int32} (h0 : x0.toInt = 0) (h1 : x1.toInt = 1) (h2 : x2.toInt = 2) (h3 : x3.toInt = 3) (u0 : UdA i x0.toInt.toNat v0 a b) (u1 : UdA i x1.toInt.toNat v1 b c) (u2 : UdA i x2.toInt.toNat v2 c d) (u3 : UdA i x3.toInt.toNat v3 d e) (f : Nat → Int32) (e0 : v0 = f 0) (e1 : v1 = f 1) (e2 : v2 = f 2) (e3 : v3 = f 3) : (∀ k, k < 4 → aI e i k = f k) ∧ Ud i a e := by
  rw [h0] at u0
  rw [h1] at u1
  rw [h2] at u2
  rw [h3] at u3
  refine ⟨fun k hk => ?_, ((u0.1.tr u1.1).tr u2.1).tr u3.1⟩
  rcases (show k = 0 ∨ k = 1 ∨ k = 2 ∨ k = 3 by omega) with rfl | rfl | rfl | rfl
  · rw [u3.2.2 0 (by decide), u2.2.2 0 (by decide), u1.2.2 0 (by decide)]; exact u0.2.1.trans e0
  · rw [u3.2.2 1 (by decide), u2.2.2 1 (by decide)]; exact u1.2.1.trans e1
  · rw [u3.2.2 2 (by decide)]; exact u2.2.1.trans e2
  · exact u3.2.1.trans e3
theorem fcol_i {v y w : Int32} (h : v.toInt = 0) (g : y.toInt = 0) : v = fcol w y.toInt.toNat := by
  rw [g]; exact Int32.toInt_inj.mp h
theorem fcol_s {x4 x5 w one m t v y : Int32} (h : x4 = fcol w x5.toInt.toNat) (h1 : one.toInt = 1) (em : m = x5 * w) (et : t = one <<< (m &&& 31)) (ev : v = x4 ||| t) (e5 : y.toInt = x5.toInt + 1) (h0 : 0 ≤ x5.toInt) : v = fcol w y.toInt.toNat := by
  obtain rfl : one = 1 := Int32.toInt_inj.mp h1
  have e : y.toInt.toNat = x5.toInt.toNat + 1 := by omega
  rw [e, ev, et, em, h]
  show _ = fcol w x5.toInt.toNat ||| ((1 : Int32) <<< ((nI x5.toInt.toNat * w) &&& 31))
  rw [← (t_nn h0).1]
/-- Rel of the last world, out of what was written of one city between two worlds that else agree -/
theorem rel_lay3 {a b c d : va_W} {M N : List Nat} {i : Nat} {w h : Int32} (hR : Rel a) (hi : Kd SC i 1) (w0 : 2 ≤ w.toInt) (w1 : w.toInt ≤ 5) (h0 : 2 ≤ h.toInt) (h1 : h.toInt ≤ 5) (f1 : Fr SC M a b) (m1 : 14 ∉ M) (m2 : 15 ∉ M) (s1 : (∀ k, k < 4 → aI c (i + 17) k = laySt w h k) ∧ Ud (i + 17) b c) (s2 : (∀ k, k < 4 → aI d (i + 18) k = layDd w k) ∧ Ud (i + 18) c d) : Rel d := by
  have hR1 := hR.fr f1 m1 m2
  refine rel_lay hR1 hi w0 w1 h0 h1 (fun k hk => ?_) s2.1 (fun k hk hn => ?_) (fun k hk hn => ?_)
  · rw [aI_of (s2.2 (i + 17) (city17 hi hi).2.1)]; exact s1.1 k hk
  · rw [s2.2 (k + 17) (city17 hk hi).2.1, s1.2 (k + 17) (by omega)]
  · rw [s2.2 (k + 18) (by omega), s1.2 (k + 18) (city17 hk hi).2.2]
theorem rel_fill {a b c d e f : va_W} {M N : List Nat} {i : Nat} {v : Int32} (hR : Rel a) (hi : Kd SC i 1) (f1 : Fr SC M a b) (m1 : 14 ∉ M) (m2 : 15 ∉ M) (hv : v.toInt = 0) (s1 : (∀ k, k < 4 → aI c (i + 17) k = v) ∧ Ud (i + 17) b c) (s2 : Ud (i + 18) c d) (f2 : Fr SC N d e) (n1 : 14 ∉ N) (n2 : 15 ∉ N) : Rel e := by
  obtain rfl : v = 0 := Int32.toInt_inj.mp hv
  have hR1 := hR.fr f1 m1 m2
  refine Rel.fr ?_ f2 n1 n2
  refine rel_0 hR1 hi (fun k hk => ?_) (fun k hk hn => ?_) (fun k hk hn => ?_)
  · rw [aI_of (s2 (i + 17) (city17 hi hi).2.1)]; exact s1.1 k hk
  · rw [s2 (k + 17) (city17 hk hi).2.1, s1.2 (k + 17) (by omega)]
  · rw [s2 (k + 18) (by omega), s1.2 (k + 18) (city17 hk hi).2.2]
theorem rel_copy {a b c d e : va_W} {M N : List Nat} {i j : Nat} {x y : Int32} (hR : Rel a) (hi : Kd SC i 1) (hj : Kd SC j 1) (f1 : Fr SC M a b) (m1 : 14 ∉ M) (m2 : 15 ∉ M) (hx : x.toInt = 4) (hy : y.toInt = 4) (s1 : Ud (i + 17) b c) (e1 : ∀ k : Nat, (k : Int) < x.toInt → aI c (i + 17) k = aI b (j + 17) k) (s2 : Ud (i + 18) c d) (e2 : ∀ k : Nat, (k : Int) < y.toInt → aI d (i + 18) k = aI c (j + 18) k) (f2 : Fr SC N d e) (n1 : 14 ∉ N) (n2 : 15 ∉ N) : Rel e := by
  have hR1 := hR.fr f1 m1 m2
  refine Rel.fr ?_ f2 n1 n2
  refine rel_cp hR1 hi hj (fun k hk => ?_) (fun k hk => ?_) (fun k hk hn => ?_) (fun k hk hn => ?_)
  · rw [aI_of (s2 (i + 17) (city17 hi hi).2.1)]; exact e1 k (by omega)
  · rw [e2 k (by omega), aI_of (s1 (j + 18) (city17 hj hi).2.2)]
  · rw [s2 (k + 17) (city17 hk hi).2.1, s1 (k + 17) (by omega)]
  · rw [s2 (k + 18) (by omega), s1 (k + 18) (city17 hk hi).2.2]
