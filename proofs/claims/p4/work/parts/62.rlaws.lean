variable {tt : QQ}
/-! lines' parts and laws -/
def signS (T : Nat → Int) (c : Int) (s : Nat → Int) : Nat → Int := if s 4 = c then advS T s else failS 2 s
def bndS (T : Nat → Int) (lo hi : Int) (s : Nat → Int) : Nat → Int := if s 4 = 2 then (if s 7 < lo ∨ hi < s 7 then failS 3 s else advS T s) else failS 2 s
def bndV (lo hi : Int) (s : Nat → Int) : Int := if s 4 = 2 then (if s 7 < lo ∨ hi < s 7 then lo else s 7) else lo
def lpS (c : (Nat → Int) → Prop) [DecidablePred c] (b : (Nat → Int) → Nat → Int) : Nat → (Nat → Int) → Nat → Int
  | 0, s => s
  | k + 1, s => if c s then lpS c b k (b s) else s
theorem lp_0 {c : (Nat → Int) → Prop} [DecidablePred c] {b : (Nat → Int) → Nat → Int} {x : Int} {s : Nat → Int} (h : 900 ≤ x) : lpS c b (900 - x).toNat s = s := by
  rw [show (900 - x).toNat = 0 by omega]; rfl
theorem lp_e {c : (Nat → Int) → Prop} [DecidablePred c] {b : (Nat → Int) → Nat → Int} {x : Int} {s : Nat → Int} (hc : ¬ c s) : lpS c b (900 - x).toNat s = s := by
  cases (900 - x).toNat with
  | zero => rfl
  | succ k => unfold lpS; rw [if_neg hc]
theorem lp_s {c : (Nat → Int) → Prop} [DecidablePred c] {b : (Nat → Int) → Nat → Int} {x y : Int} {s : Nat → Int} (h0 : 0 ≤ x) (h : x < 900) (hy : y = x + 1) (hc : c s) : lpS c b (900 - y).toNat (b s) = lpS c b (900 - x).toNat s := by
  rw [show (900 - x).toNat = (900 - y).toNat + 1 by omega]
  conv => rhs; unfold lpS
  rw [if_pos hc]
def atomF (T : Nat → Int) (par : (Nat → Int) → Nat → Int) (s : Nat → Int) : Nat → Int :=
  if s 4 = 2 then advS T s
  else if s 4 = 40 then par s
  else if wI T 12 s = 1 ∨ wI T 13 s = 1 ∨ wI T 14 s = 1 ∨ wI T 15 s = 1 ∨ wI T 16 s = 1 ∨ wI T 17 s = 1 then advS T s
  else failS 2 s
def termL (T : Nat → Int) (a : (Nat → Int) → Nat → Int) (s : Nat → Int) : Nat → Int := lpS (fun s => s 4 = 42) (fun s => a (advS T s)) 900 (a s)
def sumL (T : Nat → Int) (a : (Nat → Int) → Nat → Int) (s : Nat → Int) : Nat → Int := lpS (fun s => s 4 = 43 ∨ s 4 = 45) (fun s => termL T a (advS T s)) 900 (termL T a s)
def atomD (T : Nat → Int) : Nat → (Nat → Int) → Nat → Int
  | 0 => atomF T (failS 4)
  | k + 1 => atomF T (fun s => signS T 41 (sumL T (atomD T k) (advS T s)))
def unitF (T : Nat → Int) (nt br sm : (Nat → Int) → Nat → Int) (s : Nat → Int) : Nat → Int :=
  if wI T 19 s = 1 then nt s
  else if s 4 = 91 then br s
  else if sm s 4 = 61 ∨ sm s 4 = 60 ∨ sm s 4 = 62 then sm (advS T (sm s))
  else failS 2 (sm s)
def bothL (T : Nat → Int) (u : (Nat → Int) → Nat → Int) (s : Nat → Int) : Nat → Int := lpS (fun s => wI T 20 s = 1) (fun s => u (advS T s)) 900 (u s)
def truthL (T : Nat → Int) (u : (Nat → Int) → Nat → Int) (s : Nat → Int) : Nat → Int := lpS (fun s => wI T 21 s = 1) (fun s => bothL T u (advS T s)) 900 (bothL T u s)
def unitD (T : Nat → Int) : Nat → (Nat → Int) → Nat → Int
  | 0 => unitF T (failS 4) (failS 4) (sumL T (atomD T 0))
  | k + 1 => unitF T (fun s => unitD T k (advS T s)) (fun s => signS T 93 (truthL T (unitD T k) (advS T s))) (sumL T (atomD T (k + 1)))
theorem atomD_0 {T : Nat → Int} : atomD T 0 = atomF T (failS 4) := rfl
theorem unitD_0 {T : Nat → Int} : unitD T 0 = unitF T (failS 4) (failS 4) (sumL T (atomD T 0)) := rfl
theorem atomD_1 {T : Nat → Int} : atomD T 1 = atomF T (fun s => signS T 41 (sumL T (atomD T 0) (advS T s))) := rfl
theorem unitD_1 {T : Nat → Int} : unitD T 1 = unitF T (fun s => unitD T 0 (advS T s)) (fun s => signS T 93 (truthL T (unitD T 0) (advS T s))) (sumL T (atomD T 1)) := rfl
theorem atomD_2 {T : Nat → Int} : atomD T 2 = atomF T (fun s => signS T 41 (sumL T (atomD T 1) (advS T s))) := rfl
theorem unitD_2 {T : Nat → Int} : unitD T 2 = unitF T (fun s => unitD T 1 (advS T s)) (fun s => signS T 93 (truthL T (unitD T 1) (advS T s))) (sumL T (atomD T 2)) := rfl
theorem atomD_3 {T : Nat → Int} : atomD T 3 = atomF T (fun s => signS T 41 (sumL T (atomD T 2) (advS T s))) := rfl
theorem unitD_3 {T : Nat → Int} : unitD T 3 = unitF T (fun s => unitD T 2 (advS T s)) (fun s => signS T 93 (truthL T (unitD T 2) (advS T s))) (sumL T (atomD T 3)) := rfl
theorem atomD_4 {T : Nat → Int} : atomD T 4 = atomF T (fun s => signS T 41 (sumL T (atomD T 3) (advS T s))) := rfl
theorem unitD_4 {T : Nat → Int} : unitD T 4 = unitF T (fun s => unitD T 3 (advS T s)) (fun s => signS T 93 (truthL T (unitD T 3) (advS T s))) (sumL T (atomD T 4)) := rfl
theorem atomD_5 {T : Nat → Int} : atomD T 5 = atomF T (fun s => signS T 41 (sumL T (atomD T 4) (advS T s))) := rfl
theorem unitD_5 {T : Nat → Int} : unitD T 5 = unitF T (fun s => unitD T 4 (advS T s)) (fun s => signS T 93 (truthL T (unitD T 4) (advS T s))) (sumL T (atomD T 5)) := rfl
theorem atomD_6 {T : Nat → Int} : atomD T 6 = atomF T (fun s => signS T 41 (sumL T (atomD T 5) (advS T s))) := rfl
theorem unitD_6 {T : Nat → Int} : unitD T 6 = unitF T (fun s => unitD T 5 (advS T s)) (fun s => signS T 93 (truthL T (unitD T 5) (advS T s))) (sumL T (atomD T 6)) := rfl
theorem o62_1 {x0 : Int} (h0 : x0 = 2) : x0 = 2 := by omega
theorem o62_2 {x0 x1 : Int} (h0 : 2 ≤ x0) (h1 : x0 ≤ 2) (h2 : x1 < x0) : 2 ≤ x0 := by omega
theorem o62_3 {x0 x1 : Int} (h0 : 2 ≤ x0) (h1 : x0 ≤ 2) (h2 : x1 < x0) : x0 ≤ 5 := by omega
theorem o62_4 {x0 : Int} (h0 : x0 = 3) : x0 = 3 := by omega
theorem o62_5 {x0 x1 x2 x3 x4 : Int} (h0 : 2 ≤ x1) (h1 : x1 ≤ 2) (h2 : 5 ≤ x2) (h3 : x2 ≤ 5) (h4 : x1 ≤ x3) (h5 : x4 = x3) (h6 : x4 ≤ x2) (h7 : x0 = x3) : 2 ≤ x0 := by omega
theorem o62_6 {x0 x1 x2 x3 x4 : Int} (h0 : 2 ≤ x1) (h1 : x1 ≤ 2) (h2 : 5 ≤ x2) (h3 : x2 ≤ 5) (h4 : x1 ≤ x3) (h5 : x4 = x3) (h6 : x4 ≤ x2) (h7 : x0 = x3) : x0 ≤ 5 := by omega
theorem o62_7 {x0 x1 x2 x3 : Int} (h0 : 2 ≤ x0) (h1 : x0 ≤ 2) (h2 : 5 ≤ x1) (h3 : x1 ≤ 5) (h4 : x0 ≤ x2) (h5 : x3 = x2) (h6 : x1 < x3) : 2 ≤ x0 := by omega
theorem o62_8 {x0 x1 x2 x3 : Int} (h0 : 2 ≤ x0) (h1 : x0 ≤ 2) (h2 : 5 ≤ x1) (h3 : x1 ≤ 5) (h4 : x0 ≤ x2) (h5 : x3 = x2) (h6 : x1 < x3) : x0 ≤ 5 := by omega
theorem o62_9 {x0 : Int} (h0 : 2 ≤ x0) (h1 : x0 ≤ 2) : 2 ≤ x0 := by omega
theorem o62_10 {x0 : Int} (h0 : 2 ≤ x0) (h1 : x0 ≤ 2) : x0 ≤ 5 := by omega
theorem o62_11 {x0 x1 : Int} (h0 : 0 ≤ x0) (h1 : x0 ≤ 0) (h2 : x1 < x0) : 0 ≤ x0 := by omega
theorem o62_12 {x0 x1 : Int} (h0 : 0 ≤ x0) (h1 : x0 ≤ 0) (h2 : x1 < x0) : x0 ≤ 3 := by omega
theorem o62_13 {x0 x1 x2 x3 x4 : Int} (h0 : 0 ≤ x1) (h1 : x1 ≤ 0) (h2 : 3 ≤ x2) (h3 : x2 ≤ 3) (h4 : x1 ≤ x3) (h5 : x4 = x3) (h6 : x4 ≤ x2) (h7 : x0 = x3) : 0 ≤ x0 := by omega
theorem o62_14 {x0 x1 x2 x3 x4 : Int} (h0 : 0 ≤ x1) (h1 : x1 ≤ 0) (h2 : 3 ≤ x2) (h3 : x2 ≤ 3) (h4 : x1 ≤ x3) (h5 : x4 = x3) (h6 : x4 ≤ x2) (h7 : x0 = x3) : x0 ≤ 3 := by omega
theorem o62_15 {x0 x1 x2 x3 : Int} (h0 : 0 ≤ x0) (h1 : x0 ≤ 0) (h2 : 3 ≤ x1) (h3 : x1 ≤ 3) (h4 : x0 ≤ x2) (h5 : x3 = x2) (h6 : x1 < x3) : 0 ≤ x0 := by omega
theorem o62_16 {x0 x1 x2 x3 : Int} (h0 : 0 ≤ x0) (h1 : x0 ≤ 0) (h2 : 3 ≤ x1) (h3 : x1 ≤ 3) (h4 : x0 ≤ x2) (h5 : x3 = x2) (h6 : x1 < x3) : x0 ≤ 3 := by omega
theorem o62_17 {x0 : Int} (h0 : 0 ≤ x0) (h1 : x0 ≤ 0) : 0 ≤ x0 := by omega
theorem o62_18 {x0 : Int} (h0 : 0 ≤ x0) (h1 : x0 ≤ 0) : x0 ≤ 3 := by omega
theorem o62_19 {x0 x1 : Int} (h0 : 0 ≤ x0) (h1 : x0 ≤ 0) (h2 : x1 < x0) : x0 ≤ 99 := by omega
theorem o62_20 {x0 x1 x2 x3 x4 : Int} (h0 : 0 ≤ x1) (h1 : x1 ≤ 0) (h2 : 99 ≤ x2) (h3 : x2 ≤ 99) (h4 : x1 ≤ x3) (h5 : x4 = x3) (h6 : x4 ≤ x2) (h7 : x0 = x3) : 0 ≤ x0 := by omega
theorem o62_21 {x0 x1 x2 x3 x4 : Int} (h0 : 0 ≤ x1) (h1 : x1 ≤ 0) (h2 : 99 ≤ x2) (h3 : x2 ≤ 99) (h4 : x1 ≤ x3) (h5 : x4 = x3) (h6 : x4 ≤ x2) (h7 : x0 = x3) : x0 ≤ 99 := by omega
theorem o62_22 {x0 x1 x2 x3 : Int} (h0 : 0 ≤ x0) (h1 : x0 ≤ 0) (h2 : 99 ≤ x1) (h3 : x1 ≤ 99) (h4 : x0 ≤ x2) (h5 : x3 = x2) (h6 : x1 < x3) : 0 ≤ x0 := by omega
theorem o62_23 {x0 x1 x2 x3 : Int} (h0 : 0 ≤ x0) (h1 : x0 ≤ 0) (h2 : 99 ≤ x1) (h3 : x1 ≤ 99) (h4 : x0 ≤ x2) (h5 : x3 = x2) (h6 : x1 < x3) : x0 ≤ 99 := by omega
theorem o62_24 {x0 : Int} (h0 : 0 ≤ x0) (h1 : x0 ≤ 0) : x0 ≤ 99 := by omega
theorem o62_25 {x0 x1 : Int} (h0 : 0 ≤ x0) (h1 : x0 ≤ 0) (h2 : x1 < x0) : x0 ≤ 999 := by omega
theorem o62_26 {x0 x1 x2 x3 x4 : Int} (h0 : 0 ≤ x1) (h1 : x1 ≤ 0) (h2 : 999 ≤ x2) (h3 : x2 ≤ 999) (h4 : x1 ≤ x3) (h5 : x4 = x3) (h6 : x4 ≤ x2) (h7 : x0 = x3) : 0 ≤ x0 := by omega
theorem o62_27 {x0 x1 x2 x3 x4 : Int} (h0 : 0 ≤ x1) (h1 : x1 ≤ 0) (h2 : 999 ≤ x2) (h3 : x2 ≤ 999) (h4 : x1 ≤ x3) (h5 : x4 = x3) (h6 : x4 ≤ x2) (h7 : x0 = x3) : x0 ≤ 999 := by omega
theorem o62_28 {x0 x1 x2 x3 : Int} (h0 : 0 ≤ x0) (h1 : x0 ≤ 0) (h2 : 999 ≤ x1) (h3 : x1 ≤ 999) (h4 : x0 ≤ x2) (h5 : x3 = x2) (h6 : x1 < x3) : 0 ≤ x0 := by omega
theorem o62_29 {x0 x1 x2 x3 : Int} (h0 : 0 ≤ x0) (h1 : x0 ≤ 0) (h2 : 999 ≤ x1) (h3 : x1 ≤ 999) (h4 : x0 ≤ x2) (h5 : x3 = x2) (h6 : x1 < x3) : x0 ≤ 999 := by omega
theorem o62_30 {x0 : Int} (h0 : 0 ≤ x0) (h1 : x0 ≤ 0) : x0 ≤ 999 := by omega
theorem o62_31 {x0 x1 : Int} (h0 : 0 ≤ x0) (h1 : x0 ≤ 0) (h2 : x1 < x0) : x0 ≤ 4 := by omega
theorem o62_32 {x0 x1 x2 x3 x4 : Int} (h0 : 0 ≤ x1) (h1 : x1 ≤ 0) (h2 : (-1) ≤ x2) (h3 : x2 ≤ 4) (h4 : x1 ≤ x3) (h5 : x4 = x3) (h6 : x4 ≤ x2) (h7 : x0 = x3) : 0 ≤ x0 := by omega
theorem o62_33 {x0 x1 x2 x3 x4 : Int} (h0 : 0 ≤ x1) (h1 : x1 ≤ 0) (h2 : (-1) ≤ x2) (h3 : x2 ≤ 4) (h4 : x1 ≤ x3) (h5 : x4 = x3) (h6 : x4 ≤ x2) (h7 : x0 = x3) : x0 ≤ 4 := by omega
theorem o62_34 {x0 x1 x2 x3 : Int} (h0 : 0 ≤ x0) (h1 : x0 ≤ 0) (h2 : (-1) ≤ x1) (h3 : x1 ≤ 4) (h4 : x0 ≤ x2) (h5 : x3 = x2) (h6 : x1 < x3) : 0 ≤ x0 := by omega
theorem o62_35 {x0 x1 x2 x3 : Int} (h0 : 0 ≤ x0) (h1 : x0 ≤ 0) (h2 : (-1) ≤ x1) (h3 : x1 ≤ 4) (h4 : x0 ≤ x2) (h5 : x3 = x2) (h6 : x1 < x3) : x0 ≤ 4 := by omega
theorem o62_36 {x0 : Int} (h0 : 0 ≤ x0) (h1 : x0 ≤ 0) : x0 ≤ 4 := by omega
theorem o62_37 {x0 x1 : Int} (h0 : 6 ≤ x0) (h1 : x0 ≤ 6) (h2 : x1 = 6) (h3 : x0 < x1) : False := by omega
theorem o62_38 {x0 : Int} (h0 : x0 = 1) : 1 ≤ x0 := by omega
theorem o62_39 {x0 : Int} (h0 : x0 = 1) : x0 ≤ 1 := by omega
theorem o62_40 {x0 : Int} (h0 : x0 = 4) : x0 = 4 := by omega
theorem o62_41 {x0 : Int} (h0 : x0 = 1) : 0 ≤ x0 := by omega
theorem o62_42 {x0 : Int} (h0 : x0 = (-1)) (h1 : 0 ≤ x0) : False := by omega
theorem o62_43 {x0 : Int} (h0 : x0 = 1005) (h1 : x0 < 0) : False := by omega
theorem o62_44 {x0 : Int} (h0 : x0 = 1004) (h1 : x0 < 0) : False := by omega
theorem o62_45 {x0 : Int} (h0 : x0 = 1003) (h1 : x0 < 0) : False := by omega
theorem o62_46 {x0 : Int} (h0 : x0 = 1002) (h1 : x0 < 0) : False := by omega
theorem o62_47 {x0 : Int} (h0 : x0 = 1001) (h1 : x0 < 0) : False := by omega
theorem o62_48 {x0 : Int} (h0 : x0 = 1000) (h1 : x0 < 0) : False := by omega
theorem o62_49 {x0 : Int} (h0 : 6 ≤ x0) (h1 : x0 ≤ 6) : 6 ≤ x0 := by omega
theorem o62_50 {x0 : Int} (h0 : 6 ≤ x0) (h1 : x0 ≤ 6) : x0 ≤ 6 := by omega
theorem o62_51 {x0 : Int} (h0 : 1 ≤ x0) (h1 : x0 ≤ 1) (h2 : x0 = 0) : False := by omega
theorem o62_52 {x0 : Int} (h0 : 0 ≤ x0) (h1 : x0 ≤ 900) (h2 : 900 - x0 < 0) : False := by omega
theorem o62_53 {x0 x2 : Int} {x1 : Nat} (h0 : 0 ≤ x0) (h1 : x0 ≤ 900) (h2 : 900 - x0 < ((x1 + 1 : Nat) : Int)) (h3 : x2 = 900) (h4 : x0 < x2) (h5 : -2147483648 ≤ x0) (h6 : x0 ≤ 2147483647) (h7 : -2147483648 ≤ x2) (h8 : x2 ≤ 2147483647) : -2147483648 ≤ x0 + 1 := by omega
theorem o62_54 {x0 x2 : Int} {x1 : Nat} (h0 : 0 ≤ x0) (h1 : x0 ≤ 900) (h2 : 900 - x0 < ((x1 + 1 : Nat) : Int)) (h3 : x2 = 900) (h4 : x0 < x2) (h5 : -2147483648 ≤ x0) (h6 : x0 ≤ 2147483647) (h7 : -2147483648 ≤ x2) (h8 : x2 ≤ 2147483647) : x0 + 1 ≤ 2147483647 := by omega
theorem o62_55 {x0 x2 x3 : Int} {x1 : Nat} (h0 : 0 ≤ x2) (h1 : x2 ≤ 900) (h2 : 900 - x2 < ((x1 + 1 : Nat) : Int)) (h3 : x3 = 900) (h4 : x2 < x3) (h5 : x0 = x2 + 1) : 900 - x0 < (x1 : Int) := by omega
theorem o62_56 {x0 x1 x3 : Int} {x2 : Nat} (h0 : 0 ≤ x1) (h1 : x1 ≤ 900) (h2 : 900 - x1 < ((x2 + 1 : Nat) : Int)) (h3 : x3 = 900) (h4 : x1 < x3) (h5 : x0 = x1 + 1) : 0 ≤ x0 := by omega
theorem o62_57 {x0 x1 x3 : Int} {x2 : Nat} (h0 : 0 ≤ x1) (h1 : x1 ≤ 900) (h2 : 900 - x1 < ((x2 + 1 : Nat) : Int)) (h3 : x3 = 900) (h4 : x1 < x3) (h5 : x0 = x1 + 1) : x0 ≤ 900 := by omega
theorem o62_58 {x0 : Int} (h0 : x0 = 0) : 900 - x0 < (((900 - x0 + 1).toNat : Nat) : Int) := by omega
theorem o62_59 {x0 : Int} (h0 : x0 = 0) : 0 ≤ x0 := by omega
theorem o62_60 {x0 : Int} (h0 : x0 = 0) : x0 ≤ 900 := by omega
theorem o62_61 {x0 x1 x2 x3 : Int} (h0 : x2 = 43) (h1 : x3 = x2) (h2 : x0 = x3) (h3 : x1 = 43) (h4 : ¬ x0 = x1) : False := by omega
theorem o62_62 {x0 x1 x2 x3 x4 x5 : Int} (h0 : x2 = 43) (h1 : ¬ x3 = x2) (h2 : x4 = x3) (h3 : x5 = 45) (h4 : x4 = x5) (h5 : x0 = x3) (h6 : x1 = 43) (h7 : x0 = x1) : False := by omega
theorem o62_63 {x0 : Int} (h0 : x0 = 2005) (h1 : x0 < 0) : False := by omega
theorem o62_64 {x0 : Int} (h0 : x0 = 2004) (h1 : x0 < 0) : False := by omega
theorem o62_65 {x0 : Int} (h0 : x0 = 2003) (h1 : x0 < 0) : False := by omega
theorem o62_66 {x0 x1 : Int} (h0 : 5 ≤ x0) (h1 : x0 ≤ 5) (h2 : x1 = 6) (h3 : x1 ≤ x0) : False := by omega
theorem o62_67 {x0 : Int} (h0 : x0 = 0) : x0 ≤ 0 := by omega
theorem o62_68 {x0 : Int} (h0 : x0 = 0) : x0 ≤ 1 := by omega
theorem o62_69 {x0 : Int} (h0 : 5 ≤ x0) (h1 : x0 ≤ 5) : 5 ≤ x0 := by omega
theorem o62_70 {x0 : Int} (h0 : 5 ≤ x0) (h1 : x0 ≤ 5) : x0 ≤ 5 := by omega
theorem o62_71 {x0 : Int} (h0 : 0 ≤ x0) (h1 : x0 ≤ 0) (h2 : ¬ x0 = 0) : False := by omega
theorem o62_72 {x0 x1 : Int} (h0 : 5 ≤ x0) (h1 : x0 ≤ 5) (h2 : x1 = 1) (h3 : -2147483648 ≤ x0) (h4 : x0 ≤ 2147483647) (h5 : -2147483648 ≤ x1) (h6 : x1 ≤ 2147483647) : -2147483648 ≤ x0 + x1 := by omega
theorem o62_73 {x0 x1 : Int} (h0 : 5 ≤ x0) (h1 : x0 ≤ 5) (h2 : x1 = 1) (h3 : -2147483648 ≤ x0) (h4 : x0 ≤ 2147483647) (h5 : -2147483648 ≤ x1) (h6 : x1 ≤ 2147483647) : x0 + x1 ≤ 2147483647 := by omega
theorem o62_74 {x0 x1 x2 : Int} (h0 : 5 ≤ x1) (h1 : x1 ≤ 5) (h2 : x2 = 1) (h3 : x0 = x1 + x2) : 6 ≤ x0 := by omega
theorem o62_75 {x0 x1 x2 : Int} (h0 : 5 ≤ x1) (h1 : x1 ≤ 5) (h2 : x2 = 1) (h3 : x0 = x1 + x2) : x0 ≤ 6 := by omega
theorem o62_76 {x0 : Int} (h0 : x0 = 41) : 0 ≤ x0 := by omega
theorem o62_77 {x0 : Int} (h0 : x0 = 41) : x0 ≤ 65535 := by omega
theorem o62_78 {x0 : Int} (h0 : x0 = 41) : x0 = 41 := by omega
theorem o62_79 {x0 : Int} (h0 : x0 = 93) : 0 ≤ x0 := by omega
theorem o62_80 {x0 : Int} (h0 : x0 = 93) : x0 ≤ 65535 := by omega
theorem o62_81 {x0 : Int} (h0 : x0 = 93) : x0 = 93 := by omega
theorem o62_82 {x0 x1 : Int} (h0 : 4 ≤ x0) (h1 : x0 ≤ 4) (h2 : x1 = 6) (h3 : x1 ≤ x0) : False := by omega
theorem o62_83 {x0 : Int} (h0 : 4 ≤ x0) (h1 : x0 ≤ 4) : 4 ≤ x0 := by omega
theorem o62_84 {x0 : Int} (h0 : 4 ≤ x0) (h1 : x0 ≤ 4) : x0 ≤ 4 := by omega
theorem o62_85 {x0 x1 : Int} (h0 : 4 ≤ x0) (h1 : x0 ≤ 4) (h2 : x1 = 1) (h3 : -2147483648 ≤ x0) (h4 : x0 ≤ 2147483647) (h5 : -2147483648 ≤ x1) (h6 : x1 ≤ 2147483647) : -2147483648 ≤ x0 + x1 := by omega
theorem o62_86 {x0 x1 : Int} (h0 : 4 ≤ x0) (h1 : x0 ≤ 4) (h2 : x1 = 1) (h3 : -2147483648 ≤ x0) (h4 : x0 ≤ 2147483647) (h5 : -2147483648 ≤ x1) (h6 : x1 ≤ 2147483647) : x0 + x1 ≤ 2147483647 := by omega
theorem o62_87 {x0 x1 x2 : Int} (h0 : 4 ≤ x1) (h1 : x1 ≤ 4) (h2 : x2 = 1) (h3 : x0 = x1 + x2) : 5 ≤ x0 := by omega
theorem o62_88 {x0 x1 x2 : Int} (h0 : 4 ≤ x1) (h1 : x1 ≤ 4) (h2 : x2 = 1) (h3 : x0 = x1 + x2) : x0 ≤ 5 := by omega
theorem o62_89 {x0 x1 : Int} (h0 : 3 ≤ x0) (h1 : x0 ≤ 3) (h2 : x1 = 6) (h3 : x1 ≤ x0) : False := by omega
theorem o62_90 {x0 : Int} (h0 : 3 ≤ x0) (h1 : x0 ≤ 3) : 3 ≤ x0 := by omega
theorem o62_91 {x0 : Int} (h0 : 3 ≤ x0) (h1 : x0 ≤ 3) : x0 ≤ 3 := by omega
theorem o62_92 {x0 x1 : Int} (h0 : 3 ≤ x0) (h1 : x0 ≤ 3) (h2 : x1 = 1) (h3 : -2147483648 ≤ x0) (h4 : x0 ≤ 2147483647) (h5 : -2147483648 ≤ x1) (h6 : x1 ≤ 2147483647) : -2147483648 ≤ x0 + x1 := by omega
theorem o62_93 {x0 x1 : Int} (h0 : 3 ≤ x0) (h1 : x0 ≤ 3) (h2 : x1 = 1) (h3 : -2147483648 ≤ x0) (h4 : x0 ≤ 2147483647) (h5 : -2147483648 ≤ x1) (h6 : x1 ≤ 2147483647) : x0 + x1 ≤ 2147483647 := by omega
theorem o62_94 {x0 x1 x2 : Int} (h0 : 3 ≤ x1) (h1 : x1 ≤ 3) (h2 : x2 = 1) (h3 : x0 = x1 + x2) : 4 ≤ x0 := by omega
theorem o62_95 {x0 x1 x2 : Int} (h0 : 3 ≤ x1) (h1 : x1 ≤ 3) (h2 : x2 = 1) (h3 : x0 = x1 + x2) : x0 ≤ 4 := by omega
theorem o62_96 {x0 x1 : Int} (h0 : 2 ≤ x0) (h1 : x0 ≤ 2) (h2 : x1 = 6) (h3 : x1 ≤ x0) : False := by omega
theorem o62_97 {x0 : Int} (h0 : 2 ≤ x0) (h1 : x0 ≤ 2) : x0 ≤ 2 := by omega
theorem o62_98 {x0 x1 : Int} (h0 : 2 ≤ x0) (h1 : x0 ≤ 2) (h2 : x1 = 1) (h3 : -2147483648 ≤ x0) (h4 : x0 ≤ 2147483647) (h5 : -2147483648 ≤ x1) (h6 : x1 ≤ 2147483647) : -2147483648 ≤ x0 + x1 := by omega
theorem o62_99 {x0 x1 : Int} (h0 : 2 ≤ x0) (h1 : x0 ≤ 2) (h2 : x1 = 1) (h3 : -2147483648 ≤ x0) (h4 : x0 ≤ 2147483647) (h5 : -2147483648 ≤ x1) (h6 : x1 ≤ 2147483647) : x0 + x1 ≤ 2147483647 := by omega
theorem o62_100 {x0 x1 x2 : Int} (h0 : 2 ≤ x1) (h1 : x1 ≤ 2) (h2 : x2 = 1) (h3 : x0 = x1 + x2) : 3 ≤ x0 := by omega
theorem o62_101 {x0 x1 x2 : Int} (h0 : 2 ≤ x1) (h1 : x1 ≤ 2) (h2 : x2 = 1) (h3 : x0 = x1 + x2) : x0 ≤ 3 := by omega
theorem o62_102 {x0 x1 : Int} (h0 : 1 ≤ x0) (h1 : x0 ≤ 1) (h2 : x1 = 6) (h3 : x1 ≤ x0) : False := by omega
theorem o62_103 {x0 : Int} (h0 : 1 ≤ x0) (h1 : x0 ≤ 1) : 1 ≤ x0 := by omega
theorem o62_104 {x0 : Int} (h0 : 1 ≤ x0) (h1 : x0 ≤ 1) : x0 ≤ 1 := by omega
theorem o62_105 {x0 x1 : Int} (h0 : 1 ≤ x0) (h1 : x0 ≤ 1) (h2 : x1 = 1) (h3 : -2147483648 ≤ x0) (h4 : x0 ≤ 2147483647) (h5 : -2147483648 ≤ x1) (h6 : x1 ≤ 2147483647) : -2147483648 ≤ x0 + x1 := by omega
theorem o62_106 {x0 x1 : Int} (h0 : 1 ≤ x0) (h1 : x0 ≤ 1) (h2 : x1 = 1) (h3 : -2147483648 ≤ x0) (h4 : x0 ≤ 2147483647) (h5 : -2147483648 ≤ x1) (h6 : x1 ≤ 2147483647) : x0 + x1 ≤ 2147483647 := by omega
theorem o62_107 {x0 x1 x2 : Int} (h0 : 1 ≤ x1) (h1 : x1 ≤ 1) (h2 : x2 = 1) (h3 : x0 = x1 + x2) : 2 ≤ x0 := by omega
theorem o62_108 {x0 x1 x2 : Int} (h0 : 1 ≤ x1) (h1 : x1 ≤ 1) (h2 : x2 = 1) (h3 : x0 = x1 + x2) : x0 ≤ 2 := by omega
theorem o62_109 {x0 x1 : Int} (h0 : 0 ≤ x0) (h1 : x0 ≤ 0) (h2 : x1 = 6) (h3 : x1 ≤ x0) : False := by omega
theorem o62_110 {x0 : Int} (h0 : 0 ≤ x0) (h1 : x0 ≤ 0) : x0 ≤ 0 := by omega
theorem o62_111 {x0 x1 : Int} (h0 : 0 ≤ x0) (h1 : x0 ≤ 0) (h2 : x1 = 1) (h3 : -2147483648 ≤ x0) (h4 : x0 ≤ 2147483647) (h5 : -2147483648 ≤ x1) (h6 : x1 ≤ 2147483647) : -2147483648 ≤ x0 + x1 := by omega
theorem o62_112 {x0 x1 : Int} (h0 : 0 ≤ x0) (h1 : x0 ≤ 0) (h2 : x1 = 1) (h3 : -2147483648 ≤ x0) (h4 : x0 ≤ 2147483647) (h5 : -2147483648 ≤ x1) (h6 : x1 ≤ 2147483647) : x0 + x1 ≤ 2147483647 := by omega
theorem o62_113 {x0 x1 x2 : Int} (h0 : 0 ≤ x1) (h1 : x1 ≤ 0) (h2 : x2 = 1) (h3 : x0 = x1 + x2) : 1 ≤ x0 := by omega
theorem o62_114 {x0 x1 x2 : Int} (h0 : 0 ≤ x1) (h1 : x1 ≤ 0) (h2 : x2 = 1) (h3 : x0 = x1 + x2) : x0 ≤ 1 := by omega
set_option maxHeartbeats 4000000 in
set_option maxRecDepth 100000 in
theorem c_X5_signS {T : Nat → Int} (l : Launch) (G : GG) (Z : RZ) (ad : Nat → Nat) (ws0 : va_W) (hT : Ty G (SC tt) ad ws0) (a1 : Int32) (l1 : 0 ≤ a1.toInt) (u1 : a1.toInt ≤ 65535) (hTp : Tp T ws0) : Mq l yX5_sign cX5_sign 2 none 6 G Z [.ref (ad 77), .int a1] ws0 (PV G (SC tt) ad [16] ws0 (fun u => (aF 77 u = signS T a1.toInt (aF 77 ws0)))) := by
  refine Mq.start (by decide) (Nat.le_of_ble_eq_true rfl) ?_
  intro p e s m below meth c A ls C0 hZ h hl
  have hl : lv_has ls 2 [(0, .ref (ad 77)), (1, .int a1)] := hl
  have h : Wt G (SC tt) ad A s s.heap [] ws0 := ⟨h, hT⟩
  obtain ⟨args, hargs⟩ : ∃ z, z = ([.ref (ad 77), .int a1] : List Value).toArray := ⟨_, rfl⟩
  rw [← hargs] at C0 ⊢
  have C0 : Cx p s m args meth c RX5 cX5_sign 2 none := C0
  obtain ⟨Q, hQ⟩ : ∃ z, z = MQ below ((PV G (SC tt) ad [16] ws0 (fun u => (aF 77 u = signS T a1.toInt (aF 77 ws0)))) A) args s 0 0 A := ⟨_, rfl⟩
  rw [← hQ]
  refine lv_aload_n C0.1 C0.2.1 dX5_sign_0 rfl (lv_at hl 0 rfl) ?_
  refine tg_X5_kind C0 h kSC_77 q_374 dX5_sign_1 (fun v_1 e_2 e_3 e_4 => ?_)
  refine lv_iload_n C0.1 C0.2.1 dX5_sign_4 rfl (lv_at hl 1 rfl) ?_
  refine y_icmp_ne (tgt := 15) C0 dX5_sign_5 (by decide) (fun c_5 => ?_) (fun c_5 => ?_)
  · -- 5
    refine lv_aload_n C0.1 C0.2.1 dX5_sign_15 rfl (lv_at hl 0 rfl) ?_
    refine y_c1 (n := 2) C0 (by decide) dX5_sign_16 (fun v_6 e_7 => ?_)
    refine y_cv h (y_rV (As := [.int v_6]) (rest := []) C0 hZ h (c_X5_failS l G Z ad _ h.2 v_6) k_X5_fail q_628 q_3 q_626 kSC_77 rfl rfl rfl hl.1 rfl rfl (Nat.le_of_ble_eq_true rfl) dX5_sign_17 ⟨Nat.le_of_ble_eq_true rfl, Nat.le_of_ble_eq_true rfl⟩ ⟨Nat.le_of_ble_eq_true rfl, Nat.le_of_ble_eq_true rfl⟩) (fun H locs ws_8 h u_9 p_10 => ?_)
    have e_11 := p_10
    have hv_12 : (aF 77 ws0) 4 = v_1.toInt := (aF_at (by decide) e_2)
    have hs_13 : aF 77 ws_8 = (failS 2 (aF 77 ws0)) := e_11.trans (by rw [(o62_1 e_7)])
    have hz_14 : (failS 2 (aF 77 ws0)) = signS T a1.toInt (aF 77 ws0) := by unfold signS; (repeat' split) <;> first | rfl | (exfalso; omega)
    rw [hQ]
    exact y_vret C0 h u_9 (Eq.trans hs_13 hz_14) dX5_sign_20
  · -- 5
    refine lv_aload_n C0.1 C0.2.1 dX5_sign_8 rfl (lv_at hl 0 rfl) ?_
    refine y_cv h (y_rV (As := []) (rest := []) C0 hZ h (c_X5_advanceS l G Z ad _ h.2 hTp) k_X5_advance q_616 q_0 q_614 kSC_77 rfl rfl rfl hl.1 rfl rfl (Nat.le_of_ble_eq_true rfl) dX5_sign_9 ⟨Nat.le_of_ble_eq_true rfl, Nat.le_of_ble_eq_true rfl⟩ ⟨Nat.le_of_ble_eq_true rfl, Nat.le_of_ble_eq_true rfl⟩) (fun H locs ws_15 h u_16 p_17 => ?_)
    have e_18 := p_17
    refine lv_goto (tgt := 20) C0.1 C0.2.1 dX5_sign_12 (by decide) ?_
    have hv_19 : (aF 77 ws0) 4 = v_1.toInt := (aF_at (by decide) e_2)
    have hs_20 : aF 77 ws_15 = (advS T (aF 77 ws0)) := e_18
    have hz_21 : (advS T (aF 77 ws0)) = signS T a1.toInt (aF 77 ws0) := by unfold signS; (repeat' split) <;> first | rfl | (exfalso; omega)
    rw [hQ]
    exact y_vret C0 h u_16 (Eq.trans hs_20 hz_21) dX5_sign_20
set_option maxHeartbeats 4000000 in
set_option maxRecDepth 100000 in
theorem c_X5_boundedaS {T : Nat → Int} (l : Launch) (G : GG) (Z : RZ) (ad : Nat → Nat) (ws0 : va_W) (hT : Ty G (SC tt) ad ws0) (a1 : Int32) (a2 : Int32) (l1 : 2 ≤ a1.toInt) (u1 : a1.toInt ≤ 2) (l2 : 5 ≤ a2.toInt) (u2 : a2.toInt ≤ 5) (hTp : Tp T ws0) : Mq l yX5_bounded cX5_bounded 4 (some .int) 6 G Z [.ref (ad 77), .int a1, .int a2] ws0 (PI G (SC tt) ad [16] ws0 (fun r u => (2 ≤ r.toInt) ∧ (r.toInt ≤ 5) ∧ (aF 77 u = bndS T a1.toInt a2.toInt (aF 77 ws0)) ∧ (r.toInt = bndV a1.toInt a2.toInt (aF 77 ws0)))) := by
  refine Mq.start (by decide) (Nat.le_of_ble_eq_true rfl) ?_
  intro p e s m below meth c A ls C0 hZ h hl
  have hl : lv_has ls 4 [(0, .ref (ad 77)), (1, .int a1), (2, .int a2)] := hl
  have h : Wt G (SC tt) ad A s s.heap [] ws0 := ⟨h, hT⟩
  obtain ⟨args, hargs⟩ : ∃ z, z = ([.ref (ad 77), .int a1, .int a2] : List Value).toArray := ⟨_, rfl⟩
  rw [← hargs] at C0 ⊢
  have C0 : Cx p s m args meth c RX5 cX5_bounded 4 (some .int) := C0
  obtain ⟨Q, hQ⟩ : ∃ z, z = MQ below ((PI G (SC tt) ad [16] ws0 (fun r u => (2 ≤ r.toInt) ∧ (r.toInt ≤ 5) ∧ (aF 77 u = bndS T a1.toInt a2.toInt (aF 77 ws0)) ∧ (r.toInt = bndV a1.toInt a2.toInt (aF 77 ws0)))) A) args s 0 0 A := ⟨_, rfl⟩
  rw [← hQ]
  refine lv_aload_n C0.1 C0.2.1 dX5_bounded_0 rfl (lv_at hl 0 rfl) ?_
  refine tg_X5_kind C0 h kSC_77 q_374 dX5_bounded_1 (fun v_1 e_2 e_3 e_4 => ?_)
  refine y_c1 (n := 2) C0 (by decide) dX5_bounded_4 (fun v_5 e_6 => ?_)
  refine y_icmp_eq (tgt := 15) C0 dX5_bounded_5 (by decide) (fun c_7 => ?_) (fun c_7 => ?_)
  · -- 5
    refine lv_aload_n C0.1 C0.2.1 dX5_bounded_15 rfl (lv_at hl 0 rfl) ?_
    refine tg_X5_number C0 h kSC_77 q_377 dX5_bounded_16 (fun v_8 e_9 e_10 e_11 => ?_)
    refine lv_iload_n C0.1 C0.2.1 dX5_bounded_19 rfl (lv_at hl 1 rfl) ?_
    refine y_icmp_lt (tgt := 31) C0 dX5_bounded_20 (by decide) (fun c_12 => ?_) (fun c_12 => ?_)
    · -- 20
      refine lv_aload_n C0.1 C0.2.1 dX5_bounded_31 rfl (lv_at hl 0 rfl) ?_
      refine y_c1 (n := 3) C0 (by decide) dX5_bounded_32 (fun v_13 e_14 => ?_)
      refine y_cv h (y_rV (As := [.int v_13]) (rest := []) C0 hZ h (c_X5_failS l G Z ad _ h.2 v_13) k_X5_fail q_628 q_3 q_626 kSC_77 rfl rfl rfl hl.1 rfl rfl (Nat.le_of_ble_eq_true rfl) dX5_bounded_33 ⟨Nat.le_of_ble_eq_true rfl, Nat.le_of_ble_eq_true rfl⟩ ⟨Nat.le_of_ble_eq_true rfl, Nat.le_of_ble_eq_true rfl⟩) (fun H locs ws_15 h u_16 p_17 => ?_)
      have e_18 := p_17
      refine lv_iload_n C0.1 C0.2.1 dX5_bounded_36 rfl (lv_at hl 1 rfl) ?_
      have hv_19 : (aF 77 ws0) 4 = v_1.toInt := (aF_at (by decide) e_2)
      have hv_20 : (aF 77 ws0) 7 = v_8.toInt := (aF_at (by decide) e_9)
      have hs_21 : aF 77 ws_15 = (failS 3 (aF 77 ws0)) := e_18.trans (by rw [(o62_4 e_14)])
      have hz_22 : (failS 3 (aF 77 ws0)) = bndS T a1.toInt a2.toInt (aF 77 ws0) := by unfold bndS; (repeat' split) <;> first | rfl | (exfalso; omega)
      have hs_23 : aF 77 ws_15 = (failS 3 (aF 77 ws0)) := e_18.trans (by rw [(o62_4 e_14)])
      rw [hQ]
      exact y_iret C0 h u_16 ⟨(o62_2 l1 u1 c_12), (o62_3 l1 u1 c_12), (Eq.trans hs_21 hz_22), (by unfold bndV; (repeat' split) <;> omega)⟩ dX5_bounded_37
    · -- 20
      refine lv_aload_n C0.1 C0.2.1 dX5_bounded_23 rfl (lv_at hl 0 rfl) ?_
      refine tg_X5_number C0 h kSC_77 q_377 dX5_bounded_24 (fun v_24 e_25 e_26 e_27 => ?_)
      have q_28 : v_24.toInt = v_8.toInt := congrArg Int32.toInt (e_25.symm.trans (Eq.trans rfl e_9))
      refine lv_iload_n C0.1 C0.2.1 dX5_bounded_27 rfl (lv_at hl 2 rfl) ?_
      refine y_icmp_le (tgt := 38) C0 dX5_bounded_28 (by decide) (fun c_29 => ?_) (fun c_29 => ?_)
      · -- 28
        refine lv_aload_n C0.1 C0.2.1 dX5_bounded_38 rfl (lv_at hl 0 rfl) ?_
        refine tg_X5_number C0 h kSC_77 q_377 dX5_bounded_39 (fun v_30 e_31 e_32 e_33 => ?_)
        have q_34 : v_30.toInt = v_8.toInt := congrArg Int32.toInt (e_31.symm.trans (Eq.trans rfl e_9))
        refine lv_istore_n (lv' := [(3, .int v_30), (0, .ref (ad 77)), (1, .int a1), (2, .int a2)]) C0.1 C0.2.1 dX5_bounded_42 rfl hl (by decide) rfl (fun ls hl => ?_)
        refine lv_aload_n C0.1 C0.2.1 dX5_bounded_43 rfl (lv_at hl 1 rfl) ?_
        refine y_cv h (y_rV (As := []) (rest := []) C0 hZ h (c_X5_advanceS l G Z ad _ h.2 hTp) k_X5_advance q_616 q_0 q_614 kSC_77 rfl rfl rfl hl.1 rfl rfl (Nat.le_of_ble_eq_true rfl) dX5_bounded_44 ⟨Nat.le_of_ble_eq_true rfl, Nat.le_of_ble_eq_true rfl⟩ ⟨Nat.le_of_ble_eq_true rfl, Nat.le_of_ble_eq_true rfl⟩) (fun H locs ws_35 h u_36 p_37 => ?_)
        have e_38 := p_37
        refine lv_iload_n C0.1 C0.2.1 dX5_bounded_47 rfl (lv_at hl 0 rfl) ?_
        have hv_39 : (aF 77 ws0) 4 = v_1.toInt := (aF_at (by decide) e_2)
        have hv_40 : (aF 77 ws0) 7 = v_8.toInt := (aF_at (by decide) e_9)
        have hv_41 : (aF 77 ws0) 7 = v_24.toInt := (aF_at (by decide) e_25)
        have hv_42 : (aF 77 ws0) 7 = v_30.toInt := (aF_at (by decide) e_31)
        have hs_43 : aF 77 ws_35 = (advS T (aF 77 ws0)) := e_38
        have hz_44 : (advS T (aF 77 ws0)) = bndS T a1.toInt a2.toInt (aF 77 ws0) := by unfold bndS; (repeat' split) <;> first | rfl | (exfalso; omega)
        have hs_45 : aF 77 ws_35 = (advS T (aF 77 ws0)) := e_38
        rw [hQ]
        exact y_iret C0 h u_36 ⟨(o62_5 l1 u1 l2 u2 c_12 q_28 c_29 q_34), (o62_6 l1 u1 l2 u2 c_12 q_28 c_29 q_34), (Eq.trans hs_43 hz_44), (by unfold bndV; (repeat' split) <;> omega)⟩ dX5_bounded_48
      · -- 28
        refine lv_aload_n C0.1 C0.2.1 dX5_bounded_31 rfl (lv_at hl 0 rfl) ?_
        refine y_c1 (n := 3) C0 (by decide) dX5_bounded_32 (fun v_46 e_47 => ?_)
        refine y_cv h (y_rV (As := [.int v_46]) (rest := []) C0 hZ h (c_X5_failS l G Z ad _ h.2 v_46) k_X5_fail q_628 q_3 q_626 kSC_77 rfl rfl rfl hl.1 rfl rfl (Nat.le_of_ble_eq_true rfl) dX5_bounded_33 ⟨Nat.le_of_ble_eq_true rfl, Nat.le_of_ble_eq_true rfl⟩ ⟨Nat.le_of_ble_eq_true rfl, Nat.le_of_ble_eq_true rfl⟩) (fun H locs ws_48 h u_49 p_50 => ?_)
        have e_51 := p_50
        refine lv_iload_n C0.1 C0.2.1 dX5_bounded_36 rfl (lv_at hl 1 rfl) ?_
        have hv_52 : (aF 77 ws0) 4 = v_1.toInt := (aF_at (by decide) e_2)
        have hv_53 : (aF 77 ws0) 7 = v_8.toInt := (aF_at (by decide) e_9)
        have hv_54 : (aF 77 ws0) 7 = v_24.toInt := (aF_at (by decide) e_25)
        have hs_55 : aF 77 ws_48 = (failS 3 (aF 77 ws0)) := e_51.trans (by rw [(o62_4 e_47)])
        have hz_56 : (failS 3 (aF 77 ws0)) = bndS T a1.toInt a2.toInt (aF 77 ws0) := by unfold bndS; (repeat' split) <;> first | rfl | (exfalso; omega)
        have hs_57 : aF 77 ws_48 = (failS 3 (aF 77 ws0)) := e_51.trans (by rw [(o62_4 e_47)])
        rw [hQ]
        exact y_iret C0 h u_49 ⟨(o62_7 l1 u1 l2 u2 c_12 q_28 c_29), (o62_8 l1 u1 l2 u2 c_12 q_28 c_29), (Eq.trans hs_55 hz_56), (by unfold bndV; (repeat' split) <;> omega)⟩ dX5_bounded_37
  · -- 5
    refine lv_aload_n C0.1 C0.2.1 dX5_bounded_8 rfl (lv_at hl 0 rfl) ?_
    refine y_c1 (n := 2) C0 (by decide) dX5_bounded_9 (fun v_58 e_59 => ?_)
    refine y_cv h (y_rV (As := [.int v_58]) (rest := []) C0 hZ h (c_X5_failS l G Z ad _ h.2 v_58) k_X5_fail q_628 q_3 q_626 kSC_77 rfl rfl rfl hl.1 rfl rfl (Nat.le_of_ble_eq_true rfl) dX5_bounded_10 ⟨Nat.le_of_ble_eq_true rfl, Nat.le_of_ble_eq_true rfl⟩ ⟨Nat.le_of_ble_eq_true rfl, Nat.le_of_ble_eq_true rfl⟩) (fun H locs ws_60 h u_61 p_62 => ?_)
    have e_63 := p_62
    refine lv_iload_n C0.1 C0.2.1 dX5_bounded_13 rfl (lv_at hl 1 rfl) ?_
    have hv_64 : (aF 77 ws0) 4 = v_1.toInt := (aF_at (by decide) e_2)
    have hs_65 : aF 77 ws_60 = (failS 2 (aF 77 ws0)) := e_63.trans (by rw [(o62_1 e_59)])
    have hz_66 : (failS 2 (aF 77 ws0)) = bndS T a1.toInt a2.toInt (aF 77 ws0) := by unfold bndS; (repeat' split) <;> first | rfl | (exfalso; omega)
    have hs_67 : aF 77 ws_60 = (failS 2 (aF 77 ws0)) := e_63.trans (by rw [(o62_1 e_59)])
    rw [hQ]
    exact y_iret C0 h u_61 ⟨(o62_9 l1 u1), (o62_10 l1 u1), (Eq.trans hs_65 hz_66), (by unfold bndV; (repeat' split) <;> omega)⟩ dX5_bounded_14
set_option maxHeartbeats 4000000 in
set_option maxRecDepth 100000 in
theorem c_X5_boundedcS {T : Nat → Int} (l : Launch) (G : GG) (Z : RZ) (ad : Nat → Nat) (ws0 : va_W) (hT : Ty G (SC tt) ad ws0) (a1 : Int32) (a2 : Int32) (l1 : 0 ≤ a1.toInt) (u1 : a1.toInt ≤ 0) (l2 : 3 ≤ a2.toInt) (u2 : a2.toInt ≤ 3) (hTp : Tp T ws0) : Mq l yX5_bounded cX5_bounded 4 (some .int) 6 G Z [.ref (ad 77), .int a1, .int a2] ws0 (PI G (SC tt) ad [16] ws0 (fun r u => (0 ≤ r.toInt) ∧ (r.toInt ≤ 3) ∧ (aF 77 u = bndS T a1.toInt a2.toInt (aF 77 ws0)) ∧ (r.toInt = bndV a1.toInt a2.toInt (aF 77 ws0)))) := by
  refine Mq.start (by decide) (Nat.le_of_ble_eq_true rfl) ?_
  intro p e s m below meth c A ls C0 hZ h hl
  have hl : lv_has ls 4 [(0, .ref (ad 77)), (1, .int a1), (2, .int a2)] := hl
  have h : Wt G (SC tt) ad A s s.heap [] ws0 := ⟨h, hT⟩
  obtain ⟨args, hargs⟩ : ∃ z, z = ([.ref (ad 77), .int a1, .int a2] : List Value).toArray := ⟨_, rfl⟩
  rw [← hargs] at C0 ⊢
  have C0 : Cx p s m args meth c RX5 cX5_bounded 4 (some .int) := C0
  obtain ⟨Q, hQ⟩ : ∃ z, z = MQ below ((PI G (SC tt) ad [16] ws0 (fun r u => (0 ≤ r.toInt) ∧ (r.toInt ≤ 3) ∧ (aF 77 u = bndS T a1.toInt a2.toInt (aF 77 ws0)) ∧ (r.toInt = bndV a1.toInt a2.toInt (aF 77 ws0)))) A) args s 0 0 A := ⟨_, rfl⟩
  rw [← hQ]
  refine lv_aload_n C0.1 C0.2.1 dX5_bounded_0 rfl (lv_at hl 0 rfl) ?_
  refine tg_X5_kind C0 h kSC_77 q_374 dX5_bounded_1 (fun v_1 e_2 e_3 e_4 => ?_)
  refine y_c1 (n := 2) C0 (by decide) dX5_bounded_4 (fun v_5 e_6 => ?_)
  refine y_icmp_eq (tgt := 15) C0 dX5_bounded_5 (by decide) (fun c_7 => ?_) (fun c_7 => ?_)
  · -- 5
    refine lv_aload_n C0.1 C0.2.1 dX5_bounded_15 rfl (lv_at hl 0 rfl) ?_
    refine tg_X5_number C0 h kSC_77 q_377 dX5_bounded_16 (fun v_8 e_9 e_10 e_11 => ?_)
    refine lv_iload_n C0.1 C0.2.1 dX5_bounded_19 rfl (lv_at hl 1 rfl) ?_
    refine y_icmp_lt (tgt := 31) C0 dX5_bounded_20 (by decide) (fun c_12 => ?_) (fun c_12 => ?_)
    · -- 20
      refine lv_aload_n C0.1 C0.2.1 dX5_bounded_31 rfl (lv_at hl 0 rfl) ?_
      refine y_c1 (n := 3) C0 (by decide) dX5_bounded_32 (fun v_13 e_14 => ?_)
      refine y_cv h (y_rV (As := [.int v_13]) (rest := []) C0 hZ h (c_X5_failS l G Z ad _ h.2 v_13) k_X5_fail q_628 q_3 q_626 kSC_77 rfl rfl rfl hl.1 rfl rfl (Nat.le_of_ble_eq_true rfl) dX5_bounded_33 ⟨Nat.le_of_ble_eq_true rfl, Nat.le_of_ble_eq_true rfl⟩ ⟨Nat.le_of_ble_eq_true rfl, Nat.le_of_ble_eq_true rfl⟩) (fun H locs ws_15 h u_16 p_17 => ?_)
      have e_18 := p_17
      refine lv_iload_n C0.1 C0.2.1 dX5_bounded_36 rfl (lv_at hl 1 rfl) ?_
      have hv_19 : (aF 77 ws0) 4 = v_1.toInt := (aF_at (by decide) e_2)
      have hv_20 : (aF 77 ws0) 7 = v_8.toInt := (aF_at (by decide) e_9)
      have hs_21 : aF 77 ws_15 = (failS 3 (aF 77 ws0)) := e_18.trans (by rw [(o62_4 e_14)])
      have hz_22 : (failS 3 (aF 77 ws0)) = bndS T a1.toInt a2.toInt (aF 77 ws0) := by unfold bndS; (repeat' split) <;> first | rfl | (exfalso; omega)
      have hs_23 : aF 77 ws_15 = (failS 3 (aF 77 ws0)) := e_18.trans (by rw [(o62_4 e_14)])
      rw [hQ]
      exact y_iret C0 h u_16 ⟨(o62_11 l1 u1 c_12), (o62_12 l1 u1 c_12), (Eq.trans hs_21 hz_22), (by unfold bndV; (repeat' split) <;> omega)⟩ dX5_bounded_37
    · -- 20
      refine lv_aload_n C0.1 C0.2.1 dX5_bounded_23 rfl (lv_at hl 0 rfl) ?_
      refine tg_X5_number C0 h kSC_77 q_377 dX5_bounded_24 (fun v_24 e_25 e_26 e_27 => ?_)
      have q_28 : v_24.toInt = v_8.toInt := congrArg Int32.toInt (e_25.symm.trans (Eq.trans rfl e_9))
      refine lv_iload_n C0.1 C0.2.1 dX5_bounded_27 rfl (lv_at hl 2 rfl) ?_
      refine y_icmp_le (tgt := 38) C0 dX5_bounded_28 (by decide) (fun c_29 => ?_) (fun c_29 => ?_)
      · -- 28
        refine lv_aload_n C0.1 C0.2.1 dX5_bounded_38 rfl (lv_at hl 0 rfl) ?_
        refine tg_X5_number C0 h kSC_77 q_377 dX5_bounded_39 (fun v_30 e_31 e_32 e_33 => ?_)
        have q_34 : v_30.toInt = v_8.toInt := congrArg Int32.toInt (e_31.symm.trans (Eq.trans rfl e_9))
        refine lv_istore_n (lv' := [(3, .int v_30), (0, .ref (ad 77)), (1, .int a1), (2, .int a2)]) C0.1 C0.2.1 dX5_bounded_42 rfl hl (by decide) rfl (fun ls hl => ?_)
        refine lv_aload_n C0.1 C0.2.1 dX5_bounded_43 rfl (lv_at hl 1 rfl) ?_
        refine y_cv h (y_rV (As := []) (rest := []) C0 hZ h (c_X5_advanceS l G Z ad _ h.2 hTp) k_X5_advance q_616 q_0 q_614 kSC_77 rfl rfl rfl hl.1 rfl rfl (Nat.le_of_ble_eq_true rfl) dX5_bounded_44 ⟨Nat.le_of_ble_eq_true rfl, Nat.le_of_ble_eq_true rfl⟩ ⟨Nat.le_of_ble_eq_true rfl, Nat.le_of_ble_eq_true rfl⟩) (fun H locs ws_35 h u_36 p_37 => ?_)
        have e_38 := p_37
        refine lv_iload_n C0.1 C0.2.1 dX5_bounded_47 rfl (lv_at hl 0 rfl) ?_
        have hv_39 : (aF 77 ws0) 4 = v_1.toInt := (aF_at (by decide) e_2)
        have hv_40 : (aF 77 ws0) 7 = v_8.toInt := (aF_at (by decide) e_9)
        have hv_41 : (aF 77 ws0) 7 = v_24.toInt := (aF_at (by decide) e_25)
        have hv_42 : (aF 77 ws0) 7 = v_30.toInt := (aF_at (by decide) e_31)
        have hs_43 : aF 77 ws_35 = (advS T (aF 77 ws0)) := e_38
        have hz_44 : (advS T (aF 77 ws0)) = bndS T a1.toInt a2.toInt (aF 77 ws0) := by unfold bndS; (repeat' split) <;> first | rfl | (exfalso; omega)
        have hs_45 : aF 77 ws_35 = (advS T (aF 77 ws0)) := e_38
        rw [hQ]
        exact y_iret C0 h u_36 ⟨(o62_13 l1 u1 l2 u2 c_12 q_28 c_29 q_34), (o62_14 l1 u1 l2 u2 c_12 q_28 c_29 q_34), (Eq.trans hs_43 hz_44), (by unfold bndV; (repeat' split) <;> omega)⟩ dX5_bounded_48
      · -- 28
        refine lv_aload_n C0.1 C0.2.1 dX5_bounded_31 rfl (lv_at hl 0 rfl) ?_
        refine y_c1 (n := 3) C0 (by decide) dX5_bounded_32 (fun v_46 e_47 => ?_)
        refine y_cv h (y_rV (As := [.int v_46]) (rest := []) C0 hZ h (c_X5_failS l G Z ad _ h.2 v_46) k_X5_fail q_628 q_3 q_626 kSC_77 rfl rfl rfl hl.1 rfl rfl (Nat.le_of_ble_eq_true rfl) dX5_bounded_33 ⟨Nat.le_of_ble_eq_true rfl, Nat.le_of_ble_eq_true rfl⟩ ⟨Nat.le_of_ble_eq_true rfl, Nat.le_of_ble_eq_true rfl⟩) (fun H locs ws_48 h u_49 p_50 => ?_)
        have e_51 := p_50
        refine lv_iload_n C0.1 C0.2.1 dX5_bounded_36 rfl (lv_at hl 1 rfl) ?_
        have hv_52 : (aF 77 ws0) 4 = v_1.toInt := (aF_at (by decide) e_2)
        have hv_53 : (aF 77 ws0) 7 = v_8.toInt := (aF_at (by decide) e_9)
        have hv_54 : (aF 77 ws0) 7 = v_24.toInt := (aF_at (by decide) e_25)
        have hs_55 : aF 77 ws_48 = (failS 3 (aF 77 ws0)) := e_51.trans (by rw [(o62_4 e_47)])
        have hz_56 : (failS 3 (aF 77 ws0)) = bndS T a1.toInt a2.toInt (aF 77 ws0) := by unfold bndS; (repeat' split) <;> first | rfl | (exfalso; omega)
        have hs_57 : aF 77 ws_48 = (failS 3 (aF 77 ws0)) := e_51.trans (by rw [(o62_4 e_47)])
        rw [hQ]
        exact y_iret C0 h u_49 ⟨(o62_15 l1 u1 l2 u2 c_12 q_28 c_29), (o62_16 l1 u1 l2 u2 c_12 q_28 c_29), (Eq.trans hs_55 hz_56), (by unfold bndV; (repeat' split) <;> omega)⟩ dX5_bounded_37
  · -- 5
    refine lv_aload_n C0.1 C0.2.1 dX5_bounded_8 rfl (lv_at hl 0 rfl) ?_
    refine y_c1 (n := 2) C0 (by decide) dX5_bounded_9 (fun v_58 e_59 => ?_)
    refine y_cv h (y_rV (As := [.int v_58]) (rest := []) C0 hZ h (c_X5_failS l G Z ad _ h.2 v_58) k_X5_fail q_628 q_3 q_626 kSC_77 rfl rfl rfl hl.1 rfl rfl (Nat.le_of_ble_eq_true rfl) dX5_bounded_10 ⟨Nat.le_of_ble_eq_true rfl, Nat.le_of_ble_eq_true rfl⟩ ⟨Nat.le_of_ble_eq_true rfl, Nat.le_of_ble_eq_true rfl⟩) (fun H locs ws_60 h u_61 p_62 => ?_)
    have e_63 := p_62
    refine lv_iload_n C0.1 C0.2.1 dX5_bounded_13 rfl (lv_at hl 1 rfl) ?_
    have hv_64 : (aF 77 ws0) 4 = v_1.toInt := (aF_at (by decide) e_2)
    have hs_65 : aF 77 ws_60 = (failS 2 (aF 77 ws0)) := e_63.trans (by rw [(o62_1 e_59)])
    have hz_66 : (failS 2 (aF 77 ws0)) = bndS T a1.toInt a2.toInt (aF 77 ws0) := by unfold bndS; (repeat' split) <;> first | rfl | (exfalso; omega)
    have hs_67 : aF 77 ws_60 = (failS 2 (aF 77 ws0)) := e_63.trans (by rw [(o62_1 e_59)])
    rw [hQ]
    exact y_iret C0 h u_61 ⟨(o62_17 l1 u1), (o62_18 l1 u1), (Eq.trans hs_65 hz_66), (by unfold bndV; (repeat' split) <;> omega)⟩ dX5_bounded_14
set_option maxHeartbeats 4000000 in
set_option maxRecDepth 100000 in
theorem c_X5_boundeddS {T : Nat → Int} (l : Launch) (G : GG) (Z : RZ) (ad : Nat → Nat) (ws0 : va_W) (hT : Ty G (SC tt) ad ws0) (a1 : Int32) (a2 : Int32) (l1 : 0 ≤ a1.toInt) (u1 : a1.toInt ≤ 0) (l2 : 99 ≤ a2.toInt) (u2 : a2.toInt ≤ 99) (hTp : Tp T ws0) : Mq l yX5_bounded cX5_bounded 4 (some .int) 6 G Z [.ref (ad 77), .int a1, .int a2] ws0 (PI G (SC tt) ad [16] ws0 (fun r u => (0 ≤ r.toInt) ∧ (r.toInt ≤ 99) ∧ (aF 77 u = bndS T a1.toInt a2.toInt (aF 77 ws0)) ∧ (r.toInt = bndV a1.toInt a2.toInt (aF 77 ws0)))) := by
  refine Mq.start (by decide) (Nat.le_of_ble_eq_true rfl) ?_
  intro p e s m below meth c A ls C0 hZ h hl
  have hl : lv_has ls 4 [(0, .ref (ad 77)), (1, .int a1), (2, .int a2)] := hl
  have h : Wt G (SC tt) ad A s s.heap [] ws0 := ⟨h, hT⟩
  obtain ⟨args, hargs⟩ : ∃ z, z = ([.ref (ad 77), .int a1, .int a2] : List Value).toArray := ⟨_, rfl⟩
  rw [← hargs] at C0 ⊢
  have C0 : Cx p s m args meth c RX5 cX5_bounded 4 (some .int) := C0
  obtain ⟨Q, hQ⟩ : ∃ z, z = MQ below ((PI G (SC tt) ad [16] ws0 (fun r u => (0 ≤ r.toInt) ∧ (r.toInt ≤ 99) ∧ (aF 77 u = bndS T a1.toInt a2.toInt (aF 77 ws0)) ∧ (r.toInt = bndV a1.toInt a2.toInt (aF 77 ws0)))) A) args s 0 0 A := ⟨_, rfl⟩
  rw [← hQ]
  refine lv_aload_n C0.1 C0.2.1 dX5_bounded_0 rfl (lv_at hl 0 rfl) ?_
  refine tg_X5_kind C0 h kSC_77 q_374 dX5_bounded_1 (fun v_1 e_2 e_3 e_4 => ?_)
  refine y_c1 (n := 2) C0 (by decide) dX5_bounded_4 (fun v_5 e_6 => ?_)
  refine y_icmp_eq (tgt := 15) C0 dX5_bounded_5 (by decide) (fun c_7 => ?_) (fun c_7 => ?_)
  · -- 5
    refine lv_aload_n C0.1 C0.2.1 dX5_bounded_15 rfl (lv_at hl 0 rfl) ?_
    refine tg_X5_number C0 h kSC_77 q_377 dX5_bounded_16 (fun v_8 e_9 e_10 e_11 => ?_)
    refine lv_iload_n C0.1 C0.2.1 dX5_bounded_19 rfl (lv_at hl 1 rfl) ?_
    refine y_icmp_lt (tgt := 31) C0 dX5_bounded_20 (by decide) (fun c_12 => ?_) (fun c_12 => ?_)
    · -- 20
      refine lv_aload_n C0.1 C0.2.1 dX5_bounded_31 rfl (lv_at hl 0 rfl) ?_
      refine y_c1 (n := 3) C0 (by decide) dX5_bounded_32 (fun v_13 e_14 => ?_)
      refine y_cv h (y_rV (As := [.int v_13]) (rest := []) C0 hZ h (c_X5_failS l G Z ad _ h.2 v_13) k_X5_fail q_628 q_3 q_626 kSC_77 rfl rfl rfl hl.1 rfl rfl (Nat.le_of_ble_eq_true rfl) dX5_bounded_33 ⟨Nat.le_of_ble_eq_true rfl, Nat.le_of_ble_eq_true rfl⟩ ⟨Nat.le_of_ble_eq_true rfl, Nat.le_of_ble_eq_true rfl⟩) (fun H locs ws_15 h u_16 p_17 => ?_)
      have e_18 := p_17
      refine lv_iload_n C0.1 C0.2.1 dX5_bounded_36 rfl (lv_at hl 1 rfl) ?_
      have hv_19 : (aF 77 ws0) 4 = v_1.toInt := (aF_at (by decide) e_2)
      have hv_20 : (aF 77 ws0) 7 = v_8.toInt := (aF_at (by decide) e_9)
      have hs_21 : aF 77 ws_15 = (failS 3 (aF 77 ws0)) := e_18.trans (by rw [(o62_4 e_14)])
      have hz_22 : (failS 3 (aF 77 ws0)) = bndS T a1.toInt a2.toInt (aF 77 ws0) := by unfold bndS; (repeat' split) <;> first | rfl | (exfalso; omega)
      have hs_23 : aF 77 ws_15 = (failS 3 (aF 77 ws0)) := e_18.trans (by rw [(o62_4 e_14)])
      rw [hQ]
      exact y_iret C0 h u_16 ⟨(o62_11 l1 u1 c_12), (o62_19 l1 u1 c_12), (Eq.trans hs_21 hz_22), (by unfold bndV; (repeat' split) <;> omega)⟩ dX5_bounded_37
    · -- 20
      refine lv_aload_n C0.1 C0.2.1 dX5_bounded_23 rfl (lv_at hl 0 rfl) ?_
      refine tg_X5_number C0 h kSC_77 q_377 dX5_bounded_24 (fun v_24 e_25 e_26 e_27 => ?_)
      have q_28 : v_24.toInt = v_8.toInt := congrArg Int32.toInt (e_25.symm.trans (Eq.trans rfl e_9))
      refine lv_iload_n C0.1 C0.2.1 dX5_bounded_27 rfl (lv_at hl 2 rfl) ?_
      refine y_icmp_le (tgt := 38) C0 dX5_bounded_28 (by decide) (fun c_29 => ?_) (fun c_29 => ?_)
      · -- 28
        refine lv_aload_n C0.1 C0.2.1 dX5_bounded_38 rfl (lv_at hl 0 rfl) ?_
        refine tg_X5_number C0 h kSC_77 q_377 dX5_bounded_39 (fun v_30 e_31 e_32 e_33 => ?_)
        have q_34 : v_30.toInt = v_8.toInt := congrArg Int32.toInt (e_31.symm.trans (Eq.trans rfl e_9))
        refine lv_istore_n (lv' := [(3, .int v_30), (0, .ref (ad 77)), (1, .int a1), (2, .int a2)]) C0.1 C0.2.1 dX5_bounded_42 rfl hl (by decide) rfl (fun ls hl => ?_)
        refine lv_aload_n C0.1 C0.2.1 dX5_bounded_43 rfl (lv_at hl 1 rfl) ?_
        refine y_cv h (y_rV (As := []) (rest := []) C0 hZ h (c_X5_advanceS l G Z ad _ h.2 hTp) k_X5_advance q_616 q_0 q_614 kSC_77 rfl rfl rfl hl.1 rfl rfl (Nat.le_of_ble_eq_true rfl) dX5_bounded_44 ⟨Nat.le_of_ble_eq_true rfl, Nat.le_of_ble_eq_true rfl⟩ ⟨Nat.le_of_ble_eq_true rfl, Nat.le_of_ble_eq_true rfl⟩) (fun H locs ws_35 h u_36 p_37 => ?_)
        have e_38 := p_37
        refine lv_iload_n C0.1 C0.2.1 dX5_bounded_47 rfl (lv_at hl 0 rfl) ?_
        have hv_39 : (aF 77 ws0) 4 = v_1.toInt := (aF_at (by decide) e_2)
        have hv_40 : (aF 77 ws0) 7 = v_8.toInt := (aF_at (by decide) e_9)
        have hv_41 : (aF 77 ws0) 7 = v_24.toInt := (aF_at (by decide) e_25)
        have hv_42 : (aF 77 ws0) 7 = v_30.toInt := (aF_at (by decide) e_31)
        have hs_43 : aF 77 ws_35 = (advS T (aF 77 ws0)) := e_38
        have hz_44 : (advS T (aF 77 ws0)) = bndS T a1.toInt a2.toInt (aF 77 ws0) := by unfold bndS; (repeat' split) <;> first | rfl | (exfalso; omega)
        have hs_45 : aF 77 ws_35 = (advS T (aF 77 ws0)) := e_38
        rw [hQ]
        exact y_iret C0 h u_36 ⟨(o62_20 l1 u1 l2 u2 c_12 q_28 c_29 q_34), (o62_21 l1 u1 l2 u2 c_12 q_28 c_29 q_34), (Eq.trans hs_43 hz_44), (by unfold bndV; (repeat' split) <;> omega)⟩ dX5_bounded_48
      · -- 28
        refine lv_aload_n C0.1 C0.2.1 dX5_bounded_31 rfl (lv_at hl 0 rfl) ?_
        refine y_c1 (n := 3) C0 (by decide) dX5_bounded_32 (fun v_46 e_47 => ?_)
        refine y_cv h (y_rV (As := [.int v_46]) (rest := []) C0 hZ h (c_X5_failS l G Z ad _ h.2 v_46) k_X5_fail q_628 q_3 q_626 kSC_77 rfl rfl rfl hl.1 rfl rfl (Nat.le_of_ble_eq_true rfl) dX5_bounded_33 ⟨Nat.le_of_ble_eq_true rfl, Nat.le_of_ble_eq_true rfl⟩ ⟨Nat.le_of_ble_eq_true rfl, Nat.le_of_ble_eq_true rfl⟩) (fun H locs ws_48 h u_49 p_50 => ?_)
        have e_51 := p_50
        refine lv_iload_n C0.1 C0.2.1 dX5_bounded_36 rfl (lv_at hl 1 rfl) ?_
        have hv_52 : (aF 77 ws0) 4 = v_1.toInt := (aF_at (by decide) e_2)
        have hv_53 : (aF 77 ws0) 7 = v_8.toInt := (aF_at (by decide) e_9)
        have hv_54 : (aF 77 ws0) 7 = v_24.toInt := (aF_at (by decide) e_25)
        have hs_55 : aF 77 ws_48 = (failS 3 (aF 77 ws0)) := e_51.trans (by rw [(o62_4 e_47)])
        have hz_56 : (failS 3 (aF 77 ws0)) = bndS T a1.toInt a2.toInt (aF 77 ws0) := by unfold bndS; (repeat' split) <;> first | rfl | (exfalso; omega)
        have hs_57 : aF 77 ws_48 = (failS 3 (aF 77 ws0)) := e_51.trans (by rw [(o62_4 e_47)])
        rw [hQ]
        exact y_iret C0 h u_49 ⟨(o62_22 l1 u1 l2 u2 c_12 q_28 c_29), (o62_23 l1 u1 l2 u2 c_12 q_28 c_29), (Eq.trans hs_55 hz_56), (by unfold bndV; (repeat' split) <;> omega)⟩ dX5_bounded_37
  · -- 5
    refine lv_aload_n C0.1 C0.2.1 dX5_bounded_8 rfl (lv_at hl 0 rfl) ?_
    refine y_c1 (n := 2) C0 (by decide) dX5_bounded_9 (fun v_58 e_59 => ?_)
    refine y_cv h (y_rV (As := [.int v_58]) (rest := []) C0 hZ h (c_X5_failS l G Z ad _ h.2 v_58) k_X5_fail q_628 q_3 q_626 kSC_77 rfl rfl rfl hl.1 rfl rfl (Nat.le_of_ble_eq_true rfl) dX5_bounded_10 ⟨Nat.le_of_ble_eq_true rfl, Nat.le_of_ble_eq_true rfl⟩ ⟨Nat.le_of_ble_eq_true rfl, Nat.le_of_ble_eq_true rfl⟩) (fun H locs ws_60 h u_61 p_62 => ?_)
    have e_63 := p_62
    refine lv_iload_n C0.1 C0.2.1 dX5_bounded_13 rfl (lv_at hl 1 rfl) ?_
    have hv_64 : (aF 77 ws0) 4 = v_1.toInt := (aF_at (by decide) e_2)
    have hs_65 : aF 77 ws_60 = (failS 2 (aF 77 ws0)) := e_63.trans (by rw [(o62_1 e_59)])
    have hz_66 : (failS 2 (aF 77 ws0)) = bndS T a1.toInt a2.toInt (aF 77 ws0) := by unfold bndS; (repeat' split) <;> first | rfl | (exfalso; omega)
    have hs_67 : aF 77 ws_60 = (failS 2 (aF 77 ws0)) := e_63.trans (by rw [(o62_1 e_59)])
    rw [hQ]
    exact y_iret C0 h u_61 ⟨(o62_17 l1 u1), (o62_24 l1 u1), (Eq.trans hs_65 hz_66), (by unfold bndV; (repeat' split) <;> omega)⟩ dX5_bounded_14
set_option maxHeartbeats 4000000 in
set_option maxRecDepth 100000 in
theorem c_X5_boundedeS {T : Nat → Int} (l : Launch) (G : GG) (Z : RZ) (ad : Nat → Nat) (ws0 : va_W) (hT : Ty G (SC tt) ad ws0) (a1 : Int32) (a2 : Int32) (l1 : 0 ≤ a1.toInt) (u1 : a1.toInt ≤ 0) (l2 : 999 ≤ a2.toInt) (u2 : a2.toInt ≤ 999) (hTp : Tp T ws0) : Mq l yX5_bounded cX5_bounded 4 (some .int) 6 G Z [.ref (ad 77), .int a1, .int a2] ws0 (PI G (SC tt) ad [16] ws0 (fun r u => (0 ≤ r.toInt) ∧ (r.toInt ≤ 999) ∧ (aF 77 u = bndS T a1.toInt a2.toInt (aF 77 ws0)) ∧ (r.toInt = bndV a1.toInt a2.toInt (aF 77 ws0)))) := by
  refine Mq.start (by decide) (Nat.le_of_ble_eq_true rfl) ?_
  intro p e s m below meth c A ls C0 hZ h hl
  have hl : lv_has ls 4 [(0, .ref (ad 77)), (1, .int a1), (2, .int a2)] := hl
  have h : Wt G (SC tt) ad A s s.heap [] ws0 := ⟨h, hT⟩
  obtain ⟨args, hargs⟩ : ∃ z, z = ([.ref (ad 77), .int a1, .int a2] : List Value).toArray := ⟨_, rfl⟩
  rw [← hargs] at C0 ⊢
  have C0 : Cx p s m args meth c RX5 cX5_bounded 4 (some .int) := C0
  obtain ⟨Q, hQ⟩ : ∃ z, z = MQ below ((PI G (SC tt) ad [16] ws0 (fun r u => (0 ≤ r.toInt) ∧ (r.toInt ≤ 999) ∧ (aF 77 u = bndS T a1.toInt a2.toInt (aF 77 ws0)) ∧ (r.toInt = bndV a1.toInt a2.toInt (aF 77 ws0)))) A) args s 0 0 A := ⟨_, rfl⟩
  rw [← hQ]
  refine lv_aload_n C0.1 C0.2.1 dX5_bounded_0 rfl (lv_at hl 0 rfl) ?_
  refine tg_X5_kind C0 h kSC_77 q_374 dX5_bounded_1 (fun v_1 e_2 e_3 e_4 => ?_)
  refine y_c1 (n := 2) C0 (by decide) dX5_bounded_4 (fun v_5 e_6 => ?_)
  refine y_icmp_eq (tgt := 15) C0 dX5_bounded_5 (by decide) (fun c_7 => ?_) (fun c_7 => ?_)
  · -- 5
    refine lv_aload_n C0.1 C0.2.1 dX5_bounded_15 rfl (lv_at hl 0 rfl) ?_
    refine tg_X5_number C0 h kSC_77 q_377 dX5_bounded_16 (fun v_8 e_9 e_10 e_11 => ?_)
    refine lv_iload_n C0.1 C0.2.1 dX5_bounded_19 rfl (lv_at hl 1 rfl) ?_
    refine y_icmp_lt (tgt := 31) C0 dX5_bounded_20 (by decide) (fun c_12 => ?_) (fun c_12 => ?_)
    · -- 20
      refine lv_aload_n C0.1 C0.2.1 dX5_bounded_31 rfl (lv_at hl 0 rfl) ?_
      refine y_c1 (n := 3) C0 (by decide) dX5_bounded_32 (fun v_13 e_14 => ?_)
      refine y_cv h (y_rV (As := [.int v_13]) (rest := []) C0 hZ h (c_X5_failS l G Z ad _ h.2 v_13) k_X5_fail q_628 q_3 q_626 kSC_77 rfl rfl rfl hl.1 rfl rfl (Nat.le_of_ble_eq_true rfl) dX5_bounded_33 ⟨Nat.le_of_ble_eq_true rfl, Nat.le_of_ble_eq_true rfl⟩ ⟨Nat.le_of_ble_eq_true rfl, Nat.le_of_ble_eq_true rfl⟩) (fun H locs ws_15 h u_16 p_17 => ?_)
      have e_18 := p_17
      refine lv_iload_n C0.1 C0.2.1 dX5_bounded_36 rfl (lv_at hl 1 rfl) ?_
      have hv_19 : (aF 77 ws0) 4 = v_1.toInt := (aF_at (by decide) e_2)
      have hv_20 : (aF 77 ws0) 7 = v_8.toInt := (aF_at (by decide) e_9)
      have hs_21 : aF 77 ws_15 = (failS 3 (aF 77 ws0)) := e_18.trans (by rw [(o62_4 e_14)])
      have hz_22 : (failS 3 (aF 77 ws0)) = bndS T a1.toInt a2.toInt (aF 77 ws0) := by unfold bndS; (repeat' split) <;> first | rfl | (exfalso; omega)
      have hs_23 : aF 77 ws_15 = (failS 3 (aF 77 ws0)) := e_18.trans (by rw [(o62_4 e_14)])
      rw [hQ]
      exact y_iret C0 h u_16 ⟨(o62_11 l1 u1 c_12), (o62_25 l1 u1 c_12), (Eq.trans hs_21 hz_22), (by unfold bndV; (repeat' split) <;> omega)⟩ dX5_bounded_37
    · -- 20
      refine lv_aload_n C0.1 C0.2.1 dX5_bounded_23 rfl (lv_at hl 0 rfl) ?_
      refine tg_X5_number C0 h kSC_77 q_377 dX5_bounded_24 (fun v_24 e_25 e_26 e_27 => ?_)
      have q_28 : v_24.toInt = v_8.toInt := congrArg Int32.toInt (e_25.symm.trans (Eq.trans rfl e_9))
      refine lv_iload_n C0.1 C0.2.1 dX5_bounded_27 rfl (lv_at hl 2 rfl) ?_
      refine y_icmp_le (tgt := 38) C0 dX5_bounded_28 (by decide) (fun c_29 => ?_) (fun c_29 => ?_)
      · -- 28
        refine lv_aload_n C0.1 C0.2.1 dX5_bounded_38 rfl (lv_at hl 0 rfl) ?_
        refine tg_X5_number C0 h kSC_77 q_377 dX5_bounded_39 (fun v_30 e_31 e_32 e_33 => ?_)
        have q_34 : v_30.toInt = v_8.toInt := congrArg Int32.toInt (e_31.symm.trans (Eq.trans rfl e_9))
        refine lv_istore_n (lv' := [(3, .int v_30), (0, .ref (ad 77)), (1, .int a1), (2, .int a2)]) C0.1 C0.2.1 dX5_bounded_42 rfl hl (by decide) rfl (fun ls hl => ?_)
        refine lv_aload_n C0.1 C0.2.1 dX5_bounded_43 rfl (lv_at hl 1 rfl) ?_
        refine y_cv h (y_rV (As := []) (rest := []) C0 hZ h (c_X5_advanceS l G Z ad _ h.2 hTp) k_X5_advance q_616 q_0 q_614 kSC_77 rfl rfl rfl hl.1 rfl rfl (Nat.le_of_ble_eq_true rfl) dX5_bounded_44 ⟨Nat.le_of_ble_eq_true rfl, Nat.le_of_ble_eq_true rfl⟩ ⟨Nat.le_of_ble_eq_true rfl, Nat.le_of_ble_eq_true rfl⟩) (fun H locs ws_35 h u_36 p_37 => ?_)
        have e_38 := p_37
        refine lv_iload_n C0.1 C0.2.1 dX5_bounded_47 rfl (lv_at hl 0 rfl) ?_
        have hv_39 : (aF 77 ws0) 4 = v_1.toInt := (aF_at (by decide) e_2)
        have hv_40 : (aF 77 ws0) 7 = v_8.toInt := (aF_at (by decide) e_9)
        have hv_41 : (aF 77 ws0) 7 = v_24.toInt := (aF_at (by decide) e_25)
        have hv_42 : (aF 77 ws0) 7 = v_30.toInt := (aF_at (by decide) e_31)
        have hs_43 : aF 77 ws_35 = (advS T (aF 77 ws0)) := e_38
        have hz_44 : (advS T (aF 77 ws0)) = bndS T a1.toInt a2.toInt (aF 77 ws0) := by unfold bndS; (repeat' split) <;> first | rfl | (exfalso; omega)
        have hs_45 : aF 77 ws_35 = (advS T (aF 77 ws0)) := e_38
        rw [hQ]
        exact y_iret C0 h u_36 ⟨(o62_26 l1 u1 l2 u2 c_12 q_28 c_29 q_34), (o62_27 l1 u1 l2 u2 c_12 q_28 c_29 q_34), (Eq.trans hs_43 hz_44), (by unfold bndV; (repeat' split) <;> omega)⟩ dX5_bounded_48
      · -- 28
        refine lv_aload_n C0.1 C0.2.1 dX5_bounded_31 rfl (lv_at hl 0 rfl) ?_
        refine y_c1 (n := 3) C0 (by decide) dX5_bounded_32 (fun v_46 e_47 => ?_)
        refine y_cv h (y_rV (As := [.int v_46]) (rest := []) C0 hZ h (c_X5_failS l G Z ad _ h.2 v_46) k_X5_fail q_628 q_3 q_626 kSC_77 rfl rfl rfl hl.1 rfl rfl (Nat.le_of_ble_eq_true rfl) dX5_bounded_33 ⟨Nat.le_of_ble_eq_true rfl, Nat.le_of_ble_eq_true rfl⟩ ⟨Nat.le_of_ble_eq_true rfl, Nat.le_of_ble_eq_true rfl⟩) (fun H locs ws_48 h u_49 p_50 => ?_)
        have e_51 := p_50
        refine lv_iload_n C0.1 C0.2.1 dX5_bounded_36 rfl (lv_at hl 1 rfl) ?_
        have hv_52 : (aF 77 ws0) 4 = v_1.toInt := (aF_at (by decide) e_2)
        have hv_53 : (aF 77 ws0) 7 = v_8.toInt := (aF_at (by decide) e_9)
        have hv_54 : (aF 77 ws0) 7 = v_24.toInt := (aF_at (by decide) e_25)
        have hs_55 : aF 77 ws_48 = (failS 3 (aF 77 ws0)) := e_51.trans (by rw [(o62_4 e_47)])
        have hz_56 : (failS 3 (aF 77 ws0)) = bndS T a1.toInt a2.toInt (aF 77 ws0) := by unfold bndS; (repeat' split) <;> first | rfl | (exfalso; omega)
        have hs_57 : aF 77 ws_48 = (failS 3 (aF 77 ws0)) := e_51.trans (by rw [(o62_4 e_47)])
        rw [hQ]
        exact y_iret C0 h u_49 ⟨(o62_28 l1 u1 l2 u2 c_12 q_28 c_29), (o62_29 l1 u1 l2 u2 c_12 q_28 c_29), (Eq.trans hs_55 hz_56), (by unfold bndV; (repeat' split) <;> omega)⟩ dX5_bounded_37
  · -- 5
    refine lv_aload_n C0.1 C0.2.1 dX5_bounded_8 rfl (lv_at hl 0 rfl) ?_
    refine y_c1 (n := 2) C0 (by decide) dX5_bounded_9 (fun v_58 e_59 => ?_)
    refine y_cv h (y_rV (As := [.int v_58]) (rest := []) C0 hZ h (c_X5_failS l G Z ad _ h.2 v_58) k_X5_fail q_628 q_3 q_626 kSC_77 rfl rfl rfl hl.1 rfl rfl (Nat.le_of_ble_eq_true rfl) dX5_bounded_10 ⟨Nat.le_of_ble_eq_true rfl, Nat.le_of_ble_eq_true rfl⟩ ⟨Nat.le_of_ble_eq_true rfl, Nat.le_of_ble_eq_true rfl⟩) (fun H locs ws_60 h u_61 p_62 => ?_)
    have e_63 := p_62
    refine lv_iload_n C0.1 C0.2.1 dX5_bounded_13 rfl (lv_at hl 1 rfl) ?_
    have hv_64 : (aF 77 ws0) 4 = v_1.toInt := (aF_at (by decide) e_2)
    have hs_65 : aF 77 ws_60 = (failS 2 (aF 77 ws0)) := e_63.trans (by rw [(o62_1 e_59)])
    have hz_66 : (failS 2 (aF 77 ws0)) = bndS T a1.toInt a2.toInt (aF 77 ws0) := by unfold bndS; (repeat' split) <;> first | rfl | (exfalso; omega)
    have hs_67 : aF 77 ws_60 = (failS 2 (aF 77 ws0)) := e_63.trans (by rw [(o62_1 e_59)])
    rw [hQ]
    exact y_iret C0 h u_61 ⟨(o62_17 l1 u1), (o62_30 l1 u1), (Eq.trans hs_65 hz_66), (by unfold bndV; (repeat' split) <;> omega)⟩ dX5_bounded_14
set_option maxHeartbeats 4000000 in
set_option maxRecDepth 100000 in
theorem c_X5_boundedbS {T : Nat → Int} (l : Launch) (G : GG) (Z : RZ) (ad : Nat → Nat) (ws0 : va_W) (hT : Ty G (SC tt) ad ws0) (a1 : Int32) (a2 : Int32) (l1 : 0 ≤ a1.toInt) (u1 : a1.toInt ≤ 0) (l2 : (-1) ≤ a2.toInt) (u2 : a2.toInt ≤ 4) (hTp : Tp T ws0) : Mq l yX5_bounded cX5_bounded 4 (some .int) 6 G Z [.ref (ad 77), .int a1, .int a2] ws0 (PI G (SC tt) ad [16] ws0 (fun r u => (0 ≤ r.toInt) ∧ (r.toInt ≤ 4) ∧ (aF 77 u = bndS T a1.toInt a2.toInt (aF 77 ws0)) ∧ (r.toInt = bndV a1.toInt a2.toInt (aF 77 ws0)))) := by
  refine Mq.start (by decide) (Nat.le_of_ble_eq_true rfl) ?_
  intro p e s m below meth c A ls C0 hZ h hl
  have hl : lv_has ls 4 [(0, .ref (ad 77)), (1, .int a1), (2, .int a2)] := hl
  have h : Wt G (SC tt) ad A s s.heap [] ws0 := ⟨h, hT⟩
  obtain ⟨args, hargs⟩ : ∃ z, z = ([.ref (ad 77), .int a1, .int a2] : List Value).toArray := ⟨_, rfl⟩
  rw [← hargs] at C0 ⊢
  have C0 : Cx p s m args meth c RX5 cX5_bounded 4 (some .int) := C0
  obtain ⟨Q, hQ⟩ : ∃ z, z = MQ below ((PI G (SC tt) ad [16] ws0 (fun r u => (0 ≤ r.toInt) ∧ (r.toInt ≤ 4) ∧ (aF 77 u = bndS T a1.toInt a2.toInt (aF 77 ws0)) ∧ (r.toInt = bndV a1.toInt a2.toInt (aF 77 ws0)))) A) args s 0 0 A := ⟨_, rfl⟩
  rw [← hQ]
  refine lv_aload_n C0.1 C0.2.1 dX5_bounded_0 rfl (lv_at hl 0 rfl) ?_
  refine tg_X5_kind C0 h kSC_77 q_374 dX5_bounded_1 (fun v_1 e_2 e_3 e_4 => ?_)
  refine y_c1 (n := 2) C0 (by decide) dX5_bounded_4 (fun v_5 e_6 => ?_)
  refine y_icmp_eq (tgt := 15) C0 dX5_bounded_5 (by decide) (fun c_7 => ?_) (fun c_7 => ?_)
  · -- 5
    refine lv_aload_n C0.1 C0.2.1 dX5_bounded_15 rfl (lv_at hl 0 rfl) ?_
    refine tg_X5_number C0 h kSC_77 q_377 dX5_bounded_16 (fun v_8 e_9 e_10 e_11 => ?_)
    refine lv_iload_n C0.1 C0.2.1 dX5_bounded_19 rfl (lv_at hl 1 rfl) ?_
    refine y_icmp_lt (tgt := 31) C0 dX5_bounded_20 (by decide) (fun c_12 => ?_) (fun c_12 => ?_)
    · -- 20
      refine lv_aload_n C0.1 C0.2.1 dX5_bounded_31 rfl (lv_at hl 0 rfl) ?_
      refine y_c1 (n := 3) C0 (by decide) dX5_bounded_32 (fun v_13 e_14 => ?_)
      refine y_cv h (y_rV (As := [.int v_13]) (rest := []) C0 hZ h (c_X5_failS l G Z ad _ h.2 v_13) k_X5_fail q_628 q_3 q_626 kSC_77 rfl rfl rfl hl.1 rfl rfl (Nat.le_of_ble_eq_true rfl) dX5_bounded_33 ⟨Nat.le_of_ble_eq_true rfl, Nat.le_of_ble_eq_true rfl⟩ ⟨Nat.le_of_ble_eq_true rfl, Nat.le_of_ble_eq_true rfl⟩) (fun H locs ws_15 h u_16 p_17 => ?_)
      have e_18 := p_17
      refine lv_iload_n C0.1 C0.2.1 dX5_bounded_36 rfl (lv_at hl 1 rfl) ?_
      have hv_19 : (aF 77 ws0) 4 = v_1.toInt := (aF_at (by decide) e_2)
      have hv_20 : (aF 77 ws0) 7 = v_8.toInt := (aF_at (by decide) e_9)
      have hs_21 : aF 77 ws_15 = (failS 3 (aF 77 ws0)) := e_18.trans (by rw [(o62_4 e_14)])
      have hz_22 : (failS 3 (aF 77 ws0)) = bndS T a1.toInt a2.toInt (aF 77 ws0) := by unfold bndS; (repeat' split) <;> first | rfl | (exfalso; omega)
      have hs_23 : aF 77 ws_15 = (failS 3 (aF 77 ws0)) := e_18.trans (by rw [(o62_4 e_14)])
      rw [hQ]
      exact y_iret C0 h u_16 ⟨(o62_11 l1 u1 c_12), (o62_31 l1 u1 c_12), (Eq.trans hs_21 hz_22), (by unfold bndV; (repeat' split) <;> omega)⟩ dX5_bounded_37
    · -- 20
      refine lv_aload_n C0.1 C0.2.1 dX5_bounded_23 rfl (lv_at hl 0 rfl) ?_
      refine tg_X5_number C0 h kSC_77 q_377 dX5_bounded_24 (fun v_24 e_25 e_26 e_27 => ?_)
      have q_28 : v_24.toInt = v_8.toInt := congrArg Int32.toInt (e_25.symm.trans (Eq.trans rfl e_9))
      refine lv_iload_n C0.1 C0.2.1 dX5_bounded_27 rfl (lv_at hl 2 rfl) ?_
      refine y_icmp_le (tgt := 38) C0 dX5_bounded_28 (by decide) (fun c_29 => ?_) (fun c_29 => ?_)
      · -- 28
        refine lv_aload_n C0.1 C0.2.1 dX5_bounded_38 rfl (lv_at hl 0 rfl) ?_
        refine tg_X5_number C0 h kSC_77 q_377 dX5_bounded_39 (fun v_30 e_31 e_32 e_33 => ?_)
        have q_34 : v_30.toInt = v_8.toInt := congrArg Int32.toInt (e_31.symm.trans (Eq.trans rfl e_9))
        refine lv_istore_n (lv' := [(3, .int v_30), (0, .ref (ad 77)), (1, .int a1), (2, .int a2)]) C0.1 C0.2.1 dX5_bounded_42 rfl hl (by decide) rfl (fun ls hl => ?_)
        refine lv_aload_n C0.1 C0.2.1 dX5_bounded_43 rfl (lv_at hl 1 rfl) ?_
        refine y_cv h (y_rV (As := []) (rest := []) C0 hZ h (c_X5_advanceS l G Z ad _ h.2 hTp) k_X5_advance q_616 q_0 q_614 kSC_77 rfl rfl rfl hl.1 rfl rfl (Nat.le_of_ble_eq_true rfl) dX5_bounded_44 ⟨Nat.le_of_ble_eq_true rfl, Nat.le_of_ble_eq_true rfl⟩ ⟨Nat.le_of_ble_eq_true rfl, Nat.le_of_ble_eq_true rfl⟩) (fun H locs ws_35 h u_36 p_37 => ?_)
        have e_38 := p_37
        refine lv_iload_n C0.1 C0.2.1 dX5_bounded_47 rfl (lv_at hl 0 rfl) ?_
        have hv_39 : (aF 77 ws0) 4 = v_1.toInt := (aF_at (by decide) e_2)
        have hv_40 : (aF 77 ws0) 7 = v_8.toInt := (aF_at (by decide) e_9)
        have hv_41 : (aF 77 ws0) 7 = v_24.toInt := (aF_at (by decide) e_25)
        have hv_42 : (aF 77 ws0) 7 = v_30.toInt := (aF_at (by decide) e_31)
        have hs_43 : aF 77 ws_35 = (advS T (aF 77 ws0)) := e_38
        have hz_44 : (advS T (aF 77 ws0)) = bndS T a1.toInt a2.toInt (aF 77 ws0) := by unfold bndS; (repeat' split) <;> first | rfl | (exfalso; omega)
        have hs_45 : aF 77 ws_35 = (advS T (aF 77 ws0)) := e_38
        rw [hQ]
        exact y_iret C0 h u_36 ⟨(o62_32 l1 u1 l2 u2 c_12 q_28 c_29 q_34), (o62_33 l1 u1 l2 u2 c_12 q_28 c_29 q_34), (Eq.trans hs_43 hz_44), (by unfold bndV; (repeat' split) <;> omega)⟩ dX5_bounded_48
      · -- 28
        refine lv_aload_n C0.1 C0.2.1 dX5_bounded_31 rfl (lv_at hl 0 rfl) ?_
        refine y_c1 (n := 3) C0 (by decide) dX5_bounded_32 (fun v_46 e_47 => ?_)
        refine y_cv h (y_rV (As := [.int v_46]) (rest := []) C0 hZ h (c_X5_failS l G Z ad _ h.2 v_46) k_X5_fail q_628 q_3 q_626 kSC_77 rfl rfl rfl hl.1 rfl rfl (Nat.le_of_ble_eq_true rfl) dX5_bounded_33 ⟨Nat.le_of_ble_eq_true rfl, Nat.le_of_ble_eq_true rfl⟩ ⟨Nat.le_of_ble_eq_true rfl, Nat.le_of_ble_eq_true rfl⟩) (fun H locs ws_48 h u_49 p_50 => ?_)
        have e_51 := p_50
        refine lv_iload_n C0.1 C0.2.1 dX5_bounded_36 rfl (lv_at hl 1 rfl) ?_
        have hv_52 : (aF 77 ws0) 4 = v_1.toInt := (aF_at (by decide) e_2)
        have hv_53 : (aF 77 ws0) 7 = v_8.toInt := (aF_at (by decide) e_9)
        have hv_54 : (aF 77 ws0) 7 = v_24.toInt := (aF_at (by decide) e_25)
        have hs_55 : aF 77 ws_48 = (failS 3 (aF 77 ws0)) := e_51.trans (by rw [(o62_4 e_47)])
        have hz_56 : (failS 3 (aF 77 ws0)) = bndS T a1.toInt a2.toInt (aF 77 ws0) := by unfold bndS; (repeat' split) <;> first | rfl | (exfalso; omega)
        have hs_57 : aF 77 ws_48 = (failS 3 (aF 77 ws0)) := e_51.trans (by rw [(o62_4 e_47)])
        rw [hQ]
        exact y_iret C0 h u_49 ⟨(o62_34 l1 u1 l2 u2 c_12 q_28 c_29), (o62_35 l1 u1 l2 u2 c_12 q_28 c_29), (Eq.trans hs_55 hz_56), (by unfold bndV; (repeat' split) <;> omega)⟩ dX5_bounded_37
  · -- 5
    refine lv_aload_n C0.1 C0.2.1 dX5_bounded_8 rfl (lv_at hl 0 rfl) ?_
    refine y_c1 (n := 2) C0 (by decide) dX5_bounded_9 (fun v_58 e_59 => ?_)
    refine y_cv h (y_rV (As := [.int v_58]) (rest := []) C0 hZ h (c_X5_failS l G Z ad _ h.2 v_58) k_X5_fail q_628 q_3 q_626 kSC_77 rfl rfl rfl hl.1 rfl rfl (Nat.le_of_ble_eq_true rfl) dX5_bounded_10 ⟨Nat.le_of_ble_eq_true rfl, Nat.le_of_ble_eq_true rfl⟩ ⟨Nat.le_of_ble_eq_true rfl, Nat.le_of_ble_eq_true rfl⟩) (fun H locs ws_60 h u_61 p_62 => ?_)
    have e_63 := p_62
    refine lv_iload_n C0.1 C0.2.1 dX5_bounded_13 rfl (lv_at hl 1 rfl) ?_
    have hv_64 : (aF 77 ws0) 4 = v_1.toInt := (aF_at (by decide) e_2)
    have hs_65 : aF 77 ws_60 = (failS 2 (aF 77 ws0)) := e_63.trans (by rw [(o62_1 e_59)])
    have hz_66 : (failS 2 (aF 77 ws0)) = bndS T a1.toInt a2.toInt (aF 77 ws0) := by unfold bndS; (repeat' split) <;> first | rfl | (exfalso; omega)
    have hs_67 : aF 77 ws_60 = (failS 2 (aF 77 ws0)) := e_63.trans (by rw [(o62_1 e_59)])
    rw [hQ]
    exact y_iret C0 h u_61 ⟨(o62_17 l1 u1), (o62_36 l1 u1), (Eq.trans hs_65 hz_66), (by unfold bndV; (repeat' split) <;> omega)⟩ dX5_bounded_14
set_option maxHeartbeats 4000000 in
set_option maxRecDepth 100000 in
theorem c_X5_tooDeep_6S (l : Launch) (G : GG) (Z : RZ) (ad : Nat → Nat) (ws0 : va_W) (hT : Ty G (SC tt) ad ws0) (a1 : Int32) (l1 : 6 ≤ a1.toInt) (u1 : a1.toInt ≤ 6) : Mq l yX5_tooDeep cX5_tooDeep 2 (some .boolean) 2 G Z [.ref (ad 77), .int a1] ws0 (PI G (SC tt) ad [16] ws0 (fun r u => (1 ≤ r.toInt) ∧ (r.toInt ≤ 1) ∧ (aF 77 u = failS 4 (aF 77 ws0)))) := by
  refine Mq.start (by decide) (Nat.le_of_ble_eq_true rfl) ?_
  intro p e s m below meth c A ls C0 hZ h hl
  have hl : lv_has ls 2 [(0, .ref (ad 77)), (1, .int a1)] := hl
  have h : Wt G (SC tt) ad A s s.heap [] ws0 := ⟨h, hT⟩
  obtain ⟨args, hargs⟩ : ∃ z, z = ([.ref (ad 77), .int a1] : List Value).toArray := ⟨_, rfl⟩
  rw [← hargs] at C0 ⊢
  have C0 : Cx p s m args meth c RX5 cX5_tooDeep 2 (some .boolean) := C0
  obtain ⟨Q, hQ⟩ : ∃ z, z = MQ below ((PI G (SC tt) ad [16] ws0 (fun r u => (1 ≤ r.toInt) ∧ (r.toInt ≤ 1) ∧ (aF 77 u = failS 4 (aF 77 ws0)))) A) args s 0 0 A := ⟨_, rfl⟩
  rw [← hQ]
  refine lv_iload_n C0.1 C0.2.1 dX5_tooDeep_0 rfl (lv_at hl 1 rfl) ?_
  refine y_c2 (n := 6) C0 (by decide) dX5_tooDeep_1 (fun v_1 e_2 => ?_)
  refine y_icmp_lt (tgt := 13) C0 dX5_tooDeep_3 (by decide) (fun c_3 => ((o62_37 l1 u1 e_2 c_3)).elim) (fun c_3 => ?_)
  refine lv_aload_n C0.1 C0.2.1 dX5_tooDeep_6 rfl (lv_at hl 0 rfl) ?_
  refine y_c1 (n := 4) C0 (by decide) dX5_tooDeep_7 (fun v_4 e_5 => ?_)
  refine y_cv h (y_rV (As := [.int v_4]) (rest := []) C0 hZ h (c_X5_failS l G Z ad _ h.2 v_4) k_X5_fail q_628 q_3 q_626 kSC_77 rfl rfl rfl hl.1 rfl rfl (Nat.le_of_ble_eq_true rfl) dX5_tooDeep_8 ⟨Nat.le_of_ble_eq_true rfl, Nat.le_of_ble_eq_true rfl⟩ ⟨Nat.le_of_ble_eq_true rfl, Nat.le_of_ble_eq_true rfl⟩) (fun H locs ws_6 h u_7 p_8 => ?_)
  have e_9 := p_8
  refine y_c1 (n := 1) C0 (by decide) dX5_tooDeep_11 (fun v_10 e_11 => ?_)
  have hs_12 : aF 77 ws_6 = (failS 4 (aF 77 ws0)) := e_9.trans (by rw [(o62_40 e_5)])
  have hz_13 : (failS 4 (aF 77 ws0)) = failS 4 (aF 77 ws0) := by rfl
  rw [hQ]
  exact y_zret C0 h (o62_41 e_11) (o62_39 e_11) u_7 ⟨(o62_38 e_11), (o62_39 e_11), (Eq.trans hs_12 hz_13)⟩ dX5_tooDeep_12
set_option maxHeartbeats 4000000 in
set_option maxRecDepth 100000 in
theorem c_X5_atom_6S {T : Nat → Int} (l : Launch) (G : GG) (Z : RZ) (ad : Nat → Nat) (ws0 : va_W) (hT : Ty G (SC tt) ad ws0) (a1 : Int32) (l1 : 6 ≤ a1.toInt) (u1 : a1.toInt ≤ 6) (hTp : Tp T ws0) : Mq l yX5_atom cX5_atom 3 none 6 G Z [.ref (ad 77), .int a1] ws0 (PV G (SC tt) ad [2, 3, 16] ws0 (fun u => (aF 77 u = atomD T 0 (aF 77 ws0)))) := by
  refine Mq.start (by decide) (Nat.le_of_ble_eq_true rfl) ?_
  intro p e s m below meth c A ls C0 hZ h hl
  have hl : lv_has ls 3 [(0, .ref (ad 77)), (1, .int a1)] := hl
  have h : Wt G (SC tt) ad A s s.heap [] ws0 := ⟨h, hT⟩
  obtain ⟨args, hargs⟩ : ∃ z, z = ([.ref (ad 77), .int a1] : List Value).toArray := ⟨_, rfl⟩
  rw [← hargs] at C0 ⊢
  have C0 : Cx p s m args meth c RX5 cX5_atom 3 none := C0
  obtain ⟨Q, hQ⟩ : ∃ z, z = MQ below ((PV G (SC tt) ad [2, 3, 16] ws0 (fun u => (aF 77 u = atomD T 0 (aF 77 ws0)))) A) args s 0 0 A := ⟨_, rfl⟩
  rw [← hQ]
  refine lv_aload_n C0.1 C0.2.1 dX5_atom_0 rfl (lv_at hl 0 rfl) ?_
  refine tg_X5_kind C0 h kSC_77 q_374 dX5_atom_1 (fun v_1 e_2 e_3 e_4 => ?_)
  refine y_c1 (n := 2) C0 (by decide) dX5_atom_4 (fun v_5 e_6 => ?_)
  refine y_icmp_ne (tgt := 26) C0 dX5_atom_5 (by decide) (fun c_7 => ?_) (fun c_7 => ?_)
  · -- 5
    refine lv_aload_n C0.1 C0.2.1 dX5_atom_26 rfl (lv_at hl 0 rfl) ?_
    refine tg_X5_kind C0 h kSC_77 q_374 dX5_atom_27 (fun v_8 e_9 e_10 e_11 => ?_)
    have q_12 : v_8.toInt = v_1.toInt := congrArg Int32.toInt (e_9.symm.trans (Eq.trans rfl e_2))
    refine y_c2 (n := 40) C0 (by decide) dX5_atom_30 (fun v_13 e_14 => ?_)
    refine y_icmp_ne (tgt := 63) C0 dX5_atom_32 (by decide) (fun c_15 => ?_) (fun c_15 => ?_)
    · -- 32
      refine lv_aload_n C0.1 C0.2.1 dX5_atom_63 rfl (lv_at hl 0 rfl) ?_
      refine va_ldcS C0.1 C0.2.1 C0.2.2.2.1 (sr_12 hZ) dX5_atom_64 ?_
      refine y_ci h (y_rV (As := [.ref (Z.2.1 12)]) (rest := []) C0 hZ h (c_X5_isWordS l G Z ad _ h.2 12 (by decide) hTp) k_X5_isWord q_724 q_5 q_722 kSC_77 rfl rfl rfl hl.1 rfl rfl (Nat.le_of_ble_eq_true rfl) dX5_atom_66 ⟨Nat.le_of_ble_eq_true rfl, Nat.le_of_ble_eq_true rfl⟩ ⟨Nat.le_of_ble_eq_true rfl, Nat.le_of_ble_eq_true rfl⟩) (fun r_19 H locs ws_16 h u_17 p_18 => ?_)
      obtain ⟨e_20, e_21, e_22⟩ := p_18
      refine y_if_eq (tgt := 78) C0 dX5_atom_69 (by decide) (fun c_23 => ?_) (fun c_23 => ?_)
      · -- 69
        refine lv_aload_n C0.1 C0.2.1 dX5_atom_78 rfl (lv_at hl 0 rfl) ?_
        refine va_ldcS C0.1 C0.2.1 C0.2.2.2.1 (sr_13 hZ) dX5_atom_79 ?_
        refine y_ci h (y_rV (As := [.ref (Z.2.1 13)]) (rest := []) C0 hZ h (c_X5_isWordS l G Z ad _ h.2 13 (by decide) ((Tp.fr (M := []) hTp u_17 kSC_78 (by decide)))) k_X5_isWord q_724 q_5 q_722 kSC_77 rfl rfl rfl hl.1 rfl rfl (Nat.le_of_ble_eq_true rfl) dX5_atom_81 ⟨Nat.le_of_ble_eq_true rfl, Nat.le_of_ble_eq_true rfl⟩ ⟨Nat.le_of_ble_eq_true rfl, Nat.le_of_ble_eq_true rfl⟩) (fun r_27 H locs ws_24 h u_25 p_26 => ?_)
        obtain ⟨e_28, e_29, e_30⟩ := p_26
        refine y_if_eq (tgt := 93) C0 dX5_atom_84 (by decide) (fun c_31 => ?_) (fun c_31 => ?_)
        · -- 84
          refine lv_aload_n C0.1 C0.2.1 dX5_atom_93 rfl (lv_at hl 0 rfl) ?_
          refine va_ldcS C0.1 C0.2.1 C0.2.2.2.1 (sr_14 hZ) dX5_atom_94 ?_
          refine y_ci h (y_rV (As := [.ref (Z.2.1 14)]) (rest := []) C0 hZ h (c_X5_isWordS l G Z ad _ h.2 14 (by decide) ((Tp.fr (M := []) hTp (Fr.tr u_17 u_25) kSC_78 (by decide)))) k_X5_isWord q_724 q_5 q_722 kSC_77 rfl rfl rfl hl.1 rfl rfl (Nat.le_of_ble_eq_true rfl) dX5_atom_96 ⟨Nat.le_of_ble_eq_true rfl, Nat.le_of_ble_eq_true rfl⟩ ⟨Nat.le_of_ble_eq_true rfl, Nat.le_of_ble_eq_true rfl⟩) (fun r_35 H locs ws_32 h u_33 p_34 => ?_)
          obtain ⟨e_36, e_37, e_38⟩ := p_34
          refine y_if_eq (tgt := 108) C0 dX5_atom_99 (by decide) (fun c_39 => ?_) (fun c_39 => ?_)
          · -- 99
            refine lv_aload_n C0.1 C0.2.1 dX5_atom_108 rfl (lv_at hl 0 rfl) ?_
            refine va_ldcS C0.1 C0.2.1 C0.2.2.2.1 (sr_15 hZ) dX5_atom_109 ?_
            refine y_ci h (y_rV (As := [.ref (Z.2.1 15)]) (rest := []) C0 hZ h (c_X5_isWordS l G Z ad _ h.2 15 (by decide) ((Tp.fr (M := []) hTp (Fr.tr (Fr.tr u_17 u_25) u_33) kSC_78 (by decide)))) k_X5_isWord q_724 q_5 q_722 kSC_77 rfl rfl rfl hl.1 rfl rfl (Nat.le_of_ble_eq_true rfl) dX5_atom_111 ⟨Nat.le_of_ble_eq_true rfl, Nat.le_of_ble_eq_true rfl⟩ ⟨Nat.le_of_ble_eq_true rfl, Nat.le_of_ble_eq_true rfl⟩) (fun r_43 H locs ws_40 h u_41 p_42 => ?_)
            obtain ⟨e_44, e_45, e_46⟩ := p_42
            refine y_if_eq (tgt := 123) C0 dX5_atom_114 (by decide) (fun c_47 => ?_) (fun c_47 => ?_)
            · -- 114
              refine lv_aload_n C0.1 C0.2.1 dX5_atom_123 rfl (lv_at hl 0 rfl) ?_
              refine va_ldcS C0.1 C0.2.1 C0.2.2.2.1 (sr_16 hZ) dX5_atom_124 ?_
              refine y_ci h (y_rV (As := [.ref (Z.2.1 16)]) (rest := []) C0 hZ h (c_X5_isWordS l G Z ad _ h.2 16 (by decide) ((Tp.fr (M := []) hTp (Fr.tr (Fr.tr (Fr.tr u_17 u_25) u_33) u_41) kSC_78 (by decide)))) k_X5_isWord q_724 q_5 q_722 kSC_77 rfl rfl rfl hl.1 rfl rfl (Nat.le_of_ble_eq_true rfl) dX5_atom_126 ⟨Nat.le_of_ble_eq_true rfl, Nat.le_of_ble_eq_true rfl⟩ ⟨Nat.le_of_ble_eq_true rfl, Nat.le_of_ble_eq_true rfl⟩) (fun r_51 H locs ws_48 h u_49 p_50 => ?_)
              obtain ⟨e_52, e_53, e_54⟩ := p_50
              refine y_if_eq (tgt := 138) C0 dX5_atom_129 (by decide) (fun c_55 => ?_) (fun c_55 => ?_)
              · -- 129
                refine lv_aload_n C0.1 C0.2.1 dX5_atom_138 rfl (lv_at hl 0 rfl) ?_
                refine va_ldcS C0.1 C0.2.1 C0.2.2.2.1 (sr_17 hZ) dX5_atom_139 ?_
                refine y_ci h (y_rV (As := [.ref (Z.2.1 17)]) (rest := []) C0 hZ h (c_X5_isWordS l G Z ad _ h.2 17 (by decide) ((Tp.fr (M := []) hTp (Fr.tr (Fr.tr (Fr.tr (Fr.tr u_17 u_25) u_33) u_41) u_49) kSC_78 (by decide)))) k_X5_isWord q_724 q_5 q_722 kSC_77 rfl rfl rfl hl.1 rfl rfl (Nat.le_of_ble_eq_true rfl) dX5_atom_141 ⟨Nat.le_of_ble_eq_true rfl, Nat.le_of_ble_eq_true rfl⟩ ⟨Nat.le_of_ble_eq_true rfl, Nat.le_of_ble_eq_true rfl⟩) (fun r_59 H locs ws_56 h u_57 p_58 => ?_)
                obtain ⟨e_60, e_61, e_62⟩ := p_58
                refine y_if_eq (tgt := 153) C0 dX5_atom_144 (by decide) (fun c_63 => ?_) (fun c_63 => ?_)
                · -- 144
                  refine y_c1 (n := (-1)) C0 (by decide) dX5_atom_153 (fun v_64 e_65 => ?_)
                  refine lv_istore_n (lv' := [(2, .int v_64), (0, .ref (ad 77)), (1, .int a1)]) C0.1 C0.2.1 dX5_atom_154 rfl hl (by decide) rfl (fun ls hl => ?_)
                  refine lv_iload_n C0.1 C0.2.1 dX5_atom_155 rfl (lv_at hl 0 rfl) ?_
                  refine y_if_ge (tgt := 165) C0 dX5_atom_156 (by decide) (fun c_66 => ((o62_42 e_65 c_66)).elim) (fun c_66 => ?_)
                  refine lv_aload_n C0.1 C0.2.1 dX5_atom_159 rfl (lv_at hl 1 rfl) ?_
                  refine y_c1 (n := 2) C0 (by decide) dX5_atom_160 (fun v_67 e_68 => ?_)
                  refine y_cv h (y_rV (As := [.int v_67]) (rest := []) C0 hZ h (c_X5_failS l G Z ad _ h.2 v_67) k_X5_fail q_628 q_3 q_626 kSC_77 rfl rfl rfl hl.1 rfl rfl (Nat.le_of_ble_eq_true rfl) dX5_atom_161 ⟨Nat.le_of_ble_eq_true rfl, Nat.le_of_ble_eq_true rfl⟩ ⟨Nat.le_of_ble_eq_true rfl, Nat.le_of_ble_eq_true rfl⟩) (fun H locs ws_69 h u_70 p_71 => ?_)
                  have e_72 := p_71
                  have hv_73 : (aF 77 ws0) 4 = v_1.toInt := (aF_at (by decide) e_2)
                  have hv_74 : (aF 77 ws0) 4 = v_8.toInt := (aF_at (by decide) e_9)
                  have hq_75 := e_22
                  have hs_76 : aF 77 ws_16 = (aF 77 ws0) := (aF_fr u_17 kSC_77 (by decide))
                  have hq_77 := e_30
                  rw [hs_76] at hq_77
                  have hs_78 : aF 77 ws_24 = (aF 77 ws0) := (aF_fr u_25 kSC_77 (by decide)).trans hs_76
                  have hq_79 := e_38
                  rw [hs_78] at hq_79
                  have hs_80 : aF 77 ws_32 = (aF 77 ws0) := (aF_fr u_33 kSC_77 (by decide)).trans hs_78
                  have hq_81 := e_46
                  rw [hs_80] at hq_81
                  have hs_82 : aF 77 ws_40 = (aF 77 ws0) := (aF_fr u_41 kSC_77 (by decide)).trans hs_80
                  have hq_83 := e_54
                  rw [hs_82] at hq_83
                  have hs_84 : aF 77 ws_48 = (aF 77 ws0) := (aF_fr u_49 kSC_77 (by decide)).trans hs_82
                  have hq_85 := e_62
                  rw [hs_84] at hq_85
                  have hs_86 : aF 77 ws_56 = (aF 77 ws0) := (aF_fr u_57 kSC_77 (by decide)).trans hs_84
                  have hs_87 : aF 77 ws_69 = (failS 2 (aF 77 ws0)) := e_72.trans ((congrArg (fun s => failS v_67.toInt s) hs_86).trans (by rw [(o62_1 e_68)]))
                  have hz_88 : (failS 2 (aF 77 ws0)) = atomD T 0 (aF 77 ws0) := by rw [atomD_0]; unfold atomF; (repeat' split) <;> first | rfl | (exfalso; omega)
                  rw [hQ]
                  exact y_vret C0 h (Fr.tr (Fr.tr (Fr.tr (Fr.tr (Fr.tr (Fr.tr (Fr.mono u_17 (by decide)) (Fr.mono u_25 (by decide))) (Fr.mono u_33 (by decide))) (Fr.mono u_41 (by decide))) (Fr.mono u_49 (by decide))) (Fr.mono u_57 (by decide))) (Fr.mono u_70 (by decide))) (Eq.trans hs_87 hz_88) dX5_atom_164
                · -- 144
                  refine y_c3 (n := 1005) C0 (by decide) dX5_atom_147 (fun v_89 e_90 => ?_)
                  refine lv_goto (tgt := 154) C0.1 C0.2.1 dX5_atom_150 (by decide) ?_
                  refine lv_istore_n (lv' := [(2, .int v_89), (0, .ref (ad 77)), (1, .int a1)]) C0.1 C0.2.1 dX5_atom_154 rfl hl (by decide) rfl (fun ls hl => ?_)
                  refine lv_iload_n C0.1 C0.2.1 dX5_atom_155 rfl (lv_at hl 0 rfl) ?_
                  refine y_if_ge (tgt := 165) C0 dX5_atom_156 (by decide) (fun c_91 => ?_) (fun c_91 => ((o62_43 e_90 c_91)).elim)
                  refine lv_aload_n C0.1 C0.2.1 dX5_atom_165 rfl (lv_at hl 1 rfl) ?_
                  refine tg_X5_law C0 h kSC_77 q_380 dX5_atom_166 (fun i_92 hi_92 => ?_)
                  refine lv_iload_n C0.1 C0.2.1 dX5_atom_169 rfl (lv_at hl 0 rfl) ?_
                  refine y_cv h (y_rV (As := [.int v_89]) (rest := []) C0 hZ h (c_X4_add l G Z ad _ h.2 i_92 hi_92 v_89) k_X4_add q_827 q_828 q_826 hi_92 rfl rfl rfl hl.1 rfl rfl (Nat.le_of_ble_eq_true rfl) dX5_atom_170 ⟨Nat.le_of_ble_eq_true rfl, Nat.le_of_ble_eq_true rfl⟩ ⟨Nat.le_of_ble_eq_true rfl, Nat.le_of_ble_eq_true rfl⟩) (fun H locs ws_93 h u_94 p_95 => ?_)
                  refine lv_aload_n C0.1 C0.2.1 dX5_atom_173 rfl (lv_at hl 1 rfl) ?_
                  refine y_cv h (y_rV (As := []) (rest := []) C0 hZ h (c_X5_advanceS l G Z ad _ h.2 ((Tp.fr (M := [2, 3]) hTp (Fr.tr (Fr.tr (Fr.tr (Fr.tr (Fr.tr (Fr.tr (Fr.mono u_17 (by decide)) (Fr.mono u_25 (by decide))) (Fr.mono u_33 (by decide))) (Fr.mono u_41 (by decide))) (Fr.mono u_49 (by decide))) (Fr.mono u_57 (by decide))) u_94) kSC_78 (by decide)))) k_X5_advance q_616 q_0 q_614 kSC_77 rfl rfl rfl hl.1 rfl rfl (Nat.le_of_ble_eq_true rfl) dX5_atom_174 ⟨Nat.le_of_ble_eq_true rfl, Nat.le_of_ble_eq_true rfl⟩ ⟨Nat.le_of_ble_eq_true rfl, Nat.le_of_ble_eq_true rfl⟩) (fun H locs ws_96 h u_97 p_98 => ?_)
                  have e_99 := p_98
                  have hv_100 : (aF 77 ws0) 4 = v_1.toInt := (aF_at (by decide) e_2)
                  have hv_101 : (aF 77 ws0) 4 = v_8.toInt := (aF_at (by decide) e_9)
                  have hq_102 := e_22
                  have hs_103 : aF 77 ws_16 = (aF 77 ws0) := (aF_fr u_17 kSC_77 (by decide))
                  have hq_104 := e_30
                  rw [hs_103] at hq_104
                  have hs_105 : aF 77 ws_24 = (aF 77 ws0) := (aF_fr u_25 kSC_77 (by decide)).trans hs_103
                  have hq_106 := e_38
                  rw [hs_105] at hq_106
                  have hs_107 : aF 77 ws_32 = (aF 77 ws0) := (aF_fr u_33 kSC_77 (by decide)).trans hs_105
                  have hq_108 := e_46
                  rw [hs_107] at hq_108
                  have hs_109 : aF 77 ws_40 = (aF 77 ws0) := (aF_fr u_41 kSC_77 (by decide)).trans hs_107
                  have hq_110 := e_54
                  rw [hs_109] at hq_110
                  have hs_111 : aF 77 ws_48 = (aF 77 ws0) := (aF_fr u_49 kSC_77 (by decide)).trans hs_109
                  have hq_112 := e_62
                  rw [hs_111] at hq_112
                  have hs_113 : aF 77 ws_56 = (aF 77 ws0) := (aF_fr u_57 kSC_77 (by decide)).trans hs_111
                  have hs_114 : aF 77 ws_93 = (aF 77 ws0) := (aF_fr u_94 kSC_77 (by decide)).trans hs_113
                  have hs_115 : aF 77 ws_96 = (advS T (aF 77 ws0)) := e_99.trans (congrArg (fun s => advS T s) hs_114)
                  have hz_116 : (advS T (aF 77 ws0)) = atomD T 0 (aF 77 ws0) := by rw [atomD_0]; unfold atomF; (repeat' split) <;> first | rfl | (exfalso; omega)
                  rw [hQ]
                  exact y_vret C0 h (Fr.tr (Fr.tr (Fr.tr (Fr.tr (Fr.tr (Fr.tr (Fr.tr (Fr.mono u_17 (by decide)) (Fr.mono u_25 (by decide))) (Fr.mono u_33 (by decide))) (Fr.mono u_41 (by decide))) (Fr.mono u_49 (by decide))) (Fr.mono u_57 (by decide))) (Fr.mono u_94 (by decide))) (Fr.mono u_97 (by decide))) (Eq.trans hs_115 hz_116) dX5_atom_177
              · -- 129
                refine y_c3 (n := 1004) C0 (by decide) dX5_atom_132 (fun v_117 e_118 => ?_)
                refine lv_goto (tgt := 154) C0.1 C0.2.1 dX5_atom_135 (by decide) ?_
                refine lv_istore_n (lv' := [(2, .int v_117), (0, .ref (ad 77)), (1, .int a1)]) C0.1 C0.2.1 dX5_atom_154 rfl hl (by decide) rfl (fun ls hl => ?_)
                refine lv_iload_n C0.1 C0.2.1 dX5_atom_155 rfl (lv_at hl 0 rfl) ?_
                refine y_if_ge (tgt := 165) C0 dX5_atom_156 (by decide) (fun c_119 => ?_) (fun c_119 => ((o62_44 e_118 c_119)).elim)
                refine lv_aload_n C0.1 C0.2.1 dX5_atom_165 rfl (lv_at hl 1 rfl) ?_
                refine tg_X5_law C0 h kSC_77 q_380 dX5_atom_166 (fun i_120 hi_120 => ?_)
                refine lv_iload_n C0.1 C0.2.1 dX5_atom_169 rfl (lv_at hl 0 rfl) ?_
                refine y_cv h (y_rV (As := [.int v_117]) (rest := []) C0 hZ h (c_X4_add l G Z ad _ h.2 i_120 hi_120 v_117) k_X4_add q_827 q_828 q_826 hi_120 rfl rfl rfl hl.1 rfl rfl (Nat.le_of_ble_eq_true rfl) dX5_atom_170 ⟨Nat.le_of_ble_eq_true rfl, Nat.le_of_ble_eq_true rfl⟩ ⟨Nat.le_of_ble_eq_true rfl, Nat.le_of_ble_eq_true rfl⟩) (fun H locs ws_121 h u_122 p_123 => ?_)
                refine lv_aload_n C0.1 C0.2.1 dX5_atom_173 rfl (lv_at hl 1 rfl) ?_
                refine y_cv h (y_rV (As := []) (rest := []) C0 hZ h (c_X5_advanceS l G Z ad _ h.2 ((Tp.fr (M := [2, 3]) hTp (Fr.tr (Fr.tr (Fr.tr (Fr.tr (Fr.tr (Fr.mono u_17 (by decide)) (Fr.mono u_25 (by decide))) (Fr.mono u_33 (by decide))) (Fr.mono u_41 (by decide))) (Fr.mono u_49 (by decide))) u_122) kSC_78 (by decide)))) k_X5_advance q_616 q_0 q_614 kSC_77 rfl rfl rfl hl.1 rfl rfl (Nat.le_of_ble_eq_true rfl) dX5_atom_174 ⟨Nat.le_of_ble_eq_true rfl, Nat.le_of_ble_eq_true rfl⟩ ⟨Nat.le_of_ble_eq_true rfl, Nat.le_of_ble_eq_true rfl⟩) (fun H locs ws_124 h u_125 p_126 => ?_)
                have e_127 := p_126
                have hv_128 : (aF 77 ws0) 4 = v_1.toInt := (aF_at (by decide) e_2)
                have hv_129 : (aF 77 ws0) 4 = v_8.toInt := (aF_at (by decide) e_9)
                have hq_130 := e_22
                have hs_131 : aF 77 ws_16 = (aF 77 ws0) := (aF_fr u_17 kSC_77 (by decide))
                have hq_132 := e_30
                rw [hs_131] at hq_132
                have hs_133 : aF 77 ws_24 = (aF 77 ws0) := (aF_fr u_25 kSC_77 (by decide)).trans hs_131
                have hq_134 := e_38
                rw [hs_133] at hq_134
                have hs_135 : aF 77 ws_32 = (aF 77 ws0) := (aF_fr u_33 kSC_77 (by decide)).trans hs_133
                have hq_136 := e_46
                rw [hs_135] at hq_136
                have hs_137 : aF 77 ws_40 = (aF 77 ws0) := (aF_fr u_41 kSC_77 (by decide)).trans hs_135
                have hq_138 := e_54
                rw [hs_137] at hq_138
                have hs_139 : aF 77 ws_48 = (aF 77 ws0) := (aF_fr u_49 kSC_77 (by decide)).trans hs_137
                have hs_140 : aF 77 ws_121 = (aF 77 ws0) := (aF_fr u_122 kSC_77 (by decide)).trans hs_139
                have hs_141 : aF 77 ws_124 = (advS T (aF 77 ws0)) := e_127.trans (congrArg (fun s => advS T s) hs_140)
                have hz_142 : (advS T (aF 77 ws0)) = atomD T 0 (aF 77 ws0) := by rw [atomD_0]; unfold atomF; (repeat' split) <;> first | rfl | (exfalso; omega)
                rw [hQ]
                exact y_vret C0 h (Fr.tr (Fr.tr (Fr.tr (Fr.tr (Fr.tr (Fr.tr (Fr.mono u_17 (by decide)) (Fr.mono u_25 (by decide))) (Fr.mono u_33 (by decide))) (Fr.mono u_41 (by decide))) (Fr.mono u_49 (by decide))) (Fr.mono u_122 (by decide))) (Fr.mono u_125 (by decide))) (Eq.trans hs_141 hz_142) dX5_atom_177
            · -- 114
              refine y_c3 (n := 1003) C0 (by decide) dX5_atom_117 (fun v_143 e_144 => ?_)
              refine lv_goto (tgt := 154) C0.1 C0.2.1 dX5_atom_120 (by decide) ?_
              refine lv_istore_n (lv' := [(2, .int v_143), (0, .ref (ad 77)), (1, .int a1)]) C0.1 C0.2.1 dX5_atom_154 rfl hl (by decide) rfl (fun ls hl => ?_)
              refine lv_iload_n C0.1 C0.2.1 dX5_atom_155 rfl (lv_at hl 0 rfl) ?_
              refine y_if_ge (tgt := 165) C0 dX5_atom_156 (by decide) (fun c_145 => ?_) (fun c_145 => ((o62_45 e_144 c_145)).elim)
              refine lv_aload_n C0.1 C0.2.1 dX5_atom_165 rfl (lv_at hl 1 rfl) ?_
              refine tg_X5_law C0 h kSC_77 q_380 dX5_atom_166 (fun i_146 hi_146 => ?_)
              refine lv_iload_n C0.1 C0.2.1 dX5_atom_169 rfl (lv_at hl 0 rfl) ?_
              refine y_cv h (y_rV (As := [.int v_143]) (rest := []) C0 hZ h (c_X4_add l G Z ad _ h.2 i_146 hi_146 v_143) k_X4_add q_827 q_828 q_826 hi_146 rfl rfl rfl hl.1 rfl rfl (Nat.le_of_ble_eq_true rfl) dX5_atom_170 ⟨Nat.le_of_ble_eq_true rfl, Nat.le_of_ble_eq_true rfl⟩ ⟨Nat.le_of_ble_eq_true rfl, Nat.le_of_ble_eq_true rfl⟩) (fun H locs ws_147 h u_148 p_149 => ?_)
              refine lv_aload_n C0.1 C0.2.1 dX5_atom_173 rfl (lv_at hl 1 rfl) ?_
              refine y_cv h (y_rV (As := []) (rest := []) C0 hZ h (c_X5_advanceS l G Z ad _ h.2 ((Tp.fr (M := [2, 3]) hTp (Fr.tr (Fr.tr (Fr.tr (Fr.tr (Fr.mono u_17 (by decide)) (Fr.mono u_25 (by decide))) (Fr.mono u_33 (by decide))) (Fr.mono u_41 (by decide))) u_148) kSC_78 (by decide)))) k_X5_advance q_616 q_0 q_614 kSC_77 rfl rfl rfl hl.1 rfl rfl (Nat.le_of_ble_eq_true rfl) dX5_atom_174 ⟨Nat.le_of_ble_eq_true rfl, Nat.le_of_ble_eq_true rfl⟩ ⟨Nat.le_of_ble_eq_true rfl, Nat.le_of_ble_eq_true rfl⟩) (fun H locs ws_150 h u_151 p_152 => ?_)
              have e_153 := p_152
              have hv_154 : (aF 77 ws0) 4 = v_1.toInt := (aF_at (by decide) e_2)
              have hv_155 : (aF 77 ws0) 4 = v_8.toInt := (aF_at (by decide) e_9)
              have hq_156 := e_22
              have hs_157 : aF 77 ws_16 = (aF 77 ws0) := (aF_fr u_17 kSC_77 (by decide))
              have hq_158 := e_30
              rw [hs_157] at hq_158
              have hs_159 : aF 77 ws_24 = (aF 77 ws0) := (aF_fr u_25 kSC_77 (by decide)).trans hs_157
              have hq_160 := e_38
              rw [hs_159] at hq_160
              have hs_161 : aF 77 ws_32 = (aF 77 ws0) := (aF_fr u_33 kSC_77 (by decide)).trans hs_159
              have hq_162 := e_46
              rw [hs_161] at hq_162
              have hs_163 : aF 77 ws_40 = (aF 77 ws0) := (aF_fr u_41 kSC_77 (by decide)).trans hs_161
              have hs_164 : aF 77 ws_147 = (aF 77 ws0) := (aF_fr u_148 kSC_77 (by decide)).trans hs_163
              have hs_165 : aF 77 ws_150 = (advS T (aF 77 ws0)) := e_153.trans (congrArg (fun s => advS T s) hs_164)
              have hz_166 : (advS T (aF 77 ws0)) = atomD T 0 (aF 77 ws0) := by rw [atomD_0]; unfold atomF; (repeat' split) <;> first | rfl | (exfalso; omega)
              rw [hQ]
              exact y_vret C0 h (Fr.tr (Fr.tr (Fr.tr (Fr.tr (Fr.tr (Fr.mono u_17 (by decide)) (Fr.mono u_25 (by decide))) (Fr.mono u_33 (by decide))) (Fr.mono u_41 (by decide))) (Fr.mono u_148 (by decide))) (Fr.mono u_151 (by decide))) (Eq.trans hs_165 hz_166) dX5_atom_177
          · -- 99
            refine y_c3 (n := 1002) C0 (by decide) dX5_atom_102 (fun v_167 e_168 => ?_)
            refine lv_goto (tgt := 154) C0.1 C0.2.1 dX5_atom_105 (by decide) ?_
            refine lv_istore_n (lv' := [(2, .int v_167), (0, .ref (ad 77)), (1, .int a1)]) C0.1 C0.2.1 dX5_atom_154 rfl hl (by decide) rfl (fun ls hl => ?_)
            refine lv_iload_n C0.1 C0.2.1 dX5_atom_155 rfl (lv_at hl 0 rfl) ?_
            refine y_if_ge (tgt := 165) C0 dX5_atom_156 (by decide) (fun c_169 => ?_) (fun c_169 => ((o62_46 e_168 c_169)).elim)
            refine lv_aload_n C0.1 C0.2.1 dX5_atom_165 rfl (lv_at hl 1 rfl) ?_
            refine tg_X5_law C0 h kSC_77 q_380 dX5_atom_166 (fun i_170 hi_170 => ?_)
            refine lv_iload_n C0.1 C0.2.1 dX5_atom_169 rfl (lv_at hl 0 rfl) ?_
            refine y_cv h (y_rV (As := [.int v_167]) (rest := []) C0 hZ h (c_X4_add l G Z ad _ h.2 i_170 hi_170 v_167) k_X4_add q_827 q_828 q_826 hi_170 rfl rfl rfl hl.1 rfl rfl (Nat.le_of_ble_eq_true rfl) dX5_atom_170 ⟨Nat.le_of_ble_eq_true rfl, Nat.le_of_ble_eq_true rfl⟩ ⟨Nat.le_of_ble_eq_true rfl, Nat.le_of_ble_eq_true rfl⟩) (fun H locs ws_171 h u_172 p_173 => ?_)
            refine lv_aload_n C0.1 C0.2.1 dX5_atom_173 rfl (lv_at hl 1 rfl) ?_
            refine y_cv h (y_rV (As := []) (rest := []) C0 hZ h (c_X5_advanceS l G Z ad _ h.2 ((Tp.fr (M := [2, 3]) hTp (Fr.tr (Fr.tr (Fr.tr (Fr.mono u_17 (by decide)) (Fr.mono u_25 (by decide))) (Fr.mono u_33 (by decide))) u_172) kSC_78 (by decide)))) k_X5_advance q_616 q_0 q_614 kSC_77 rfl rfl rfl hl.1 rfl rfl (Nat.le_of_ble_eq_true rfl) dX5_atom_174 ⟨Nat.le_of_ble_eq_true rfl, Nat.le_of_ble_eq_true rfl⟩ ⟨Nat.le_of_ble_eq_true rfl, Nat.le_of_ble_eq_true rfl⟩) (fun H locs ws_174 h u_175 p_176 => ?_)
            have e_177 := p_176
            have hv_178 : (aF 77 ws0) 4 = v_1.toInt := (aF_at (by decide) e_2)
            have hv_179 : (aF 77 ws0) 4 = v_8.toInt := (aF_at (by decide) e_9)
            have hq_180 := e_22
            have hs_181 : aF 77 ws_16 = (aF 77 ws0) := (aF_fr u_17 kSC_77 (by decide))
            have hq_182 := e_30
            rw [hs_181] at hq_182
            have hs_183 : aF 77 ws_24 = (aF 77 ws0) := (aF_fr u_25 kSC_77 (by decide)).trans hs_181
            have hq_184 := e_38
            rw [hs_183] at hq_184
            have hs_185 : aF 77 ws_32 = (aF 77 ws0) := (aF_fr u_33 kSC_77 (by decide)).trans hs_183
            have hs_186 : aF 77 ws_171 = (aF 77 ws0) := (aF_fr u_172 kSC_77 (by decide)).trans hs_185
            have hs_187 : aF 77 ws_174 = (advS T (aF 77 ws0)) := e_177.trans (congrArg (fun s => advS T s) hs_186)
            have hz_188 : (advS T (aF 77 ws0)) = atomD T 0 (aF 77 ws0) := by rw [atomD_0]; unfold atomF; (repeat' split) <;> first | rfl | (exfalso; omega)
            rw [hQ]
            exact y_vret C0 h (Fr.tr (Fr.tr (Fr.tr (Fr.tr (Fr.mono u_17 (by decide)) (Fr.mono u_25 (by decide))) (Fr.mono u_33 (by decide))) (Fr.mono u_172 (by decide))) (Fr.mono u_175 (by decide))) (Eq.trans hs_187 hz_188) dX5_atom_177
        · -- 84
          refine y_c3 (n := 1001) C0 (by decide) dX5_atom_87 (fun v_189 e_190 => ?_)
          refine lv_goto (tgt := 154) C0.1 C0.2.1 dX5_atom_90 (by decide) ?_
          refine lv_istore_n (lv' := [(2, .int v_189), (0, .ref (ad 77)), (1, .int a1)]) C0.1 C0.2.1 dX5_atom_154 rfl hl (by decide) rfl (fun ls hl => ?_)
          refine lv_iload_n C0.1 C0.2.1 dX5_atom_155 rfl (lv_at hl 0 rfl) ?_
          refine y_if_ge (tgt := 165) C0 dX5_atom_156 (by decide) (fun c_191 => ?_) (fun c_191 => ((o62_47 e_190 c_191)).elim)
          refine lv_aload_n C0.1 C0.2.1 dX5_atom_165 rfl (lv_at hl 1 rfl) ?_
          refine tg_X5_law C0 h kSC_77 q_380 dX5_atom_166 (fun i_192 hi_192 => ?_)
          refine lv_iload_n C0.1 C0.2.1 dX5_atom_169 rfl (lv_at hl 0 rfl) ?_
          refine y_cv h (y_rV (As := [.int v_189]) (rest := []) C0 hZ h (c_X4_add l G Z ad _ h.2 i_192 hi_192 v_189) k_X4_add q_827 q_828 q_826 hi_192 rfl rfl rfl hl.1 rfl rfl (Nat.le_of_ble_eq_true rfl) dX5_atom_170 ⟨Nat.le_of_ble_eq_true rfl, Nat.le_of_ble_eq_true rfl⟩ ⟨Nat.le_of_ble_eq_true rfl, Nat.le_of_ble_eq_true rfl⟩) (fun H locs ws_193 h u_194 p_195 => ?_)
          refine lv_aload_n C0.1 C0.2.1 dX5_atom_173 rfl (lv_at hl 1 rfl) ?_
          refine y_cv h (y_rV (As := []) (rest := []) C0 hZ h (c_X5_advanceS l G Z ad _ h.2 ((Tp.fr (M := [2, 3]) hTp (Fr.tr (Fr.tr (Fr.mono u_17 (by decide)) (Fr.mono u_25 (by decide))) u_194) kSC_78 (by decide)))) k_X5_advance q_616 q_0 q_614 kSC_77 rfl rfl rfl hl.1 rfl rfl (Nat.le_of_ble_eq_true rfl) dX5_atom_174 ⟨Nat.le_of_ble_eq_true rfl, Nat.le_of_ble_eq_true rfl⟩ ⟨Nat.le_of_ble_eq_true rfl, Nat.le_of_ble_eq_true rfl⟩) (fun H locs ws_196 h u_197 p_198 => ?_)
          have e_199 := p_198
          have hv_200 : (aF 77 ws0) 4 = v_1.toInt := (aF_at (by decide) e_2)
          have hv_201 : (aF 77 ws0) 4 = v_8.toInt := (aF_at (by decide) e_9)
          have hq_202 := e_22
          have hs_203 : aF 77 ws_16 = (aF 77 ws0) := (aF_fr u_17 kSC_77 (by decide))
          have hq_204 := e_30
          rw [hs_203] at hq_204
          have hs_205 : aF 77 ws_24 = (aF 77 ws0) := (aF_fr u_25 kSC_77 (by decide)).trans hs_203
          have hs_206 : aF 77 ws_193 = (aF 77 ws0) := (aF_fr u_194 kSC_77 (by decide)).trans hs_205
          have hs_207 : aF 77 ws_196 = (advS T (aF 77 ws0)) := e_199.trans (congrArg (fun s => advS T s) hs_206)
          have hz_208 : (advS T (aF 77 ws0)) = atomD T 0 (aF 77 ws0) := by rw [atomD_0]; unfold atomF; (repeat' split) <;> first | rfl | (exfalso; omega)
          rw [hQ]
          exact y_vret C0 h (Fr.tr (Fr.tr (Fr.tr (Fr.mono u_17 (by decide)) (Fr.mono u_25 (by decide))) (Fr.mono u_194 (by decide))) (Fr.mono u_197 (by decide))) (Eq.trans hs_207 hz_208) dX5_atom_177
      · -- 69
        refine y_c3 (n := 1000) C0 (by decide) dX5_atom_72 (fun v_209 e_210 => ?_)
        refine lv_goto (tgt := 154) C0.1 C0.2.1 dX5_atom_75 (by decide) ?_
        refine lv_istore_n (lv' := [(2, .int v_209), (0, .ref (ad 77)), (1, .int a1)]) C0.1 C0.2.1 dX5_atom_154 rfl hl (by decide) rfl (fun ls hl => ?_)
        refine lv_iload_n C0.1 C0.2.1 dX5_atom_155 rfl (lv_at hl 0 rfl) ?_
        refine y_if_ge (tgt := 165) C0 dX5_atom_156 (by decide) (fun c_211 => ?_) (fun c_211 => ((o62_48 e_210 c_211)).elim)
        refine lv_aload_n C0.1 C0.2.1 dX5_atom_165 rfl (lv_at hl 1 rfl) ?_
        refine tg_X5_law C0 h kSC_77 q_380 dX5_atom_166 (fun i_212 hi_212 => ?_)
        refine lv_iload_n C0.1 C0.2.1 dX5_atom_169 rfl (lv_at hl 0 rfl) ?_
        refine y_cv h (y_rV (As := [.int v_209]) (rest := []) C0 hZ h (c_X4_add l G Z ad _ h.2 i_212 hi_212 v_209) k_X4_add q_827 q_828 q_826 hi_212 rfl rfl rfl hl.1 rfl rfl (Nat.le_of_ble_eq_true rfl) dX5_atom_170 ⟨Nat.le_of_ble_eq_true rfl, Nat.le_of_ble_eq_true rfl⟩ ⟨Nat.le_of_ble_eq_true rfl, Nat.le_of_ble_eq_true rfl⟩) (fun H locs ws_213 h u_214 p_215 => ?_)
        refine lv_aload_n C0.1 C0.2.1 dX5_atom_173 rfl (lv_at hl 1 rfl) ?_
        refine y_cv h (y_rV (As := []) (rest := []) C0 hZ h (c_X5_advanceS l G Z ad _ h.2 ((Tp.fr (M := [2, 3]) hTp (Fr.tr (Fr.mono u_17 (by decide)) u_214) kSC_78 (by decide)))) k_X5_advance q_616 q_0 q_614 kSC_77 rfl rfl rfl hl.1 rfl rfl (Nat.le_of_ble_eq_true rfl) dX5_atom_174 ⟨Nat.le_of_ble_eq_true rfl, Nat.le_of_ble_eq_true rfl⟩ ⟨Nat.le_of_ble_eq_true rfl, Nat.le_of_ble_eq_true rfl⟩) (fun H locs ws_216 h u_217 p_218 => ?_)
        have e_219 := p_218
        have hv_220 : (aF 77 ws0) 4 = v_1.toInt := (aF_at (by decide) e_2)
        have hv_221 : (aF 77 ws0) 4 = v_8.toInt := (aF_at (by decide) e_9)
        have hq_222 := e_22
        have hs_223 : aF 77 ws_16 = (aF 77 ws0) := (aF_fr u_17 kSC_77 (by decide))
        have hs_224 : aF 77 ws_213 = (aF 77 ws0) := (aF_fr u_214 kSC_77 (by decide)).trans hs_223
        have hs_225 : aF 77 ws_216 = (advS T (aF 77 ws0)) := e_219.trans (congrArg (fun s => advS T s) hs_224)
        have hz_226 : (advS T (aF 77 ws0)) = atomD T 0 (aF 77 ws0) := by rw [atomD_0]; unfold atomF; (repeat' split) <;> first | rfl | (exfalso; omega)
        rw [hQ]
        exact y_vret C0 h (Fr.tr (Fr.tr (Fr.mono u_17 (by decide)) (Fr.mono u_214 (by decide))) (Fr.mono u_217 (by decide))) (Eq.trans hs_225 hz_226) dX5_atom_177
    · -- 32
      refine lv_aload_n C0.1 C0.2.1 dX5_atom_35 rfl (lv_at hl 0 rfl) ?_
      refine lv_iload_n C0.1 C0.2.1 dX5_atom_36 rfl (lv_at hl 1 rfl) ?_
      refine y_ci h (y_rV (As := [.int a1]) (rest := []) C0 hZ h (c_X5_tooDeep_6S l G Z ad _ h.2 a1 (o62_49 l1 u1) (o62_50 l1 u1)) k_X5_tooDeep q_832 q_18 q_830 kSC_77 rfl rfl rfl hl.1 rfl rfl (Nat.le_of_ble_eq_true rfl) dX5_atom_37 ⟨Nat.le_of_ble_eq_true rfl, Nat.le_of_ble_eq_true rfl⟩ ⟨Nat.le_of_ble_eq_true rfl, Nat.le_of_ble_eq_true rfl⟩) (fun r_230 H locs ws_227 h u_228 p_229 => ?_)
      obtain ⟨e_231, e_232, e_233⟩ := p_229
      refine y_if_ne (tgt := 177) C0 dX5_atom_40 (by decide) (fun c_234 => ?_) (fun c_234 => ((o62_51 e_231 e_232 c_234)).elim)
      have hv_235 : (aF 77 ws0) 4 = v_1.toInt := (aF_at (by decide) e_2)
      have hv_236 : (aF 77 ws0) 4 = v_8.toInt := (aF_at (by decide) e_9)
      have hs_237 : aF 77 ws_227 = (failS 4 (aF 77 ws0)) := e_233
      have hz_238 : (failS 4 (aF 77 ws0)) = atomD T 0 (aF 77 ws0) := by rw [atomD_0]; unfold atomF; (repeat' split) <;> first | rfl | (exfalso; omega)
      rw [hQ]
      exact y_vret C0 h (Fr.mono u_228 (by decide)) (Eq.trans hs_237 hz_238) dX5_atom_177
  · -- 5
    refine lv_aload_n C0.1 C0.2.1 dX5_atom_8 rfl (lv_at hl 0 rfl) ?_
    refine tg_X5_law C0 h kSC_77 q_380 dX5_atom_9 (fun i_239 hi_239 => ?_)
    refine lv_aload_n C0.1 C0.2.1 dX5_atom_12 rfl (lv_at hl 0 rfl) ?_
    refine tg_X5_number C0 h kSC_77 q_377 dX5_atom_13 (fun v_240 e_241 e_242 e_243 => ?_)
    refine y_cv h (y_rV (As := [.int v_240]) (rest := []) C0 hZ h (c_X4_add l G Z ad _ h.2 i_239 hi_239 v_240) k_X4_add q_827 q_828 q_826 hi_239 rfl rfl rfl hl.1 rfl rfl (Nat.le_of_ble_eq_true rfl) dX5_atom_16 ⟨Nat.le_of_ble_eq_true rfl, Nat.le_of_ble_eq_true rfl⟩ ⟨Nat.le_of_ble_eq_true rfl, Nat.le_of_ble_eq_true rfl⟩) (fun H locs ws_244 h u_245 p_246 => ?_)
    refine lv_aload_n C0.1 C0.2.1 dX5_atom_19 rfl (lv_at hl 0 rfl) ?_
    refine y_cv h (y_rV (As := []) (rest := []) C0 hZ h (c_X5_advanceS l G Z ad _ h.2 ((Tp.fr (M := [2, 3]) hTp u_245 kSC_78 (by decide)))) k_X5_advance q_616 q_0 q_614 kSC_77 rfl rfl rfl hl.1 rfl rfl (Nat.le_of_ble_eq_true rfl) dX5_atom_20 ⟨Nat.le_of_ble_eq_true rfl, Nat.le_of_ble_eq_true rfl⟩ ⟨Nat.le_of_ble_eq_true rfl, Nat.le_of_ble_eq_true rfl⟩) (fun H locs ws_247 h u_248 p_249 => ?_)
    have e_250 := p_249
    refine lv_goto (tgt := 177) C0.1 C0.2.1 dX5_atom_23 (by decide) ?_
    have hv_251 : (aF 77 ws0) 4 = v_1.toInt := (aF_at (by decide) e_2)
    have hv_252 : (aF 77 ws0) 7 = v_240.toInt := (aF_at (by decide) e_241)
    have hs_253 : aF 77 ws_244 = (aF 77 ws0) := (aF_fr u_245 kSC_77 (by decide))
    have hs_254 : aF 77 ws_247 = (advS T (aF 77 ws0)) := e_250.trans (congrArg (fun s => advS T s) hs_253)
    have hz_255 : (advS T (aF 77 ws0)) = atomD T 0 (aF 77 ws0) := by rw [atomD_0]; unfold atomF; (repeat' split) <;> first | rfl | (exfalso; omega)
    rw [hQ]
    exact y_vret C0 h (Fr.tr (Fr.mono u_245 (by decide)) (Fr.mono u_248 (by decide))) (Eq.trans hs_254 hz_255) dX5_atom_177
set_option maxHeartbeats 4000000 in
set_option maxRecDepth 100000 in
theorem c_X5_term_6S {T : Nat → Int} (l : Launch) (G : GG) (Z : RZ) (ad : Nat → Nat) (ws0 : va_W) (hT : Ty G (SC tt) ad ws0) (a1 : Int32) (l1 : 6 ≤ a1.toInt) (u1 : a1.toInt ≤ 6) (hTp : Tp T ws0) : Mq l yX5_term cX5_term 3 none 7 G Z [.ref (ad 77), .int a1] ws0 (PV G (SC tt) ad [2, 3, 16] ws0 (fun u => (aF 77 u = termL T (atomD T 0) (aF 77 ws0)))) := by
  refine Mq.start (by decide) (Nat.le_of_ble_eq_true rfl) ?_
  intro p e s m below meth c A ls C0 hZ h hl
  have hl : lv_has ls 3 [(0, .ref (ad 77)), (1, .int a1)] := hl
  have h : Wt G (SC tt) ad A s s.heap [] ws0 := ⟨h, hT⟩
  obtain ⟨args, hargs⟩ : ∃ z, z = ([.ref (ad 77), .int a1] : List Value).toArray := ⟨_, rfl⟩
  rw [← hargs] at C0 ⊢
  have C0 : Cx p s m args meth c RX5 cX5_term 3 none := C0
  obtain ⟨Q, hQ⟩ : ∃ z, z = MQ below ((PV G (SC tt) ad [2, 3, 16] ws0 (fun u => (aF 77 u = termL T (atomD T 0) (aF 77 ws0)))) A) args s 0 0 A := ⟨_, rfl⟩
  rw [← hQ]
  refine lv_aload_n C0.1 C0.2.1 dX5_term_0 rfl (lv_at hl 0 rfl) ?_
  refine lv_iload_n C0.1 C0.2.1 dX5_term_1 rfl (lv_at hl 1 rfl) ?_
  refine y_cv h (y_rV (As := [.int a1]) (rest := []) C0 hZ h (c_X5_atom_6S l G Z ad _ h.2 a1 (o62_49 l1 u1) (o62_50 l1 u1) hTp) k_X5_atom q_824 q_17 q_822 kSC_77 rfl rfl rfl hl.1 rfl rfl (Nat.le_of_ble_eq_true rfl) dX5_term_2 ⟨Nat.le_of_ble_eq_true rfl, Nat.le_of_ble_eq_true rfl⟩ ⟨Nat.le_of_ble_eq_true rfl, Nat.le_of_ble_eq_true rfl⟩) (fun H locs ws_1 h u_2 p_3 => ?_)
  have e_4 := p_3
  refine y_c1 (n := 0) C0 (by decide) dX5_term_5 (fun v_5 e_6 => ?_)
  refine lv_istore_n (lv' := [(2, .int v_5), (0, .ref (ad 77)), (1, .int a1)]) C0.1 C0.2.1 dX5_term_6 rfl hl (by decide) rfl (fun ls hl => ?_)
  have lp_10 : ∀ (n_12 : Nat) (x2_7 : Int32) (H : Heap) (locs : List Loc) (ls : Array Slot) (ws_8 : va_W), 900 - x2_7.toInt < (n_12 : Int) → 0 ≤ x2_7.toInt → x2_7.toInt ≤ 900 → (lpS (fun s => s 4 = 42) (fun s => atomD T 0 (advS T s)) (900 - x2_7.toInt).toNat (aF 77 ws_8) = termL T (atomD T 0) (aF 77 ws0)) → Wt G (SC tt) ad A s H locs ws_8 → Fr (SC tt) [2, 3, 16] ws_1 ws_8 → lv_has ls 3 [(2, .int x2_7), (0, .ref (ad 77)), (1, .int a1)] → W p l e (rmd 7 0 0) s m args below meth c H locs 0 0 Q (F0 m 7 ls []) := by
    intro n_12
    induction n_12 with
    | zero => intro x2_7 H locs ls ws_8 hn_13 b_14 b_15 hSp h hF_9 hl; exact ((o62_52 b_14 b_15 hn_13)).elim
    | succ n_12 ih_11 =>
      intro x2_7 H locs ls ws_8 hn_13 b_14 b_15 hSp h hF_9 hl
      refine lv_iload_n C0.1 C0.2.1 dX5_term_7 rfl (lv_at hl 0 rfl) ?_
      refine y_c3 (n := 900) C0 (by decide) dX5_term_8 (fun v_16 e_17 => ?_)
      refine y_icmp_ge (tgt := 48) C0 dX5_term_11 (by decide) (fun c_18 => ?_) (fun c_18 => ?_)
      · -- 11
        have hz_19 : (aF 77 ws_8) = lpS (fun s => s 4 = 42) (fun s => atomD T 0 (advS T s)) (900 - x2_7.toInt).toNat (aF 77 ws_8) := by first | (exfalso; omega) | exact (lp_0 (by omega)).symm | exact (lp_e (by omega)).symm
        rw [hQ]
        exact y_vret C0 h (Fr.tr u_2 hF_9) (Eq.trans rfl (Eq.trans hz_19 hSp)) dX5_term_48
      · -- 11
        refine lv_aload_n C0.1 C0.2.1 dX5_term_14 rfl (lv_at hl 1 rfl) ?_
        refine tg_X5_kind C0 h kSC_77 q_374 dX5_term_15 (fun v_20 e_21 e_22 e_23 => ?_)
        refine y_c2 (n := 42) C0 (by decide) dX5_term_18 (fun v_24 e_25 => ?_)
        refine y_icmp_ne (tgt := 48) C0 dX5_term_20 (by decide) (fun c_26 => ?_) (fun c_26 => ?_)
        · -- 20
          have hv_27 : (aF 77 ws_8) 4 = v_20.toInt := (aF_at (by decide) e_21)
          have hz_28 : (aF 77 ws_8) = lpS (fun s => s 4 = 42) (fun s => atomD T 0 (advS T s)) (900 - x2_7.toInt).toNat (aF 77 ws_8) := by first | (exfalso; omega) | exact (lp_0 (by omega)).symm | exact (lp_e (by omega)).symm
          rw [hQ]
          exact y_vret C0 h (Fr.tr u_2 hF_9) (Eq.trans rfl (Eq.trans hz_28 hSp)) dX5_term_48
        · -- 20
          refine lv_aload_n C0.1 C0.2.1 dX5_term_23 rfl (lv_at hl 1 rfl) ?_
          refine y_cv h (y_rV (As := []) (rest := []) C0 hZ h (c_X5_advanceS l G Z ad _ h.2 ((Tp.fr (M := [2, 3, 16]) hTp (Fr.tr u_2 hF_9) kSC_78 (by decide)))) k_X5_advance q_616 q_0 q_614 kSC_77 rfl rfl rfl hl.1 rfl rfl (Nat.le_of_ble_eq_true rfl) dX5_term_24 ⟨Nat.le_of_ble_eq_true rfl, Nat.le_of_ble_eq_true rfl⟩ ⟨Nat.le_of_ble_eq_true rfl, Nat.le_of_ble_eq_true rfl⟩) (fun H locs ws_29 h u_30 p_31 => ?_)
          have e_32 := p_31
          refine lv_aload_n C0.1 C0.2.1 dX5_term_27 rfl (lv_at hl 1 rfl) ?_
          refine lv_iload_n C0.1 C0.2.1 dX5_term_28 rfl (lv_at hl 2 rfl) ?_
          refine y_cv h (y_rV (As := [.int a1]) (rest := []) C0 hZ h (c_X5_atom_6S l G Z ad _ h.2 a1 (o62_49 l1 u1) (o62_50 l1 u1) ((Tp.fr (M := [2, 3, 16]) hTp (Fr.tr (Fr.tr u_2 hF_9) (Fr.mono u_30 (by decide))) kSC_78 (by decide)))) k_X5_atom q_824 q_17 q_822 kSC_77 rfl rfl rfl hl.1 rfl rfl (Nat.le_of_ble_eq_true rfl) dX5_term_29 ⟨Nat.le_of_ble_eq_true rfl, Nat.le_of_ble_eq_true rfl⟩ ⟨Nat.le_of_ble_eq_true rfl, Nat.le_of_ble_eq_true rfl⟩) (fun H locs ws_33 h u_34 p_35 => ?_)
          have e_36 := p_35
          refine lv_aload_n C0.1 C0.2.1 dX5_term_32 rfl (lv_at hl 1 rfl) ?_
          refine tg_X5_law C0 h kSC_77 q_380 dX5_term_33 (fun i_37 hi_37 => ?_)
          refine y_c3 (n := 2002) C0 (by decide) dX5_term_36 (fun v_38 e_39 => ?_)
          refine y_cv h (y_rV (As := [.int v_38]) (rest := []) C0 hZ h (c_X4_add l G Z ad _ h.2 i_37 hi_37 v_38) k_X4_add q_827 q_828 q_826 hi_37 rfl rfl rfl hl.1 rfl rfl (Nat.le_of_ble_eq_true rfl) dX5_term_39 ⟨Nat.le_of_ble_eq_true rfl, Nat.le_of_ble_eq_true rfl⟩ ⟨Nat.le_of_ble_eq_true rfl, Nat.le_of_ble_eq_true rfl⟩) (fun H locs ws_40 h u_41 p_42 => ?_)
          refine y_inc (kp := 0) (n := 1) (fun v_43 => [(2, .int v_43), (0, .ref (ad 77)), (1, .int a1)]) C0 hl rfl (by decide) (by decide) (fun _ => rfl) (o62_53 b_14 b_15 hn_13 e_17 c_18 (le_min x2_7) (le_max x2_7) (le_min v_16) (le_max v_16)) (o62_54 b_14 b_15 hn_13 e_17 c_18 (le_min x2_7) (le_max x2_7) (le_min v_16) (le_max v_16)) dX5_term_42 (fun v_43 ls e_44 hl => ?_)
          refine lv_goto (tgt := 7) C0.1 C0.2.1 dX5_term_45 (by decide) ?_
          have hv_45 : (aF 77 ws_8) 4 = v_20.toInt := (aF_at (by decide) e_21)
          have hs_46 : aF 77 ws_29 = (advS T (aF 77 ws_8)) := e_32
          have hs_47 : aF 77 ws_33 = (atomD T 0 (advS T (aF 77 ws_8))) := e_36.trans (congrArg (fun s => atomD T 0 s) hs_46)
          have hs_48 : aF 77 ws_40 = (atomD T 0 (advS T (aF 77 ws_8))) := (aF_fr u_41 kSC_77 (by decide)).trans hs_47
          exact ih_11 v_43 _ _ _ _ (o62_55 b_14 b_15 hn_13 e_17 c_18 e_44) (o62_56 b_14 b_15 hn_13 e_17 c_18 e_44) (o62_57 b_14 b_15 hn_13 e_17 c_18 e_44) ((by rw [hs_48]; exact (lp_s (by omega) (by omega) (by omega) (by omega)).trans hSp)) h (Fr.tr (Fr.tr (Fr.tr hF_9 (Fr.mono u_30 (by decide))) u_34) (Fr.mono u_41 (by decide))) (lv_sub hl [0, 1, 2] rfl)
  have hs_49 : aF 77 ws_1 = (atomD T 0 (aF 77 ws0)) := e_4
  exact lp_10 ((900 - v_5.toInt + 1).toNat) v_5 _ _ _ _ (o62_58 e_6) (o62_59 e_6) (o62_60 e_6) ((by rw [show (900 - v_5.toInt).toNat = 900 by omega, hs_49]; rfl)) h Fr.rf (lv_sub hl [0, 1, 2] rfl)
set_option maxHeartbeats 4000000 in
set_option maxRecDepth 100000 in
theorem c_X5_sum_6S {T : Nat → Int} (l : Launch) (G : GG) (Z : RZ) (ad : Nat → Nat) (ws0 : va_W) (hT : Ty G (SC tt) ad ws0) (a1 : Int32) (l1 : 6 ≤ a1.toInt) (u1 : a1.toInt ≤ 6) (hTp : Tp T ws0) : Mq l yX5_sum cX5_sum 4 none 8 G Z [.ref (ad 77), .int a1] ws0 (PV G (SC tt) ad [2, 3, 16] ws0 (fun u => (aF 77 u = sumL T (atomD T 0) (aF 77 ws0)))) := by
  refine Mq.start (by decide) (Nat.le_of_ble_eq_true rfl) ?_
  intro p e s m below meth c A ls C0 hZ h hl
  have hl : lv_has ls 4 [(0, .ref (ad 77)), (1, .int a1)] := hl
  have h : Wt G (SC tt) ad A s s.heap [] ws0 := ⟨h, hT⟩
  obtain ⟨args, hargs⟩ : ∃ z, z = ([.ref (ad 77), .int a1] : List Value).toArray := ⟨_, rfl⟩
  rw [← hargs] at C0 ⊢
  have C0 : Cx p s m args meth c RX5 cX5_sum 4 none := C0
  obtain ⟨Q, hQ⟩ : ∃ z, z = MQ below ((PV G (SC tt) ad [2, 3, 16] ws0 (fun u => (aF 77 u = sumL T (atomD T 0) (aF 77 ws0)))) A) args s 0 0 A := ⟨_, rfl⟩
  rw [← hQ]
  refine lv_aload_n C0.1 C0.2.1 dX5_sum_0 rfl (lv_at hl 0 rfl) ?_
  refine lv_iload_n C0.1 C0.2.1 dX5_sum_1 rfl (lv_at hl 1 rfl) ?_
  refine y_cv h (y_rV (As := [.int a1]) (rest := []) C0 hZ h (c_X5_term_6S l G Z ad _ h.2 a1 (o62_49 l1 u1) (o62_50 l1 u1) hTp) k_X5_term q_820 q_16 q_818 kSC_77 rfl rfl rfl hl.1 rfl rfl (Nat.le_of_ble_eq_true rfl) dX5_sum_2 ⟨Nat.le_of_ble_eq_true rfl, Nat.le_of_ble_eq_true rfl⟩ ⟨Nat.le_of_ble_eq_true rfl, Nat.le_of_ble_eq_true rfl⟩) (fun H locs ws_1 h u_2 p_3 => ?_)
  have e_4 := p_3
  refine y_c1 (n := 0) C0 (by decide) dX5_sum_5 (fun v_5 e_6 => ?_)
  refine lv_istore_n (lv' := [(2, .int v_5), (0, .ref (ad 77)), (1, .int a1)]) C0.1 C0.2.1 dX5_sum_6 rfl hl (by decide) rfl (fun ls hl => ?_)
  have lp_10 : ∀ (n_12 : Nat) (x2_7 : Int32) (H : Heap) (locs : List Loc) (ls : Array Slot) (ws_8 : va_W), 900 - x2_7.toInt < (n_12 : Int) → 0 ≤ x2_7.toInt → x2_7.toInt ≤ 900 → (lpS (fun s => s 4 = 43 ∨ s 4 = 45) (fun s => termL T (atomD T 0) (advS T s)) (900 - x2_7.toInt).toNat (aF 77 ws_8) = sumL T (atomD T 0) (aF 77 ws0)) → Wt G (SC tt) ad A s H locs ws_8 → Fr (SC tt) [2, 3, 16] ws_1 ws_8 → lv_has ls 4 [(2, .int x2_7), (0, .ref (ad 77)), (1, .int a1)] → W p l e (rmd 8 0 0) s m args below meth c H locs 0 0 Q (F0 m 7 ls []) := by
    intro n_12
    induction n_12 with
    | zero => intro x2_7 H locs ls ws_8 hn_13 b_14 b_15 hSp h hF_9 hl; exact ((o62_52 b_14 b_15 hn_13)).elim
    | succ n_12 ih_11 =>
      intro x2_7 H locs ls ws_8 hn_13 b_14 b_15 hSp h hF_9 hl
      refine lv_iload_n C0.1 C0.2.1 dX5_sum_7 rfl (lv_at hl 0 rfl) ?_
      refine y_c3 (n := 900) C0 (by decide) dX5_sum_8 (fun v_16 e_17 => ?_)
      refine y_icmp_ge (tgt := 74) C0 dX5_sum_11 (by decide) (fun c_18 => ?_) (fun c_18 => ?_)
      · -- 11
        have hz_19 : (aF 77 ws_8) = lpS (fun s => s 4 = 43 ∨ s 4 = 45) (fun s => termL T (atomD T 0) (advS T s)) (900 - x2_7.toInt).toNat (aF 77 ws_8) := by first | (exfalso; omega) | exact (lp_0 (by omega)).symm | exact (lp_e (by omega)).symm
        rw [hQ]
        exact y_vret C0 h (Fr.tr u_2 hF_9) (Eq.trans rfl (Eq.trans hz_19 hSp)) dX5_sum_74
      · -- 11
        refine lv_aload_n C0.1 C0.2.1 dX5_sum_14 rfl (lv_at hl 1 rfl) ?_
        refine tg_X5_kind C0 h kSC_77 q_374 dX5_sum_15 (fun v_20 e_21 e_22 e_23 => ?_)
        refine y_c2 (n := 43) C0 (by decide) dX5_sum_18 (fun v_24 e_25 => ?_)
        refine y_icmp_eq (tgt := 32) C0 dX5_sum_20 (by decide) (fun c_26 => ?_) (fun c_26 => ?_)
        · -- 20
          refine lv_aload_n C0.1 C0.2.1 dX5_sum_32 rfl (lv_at hl 1 rfl) ?_
          refine tg_X5_kind C0 h kSC_77 q_374 dX5_sum_33 (fun v_27 e_28 e_29 e_30 => ?_)
          have q_31 : v_27.toInt = v_20.toInt := congrArg Int32.toInt (e_28.symm.trans (Eq.trans rfl e_21))
          refine y_c2 (n := 43) C0 (by decide) dX5_sum_36 (fun v_32 e_33 => ?_)
          refine y_icmp_ne (tgt := 47) C0 dX5_sum_38 (by decide) (fun c_34 => ((o62_61 e_25 c_26 q_31 e_33 c_34)).elim) (fun c_34 => ?_)
          refine y_c3 (n := 2000) C0 (by decide) dX5_sum_41 (fun v_35 e_36 => ?_)
          refine lv_goto (tgt := 50) C0.1 C0.2.1 dX5_sum_44 (by decide) ?_
          refine lv_istore_n (lv' := [(3, .int v_35), (2, .int x2_7), (0, .ref (ad 77)), (1, .int a1)]) C0.1 C0.2.1 dX5_sum_50 rfl hl (by decide) rfl (fun ls hl => ?_)
          refine lv_aload_n C0.1 C0.2.1 dX5_sum_51 rfl (lv_at hl 2 rfl) ?_
          refine y_cv h (y_rV (As := []) (rest := []) C0 hZ h (c_X5_advanceS l G Z ad _ h.2 ((Tp.fr (M := [2, 3, 16]) hTp (Fr.tr u_2 hF_9) kSC_78 (by decide)))) k_X5_advance q_616 q_0 q_614 kSC_77 rfl rfl rfl hl.1 rfl rfl (Nat.le_of_ble_eq_true rfl) dX5_sum_52 ⟨Nat.le_of_ble_eq_true rfl, Nat.le_of_ble_eq_true rfl⟩ ⟨Nat.le_of_ble_eq_true rfl, Nat.le_of_ble_eq_true rfl⟩) (fun H locs ws_37 h u_38 p_39 => ?_)
          have e_40 := p_39
          refine lv_aload_n C0.1 C0.2.1 dX5_sum_55 rfl (lv_at hl 2 rfl) ?_
          refine lv_iload_n C0.1 C0.2.1 dX5_sum_56 rfl (lv_at hl 3 rfl) ?_
          refine y_cv h (y_rV (As := [.int a1]) (rest := []) C0 hZ h (c_X5_term_6S l G Z ad _ h.2 a1 (o62_49 l1 u1) (o62_50 l1 u1) ((Tp.fr (M := [2, 3, 16]) hTp (Fr.tr (Fr.tr u_2 hF_9) (Fr.mono u_38 (by decide))) kSC_78 (by decide)))) k_X5_term q_820 q_16 q_818 kSC_77 rfl rfl rfl hl.1 rfl rfl (Nat.le_of_ble_eq_true rfl) dX5_sum_57 ⟨Nat.le_of_ble_eq_true rfl, Nat.le_of_ble_eq_true rfl⟩ ⟨Nat.le_of_ble_eq_true rfl, Nat.le_of_ble_eq_true rfl⟩) (fun H locs ws_41 h u_42 p_43 => ?_)
          have e_44 := p_43
          refine lv_aload_n C0.1 C0.2.1 dX5_sum_60 rfl (lv_at hl 2 rfl) ?_
          refine tg_X5_law C0 h kSC_77 q_380 dX5_sum_61 (fun i_45 hi_45 => ?_)
          refine lv_iload_n C0.1 C0.2.1 dX5_sum_64 rfl (lv_at hl 0 rfl) ?_
          refine y_cv h (y_rV (As := [.int v_35]) (rest := []) C0 hZ h (c_X4_add l G Z ad _ h.2 i_45 hi_45 v_35) k_X4_add q_827 q_828 q_826 hi_45 rfl rfl rfl hl.1 rfl rfl (Nat.le_of_ble_eq_true rfl) dX5_sum_65 ⟨Nat.le_of_ble_eq_true rfl, Nat.le_of_ble_eq_true rfl⟩ ⟨Nat.le_of_ble_eq_true rfl, Nat.le_of_ble_eq_true rfl⟩) (fun H locs ws_46 h u_47 p_48 => ?_)
          refine y_inc (kp := 1) (n := 1) (fun v_49 => [(2, .int v_49), (3, .int v_35), (0, .ref (ad 77)), (1, .int a1)]) C0 hl rfl (by decide) (by decide) (fun _ => rfl) (o62_53 b_14 b_15 hn_13 e_17 c_18 (le_min x2_7) (le_max x2_7) (le_min v_16) (le_max v_16)) (o62_54 b_14 b_15 hn_13 e_17 c_18 (le_min x2_7) (le_max x2_7) (le_min v_16) (le_max v_16)) dX5_sum_68 (fun v_49 ls e_50 hl => ?_)
          refine lv_goto (tgt := 7) C0.1 C0.2.1 dX5_sum_71 (by decide) ?_
          have hv_51 : (aF 77 ws_8) 4 = v_20.toInt := (aF_at (by decide) e_21)
          have hv_52 : (aF 77 ws_8) 4 = v_27.toInt := (aF_at (by decide) e_28)
          have hs_53 : aF 77 ws_37 = (advS T (aF 77 ws_8)) := e_40
          have hs_54 : aF 77 ws_41 = (termL T (atomD T 0) (advS T (aF 77 ws_8))) := e_44.trans (congrArg (fun s => termL T (atomD T 0) s) hs_53)
          have hs_55 : aF 77 ws_46 = (termL T (atomD T 0) (advS T (aF 77 ws_8))) := (aF_fr u_47 kSC_77 (by decide)).trans hs_54
          exact ih_11 v_49 _ _ _ _ (o62_55 b_14 b_15 hn_13 e_17 c_18 e_50) (o62_56 b_14 b_15 hn_13 e_17 c_18 e_50) (o62_57 b_14 b_15 hn_13 e_17 c_18 e_50) ((by rw [hs_55]; exact (lp_s (by omega) (by omega) (by omega) (by omega)).trans hSp)) h (Fr.tr (Fr.tr (Fr.tr hF_9 (Fr.mono u_38 (by decide))) u_42) (Fr.mono u_47 (by decide))) (lv_sub hl [0, 2, 3] rfl)
        · -- 20
          refine lv_aload_n C0.1 C0.2.1 dX5_sum_23 rfl (lv_at hl 1 rfl) ?_
          refine tg_X5_kind C0 h kSC_77 q_374 dX5_sum_24 (fun v_56 e_57 e_58 e_59 => ?_)
          have q_60 : v_56.toInt = v_20.toInt := congrArg Int32.toInt (e_57.symm.trans (Eq.trans rfl e_21))
          refine y_c2 (n := 45) C0 (by decide) dX5_sum_27 (fun v_61 e_62 => ?_)
          refine y_icmp_ne (tgt := 74) C0 dX5_sum_29 (by decide) (fun c_63 => ?_) (fun c_63 => ?_)
          · -- 29
            have hv_64 : (aF 77 ws_8) 4 = v_20.toInt := (aF_at (by decide) e_21)
            have hv_65 : (aF 77 ws_8) 4 = v_56.toInt := (aF_at (by decide) e_57)
            have hz_66 : (aF 77 ws_8) = lpS (fun s => s 4 = 43 ∨ s 4 = 45) (fun s => termL T (atomD T 0) (advS T s)) (900 - x2_7.toInt).toNat (aF 77 ws_8) := by first | (exfalso; omega) | exact (lp_0 (by omega)).symm | exact (lp_e (by omega)).symm
            rw [hQ]
            exact y_vret C0 h (Fr.tr u_2 hF_9) (Eq.trans rfl (Eq.trans hz_66 hSp)) dX5_sum_74
          · -- 29
            refine lv_aload_n C0.1 C0.2.1 dX5_sum_32 rfl (lv_at hl 1 rfl) ?_
            refine tg_X5_kind C0 h kSC_77 q_374 dX5_sum_33 (fun v_67 e_68 e_69 e_70 => ?_)
            have q_71 : v_67.toInt = v_20.toInt := congrArg Int32.toInt (e_68.symm.trans (Eq.trans rfl e_21))
            refine y_c2 (n := 43) C0 (by decide) dX5_sum_36 (fun v_72 e_73 => ?_)
            refine y_icmp_ne (tgt := 47) C0 dX5_sum_38 (by decide) (fun c_74 => ?_) (fun c_74 => ((o62_62 e_25 c_26 q_60 e_62 c_63 q_71 e_73 c_74)).elim)
            refine y_c3 (n := 2001) C0 (by decide) dX5_sum_47 (fun v_75 e_76 => ?_)
            refine lv_istore_n (lv' := [(3, .int v_75), (2, .int x2_7), (0, .ref (ad 77)), (1, .int a1)]) C0.1 C0.2.1 dX5_sum_50 rfl hl (by decide) rfl (fun ls hl => ?_)
            refine lv_aload_n C0.1 C0.2.1 dX5_sum_51 rfl (lv_at hl 2 rfl) ?_
            refine y_cv h (y_rV (As := []) (rest := []) C0 hZ h (c_X5_advanceS l G Z ad _ h.2 ((Tp.fr (M := [2, 3, 16]) hTp (Fr.tr u_2 hF_9) kSC_78 (by decide)))) k_X5_advance q_616 q_0 q_614 kSC_77 rfl rfl rfl hl.1 rfl rfl (Nat.le_of_ble_eq_true rfl) dX5_sum_52 ⟨Nat.le_of_ble_eq_true rfl, Nat.le_of_ble_eq_true rfl⟩ ⟨Nat.le_of_ble_eq_true rfl, Nat.le_of_ble_eq_true rfl⟩) (fun H locs ws_77 h u_78 p_79 => ?_)
            have e_80 := p_79
            refine lv_aload_n C0.1 C0.2.1 dX5_sum_55 rfl (lv_at hl 2 rfl) ?_
            refine lv_iload_n C0.1 C0.2.1 dX5_sum_56 rfl (lv_at hl 3 rfl) ?_
            refine y_cv h (y_rV (As := [.int a1]) (rest := []) C0 hZ h (c_X5_term_6S l G Z ad _ h.2 a1 (o62_49 l1 u1) (o62_50 l1 u1) ((Tp.fr (M := [2, 3, 16]) hTp (Fr.tr (Fr.tr u_2 hF_9) (Fr.mono u_78 (by decide))) kSC_78 (by decide)))) k_X5_term q_820 q_16 q_818 kSC_77 rfl rfl rfl hl.1 rfl rfl (Nat.le_of_ble_eq_true rfl) dX5_sum_57 ⟨Nat.le_of_ble_eq_true rfl, Nat.le_of_ble_eq_true rfl⟩ ⟨Nat.le_of_ble_eq_true rfl, Nat.le_of_ble_eq_true rfl⟩) (fun H locs ws_81 h u_82 p_83 => ?_)
            have e_84 := p_83
            refine lv_aload_n C0.1 C0.2.1 dX5_sum_60 rfl (lv_at hl 2 rfl) ?_
            refine tg_X5_law C0 h kSC_77 q_380 dX5_sum_61 (fun i_85 hi_85 => ?_)
            refine lv_iload_n C0.1 C0.2.1 dX5_sum_64 rfl (lv_at hl 0 rfl) ?_
            refine y_cv h (y_rV (As := [.int v_75]) (rest := []) C0 hZ h (c_X4_add l G Z ad _ h.2 i_85 hi_85 v_75) k_X4_add q_827 q_828 q_826 hi_85 rfl rfl rfl hl.1 rfl rfl (Nat.le_of_ble_eq_true rfl) dX5_sum_65 ⟨Nat.le_of_ble_eq_true rfl, Nat.le_of_ble_eq_true rfl⟩ ⟨Nat.le_of_ble_eq_true rfl, Nat.le_of_ble_eq_true rfl⟩) (fun H locs ws_86 h u_87 p_88 => ?_)
            refine y_inc (kp := 1) (n := 1) (fun v_89 => [(2, .int v_89), (3, .int v_75), (0, .ref (ad 77)), (1, .int a1)]) C0 hl rfl (by decide) (by decide) (fun _ => rfl) (o62_53 b_14 b_15 hn_13 e_17 c_18 (le_min x2_7) (le_max x2_7) (le_min v_16) (le_max v_16)) (o62_54 b_14 b_15 hn_13 e_17 c_18 (le_min x2_7) (le_max x2_7) (le_min v_16) (le_max v_16)) dX5_sum_68 (fun v_89 ls e_90 hl => ?_)
            refine lv_goto (tgt := 7) C0.1 C0.2.1 dX5_sum_71 (by decide) ?_
            have hv_91 : (aF 77 ws_8) 4 = v_20.toInt := (aF_at (by decide) e_21)
            have hv_92 : (aF 77 ws_8) 4 = v_56.toInt := (aF_at (by decide) e_57)
            have hv_93 : (aF 77 ws_8) 4 = v_67.toInt := (aF_at (by decide) e_68)
            have hs_94 : aF 77 ws_77 = (advS T (aF 77 ws_8)) := e_80
            have hs_95 : aF 77 ws_81 = (termL T (atomD T 0) (advS T (aF 77 ws_8))) := e_84.trans (congrArg (fun s => termL T (atomD T 0) s) hs_94)
            have hs_96 : aF 77 ws_86 = (termL T (atomD T 0) (advS T (aF 77 ws_8))) := (aF_fr u_87 kSC_77 (by decide)).trans hs_95
            exact ih_11 v_89 _ _ _ _ (o62_55 b_14 b_15 hn_13 e_17 c_18 e_90) (o62_56 b_14 b_15 hn_13 e_17 c_18 e_90) (o62_57 b_14 b_15 hn_13 e_17 c_18 e_90) ((by rw [hs_96]; exact (lp_s (by omega) (by omega) (by omega) (by omega)).trans hSp)) h (Fr.tr (Fr.tr (Fr.tr hF_9 (Fr.mono u_78 (by decide))) u_82) (Fr.mono u_87 (by decide))) (lv_sub hl [0, 2, 3] rfl)
  have hs_97 : aF 77 ws_1 = (termL T (atomD T 0) (aF 77 ws0)) := e_4
  exact lp_10 ((900 - v_5.toInt + 1).toNat) v_5 _ _ _ _ (o62_58 e_6) (o62_59 e_6) (o62_60 e_6) ((by rw [show (900 - v_5.toInt).toNat = 900 by omega, hs_97]; rfl)) h Fr.rf (lv_sub hl [0, 1, 2] rfl)
set_option maxHeartbeats 4000000 in
set_option maxRecDepth 100000 in
theorem c_X5_unit_6S {T : Nat → Int} (l : Launch) (G : GG) (Z : RZ) (ad : Nat → Nat) (ws0 : va_W) (hT : Ty G (SC tt) ad ws0) (a1 : Int32) (l1 : 6 ≤ a1.toInt) (u1 : a1.toInt ≤ 6) (hTp : Tp T ws0) : Mq l yX5_unit cX5_unit 3 none 9 G Z [.ref (ad 77), .int a1] ws0 (PV G (SC tt) ad [2, 3, 16] ws0 (fun u => (aF 77 u = unitD T 0 (aF 77 ws0)))) := by
  refine Mq.start (by decide) (Nat.le_of_ble_eq_true rfl) ?_
  intro p e s m below meth c A ls C0 hZ h hl
  have hl : lv_has ls 3 [(0, .ref (ad 77)), (1, .int a1)] := hl
  have h : Wt G (SC tt) ad A s s.heap [] ws0 := ⟨h, hT⟩
  obtain ⟨args, hargs⟩ : ∃ z, z = ([.ref (ad 77), .int a1] : List Value).toArray := ⟨_, rfl⟩
  rw [← hargs] at C0 ⊢
  have C0 : Cx p s m args meth c RX5 cX5_unit 3 none := C0
  obtain ⟨Q, hQ⟩ : ∃ z, z = MQ below ((PV G (SC tt) ad [2, 3, 16] ws0 (fun u => (aF 77 u = unitD T 0 (aF 77 ws0)))) A) args s 0 0 A := ⟨_, rfl⟩
  rw [← hQ]
  refine lv_aload_n C0.1 C0.2.1 dX5_unit_0 rfl (lv_at hl 0 rfl) ?_
  refine va_ldcS C0.1 C0.2.1 C0.2.2.2.1 (sr_19 hZ) dX5_unit_1 ?_
  refine y_ci h (y_rV (As := [.ref (Z.2.1 19)]) (rest := []) C0 hZ h (c_X5_isWordS l G Z ad _ h.2 19 (by decide) hTp) k_X5_isWord q_724 q_5 q_722 kSC_77 rfl rfl rfl hl.1 rfl rfl (Nat.le_of_ble_eq_true rfl) dX5_unit_3 ⟨Nat.le_of_ble_eq_true rfl, Nat.le_of_ble_eq_true rfl⟩ ⟨Nat.le_of_ble_eq_true rfl, Nat.le_of_ble_eq_true rfl⟩) (fun r_4 H locs ws_1 h u_2 p_3 => ?_)
  obtain ⟨e_5, e_6, e_7⟩ := p_3
  refine y_if_eq (tgt := 49) C0 dX5_unit_6 (by decide) (fun c_8 => ?_) (fun c_8 => ?_)
  · -- 6
    refine lv_aload_n C0.1 C0.2.1 dX5_unit_49 rfl (lv_at hl 0 rfl) ?_
    refine tg_X5_kind C0 h kSC_77 q_374 dX5_unit_50 (fun v_9 e_10 e_11 e_12 => ?_)
    refine y_c2 (n := 91) C0 (by decide) dX5_unit_53 (fun v_13 e_14 => ?_)
    refine y_icmp_ne (tgt := 86) C0 dX5_unit_55 (by decide) (fun c_15 => ?_) (fun c_15 => ?_)
    · -- 55
      refine lv_aload_n C0.1 C0.2.1 dX5_unit_86 rfl (lv_at hl 0 rfl) ?_
      refine lv_iload_n C0.1 C0.2.1 dX5_unit_87 rfl (lv_at hl 1 rfl) ?_
      refine y_cv h (y_rV (As := [.int a1]) (rest := []) C0 hZ h (c_X5_sum_6S l G Z ad _ h.2 a1 (o62_49 l1 u1) (o62_50 l1 u1) ((Tp.fr (M := []) hTp u_2 kSC_78 (by decide)))) k_X5_sum q_816 q_15 q_814 kSC_77 rfl rfl rfl hl.1 rfl rfl (Nat.le_of_ble_eq_true rfl) dX5_unit_88 ⟨Nat.le_of_ble_eq_true rfl, Nat.le_of_ble_eq_true rfl⟩ ⟨Nat.le_of_ble_eq_true rfl, Nat.le_of_ble_eq_true rfl⟩) (fun H locs ws_16 h u_17 p_18 => ?_)
      have e_19 := p_18
      refine lv_aload_n C0.1 C0.2.1 dX5_unit_91 rfl (lv_at hl 0 rfl) ?_
      refine tg_X5_kind C0 h kSC_77 q_374 dX5_unit_92 (fun v_20 e_21 e_22 e_23 => ?_)
      refine y_c2 (n := 61) C0 (by decide) dX5_unit_95 (fun v_24 e_25 => ?_)
      refine y_icmp_ne (tgt := 106) C0 dX5_unit_97 (by decide) (fun c_26 => ?_) (fun c_26 => ?_)
      · -- 97
        refine lv_aload_n C0.1 C0.2.1 dX5_unit_106 rfl (lv_at hl 0 rfl) ?_
        refine tg_X5_kind C0 h kSC_77 q_374 dX5_unit_107 (fun v_27 e_28 e_29 e_30 => ?_)
        have q_31 : v_27.toInt = v_20.toInt := congrArg Int32.toInt (e_28.symm.trans (Eq.trans rfl e_21))
        refine y_c2 (n := 60) C0 (by decide) dX5_unit_110 (fun v_32 e_33 => ?_)
        refine y_icmp_ne (tgt := 121) C0 dX5_unit_112 (by decide) (fun c_34 => ?_) (fun c_34 => ?_)
        · -- 112
          refine lv_aload_n C0.1 C0.2.1 dX5_unit_121 rfl (lv_at hl 0 rfl) ?_
          refine tg_X5_kind C0 h kSC_77 q_374 dX5_unit_122 (fun v_35 e_36 e_37 e_38 => ?_)
          have q_39 : v_35.toInt = v_20.toInt := congrArg Int32.toInt (e_36.symm.trans (Eq.trans rfl e_21))
          refine y_c2 (n := 62) C0 (by decide) dX5_unit_125 (fun v_40 e_41 => ?_)
          refine y_icmp_ne (tgt := 136) C0 dX5_unit_127 (by decide) (fun c_42 => ?_) (fun c_42 => ?_)
          · -- 127
            refine y_c1 (n := (-1)) C0 (by decide) dX5_unit_136 (fun v_43 e_44 => ?_)
            refine lv_istore_n (lv' := [(2, .int v_43), (0, .ref (ad 77)), (1, .int a1)]) C0.1 C0.2.1 dX5_unit_137 rfl hl (by decide) rfl (fun ls hl => ?_)
            refine lv_iload_n C0.1 C0.2.1 dX5_unit_138 rfl (lv_at hl 0 rfl) ?_
            refine y_if_ge (tgt := 148) C0 dX5_unit_139 (by decide) (fun c_45 => ((o62_42 e_44 c_45)).elim) (fun c_45 => ?_)
            refine lv_aload_n C0.1 C0.2.1 dX5_unit_142 rfl (lv_at hl 1 rfl) ?_
            refine y_c1 (n := 2) C0 (by decide) dX5_unit_143 (fun v_46 e_47 => ?_)
            refine y_cv h (y_rV (As := [.int v_46]) (rest := []) C0 hZ h (c_X5_failS l G Z ad _ h.2 v_46) k_X5_fail q_628 q_3 q_626 kSC_77 rfl rfl rfl hl.1 rfl rfl (Nat.le_of_ble_eq_true rfl) dX5_unit_144 ⟨Nat.le_of_ble_eq_true rfl, Nat.le_of_ble_eq_true rfl⟩ ⟨Nat.le_of_ble_eq_true rfl, Nat.le_of_ble_eq_true rfl⟩) (fun H locs ws_48 h u_49 p_50 => ?_)
            have e_51 := p_50
            have hq_52 := e_7
            have hs_53 : aF 77 ws_1 = (aF 77 ws0) := (aF_fr u_2 kSC_77 (by decide))
            have hv_54 : (aF 77 ws0) 4 = v_9.toInt := (congrFun hs_53 4).symm.trans (aF_at (by decide) e_10)
            have hs_55 : aF 77 ws_16 = (sumL T (atomD T 0) (aF 77 ws0)) := e_19.trans (congrArg (fun s => sumL T (atomD T 0) s) hs_53)
            have hv_56 : (sumL T (atomD T 0) (aF 77 ws0)) 4 = v_20.toInt := (congrFun hs_55 4).symm.trans (aF_at (by decide) e_21)
            have hv_57 : (sumL T (atomD T 0) (aF 77 ws0)) 4 = v_27.toInt := (congrFun hs_55 4).symm.trans (aF_at (by decide) e_28)
            have hv_58 : (sumL T (atomD T 0) (aF 77 ws0)) 4 = v_35.toInt := (congrFun hs_55 4).symm.trans (aF_at (by decide) e_36)
            have hs_59 : aF 77 ws_48 = (failS 2 (sumL T (atomD T 0) (aF 77 ws0))) := e_51.trans ((congrArg (fun s => failS v_46.toInt s) hs_55).trans (by rw [(o62_1 e_47)]))
            have hz_60 : (failS 2 (sumL T (atomD T 0) (aF 77 ws0))) = unitD T 0 (aF 77 ws0) := by rw [unitD_0]; unfold unitF; (repeat' split) <;> first | rfl | (exfalso; omega)
            rw [hQ]
            exact y_vret C0 h (Fr.tr (Fr.tr (Fr.mono u_2 (by decide)) u_17) (Fr.mono u_49 (by decide))) (Eq.trans hs_59 hz_60) dX5_unit_147
          · -- 127
            refine y_c3 (n := 2005) C0 (by decide) dX5_unit_130 (fun v_61 e_62 => ?_)
            refine lv_goto (tgt := 137) C0.1 C0.2.1 dX5_unit_133 (by decide) ?_
            refine lv_istore_n (lv' := [(2, .int v_61), (0, .ref (ad 77)), (1, .int a1)]) C0.1 C0.2.1 dX5_unit_137 rfl hl (by decide) rfl (fun ls hl => ?_)
            refine lv_iload_n C0.1 C0.2.1 dX5_unit_138 rfl (lv_at hl 0 rfl) ?_
            refine y_if_ge (tgt := 148) C0 dX5_unit_139 (by decide) (fun c_63 => ?_) (fun c_63 => ((o62_63 e_62 c_63)).elim)
            refine lv_aload_n C0.1 C0.2.1 dX5_unit_148 rfl (lv_at hl 1 rfl) ?_
            refine y_cv h (y_rV (As := []) (rest := []) C0 hZ h (c_X5_advanceS l G Z ad _ h.2 ((Tp.fr (M := [2, 3, 16]) hTp (Fr.tr (Fr.mono u_2 (by decide)) u_17) kSC_78 (by decide)))) k_X5_advance q_616 q_0 q_614 kSC_77 rfl rfl rfl hl.1 rfl rfl (Nat.le_of_ble_eq_true rfl) dX5_unit_149 ⟨Nat.le_of_ble_eq_true rfl, Nat.le_of_ble_eq_true rfl⟩ ⟨Nat.le_of_ble_eq_true rfl, Nat.le_of_ble_eq_true rfl⟩) (fun H locs ws_64 h u_65 p_66 => ?_)
            have e_67 := p_66
            refine lv_aload_n C0.1 C0.2.1 dX5_unit_152 rfl (lv_at hl 1 rfl) ?_
            refine lv_iload_n C0.1 C0.2.1 dX5_unit_153 rfl (lv_at hl 2 rfl) ?_
            refine y_cv h (y_rV (As := [.int a1]) (rest := []) C0 hZ h (c_X5_sum_6S l G Z ad _ h.2 a1 (o62_49 l1 u1) (o62_50 l1 u1) ((Tp.fr (M := [2, 3, 16]) hTp (Fr.tr (Fr.tr (Fr.mono u_2 (by decide)) u_17) (Fr.mono u_65 (by decide))) kSC_78 (by decide)))) k_X5_sum q_816 q_15 q_814 kSC_77 rfl rfl rfl hl.1 rfl rfl (Nat.le_of_ble_eq_true rfl) dX5_unit_154 ⟨Nat.le_of_ble_eq_true rfl, Nat.le_of_ble_eq_true rfl⟩ ⟨Nat.le_of_ble_eq_true rfl, Nat.le_of_ble_eq_true rfl⟩) (fun H locs ws_68 h u_69 p_70 => ?_)
            have e_71 := p_70
            refine lv_aload_n C0.1 C0.2.1 dX5_unit_157 rfl (lv_at hl 1 rfl) ?_
            refine tg_X5_law C0 h kSC_77 q_380 dX5_unit_158 (fun i_72 hi_72 => ?_)
            refine lv_iload_n C0.1 C0.2.1 dX5_unit_161 rfl (lv_at hl 0 rfl) ?_
            refine y_cv h (y_rV (As := [.int v_61]) (rest := []) C0 hZ h (c_X4_add l G Z ad _ h.2 i_72 hi_72 v_61) k_X4_add q_827 q_828 q_826 hi_72 rfl rfl rfl hl.1 rfl rfl (Nat.le_of_ble_eq_true rfl) dX5_unit_162 ⟨Nat.le_of_ble_eq_true rfl, Nat.le_of_ble_eq_true rfl⟩ ⟨Nat.le_of_ble_eq_true rfl, Nat.le_of_ble_eq_true rfl⟩) (fun H locs ws_73 h u_74 p_75 => ?_)
            have hq_76 := e_7
            have hs_77 : aF 77 ws_1 = (aF 77 ws0) := (aF_fr u_2 kSC_77 (by decide))
            have hv_78 : (aF 77 ws0) 4 = v_9.toInt := (congrFun hs_77 4).symm.trans (aF_at (by decide) e_10)
            have hs_79 : aF 77 ws_16 = (sumL T (atomD T 0) (aF 77 ws0)) := e_19.trans (congrArg (fun s => sumL T (atomD T 0) s) hs_77)
            have hv_80 : (sumL T (atomD T 0) (aF 77 ws0)) 4 = v_20.toInt := (congrFun hs_79 4).symm.trans (aF_at (by decide) e_21)
            have hv_81 : (sumL T (atomD T 0) (aF 77 ws0)) 4 = v_27.toInt := (congrFun hs_79 4).symm.trans (aF_at (by decide) e_28)
            have hv_82 : (sumL T (atomD T 0) (aF 77 ws0)) 4 = v_35.toInt := (congrFun hs_79 4).symm.trans (aF_at (by decide) e_36)
            have hs_83 : aF 77 ws_64 = (advS T (sumL T (atomD T 0) (aF 77 ws0))) := e_67.trans (congrArg (fun s => advS T s) hs_79)
            have hs_84 : aF 77 ws_68 = (sumL T (atomD T 0) (advS T (sumL T (atomD T 0) (aF 77 ws0)))) := e_71.trans (congrArg (fun s => sumL T (atomD T 0) s) hs_83)
            have hs_85 : aF 77 ws_73 = (sumL T (atomD T 0) (advS T (sumL T (atomD T 0) (aF 77 ws0)))) := (aF_fr u_74 kSC_77 (by decide)).trans hs_84
            have hz_86 : (sumL T (atomD T 0) (advS T (sumL T (atomD T 0) (aF 77 ws0)))) = unitD T 0 (aF 77 ws0) := by rw [unitD_0]; unfold unitF; (repeat' split) <;> first | rfl | (exfalso; omega)
            rw [hQ]
            exact y_vret C0 h (Fr.tr (Fr.tr (Fr.tr (Fr.tr (Fr.mono u_2 (by decide)) u_17) (Fr.mono u_65 (by decide))) u_69) (Fr.mono u_74 (by decide))) (Eq.trans hs_85 hz_86) dX5_unit_165
        · -- 112
          refine y_c3 (n := 2004) C0 (by decide) dX5_unit_115 (fun v_87 e_88 => ?_)
          refine lv_goto (tgt := 137) C0.1 C0.2.1 dX5_unit_118 (by decide) ?_
          refine lv_istore_n (lv' := [(2, .int v_87), (0, .ref (ad 77)), (1, .int a1)]) C0.1 C0.2.1 dX5_unit_137 rfl hl (by decide) rfl (fun ls hl => ?_)
          refine lv_iload_n C0.1 C0.2.1 dX5_unit_138 rfl (lv_at hl 0 rfl) ?_
          refine y_if_ge (tgt := 148) C0 dX5_unit_139 (by decide) (fun c_89 => ?_) (fun c_89 => ((o62_64 e_88 c_89)).elim)
          refine lv_aload_n C0.1 C0.2.1 dX5_unit_148 rfl (lv_at hl 1 rfl) ?_
          refine y_cv h (y_rV (As := []) (rest := []) C0 hZ h (c_X5_advanceS l G Z ad _ h.2 ((Tp.fr (M := [2, 3, 16]) hTp (Fr.tr (Fr.mono u_2 (by decide)) u_17) kSC_78 (by decide)))) k_X5_advance q_616 q_0 q_614 kSC_77 rfl rfl rfl hl.1 rfl rfl (Nat.le_of_ble_eq_true rfl) dX5_unit_149 ⟨Nat.le_of_ble_eq_true rfl, Nat.le_of_ble_eq_true rfl⟩ ⟨Nat.le_of_ble_eq_true rfl, Nat.le_of_ble_eq_true rfl⟩) (fun H locs ws_90 h u_91 p_92 => ?_)
          have e_93 := p_92
          refine lv_aload_n C0.1 C0.2.1 dX5_unit_152 rfl (lv_at hl 1 rfl) ?_
          refine lv_iload_n C0.1 C0.2.1 dX5_unit_153 rfl (lv_at hl 2 rfl) ?_
          refine y_cv h (y_rV (As := [.int a1]) (rest := []) C0 hZ h (c_X5_sum_6S l G Z ad _ h.2 a1 (o62_49 l1 u1) (o62_50 l1 u1) ((Tp.fr (M := [2, 3, 16]) hTp (Fr.tr (Fr.tr (Fr.mono u_2 (by decide)) u_17) (Fr.mono u_91 (by decide))) kSC_78 (by decide)))) k_X5_sum q_816 q_15 q_814 kSC_77 rfl rfl rfl hl.1 rfl rfl (Nat.le_of_ble_eq_true rfl) dX5_unit_154 ⟨Nat.le_of_ble_eq_true rfl, Nat.le_of_ble_eq_true rfl⟩ ⟨Nat.le_of_ble_eq_true rfl, Nat.le_of_ble_eq_true rfl⟩) (fun H locs ws_94 h u_95 p_96 => ?_)
          have e_97 := p_96
          refine lv_aload_n C0.1 C0.2.1 dX5_unit_157 rfl (lv_at hl 1 rfl) ?_
          refine tg_X5_law C0 h kSC_77 q_380 dX5_unit_158 (fun i_98 hi_98 => ?_)
          refine lv_iload_n C0.1 C0.2.1 dX5_unit_161 rfl (lv_at hl 0 rfl) ?_
          refine y_cv h (y_rV (As := [.int v_87]) (rest := []) C0 hZ h (c_X4_add l G Z ad _ h.2 i_98 hi_98 v_87) k_X4_add q_827 q_828 q_826 hi_98 rfl rfl rfl hl.1 rfl rfl (Nat.le_of_ble_eq_true rfl) dX5_unit_162 ⟨Nat.le_of_ble_eq_true rfl, Nat.le_of_ble_eq_true rfl⟩ ⟨Nat.le_of_ble_eq_true rfl, Nat.le_of_ble_eq_true rfl⟩) (fun H locs ws_99 h u_100 p_101 => ?_)
          have hq_102 := e_7
          have hs_103 : aF 77 ws_1 = (aF 77 ws0) := (aF_fr u_2 kSC_77 (by decide))
          have hv_104 : (aF 77 ws0) 4 = v_9.toInt := (congrFun hs_103 4).symm.trans (aF_at (by decide) e_10)
          have hs_105 : aF 77 ws_16 = (sumL T (atomD T 0) (aF 77 ws0)) := e_19.trans (congrArg (fun s => sumL T (atomD T 0) s) hs_103)
          have hv_106 : (sumL T (atomD T 0) (aF 77 ws0)) 4 = v_20.toInt := (congrFun hs_105 4).symm.trans (aF_at (by decide) e_21)
          have hv_107 : (sumL T (atomD T 0) (aF 77 ws0)) 4 = v_27.toInt := (congrFun hs_105 4).symm.trans (aF_at (by decide) e_28)
          have hs_108 : aF 77 ws_90 = (advS T (sumL T (atomD T 0) (aF 77 ws0))) := e_93.trans (congrArg (fun s => advS T s) hs_105)
          have hs_109 : aF 77 ws_94 = (sumL T (atomD T 0) (advS T (sumL T (atomD T 0) (aF 77 ws0)))) := e_97.trans (congrArg (fun s => sumL T (atomD T 0) s) hs_108)
          have hs_110 : aF 77 ws_99 = (sumL T (atomD T 0) (advS T (sumL T (atomD T 0) (aF 77 ws0)))) := (aF_fr u_100 kSC_77 (by decide)).trans hs_109
          have hz_111 : (sumL T (atomD T 0) (advS T (sumL T (atomD T 0) (aF 77 ws0)))) = unitD T 0 (aF 77 ws0) := by rw [unitD_0]; unfold unitF; (repeat' split) <;> first | rfl | (exfalso; omega)
          rw [hQ]
          exact y_vret C0 h (Fr.tr (Fr.tr (Fr.tr (Fr.tr (Fr.mono u_2 (by decide)) u_17) (Fr.mono u_91 (by decide))) u_95) (Fr.mono u_100 (by decide))) (Eq.trans hs_110 hz_111) dX5_unit_165
      · -- 97
        refine y_c3 (n := 2003) C0 (by decide) dX5_unit_100 (fun v_112 e_113 => ?_)
        refine lv_goto (tgt := 137) C0.1 C0.2.1 dX5_unit_103 (by decide) ?_
        refine lv_istore_n (lv' := [(2, .int v_112), (0, .ref (ad 77)), (1, .int a1)]) C0.1 C0.2.1 dX5_unit_137 rfl hl (by decide) rfl (fun ls hl => ?_)
        refine lv_iload_n C0.1 C0.2.1 dX5_unit_138 rfl (lv_at hl 0 rfl) ?_
        refine y_if_ge (tgt := 148) C0 dX5_unit_139 (by decide) (fun c_114 => ?_) (fun c_114 => ((o62_65 e_113 c_114)).elim)
        refine lv_aload_n C0.1 C0.2.1 dX5_unit_148 rfl (lv_at hl 1 rfl) ?_
        refine y_cv h (y_rV (As := []) (rest := []) C0 hZ h (c_X5_advanceS l G Z ad _ h.2 ((Tp.fr (M := [2, 3, 16]) hTp (Fr.tr (Fr.mono u_2 (by decide)) u_17) kSC_78 (by decide)))) k_X5_advance q_616 q_0 q_614 kSC_77 rfl rfl rfl hl.1 rfl rfl (Nat.le_of_ble_eq_true rfl) dX5_unit_149 ⟨Nat.le_of_ble_eq_true rfl, Nat.le_of_ble_eq_true rfl⟩ ⟨Nat.le_of_ble_eq_true rfl, Nat.le_of_ble_eq_true rfl⟩) (fun H locs ws_115 h u_116 p_117 => ?_)
        have e_118 := p_117
        refine lv_aload_n C0.1 C0.2.1 dX5_unit_152 rfl (lv_at hl 1 rfl) ?_
        refine lv_iload_n C0.1 C0.2.1 dX5_unit_153 rfl (lv_at hl 2 rfl) ?_
        refine y_cv h (y_rV (As := [.int a1]) (rest := []) C0 hZ h (c_X5_sum_6S l G Z ad _ h.2 a1 (o62_49 l1 u1) (o62_50 l1 u1) ((Tp.fr (M := [2, 3, 16]) hTp (Fr.tr (Fr.tr (Fr.mono u_2 (by decide)) u_17) (Fr.mono u_116 (by decide))) kSC_78 (by decide)))) k_X5_sum q_816 q_15 q_814 kSC_77 rfl rfl rfl hl.1 rfl rfl (Nat.le_of_ble_eq_true rfl) dX5_unit_154 ⟨Nat.le_of_ble_eq_true rfl, Nat.le_of_ble_eq_true rfl⟩ ⟨Nat.le_of_ble_eq_true rfl, Nat.le_of_ble_eq_true rfl⟩) (fun H locs ws_119 h u_120 p_121 => ?_)
        have e_122 := p_121
        refine lv_aload_n C0.1 C0.2.1 dX5_unit_157 rfl (lv_at hl 1 rfl) ?_
        refine tg_X5_law C0 h kSC_77 q_380 dX5_unit_158 (fun i_123 hi_123 => ?_)
        refine lv_iload_n C0.1 C0.2.1 dX5_unit_161 rfl (lv_at hl 0 rfl) ?_
        refine y_cv h (y_rV (As := [.int v_112]) (rest := []) C0 hZ h (c_X4_add l G Z ad _ h.2 i_123 hi_123 v_112) k_X4_add q_827 q_828 q_826 hi_123 rfl rfl rfl hl.1 rfl rfl (Nat.le_of_ble_eq_true rfl) dX5_unit_162 ⟨Nat.le_of_ble_eq_true rfl, Nat.le_of_ble_eq_true rfl⟩ ⟨Nat.le_of_ble_eq_true rfl, Nat.le_of_ble_eq_true rfl⟩) (fun H locs ws_124 h u_125 p_126 => ?_)
        have hq_127 := e_7
        have hs_128 : aF 77 ws_1 = (aF 77 ws0) := (aF_fr u_2 kSC_77 (by decide))
        have hv_129 : (aF 77 ws0) 4 = v_9.toInt := (congrFun hs_128 4).symm.trans (aF_at (by decide) e_10)
        have hs_130 : aF 77 ws_16 = (sumL T (atomD T 0) (aF 77 ws0)) := e_19.trans (congrArg (fun s => sumL T (atomD T 0) s) hs_128)
        have hv_131 : (sumL T (atomD T 0) (aF 77 ws0)) 4 = v_20.toInt := (congrFun hs_130 4).symm.trans (aF_at (by decide) e_21)
        have hs_132 : aF 77 ws_115 = (advS T (sumL T (atomD T 0) (aF 77 ws0))) := e_118.trans (congrArg (fun s => advS T s) hs_130)
        have hs_133 : aF 77 ws_119 = (sumL T (atomD T 0) (advS T (sumL T (atomD T 0) (aF 77 ws0)))) := e_122.trans (congrArg (fun s => sumL T (atomD T 0) s) hs_132)
        have hs_134 : aF 77 ws_124 = (sumL T (atomD T 0) (advS T (sumL T (atomD T 0) (aF 77 ws0)))) := (aF_fr u_125 kSC_77 (by decide)).trans hs_133
        have hz_135 : (sumL T (atomD T 0) (advS T (sumL T (atomD T 0) (aF 77 ws0)))) = unitD T 0 (aF 77 ws0) := by rw [unitD_0]; unfold unitF; (repeat' split) <;> first | rfl | (exfalso; omega)
        rw [hQ]
        exact y_vret C0 h (Fr.tr (Fr.tr (Fr.tr (Fr.tr (Fr.mono u_2 (by decide)) u_17) (Fr.mono u_116 (by decide))) u_120) (Fr.mono u_125 (by decide))) (Eq.trans hs_134 hz_135) dX5_unit_165
    · -- 55
      refine lv_aload_n C0.1 C0.2.1 dX5_unit_58 rfl (lv_at hl 0 rfl) ?_
      refine lv_iload_n C0.1 C0.2.1 dX5_unit_59 rfl (lv_at hl 1 rfl) ?_
      refine y_ci h (y_rV (As := [.int a1]) (rest := []) C0 hZ h (c_X5_tooDeep_6S l G Z ad _ h.2 a1 (o62_49 l1 u1) (o62_50 l1 u1)) k_X5_tooDeep q_832 q_18 q_830 kSC_77 rfl rfl rfl hl.1 rfl rfl (Nat.le_of_ble_eq_true rfl) dX5_unit_60 ⟨Nat.le_of_ble_eq_true rfl, Nat.le_of_ble_eq_true rfl⟩ ⟨Nat.le_of_ble_eq_true rfl, Nat.le_of_ble_eq_true rfl⟩) (fun r_139 H locs ws_136 h u_137 p_138 => ?_)
      obtain ⟨e_140, e_141, e_142⟩ := p_138
      refine y_if_ne (tgt := 165) C0 dX5_unit_63 (by decide) (fun c_143 => ?_) (fun c_143 => ((o62_51 e_140 e_141 c_143)).elim)
      have hq_144 := e_7
      have hs_145 : aF 77 ws_1 = (aF 77 ws0) := (aF_fr u_2 kSC_77 (by decide))
      have hv_146 : (aF 77 ws0) 4 = v_9.toInt := (congrFun hs_145 4).symm.trans (aF_at (by decide) e_10)
      have hs_147 : aF 77 ws_136 = (failS 4 (aF 77 ws0)) := e_142.trans (congrArg (fun s => failS 4 s) hs_145)
      have hz_148 : (failS 4 (aF 77 ws0)) = unitD T 0 (aF 77 ws0) := by rw [unitD_0]; unfold unitF; (repeat' split) <;> first | rfl | (exfalso; omega)
      rw [hQ]
      exact y_vret C0 h (Fr.tr (Fr.mono u_2 (by decide)) (Fr.mono u_137 (by decide))) (Eq.trans hs_147 hz_148) dX5_unit_165
  · -- 6
    refine lv_aload_n C0.1 C0.2.1 dX5_unit_9 rfl (lv_at hl 0 rfl) ?_
    refine lv_iload_n C0.1 C0.2.1 dX5_unit_10 rfl (lv_at hl 1 rfl) ?_
    refine y_ci h (y_rV (As := [.int a1]) (rest := []) C0 hZ h (c_X5_tooDeep_6S l G Z ad _ h.2 a1 (o62_49 l1 u1) (o62_50 l1 u1)) k_X5_tooDeep q_832 q_18 q_830 kSC_77 rfl rfl rfl hl.1 rfl rfl (Nat.le_of_ble_eq_true rfl) dX5_unit_11 ⟨Nat.le_of_ble_eq_true rfl, Nat.le_of_ble_eq_true rfl⟩ ⟨Nat.le_of_ble_eq_true rfl, Nat.le_of_ble_eq_true rfl⟩) (fun r_152 H locs ws_149 h u_150 p_151 => ?_)
    obtain ⟨e_153, e_154, e_155⟩ := p_151
    refine y_if_ne (tgt := 165) C0 dX5_unit_14 (by decide) (fun c_156 => ?_) (fun c_156 => ((o62_51 e_153 e_154 c_156)).elim)
    have hq_157 := e_7
    have hs_158 : aF 77 ws_1 = (aF 77 ws0) := (aF_fr u_2 kSC_77 (by decide))
    have hs_159 : aF 77 ws_149 = (failS 4 (aF 77 ws0)) := e_155.trans (congrArg (fun s => failS 4 s) hs_158)
    have hz_160 : (failS 4 (aF 77 ws0)) = unitD T 0 (aF 77 ws0) := by rw [unitD_0]; unfold unitF; (repeat' split) <;> first | rfl | (exfalso; omega)
    rw [hQ]
    exact y_vret C0 h (Fr.tr (Fr.mono u_2 (by decide)) (Fr.mono u_150 (by decide))) (Eq.trans hs_159 hz_160) dX5_unit_165
set_option maxHeartbeats 4000000 in
set_option maxRecDepth 100000 in
theorem c_X5_both_6S {T : Nat → Int} (l : Launch) (G : GG) (Z : RZ) (ad : Nat → Nat) (ws0 : va_W) (hT : Ty G (SC tt) ad ws0) (a1 : Int32) (l1 : 6 ≤ a1.toInt) (u1 : a1.toInt ≤ 6) (hTp : Tp T ws0) : Mq l yX5_both cX5_both 3 none 10 G Z [.ref (ad 77), .int a1] ws0 (PV G (SC tt) ad [2, 3, 16] ws0 (fun u => (aF 77 u = bothL T (unitD T 0) (aF 77 ws0)))) := by
  refine Mq.start (by decide) (Nat.le_of_ble_eq_true rfl) ?_
  intro p e s m below meth c A ls C0 hZ h hl
  have hl : lv_has ls 3 [(0, .ref (ad 77)), (1, .int a1)] := hl
  have h : Wt G (SC tt) ad A s s.heap [] ws0 := ⟨h, hT⟩
  obtain ⟨args, hargs⟩ : ∃ z, z = ([.ref (ad 77), .int a1] : List Value).toArray := ⟨_, rfl⟩
  rw [← hargs] at C0 ⊢
  have C0 : Cx p s m args meth c RX5 cX5_both 3 none := C0
  obtain ⟨Q, hQ⟩ : ∃ z, z = MQ below ((PV G (SC tt) ad [2, 3, 16] ws0 (fun u => (aF 77 u = bothL T (unitD T 0) (aF 77 ws0)))) A) args s 0 0 A := ⟨_, rfl⟩
  rw [← hQ]
  refine lv_aload_n C0.1 C0.2.1 dX5_both_0 rfl (lv_at hl 0 rfl) ?_
  refine lv_iload_n C0.1 C0.2.1 dX5_both_1 rfl (lv_at hl 1 rfl) ?_
  refine y_cv h (y_rV (As := [.int a1]) (rest := []) C0 hZ h (c_X5_unit_6S l G Z ad _ h.2 a1 (o62_49 l1 u1) (o62_50 l1 u1) hTp) k_X5_unit q_851 q_21 q_849 kSC_77 rfl rfl rfl hl.1 rfl rfl (Nat.le_of_ble_eq_true rfl) dX5_both_2 ⟨Nat.le_of_ble_eq_true rfl, Nat.le_of_ble_eq_true rfl⟩ ⟨Nat.le_of_ble_eq_true rfl, Nat.le_of_ble_eq_true rfl⟩) (fun H locs ws_1 h u_2 p_3 => ?_)
  have e_4 := p_3
  refine y_c1 (n := 0) C0 (by decide) dX5_both_5 (fun v_5 e_6 => ?_)
  refine lv_istore_n (lv' := [(2, .int v_5), (0, .ref (ad 77)), (1, .int a1)]) C0.1 C0.2.1 dX5_both_6 rfl hl (by decide) rfl (fun ls hl => ?_)
  have lp_10 : ∀ (n_12 : Nat) (x2_7 : Int32) (H : Heap) (locs : List Loc) (ls : Array Slot) (ws_8 : va_W), 900 - x2_7.toInt < (n_12 : Int) → 0 ≤ x2_7.toInt → x2_7.toInt ≤ 900 → (lpS (fun s => wI T 20 s = 1) (fun s => unitD T 0 (advS T s)) (900 - x2_7.toInt).toNat (aF 77 ws_8) = bothL T (unitD T 0) (aF 77 ws0)) → Wt G (SC tt) ad A s H locs ws_8 → Fr (SC tt) [2, 3, 16] ws_1 ws_8 → lv_has ls 3 [(2, .int x2_7), (0, .ref (ad 77)), (1, .int a1)] → W p l e (rmd 10 0 0) s m args below meth c H locs 0 0 Q (F0 m 7 ls []) := by
    intro n_12
    induction n_12 with
    | zero => intro x2_7 H locs ls ws_8 hn_13 b_14 b_15 hSp h hF_9 hl; exact ((o62_52 b_14 b_15 hn_13)).elim
    | succ n_12 ih_11 =>
      intro x2_7 H locs ls ws_8 hn_13 b_14 b_15 hSp h hF_9 hl
      refine lv_iload_n C0.1 C0.2.1 dX5_both_7 rfl (lv_at hl 0 rfl) ?_
      refine y_c3 (n := 900) C0 (by decide) dX5_both_8 (fun v_16 e_17 => ?_)
      refine y_icmp_ge (tgt := 48) C0 dX5_both_11 (by decide) (fun c_18 => ?_) (fun c_18 => ?_)
      · -- 11
        have hz_19 : (aF 77 ws_8) = lpS (fun s => wI T 20 s = 1) (fun s => unitD T 0 (advS T s)) (900 - x2_7.toInt).toNat (aF 77 ws_8) := by first | (exfalso; omega) | exact (lp_0 (by omega)).symm | exact (lp_e (by omega)).symm
        rw [hQ]
        exact y_vret C0 h (Fr.tr u_2 hF_9) (Eq.trans rfl (Eq.trans hz_19 hSp)) dX5_both_48
      · -- 11
        refine lv_aload_n C0.1 C0.2.1 dX5_both_14 rfl (lv_at hl 1 rfl) ?_
        refine va_ldcS C0.1 C0.2.1 C0.2.2.2.1 (sr_20 hZ) dX5_both_15 ?_
        refine y_ci h (y_rV (As := [.ref (Z.2.1 20)]) (rest := []) C0 hZ h (c_X5_isWordS l G Z ad _ h.2 20 (by decide) ((Tp.fr (M := [2, 3, 16]) hTp (Fr.tr u_2 hF_9) kSC_78 (by decide)))) k_X5_isWord q_724 q_5 q_722 kSC_77 rfl rfl rfl hl.1 rfl rfl (Nat.le_of_ble_eq_true rfl) dX5_both_17 ⟨Nat.le_of_ble_eq_true rfl, Nat.le_of_ble_eq_true rfl⟩ ⟨Nat.le_of_ble_eq_true rfl, Nat.le_of_ble_eq_true rfl⟩) (fun r_23 H locs ws_20 h u_21 p_22 => ?_)
        obtain ⟨e_24, e_25, e_26⟩ := p_22
        refine y_if_eq (tgt := 48) C0 dX5_both_20 (by decide) (fun c_27 => ?_) (fun c_27 => ?_)
        · -- 20
          have hq_28 := e_26
          have hs_29 : aF 77 ws_20 = (aF 77 ws_8) := (aF_fr u_21 kSC_77 (by decide))
          have hz_30 : (aF 77 ws_8) = lpS (fun s => wI T 20 s = 1) (fun s => unitD T 0 (advS T s)) (900 - x2_7.toInt).toNat (aF 77 ws_8) := by first | (exfalso; omega) | exact (lp_0 (by omega)).symm | exact (lp_e (by omega)).symm
          rw [hQ]
          exact y_vret C0 h (Fr.tr (Fr.tr u_2 hF_9) (Fr.mono u_21 (by decide))) (Eq.trans hs_29 (Eq.trans hz_30 hSp)) dX5_both_48
        · -- 20
          refine lv_aload_n C0.1 C0.2.1 dX5_both_23 rfl (lv_at hl 1 rfl) ?_
          refine y_cv h (y_rV (As := []) (rest := []) C0 hZ h (c_X5_advanceS l G Z ad _ h.2 ((Tp.fr (M := [2, 3, 16]) hTp (Fr.tr (Fr.tr u_2 hF_9) (Fr.mono u_21 (by decide))) kSC_78 (by decide)))) k_X5_advance q_616 q_0 q_614 kSC_77 rfl rfl rfl hl.1 rfl rfl (Nat.le_of_ble_eq_true rfl) dX5_both_24 ⟨Nat.le_of_ble_eq_true rfl, Nat.le_of_ble_eq_true rfl⟩ ⟨Nat.le_of_ble_eq_true rfl, Nat.le_of_ble_eq_true rfl⟩) (fun H locs ws_31 h u_32 p_33 => ?_)
          have e_34 := p_33
          refine lv_aload_n C0.1 C0.2.1 dX5_both_27 rfl (lv_at hl 1 rfl) ?_
          refine lv_iload_n C0.1 C0.2.1 dX5_both_28 rfl (lv_at hl 2 rfl) ?_
          refine y_cv h (y_rV (As := [.int a1]) (rest := []) C0 hZ h (c_X5_unit_6S l G Z ad _ h.2 a1 (o62_49 l1 u1) (o62_50 l1 u1) ((Tp.fr (M := [2, 3, 16]) hTp (Fr.tr (Fr.tr (Fr.tr u_2 hF_9) (Fr.mono u_21 (by decide))) (Fr.mono u_32 (by decide))) kSC_78 (by decide)))) k_X5_unit q_851 q_21 q_849 kSC_77 rfl rfl rfl hl.1 rfl rfl (Nat.le_of_ble_eq_true rfl) dX5_both_29 ⟨Nat.le_of_ble_eq_true rfl, Nat.le_of_ble_eq_true rfl⟩ ⟨Nat.le_of_ble_eq_true rfl, Nat.le_of_ble_eq_true rfl⟩) (fun H locs ws_35 h u_36 p_37 => ?_)
          have e_38 := p_37
          refine lv_aload_n C0.1 C0.2.1 dX5_both_32 rfl (lv_at hl 1 rfl) ?_
          refine tg_X5_law C0 h kSC_77 q_380 dX5_both_33 (fun i_39 hi_39 => ?_)
          refine y_c3 (n := 2006) C0 (by decide) dX5_both_36 (fun v_40 e_41 => ?_)
          refine y_cv h (y_rV (As := [.int v_40]) (rest := []) C0 hZ h (c_X4_add l G Z ad _ h.2 i_39 hi_39 v_40) k_X4_add q_827 q_828 q_826 hi_39 rfl rfl rfl hl.1 rfl rfl (Nat.le_of_ble_eq_true rfl) dX5_both_39 ⟨Nat.le_of_ble_eq_true rfl, Nat.le_of_ble_eq_true rfl⟩ ⟨Nat.le_of_ble_eq_true rfl, Nat.le_of_ble_eq_true rfl⟩) (fun H locs ws_42 h u_43 p_44 => ?_)
          refine y_inc (kp := 0) (n := 1) (fun v_45 => [(2, .int v_45), (0, .ref (ad 77)), (1, .int a1)]) C0 hl rfl (by decide) (by decide) (fun _ => rfl) (o62_53 b_14 b_15 hn_13 e_17 c_18 (le_min x2_7) (le_max x2_7) (le_min v_16) (le_max v_16)) (o62_54 b_14 b_15 hn_13 e_17 c_18 (le_min x2_7) (le_max x2_7) (le_min v_16) (le_max v_16)) dX5_both_42 (fun v_45 ls e_46 hl => ?_)
          refine lv_goto (tgt := 7) C0.1 C0.2.1 dX5_both_45 (by decide) ?_
          have hq_47 := e_26
          have hs_48 : aF 77 ws_20 = (aF 77 ws_8) := (aF_fr u_21 kSC_77 (by decide))
          have hs_49 : aF 77 ws_31 = (advS T (aF 77 ws_8)) := e_34.trans (congrArg (fun s => advS T s) hs_48)
          have hs_50 : aF 77 ws_35 = (unitD T 0 (advS T (aF 77 ws_8))) := e_38.trans (congrArg (fun s => unitD T 0 s) hs_49)
          have hs_51 : aF 77 ws_42 = (unitD T 0 (advS T (aF 77 ws_8))) := (aF_fr u_43 kSC_77 (by decide)).trans hs_50
          exact ih_11 v_45 _ _ _ _ (o62_55 b_14 b_15 hn_13 e_17 c_18 e_46) (o62_56 b_14 b_15 hn_13 e_17 c_18 e_46) (o62_57 b_14 b_15 hn_13 e_17 c_18 e_46) ((by rw [hs_51]; exact (lp_s (by omega) (by omega) (by omega) (by omega)).trans hSp)) h (Fr.tr (Fr.tr (Fr.tr (Fr.tr hF_9 (Fr.mono u_21 (by decide))) (Fr.mono u_32 (by decide))) u_36) (Fr.mono u_43 (by decide))) (lv_sub hl [0, 1, 2] rfl)
  have hs_52 : aF 77 ws_1 = (unitD T 0 (aF 77 ws0)) := e_4
  exact lp_10 ((900 - v_5.toInt + 1).toNat) v_5 _ _ _ _ (o62_58 e_6) (o62_59 e_6) (o62_60 e_6) ((by rw [show (900 - v_5.toInt).toNat = 900 by omega, hs_52]; rfl)) h Fr.rf (lv_sub hl [0, 1, 2] rfl)
set_option maxHeartbeats 4000000 in
set_option maxRecDepth 100000 in
theorem c_X5_truth_6S {T : Nat → Int} (l : Launch) (G : GG) (Z : RZ) (ad : Nat → Nat) (ws0 : va_W) (hT : Ty G (SC tt) ad ws0) (a1 : Int32) (l1 : 6 ≤ a1.toInt) (u1 : a1.toInt ≤ 6) (hTp : Tp T ws0) : Mq l yX5_truth cX5_truth 3 none 11 G Z [.ref (ad 77), .int a1] ws0 (PV G (SC tt) ad [2, 3, 16] ws0 (fun u => (aF 77 u = truthL T (unitD T 0) (aF 77 ws0)))) := by
  refine Mq.start (by decide) (Nat.le_of_ble_eq_true rfl) ?_
  intro p e s m below meth c A ls C0 hZ h hl
  have hl : lv_has ls 3 [(0, .ref (ad 77)), (1, .int a1)] := hl
  have h : Wt G (SC tt) ad A s s.heap [] ws0 := ⟨h, hT⟩
  obtain ⟨args, hargs⟩ : ∃ z, z = ([.ref (ad 77), .int a1] : List Value).toArray := ⟨_, rfl⟩
  rw [← hargs] at C0 ⊢
  have C0 : Cx p s m args meth c RX5 cX5_truth 3 none := C0
  obtain ⟨Q, hQ⟩ : ∃ z, z = MQ below ((PV G (SC tt) ad [2, 3, 16] ws0 (fun u => (aF 77 u = truthL T (unitD T 0) (aF 77 ws0)))) A) args s 0 0 A := ⟨_, rfl⟩
  rw [← hQ]
  refine lv_aload_n C0.1 C0.2.1 dX5_truth_0 rfl (lv_at hl 0 rfl) ?_
  refine lv_iload_n C0.1 C0.2.1 dX5_truth_1 rfl (lv_at hl 1 rfl) ?_
  refine y_cv h (y_rV (As := [.int a1]) (rest := []) C0 hZ h (c_X5_both_6S l G Z ad _ h.2 a1 (o62_49 l1 u1) (o62_50 l1 u1) hTp) k_X5_both q_847 q_20 q_845 kSC_77 rfl rfl rfl hl.1 rfl rfl (Nat.le_of_ble_eq_true rfl) dX5_truth_2 ⟨Nat.le_of_ble_eq_true rfl, Nat.le_of_ble_eq_true rfl⟩ ⟨Nat.le_of_ble_eq_true rfl, Nat.le_of_ble_eq_true rfl⟩) (fun H locs ws_1 h u_2 p_3 => ?_)
  have e_4 := p_3
  refine y_c1 (n := 0) C0 (by decide) dX5_truth_5 (fun v_5 e_6 => ?_)
  refine lv_istore_n (lv' := [(2, .int v_5), (0, .ref (ad 77)), (1, .int a1)]) C0.1 C0.2.1 dX5_truth_6 rfl hl (by decide) rfl (fun ls hl => ?_)
  have lp_10 : ∀ (n_12 : Nat) (x2_7 : Int32) (H : Heap) (locs : List Loc) (ls : Array Slot) (ws_8 : va_W), 900 - x2_7.toInt < (n_12 : Int) → 0 ≤ x2_7.toInt → x2_7.toInt ≤ 900 → (lpS (fun s => wI T 21 s = 1) (fun s => bothL T (unitD T 0) (advS T s)) (900 - x2_7.toInt).toNat (aF 77 ws_8) = truthL T (unitD T 0) (aF 77 ws0)) → Wt G (SC tt) ad A s H locs ws_8 → Fr (SC tt) [2, 3, 16] ws_1 ws_8 → lv_has ls 3 [(2, .int x2_7), (0, .ref (ad 77)), (1, .int a1)] → W p l e (rmd 11 0 0) s m args below meth c H locs 0 0 Q (F0 m 7 ls []) := by
    intro n_12
    induction n_12 with
    | zero => intro x2_7 H locs ls ws_8 hn_13 b_14 b_15 hSp h hF_9 hl; exact ((o62_52 b_14 b_15 hn_13)).elim
    | succ n_12 ih_11 =>
      intro x2_7 H locs ls ws_8 hn_13 b_14 b_15 hSp h hF_9 hl
      refine lv_iload_n C0.1 C0.2.1 dX5_truth_7 rfl (lv_at hl 0 rfl) ?_
      refine y_c3 (n := 900) C0 (by decide) dX5_truth_8 (fun v_16 e_17 => ?_)
      refine y_icmp_ge (tgt := 48) C0 dX5_truth_11 (by decide) (fun c_18 => ?_) (fun c_18 => ?_)
      · -- 11
        have hz_19 : (aF 77 ws_8) = lpS (fun s => wI T 21 s = 1) (fun s => bothL T (unitD T 0) (advS T s)) (900 - x2_7.toInt).toNat (aF 77 ws_8) := by first | (exfalso; omega) | exact (lp_0 (by omega)).symm | exact (lp_e (by omega)).symm
        rw [hQ]
        exact y_vret C0 h (Fr.tr u_2 hF_9) (Eq.trans rfl (Eq.trans hz_19 hSp)) dX5_truth_48
      · -- 11
        refine lv_aload_n C0.1 C0.2.1 dX5_truth_14 rfl (lv_at hl 1 rfl) ?_
        refine va_ldcS C0.1 C0.2.1 C0.2.2.2.1 (sr_21 hZ) dX5_truth_15 ?_
        refine y_ci h (y_rV (As := [.ref (Z.2.1 21)]) (rest := []) C0 hZ h (c_X5_isWordS l G Z ad _ h.2 21 (by decide) ((Tp.fr (M := [2, 3, 16]) hTp (Fr.tr u_2 hF_9) kSC_78 (by decide)))) k_X5_isWord q_724 q_5 q_722 kSC_77 rfl rfl rfl hl.1 rfl rfl (Nat.le_of_ble_eq_true rfl) dX5_truth_17 ⟨Nat.le_of_ble_eq_true rfl, Nat.le_of_ble_eq_true rfl⟩ ⟨Nat.le_of_ble_eq_true rfl, Nat.le_of_ble_eq_true rfl⟩) (fun r_23 H locs ws_20 h u_21 p_22 => ?_)
        obtain ⟨e_24, e_25, e_26⟩ := p_22
        refine y_if_eq (tgt := 48) C0 dX5_truth_20 (by decide) (fun c_27 => ?_) (fun c_27 => ?_)
        · -- 20
          have hq_28 := e_26
          have hs_29 : aF 77 ws_20 = (aF 77 ws_8) := (aF_fr u_21 kSC_77 (by decide))
          have hz_30 : (aF 77 ws_8) = lpS (fun s => wI T 21 s = 1) (fun s => bothL T (unitD T 0) (advS T s)) (900 - x2_7.toInt).toNat (aF 77 ws_8) := by first | (exfalso; omega) | exact (lp_0 (by omega)).symm | exact (lp_e (by omega)).symm
          rw [hQ]
          exact y_vret C0 h (Fr.tr (Fr.tr u_2 hF_9) (Fr.mono u_21 (by decide))) (Eq.trans hs_29 (Eq.trans hz_30 hSp)) dX5_truth_48
        · -- 20
          refine lv_aload_n C0.1 C0.2.1 dX5_truth_23 rfl (lv_at hl 1 rfl) ?_
          refine y_cv h (y_rV (As := []) (rest := []) C0 hZ h (c_X5_advanceS l G Z ad _ h.2 ((Tp.fr (M := [2, 3, 16]) hTp (Fr.tr (Fr.tr u_2 hF_9) (Fr.mono u_21 (by decide))) kSC_78 (by decide)))) k_X5_advance q_616 q_0 q_614 kSC_77 rfl rfl rfl hl.1 rfl rfl (Nat.le_of_ble_eq_true rfl) dX5_truth_24 ⟨Nat.le_of_ble_eq_true rfl, Nat.le_of_ble_eq_true rfl⟩ ⟨Nat.le_of_ble_eq_true rfl, Nat.le_of_ble_eq_true rfl⟩) (fun H locs ws_31 h u_32 p_33 => ?_)
          have e_34 := p_33
          refine lv_aload_n C0.1 C0.2.1 dX5_truth_27 rfl (lv_at hl 1 rfl) ?_
          refine lv_iload_n C0.1 C0.2.1 dX5_truth_28 rfl (lv_at hl 2 rfl) ?_
          refine y_cv h (y_rV (As := [.int a1]) (rest := []) C0 hZ h (c_X5_both_6S l G Z ad _ h.2 a1 (o62_49 l1 u1) (o62_50 l1 u1) ((Tp.fr (M := [2, 3, 16]) hTp (Fr.tr (Fr.tr (Fr.tr u_2 hF_9) (Fr.mono u_21 (by decide))) (Fr.mono u_32 (by decide))) kSC_78 (by decide)))) k_X5_both q_847 q_20 q_845 kSC_77 rfl rfl rfl hl.1 rfl rfl (Nat.le_of_ble_eq_true rfl) dX5_truth_29 ⟨Nat.le_of_ble_eq_true rfl, Nat.le_of_ble_eq_true rfl⟩ ⟨Nat.le_of_ble_eq_true rfl, Nat.le_of_ble_eq_true rfl⟩) (fun H locs ws_35 h u_36 p_37 => ?_)
          have e_38 := p_37
          refine lv_aload_n C0.1 C0.2.1 dX5_truth_32 rfl (lv_at hl 1 rfl) ?_
          refine tg_X5_law C0 h kSC_77 q_380 dX5_truth_33 (fun i_39 hi_39 => ?_)
          refine y_c3 (n := 2007) C0 (by decide) dX5_truth_36 (fun v_40 e_41 => ?_)
          refine y_cv h (y_rV (As := [.int v_40]) (rest := []) C0 hZ h (c_X4_add l G Z ad _ h.2 i_39 hi_39 v_40) k_X4_add q_827 q_828 q_826 hi_39 rfl rfl rfl hl.1 rfl rfl (Nat.le_of_ble_eq_true rfl) dX5_truth_39 ⟨Nat.le_of_ble_eq_true rfl, Nat.le_of_ble_eq_true rfl⟩ ⟨Nat.le_of_ble_eq_true rfl, Nat.le_of_ble_eq_true rfl⟩) (fun H locs ws_42 h u_43 p_44 => ?_)
          refine y_inc (kp := 0) (n := 1) (fun v_45 => [(2, .int v_45), (0, .ref (ad 77)), (1, .int a1)]) C0 hl rfl (by decide) (by decide) (fun _ => rfl) (o62_53 b_14 b_15 hn_13 e_17 c_18 (le_min x2_7) (le_max x2_7) (le_min v_16) (le_max v_16)) (o62_54 b_14 b_15 hn_13 e_17 c_18 (le_min x2_7) (le_max x2_7) (le_min v_16) (le_max v_16)) dX5_truth_42 (fun v_45 ls e_46 hl => ?_)
          refine lv_goto (tgt := 7) C0.1 C0.2.1 dX5_truth_45 (by decide) ?_
          have hq_47 := e_26
          have hs_48 : aF 77 ws_20 = (aF 77 ws_8) := (aF_fr u_21 kSC_77 (by decide))
          have hs_49 : aF 77 ws_31 = (advS T (aF 77 ws_8)) := e_34.trans (congrArg (fun s => advS T s) hs_48)
          have hs_50 : aF 77 ws_35 = (bothL T (unitD T 0) (advS T (aF 77 ws_8))) := e_38.trans (congrArg (fun s => bothL T (unitD T 0) s) hs_49)
          have hs_51 : aF 77 ws_42 = (bothL T (unitD T 0) (advS T (aF 77 ws_8))) := (aF_fr u_43 kSC_77 (by decide)).trans hs_50
          exact ih_11 v_45 _ _ _ _ (o62_55 b_14 b_15 hn_13 e_17 c_18 e_46) (o62_56 b_14 b_15 hn_13 e_17 c_18 e_46) (o62_57 b_14 b_15 hn_13 e_17 c_18 e_46) ((by rw [hs_51]; exact (lp_s (by omega) (by omega) (by omega) (by omega)).trans hSp)) h (Fr.tr (Fr.tr (Fr.tr (Fr.tr hF_9 (Fr.mono u_21 (by decide))) (Fr.mono u_32 (by decide))) u_36) (Fr.mono u_43 (by decide))) (lv_sub hl [0, 1, 2] rfl)
  have hs_52 : aF 77 ws_1 = (bothL T (unitD T 0) (aF 77 ws0)) := e_4
  exact lp_10 ((900 - v_5.toInt + 1).toNat) v_5 _ _ _ _ (o62_58 e_6) (o62_59 e_6) (o62_60 e_6) ((by rw [show (900 - v_5.toInt).toNat = 900 by omega, hs_52]; rfl)) h Fr.rf (lv_sub hl [0, 1, 2] rfl)
set_option maxHeartbeats 4000000 in
set_option maxRecDepth 100000 in
theorem c_X5_tooDeep_5S (l : Launch) (G : GG) (Z : RZ) (ad : Nat → Nat) (ws0 : va_W) (hT : Ty G (SC tt) ad ws0) (a1 : Int32) (l1 : 5 ≤ a1.toInt) (u1 : a1.toInt ≤ 5) : Mq l yX5_tooDeep cX5_tooDeep 2 (some .boolean) 1 G Z [.ref (ad 77), .int a1] ws0 (PI G (SC tt) ad [] ws0 (fun r u => (0 ≤ r.toInt) ∧ (r.toInt ≤ 0) ∧ (aF 77 u = (fun s => s) (aF 77 ws0)))) := by
  refine Mq.start (by decide) (Nat.le_of_ble_eq_true rfl) ?_
  intro p e s m below meth c A ls C0 hZ h hl
  have hl : lv_has ls 2 [(0, .ref (ad 77)), (1, .int a1)] := hl
  have h : Wt G (SC tt) ad A s s.heap [] ws0 := ⟨h, hT⟩
  obtain ⟨args, hargs⟩ : ∃ z, z = ([.ref (ad 77), .int a1] : List Value).toArray := ⟨_, rfl⟩
  rw [← hargs] at C0 ⊢
  have C0 : Cx p s m args meth c RX5 cX5_tooDeep 2 (some .boolean) := C0
  obtain ⟨Q, hQ⟩ : ∃ z, z = MQ below ((PI G (SC tt) ad [] ws0 (fun r u => (0 ≤ r.toInt) ∧ (r.toInt ≤ 0) ∧ (aF 77 u = (fun s => s) (aF 77 ws0)))) A) args s 0 0 A := ⟨_, rfl⟩
  rw [← hQ]
  refine lv_iload_n C0.1 C0.2.1 dX5_tooDeep_0 rfl (lv_at hl 1 rfl) ?_
  refine y_c2 (n := 6) C0 (by decide) dX5_tooDeep_1 (fun v_1 e_2 => ?_)
  refine y_icmp_lt (tgt := 13) C0 dX5_tooDeep_3 (by decide) (fun c_3 => ?_) (fun c_3 => ((o62_66 l1 u1 e_2 c_3)).elim)
  refine y_c1 (n := 0) C0 (by decide) dX5_tooDeep_13 (fun v_4 e_5 => ?_)
  have hz_6 : (aF 77 ws0) = (fun s => s) (aF 77 ws0) := by rfl
  rw [hQ]
  exact y_zret C0 h (o62_59 e_5) (o62_68 e_5) Fr.rf ⟨(o62_59 e_5), (o62_67 e_5), (Eq.trans rfl hz_6)⟩ dX5_tooDeep_14
set_option maxHeartbeats 4000000 in
set_option maxRecDepth 100000 in
theorem c_X5_atom_5S {T : Nat → Int} (l : Launch) (G : GG) (Z : RZ) (ad : Nat → Nat) (ws0 : va_W) (hT : Ty G (SC tt) ad ws0) (a1 : Int32) (l1 : 5 ≤ a1.toInt) (u1 : a1.toInt ≤ 5) (hTp : Tp T ws0) : Mq l yX5_atom cX5_atom 3 none 9 G Z [.ref (ad 77), .int a1] ws0 (PV G (SC tt) ad [2, 3, 16] ws0 (fun u => (aF 77 u = atomD T 1 (aF 77 ws0)))) := by
  refine Mq.start (by decide) (Nat.le_of_ble_eq_true rfl) ?_
  intro p e s m below meth c A ls C0 hZ h hl
  have hl : lv_has ls 3 [(0, .ref (ad 77)), (1, .int a1)] := hl
  have h : Wt G (SC tt) ad A s s.heap [] ws0 := ⟨h, hT⟩
  obtain ⟨args, hargs⟩ : ∃ z, z = ([.ref (ad 77), .int a1] : List Value).toArray := ⟨_, rfl⟩
  rw [← hargs] at C0 ⊢
  have C0 : Cx p s m args meth c RX5 cX5_atom 3 none := C0
  obtain ⟨Q, hQ⟩ : ∃ z, z = MQ below ((PV G (SC tt) ad [2, 3, 16] ws0 (fun u => (aF 77 u = atomD T 1 (aF 77 ws0)))) A) args s 0 0 A := ⟨_, rfl⟩
  rw [← hQ]
  refine lv_aload_n C0.1 C0.2.1 dX5_atom_0 rfl (lv_at hl 0 rfl) ?_
  refine tg_X5_kind C0 h kSC_77 q_374 dX5_atom_1 (fun v_1 e_2 e_3 e_4 => ?_)
  refine y_c1 (n := 2) C0 (by decide) dX5_atom_4 (fun v_5 e_6 => ?_)
  refine y_icmp_ne (tgt := 26) C0 dX5_atom_5 (by decide) (fun c_7 => ?_) (fun c_7 => ?_)
  · -- 5
    refine lv_aload_n C0.1 C0.2.1 dX5_atom_26 rfl (lv_at hl 0 rfl) ?_
    refine tg_X5_kind C0 h kSC_77 q_374 dX5_atom_27 (fun v_8 e_9 e_10 e_11 => ?_)
    have q_12 : v_8.toInt = v_1.toInt := congrArg Int32.toInt (e_9.symm.trans (Eq.trans rfl e_2))
    refine y_c2 (n := 40) C0 (by decide) dX5_atom_30 (fun v_13 e_14 => ?_)
    refine y_icmp_ne (tgt := 63) C0 dX5_atom_32 (by decide) (fun c_15 => ?_) (fun c_15 => ?_)
    · -- 32
      refine lv_aload_n C0.1 C0.2.1 dX5_atom_63 rfl (lv_at hl 0 rfl) ?_
      refine va_ldcS C0.1 C0.2.1 C0.2.2.2.1 (sr_12 hZ) dX5_atom_64 ?_
      refine y_ci h (y_rV (As := [.ref (Z.2.1 12)]) (rest := []) C0 hZ h (c_X5_isWordS l G Z ad _ h.2 12 (by decide) hTp) k_X5_isWord q_724 q_5 q_722 kSC_77 rfl rfl rfl hl.1 rfl rfl (Nat.le_of_ble_eq_true rfl) dX5_atom_66 ⟨Nat.le_of_ble_eq_true rfl, Nat.le_of_ble_eq_true rfl⟩ ⟨Nat.le_of_ble_eq_true rfl, Nat.le_of_ble_eq_true rfl⟩) (fun r_19 H locs ws_16 h u_17 p_18 => ?_)
      obtain ⟨e_20, e_21, e_22⟩ := p_18
      refine y_if_eq (tgt := 78) C0 dX5_atom_69 (by decide) (fun c_23 => ?_) (fun c_23 => ?_)
      · -- 69
        refine lv_aload_n C0.1 C0.2.1 dX5_atom_78 rfl (lv_at hl 0 rfl) ?_
        refine va_ldcS C0.1 C0.2.1 C0.2.2.2.1 (sr_13 hZ) dX5_atom_79 ?_
        refine y_ci h (y_rV (As := [.ref (Z.2.1 13)]) (rest := []) C0 hZ h (c_X5_isWordS l G Z ad _ h.2 13 (by decide) ((Tp.fr (M := []) hTp u_17 kSC_78 (by decide)))) k_X5_isWord q_724 q_5 q_722 kSC_77 rfl rfl rfl hl.1 rfl rfl (Nat.le_of_ble_eq_true rfl) dX5_atom_81 ⟨Nat.le_of_ble_eq_true rfl, Nat.le_of_ble_eq_true rfl⟩ ⟨Nat.le_of_ble_eq_true rfl, Nat.le_of_ble_eq_true rfl⟩) (fun r_27 H locs ws_24 h u_25 p_26 => ?_)
        obtain ⟨e_28, e_29, e_30⟩ := p_26
        refine y_if_eq (tgt := 93) C0 dX5_atom_84 (by decide) (fun c_31 => ?_) (fun c_31 => ?_)
        · -- 84
          refine lv_aload_n C0.1 C0.2.1 dX5_atom_93 rfl (lv_at hl 0 rfl) ?_
          refine va_ldcS C0.1 C0.2.1 C0.2.2.2.1 (sr_14 hZ) dX5_atom_94 ?_
          refine y_ci h (y_rV (As := [.ref (Z.2.1 14)]) (rest := []) C0 hZ h (c_X5_isWordS l G Z ad _ h.2 14 (by decide) ((Tp.fr (M := []) hTp (Fr.tr u_17 u_25) kSC_78 (by decide)))) k_X5_isWord q_724 q_5 q_722 kSC_77 rfl rfl rfl hl.1 rfl rfl (Nat.le_of_ble_eq_true rfl) dX5_atom_96 ⟨Nat.le_of_ble_eq_true rfl, Nat.le_of_ble_eq_true rfl⟩ ⟨Nat.le_of_ble_eq_true rfl, Nat.le_of_ble_eq_true rfl⟩) (fun r_35 H locs ws_32 h u_33 p_34 => ?_)
          obtain ⟨e_36, e_37, e_38⟩ := p_34
          refine y_if_eq (tgt := 108) C0 dX5_atom_99 (by decide) (fun c_39 => ?_) (fun c_39 => ?_)
          · -- 99
            refine lv_aload_n C0.1 C0.2.1 dX5_atom_108 rfl (lv_at hl 0 rfl) ?_
            refine va_ldcS C0.1 C0.2.1 C0.2.2.2.1 (sr_15 hZ) dX5_atom_109 ?_
            refine y_ci h (y_rV (As := [.ref (Z.2.1 15)]) (rest := []) C0 hZ h (c_X5_isWordS l G Z ad _ h.2 15 (by decide) ((Tp.fr (M := []) hTp (Fr.tr (Fr.tr u_17 u_25) u_33) kSC_78 (by decide)))) k_X5_isWord q_724 q_5 q_722 kSC_77 rfl rfl rfl hl.1 rfl rfl (Nat.le_of_ble_eq_true rfl) dX5_atom_111 ⟨Nat.le_of_ble_eq_true rfl, Nat.le_of_ble_eq_true rfl⟩ ⟨Nat.le_of_ble_eq_true rfl, Nat.le_of_ble_eq_true rfl⟩) (fun r_43 H locs ws_40 h u_41 p_42 => ?_)
            obtain ⟨e_44, e_45, e_46⟩ := p_42
            refine y_if_eq (tgt := 123) C0 dX5_atom_114 (by decide) (fun c_47 => ?_) (fun c_47 => ?_)
            · -- 114
              refine lv_aload_n C0.1 C0.2.1 dX5_atom_123 rfl (lv_at hl 0 rfl) ?_
              refine va_ldcS C0.1 C0.2.1 C0.2.2.2.1 (sr_16 hZ) dX5_atom_124 ?_
              refine y_ci h (y_rV (As := [.ref (Z.2.1 16)]) (rest := []) C0 hZ h (c_X5_isWordS l G Z ad _ h.2 16 (by decide) ((Tp.fr (M := []) hTp (Fr.tr (Fr.tr (Fr.tr u_17 u_25) u_33) u_41) kSC_78 (by decide)))) k_X5_isWord q_724 q_5 q_722 kSC_77 rfl rfl rfl hl.1 rfl rfl (Nat.le_of_ble_eq_true rfl) dX5_atom_126 ⟨Nat.le_of_ble_eq_true rfl, Nat.le_of_ble_eq_true rfl⟩ ⟨Nat.le_of_ble_eq_true rfl, Nat.le_of_ble_eq_true rfl⟩) (fun r_51 H locs ws_48 h u_49 p_50 => ?_)
              obtain ⟨e_52, e_53, e_54⟩ := p_50
              refine y_if_eq (tgt := 138) C0 dX5_atom_129 (by decide) (fun c_55 => ?_) (fun c_55 => ?_)
              · -- 129
                refine lv_aload_n C0.1 C0.2.1 dX5_atom_138 rfl (lv_at hl 0 rfl) ?_
                refine va_ldcS C0.1 C0.2.1 C0.2.2.2.1 (sr_17 hZ) dX5_atom_139 ?_
                refine y_ci h (y_rV (As := [.ref (Z.2.1 17)]) (rest := []) C0 hZ h (c_X5_isWordS l G Z ad _ h.2 17 (by decide) ((Tp.fr (M := []) hTp (Fr.tr (Fr.tr (Fr.tr (Fr.tr u_17 u_25) u_33) u_41) u_49) kSC_78 (by decide)))) k_X5_isWord q_724 q_5 q_722 kSC_77 rfl rfl rfl hl.1 rfl rfl (Nat.le_of_ble_eq_true rfl) dX5_atom_141 ⟨Nat.le_of_ble_eq_true rfl, Nat.le_of_ble_eq_true rfl⟩ ⟨Nat.le_of_ble_eq_true rfl, Nat.le_of_ble_eq_true rfl⟩) (fun r_59 H locs ws_56 h u_57 p_58 => ?_)
                obtain ⟨e_60, e_61, e_62⟩ := p_58
                refine y_if_eq (tgt := 153) C0 dX5_atom_144 (by decide) (fun c_63 => ?_) (fun c_63 => ?_)
                · -- 144
                  refine y_c1 (n := (-1)) C0 (by decide) dX5_atom_153 (fun v_64 e_65 => ?_)
                  refine lv_istore_n (lv' := [(2, .int v_64), (0, .ref (ad 77)), (1, .int a1)]) C0.1 C0.2.1 dX5_atom_154 rfl hl (by decide) rfl (fun ls hl => ?_)
                  refine lv_iload_n C0.1 C0.2.1 dX5_atom_155 rfl (lv_at hl 0 rfl) ?_
                  refine y_if_ge (tgt := 165) C0 dX5_atom_156 (by decide) (fun c_66 => ((o62_42 e_65 c_66)).elim) (fun c_66 => ?_)
                  refine lv_aload_n C0.1 C0.2.1 dX5_atom_159 rfl (lv_at hl 1 rfl) ?_
                  refine y_c1 (n := 2) C0 (by decide) dX5_atom_160 (fun v_67 e_68 => ?_)
                  refine y_cv h (y_rV (As := [.int v_67]) (rest := []) C0 hZ h (c_X5_failS l G Z ad _ h.2 v_67) k_X5_fail q_628 q_3 q_626 kSC_77 rfl rfl rfl hl.1 rfl rfl (Nat.le_of_ble_eq_true rfl) dX5_atom_161 ⟨Nat.le_of_ble_eq_true rfl, Nat.le_of_ble_eq_true rfl⟩ ⟨Nat.le_of_ble_eq_true rfl, Nat.le_of_ble_eq_true rfl⟩) (fun H locs ws_69 h u_70 p_71 => ?_)
                  have e_72 := p_71
                  have hv_73 : (aF 77 ws0) 4 = v_1.toInt := (aF_at (by decide) e_2)
                  have hv_74 : (aF 77 ws0) 4 = v_8.toInt := (aF_at (by decide) e_9)
                  have hq_75 := e_22
                  have hs_76 : aF 77 ws_16 = (aF 77 ws0) := (aF_fr u_17 kSC_77 (by decide))
                  have hq_77 := e_30
                  rw [hs_76] at hq_77
                  have hs_78 : aF 77 ws_24 = (aF 77 ws0) := (aF_fr u_25 kSC_77 (by decide)).trans hs_76
                  have hq_79 := e_38
                  rw [hs_78] at hq_79
                  have hs_80 : aF 77 ws_32 = (aF 77 ws0) := (aF_fr u_33 kSC_77 (by decide)).trans hs_78
                  have hq_81 := e_46
                  rw [hs_80] at hq_81
                  have hs_82 : aF 77 ws_40 = (aF 77 ws0) := (aF_fr u_41 kSC_77 (by decide)).trans hs_80
                  have hq_83 := e_54
                  rw [hs_82] at hq_83
                  have hs_84 : aF 77 ws_48 = (aF 77 ws0) := (aF_fr u_49 kSC_77 (by decide)).trans hs_82
                  have hq_85 := e_62
                  rw [hs_84] at hq_85
                  have hs_86 : aF 77 ws_56 = (aF 77 ws0) := (aF_fr u_57 kSC_77 (by decide)).trans hs_84
                  have hs_87 : aF 77 ws_69 = (failS 2 (aF 77 ws0)) := e_72.trans ((congrArg (fun s => failS v_67.toInt s) hs_86).trans (by rw [(o62_1 e_68)]))
                  have hz_88 : (failS 2 (aF 77 ws0)) = atomD T 1 (aF 77 ws0) := by rw [atomD_1]; unfold atomF; (repeat' split) <;> first | rfl | (exfalso; omega)
                  rw [hQ]
                  exact y_vret C0 h (Fr.tr (Fr.tr (Fr.tr (Fr.tr (Fr.tr (Fr.tr (Fr.mono u_17 (by decide)) (Fr.mono u_25 (by decide))) (Fr.mono u_33 (by decide))) (Fr.mono u_41 (by decide))) (Fr.mono u_49 (by decide))) (Fr.mono u_57 (by decide))) (Fr.mono u_70 (by decide))) (Eq.trans hs_87 hz_88) dX5_atom_164
                · -- 144
                  refine y_c3 (n := 1005) C0 (by decide) dX5_atom_147 (fun v_89 e_90 => ?_)
                  refine lv_goto (tgt := 154) C0.1 C0.2.1 dX5_atom_150 (by decide) ?_
                  refine lv_istore_n (lv' := [(2, .int v_89), (0, .ref (ad 77)), (1, .int a1)]) C0.1 C0.2.1 dX5_atom_154 rfl hl (by decide) rfl (fun ls hl => ?_)
                  refine lv_iload_n C0.1 C0.2.1 dX5_atom_155 rfl (lv_at hl 0 rfl) ?_
                  refine y_if_ge (tgt := 165) C0 dX5_atom_156 (by decide) (fun c_91 => ?_) (fun c_91 => ((o62_43 e_90 c_91)).elim)
                  refine lv_aload_n C0.1 C0.2.1 dX5_atom_165 rfl (lv_at hl 1 rfl) ?_
                  refine tg_X5_law C0 h kSC_77 q_380 dX5_atom_166 (fun i_92 hi_92 => ?_)
                  refine lv_iload_n C0.1 C0.2.1 dX5_atom_169 rfl (lv_at hl 0 rfl) ?_
                  refine y_cv h (y_rV (As := [.int v_89]) (rest := []) C0 hZ h (c_X4_add l G Z ad _ h.2 i_92 hi_92 v_89) k_X4_add q_827 q_828 q_826 hi_92 rfl rfl rfl hl.1 rfl rfl (Nat.le_of_ble_eq_true rfl) dX5_atom_170 ⟨Nat.le_of_ble_eq_true rfl, Nat.le_of_ble_eq_true rfl⟩ ⟨Nat.le_of_ble_eq_true rfl, Nat.le_of_ble_eq_true rfl⟩) (fun H locs ws_93 h u_94 p_95 => ?_)
                  refine lv_aload_n C0.1 C0.2.1 dX5_atom_173 rfl (lv_at hl 1 rfl) ?_
                  refine y_cv h (y_rV (As := []) (rest := []) C0 hZ h (c_X5_advanceS l G Z ad _ h.2 ((Tp.fr (M := [2, 3]) hTp (Fr.tr (Fr.tr (Fr.tr (Fr.tr (Fr.tr (Fr.tr (Fr.mono u_17 (by decide)) (Fr.mono u_25 (by decide))) (Fr.mono u_33 (by decide))) (Fr.mono u_41 (by decide))) (Fr.mono u_49 (by decide))) (Fr.mono u_57 (by decide))) u_94) kSC_78 (by decide)))) k_X5_advance q_616 q_0 q_614 kSC_77 rfl rfl rfl hl.1 rfl rfl (Nat.le_of_ble_eq_true rfl) dX5_atom_174 ⟨Nat.le_of_ble_eq_true rfl, Nat.le_of_ble_eq_true rfl⟩ ⟨Nat.le_of_ble_eq_true rfl, Nat.le_of_ble_eq_true rfl⟩) (fun H locs ws_96 h u_97 p_98 => ?_)
                  have e_99 := p_98
                  have hv_100 : (aF 77 ws0) 4 = v_1.toInt := (aF_at (by decide) e_2)
                  have hv_101 : (aF 77 ws0) 4 = v_8.toInt := (aF_at (by decide) e_9)
                  have hq_102 := e_22
                  have hs_103 : aF 77 ws_16 = (aF 77 ws0) := (aF_fr u_17 kSC_77 (by decide))
                  have hq_104 := e_30
                  rw [hs_103] at hq_104
                  have hs_105 : aF 77 ws_24 = (aF 77 ws0) := (aF_fr u_25 kSC_77 (by decide)).trans hs_103
                  have hq_106 := e_38
                  rw [hs_105] at hq_106
                  have hs_107 : aF 77 ws_32 = (aF 77 ws0) := (aF_fr u_33 kSC_77 (by decide)).trans hs_105
                  have hq_108 := e_46
                  rw [hs_107] at hq_108
                  have hs_109 : aF 77 ws_40 = (aF 77 ws0) := (aF_fr u_41 kSC_77 (by decide)).trans hs_107
                  have hq_110 := e_54
                  rw [hs_109] at hq_110
                  have hs_111 : aF 77 ws_48 = (aF 77 ws0) := (aF_fr u_49 kSC_77 (by decide)).trans hs_109
                  have hq_112 := e_62
                  rw [hs_111] at hq_112
                  have hs_113 : aF 77 ws_56 = (aF 77 ws0) := (aF_fr u_57 kSC_77 (by decide)).trans hs_111
                  have hs_114 : aF 77 ws_93 = (aF 77 ws0) := (aF_fr u_94 kSC_77 (by decide)).trans hs_113
                  have hs_115 : aF 77 ws_96 = (advS T (aF 77 ws0)) := e_99.trans (congrArg (fun s => advS T s) hs_114)
                  have hz_116 : (advS T (aF 77 ws0)) = atomD T 1 (aF 77 ws0) := by rw [atomD_1]; unfold atomF; (repeat' split) <;> first | rfl | (exfalso; omega)
                  rw [hQ]
                  exact y_vret C0 h (Fr.tr (Fr.tr (Fr.tr (Fr.tr (Fr.tr (Fr.tr (Fr.tr (Fr.mono u_17 (by decide)) (Fr.mono u_25 (by decide))) (Fr.mono u_33 (by decide))) (Fr.mono u_41 (by decide))) (Fr.mono u_49 (by decide))) (Fr.mono u_57 (by decide))) (Fr.mono u_94 (by decide))) (Fr.mono u_97 (by decide))) (Eq.trans hs_115 hz_116) dX5_atom_177
              · -- 129
                refine y_c3 (n := 1004) C0 (by decide) dX5_atom_132 (fun v_117 e_118 => ?_)
                refine lv_goto (tgt := 154) C0.1 C0.2.1 dX5_atom_135 (by decide) ?_
                refine lv_istore_n (lv' := [(2, .int v_117), (0, .ref (ad 77)), (1, .int a1)]) C0.1 C0.2.1 dX5_atom_154 rfl hl (by decide) rfl (fun ls hl => ?_)
                refine lv_iload_n C0.1 C0.2.1 dX5_atom_155 rfl (lv_at hl 0 rfl) ?_
                refine y_if_ge (tgt := 165) C0 dX5_atom_156 (by decide) (fun c_119 => ?_) (fun c_119 => ((o62_44 e_118 c_119)).elim)
                refine lv_aload_n C0.1 C0.2.1 dX5_atom_165 rfl (lv_at hl 1 rfl) ?_
                refine tg_X5_law C0 h kSC_77 q_380 dX5_atom_166 (fun i_120 hi_120 => ?_)
                refine lv_iload_n C0.1 C0.2.1 dX5_atom_169 rfl (lv_at hl 0 rfl) ?_
                refine y_cv h (y_rV (As := [.int v_117]) (rest := []) C0 hZ h (c_X4_add l G Z ad _ h.2 i_120 hi_120 v_117) k_X4_add q_827 q_828 q_826 hi_120 rfl rfl rfl hl.1 rfl rfl (Nat.le_of_ble_eq_true rfl) dX5_atom_170 ⟨Nat.le_of_ble_eq_true rfl, Nat.le_of_ble_eq_true rfl⟩ ⟨Nat.le_of_ble_eq_true rfl, Nat.le_of_ble_eq_true rfl⟩) (fun H locs ws_121 h u_122 p_123 => ?_)
                refine lv_aload_n C0.1 C0.2.1 dX5_atom_173 rfl (lv_at hl 1 rfl) ?_
                refine y_cv h (y_rV (As := []) (rest := []) C0 hZ h (c_X5_advanceS l G Z ad _ h.2 ((Tp.fr (M := [2, 3]) hTp (Fr.tr (Fr.tr (Fr.tr (Fr.tr (Fr.tr (Fr.mono u_17 (by decide)) (Fr.mono u_25 (by decide))) (Fr.mono u_33 (by decide))) (Fr.mono u_41 (by decide))) (Fr.mono u_49 (by decide))) u_122) kSC_78 (by decide)))) k_X5_advance q_616 q_0 q_614 kSC_77 rfl rfl rfl hl.1 rfl rfl (Nat.le_of_ble_eq_true rfl) dX5_atom_174 ⟨Nat.le_of_ble_eq_true rfl, Nat.le_of_ble_eq_true rfl⟩ ⟨Nat.le_of_ble_eq_true rfl, Nat.le_of_ble_eq_true rfl⟩) (fun H locs ws_124 h u_125 p_126 => ?_)
                have e_127 := p_126
                have hv_128 : (aF 77 ws0) 4 = v_1.toInt := (aF_at (by decide) e_2)
                have hv_129 : (aF 77 ws0) 4 = v_8.toInt := (aF_at (by decide) e_9)
                have hq_130 := e_22
                have hs_131 : aF 77 ws_16 = (aF 77 ws0) := (aF_fr u_17 kSC_77 (by decide))
                have hq_132 := e_30
                rw [hs_131] at hq_132
                have hs_133 : aF 77 ws_24 = (aF 77 ws0) := (aF_fr u_25 kSC_77 (by decide)).trans hs_131
                have hq_134 := e_38
                rw [hs_133] at hq_134
                have hs_135 : aF 77 ws_32 = (aF 77 ws0) := (aF_fr u_33 kSC_77 (by decide)).trans hs_133
                have hq_136 := e_46
                rw [hs_135] at hq_136
                have hs_137 : aF 77 ws_40 = (aF 77 ws0) := (aF_fr u_41 kSC_77 (by decide)).trans hs_135
                have hq_138 := e_54
                rw [hs_137] at hq_138
                have hs_139 : aF 77 ws_48 = (aF 77 ws0) := (aF_fr u_49 kSC_77 (by decide)).trans hs_137
                have hs_140 : aF 77 ws_121 = (aF 77 ws0) := (aF_fr u_122 kSC_77 (by decide)).trans hs_139
                have hs_141 : aF 77 ws_124 = (advS T (aF 77 ws0)) := e_127.trans (congrArg (fun s => advS T s) hs_140)
                have hz_142 : (advS T (aF 77 ws0)) = atomD T 1 (aF 77 ws0) := by rw [atomD_1]; unfold atomF; (repeat' split) <;> first | rfl | (exfalso; omega)
                rw [hQ]
                exact y_vret C0 h (Fr.tr (Fr.tr (Fr.tr (Fr.tr (Fr.tr (Fr.tr (Fr.mono u_17 (by decide)) (Fr.mono u_25 (by decide))) (Fr.mono u_33 (by decide))) (Fr.mono u_41 (by decide))) (Fr.mono u_49 (by decide))) (Fr.mono u_122 (by decide))) (Fr.mono u_125 (by decide))) (Eq.trans hs_141 hz_142) dX5_atom_177
            · -- 114
              refine y_c3 (n := 1003) C0 (by decide) dX5_atom_117 (fun v_143 e_144 => ?_)
              refine lv_goto (tgt := 154) C0.1 C0.2.1 dX5_atom_120 (by decide) ?_
              refine lv_istore_n (lv' := [(2, .int v_143), (0, .ref (ad 77)), (1, .int a1)]) C0.1 C0.2.1 dX5_atom_154 rfl hl (by decide) rfl (fun ls hl => ?_)
              refine lv_iload_n C0.1 C0.2.1 dX5_atom_155 rfl (lv_at hl 0 rfl) ?_
              refine y_if_ge (tgt := 165) C0 dX5_atom_156 (by decide) (fun c_145 => ?_) (fun c_145 => ((o62_45 e_144 c_145)).elim)
              refine lv_aload_n C0.1 C0.2.1 dX5_atom_165 rfl (lv_at hl 1 rfl) ?_
              refine tg_X5_law C0 h kSC_77 q_380 dX5_atom_166 (fun i_146 hi_146 => ?_)
              refine lv_iload_n C0.1 C0.2.1 dX5_atom_169 rfl (lv_at hl 0 rfl) ?_
              refine y_cv h (y_rV (As := [.int v_143]) (rest := []) C0 hZ h (c_X4_add l G Z ad _ h.2 i_146 hi_146 v_143) k_X4_add q_827 q_828 q_826 hi_146 rfl rfl rfl hl.1 rfl rfl (Nat.le_of_ble_eq_true rfl) dX5_atom_170 ⟨Nat.le_of_ble_eq_true rfl, Nat.le_of_ble_eq_true rfl⟩ ⟨Nat.le_of_ble_eq_true rfl, Nat.le_of_ble_eq_true rfl⟩) (fun H locs ws_147 h u_148 p_149 => ?_)
              refine lv_aload_n C0.1 C0.2.1 dX5_atom_173 rfl (lv_at hl 1 rfl) ?_
              refine y_cv h (y_rV (As := []) (rest := []) C0 hZ h (c_X5_advanceS l G Z ad _ h.2 ((Tp.fr (M := [2, 3]) hTp (Fr.tr (Fr.tr (Fr.tr (Fr.tr (Fr.mono u_17 (by decide)) (Fr.mono u_25 (by decide))) (Fr.mono u_33 (by decide))) (Fr.mono u_41 (by decide))) u_148) kSC_78 (by decide)))) k_X5_advance q_616 q_0 q_614 kSC_77 rfl rfl rfl hl.1 rfl rfl (Nat.le_of_ble_eq_true rfl) dX5_atom_174 ⟨Nat.le_of_ble_eq_true rfl, Nat.le_of_ble_eq_true rfl⟩ ⟨Nat.le_of_ble_eq_true rfl, Nat.le_of_ble_eq_true rfl⟩) (fun H locs ws_150 h u_151 p_152 => ?_)
              have e_153 := p_152
              have hv_154 : (aF 77 ws0) 4 = v_1.toInt := (aF_at (by decide) e_2)
              have hv_155 : (aF 77 ws0) 4 = v_8.toInt := (aF_at (by decide) e_9)
              have hq_156 := e_22
              have hs_157 : aF 77 ws_16 = (aF 77 ws0) := (aF_fr u_17 kSC_77 (by decide))
              have hq_158 := e_30
              rw [hs_157] at hq_158
              have hs_159 : aF 77 ws_24 = (aF 77 ws0) := (aF_fr u_25 kSC_77 (by decide)).trans hs_157
              have hq_160 := e_38
              rw [hs_159] at hq_160
              have hs_161 : aF 77 ws_32 = (aF 77 ws0) := (aF_fr u_33 kSC_77 (by decide)).trans hs_159
              have hq_162 := e_46
              rw [hs_161] at hq_162
              have hs_163 : aF 77 ws_40 = (aF 77 ws0) := (aF_fr u_41 kSC_77 (by decide)).trans hs_161
              have hs_164 : aF 77 ws_147 = (aF 77 ws0) := (aF_fr u_148 kSC_77 (by decide)).trans hs_163
              have hs_165 : aF 77 ws_150 = (advS T (aF 77 ws0)) := e_153.trans (congrArg (fun s => advS T s) hs_164)
              have hz_166 : (advS T (aF 77 ws0)) = atomD T 1 (aF 77 ws0) := by rw [atomD_1]; unfold atomF; (repeat' split) <;> first | rfl | (exfalso; omega)
              rw [hQ]
              exact y_vret C0 h (Fr.tr (Fr.tr (Fr.tr (Fr.tr (Fr.tr (Fr.mono u_17 (by decide)) (Fr.mono u_25 (by decide))) (Fr.mono u_33 (by decide))) (Fr.mono u_41 (by decide))) (Fr.mono u_148 (by decide))) (Fr.mono u_151 (by decide))) (Eq.trans hs_165 hz_166) dX5_atom_177
          · -- 99
            refine y_c3 (n := 1002) C0 (by decide) dX5_atom_102 (fun v_167 e_168 => ?_)
            refine lv_goto (tgt := 154) C0.1 C0.2.1 dX5_atom_105 (by decide) ?_
            refine lv_istore_n (lv' := [(2, .int v_167), (0, .ref (ad 77)), (1, .int a1)]) C0.1 C0.2.1 dX5_atom_154 rfl hl (by decide) rfl (fun ls hl => ?_)
            refine lv_iload_n C0.1 C0.2.1 dX5_atom_155 rfl (lv_at hl 0 rfl) ?_
            refine y_if_ge (tgt := 165) C0 dX5_atom_156 (by decide) (fun c_169 => ?_) (fun c_169 => ((o62_46 e_168 c_169)).elim)
            refine lv_aload_n C0.1 C0.2.1 dX5_atom_165 rfl (lv_at hl 1 rfl) ?_
            refine tg_X5_law C0 h kSC_77 q_380 dX5_atom_166 (fun i_170 hi_170 => ?_)
            refine lv_iload_n C0.1 C0.2.1 dX5_atom_169 rfl (lv_at hl 0 rfl) ?_
            refine y_cv h (y_rV (As := [.int v_167]) (rest := []) C0 hZ h (c_X4_add l G Z ad _ h.2 i_170 hi_170 v_167) k_X4_add q_827 q_828 q_826 hi_170 rfl rfl rfl hl.1 rfl rfl (Nat.le_of_ble_eq_true rfl) dX5_atom_170 ⟨Nat.le_of_ble_eq_true rfl, Nat.le_of_ble_eq_true rfl⟩ ⟨Nat.le_of_ble_eq_true rfl, Nat.le_of_ble_eq_true rfl⟩) (fun H locs ws_171 h u_172 p_173 => ?_)
            refine lv_aload_n C0.1 C0.2.1 dX5_atom_173 rfl (lv_at hl 1 rfl) ?_
            refine y_cv h (y_rV (As := []) (rest := []) C0 hZ h (c_X5_advanceS l G Z ad _ h.2 ((Tp.fr (M := [2, 3]) hTp (Fr.tr (Fr.tr (Fr.tr (Fr.mono u_17 (by decide)) (Fr.mono u_25 (by decide))) (Fr.mono u_33 (by decide))) u_172) kSC_78 (by decide)))) k_X5_advance q_616 q_0 q_614 kSC_77 rfl rfl rfl hl.1 rfl rfl (Nat.le_of_ble_eq_true rfl) dX5_atom_174 ⟨Nat.le_of_ble_eq_true rfl, Nat.le_of_ble_eq_true rfl⟩ ⟨Nat.le_of_ble_eq_true rfl, Nat.le_of_ble_eq_true rfl⟩) (fun H locs ws_174 h u_175 p_176 => ?_)
            have e_177 := p_176
            have hv_178 : (aF 77 ws0) 4 = v_1.toInt := (aF_at (by decide) e_2)
            have hv_179 : (aF 77 ws0) 4 = v_8.toInt := (aF_at (by decide) e_9)
            have hq_180 := e_22
            have hs_181 : aF 77 ws_16 = (aF 77 ws0) := (aF_fr u_17 kSC_77 (by decide))
            have hq_182 := e_30
            rw [hs_181] at hq_182
            have hs_183 : aF 77 ws_24 = (aF 77 ws0) := (aF_fr u_25 kSC_77 (by decide)).trans hs_181
            have hq_184 := e_38
            rw [hs_183] at hq_184
            have hs_185 : aF 77 ws_32 = (aF 77 ws0) := (aF_fr u_33 kSC_77 (by decide)).trans hs_183
            have hs_186 : aF 77 ws_171 = (aF 77 ws0) := (aF_fr u_172 kSC_77 (by decide)).trans hs_185
            have hs_187 : aF 77 ws_174 = (advS T (aF 77 ws0)) := e_177.trans (congrArg (fun s => advS T s) hs_186)
            have hz_188 : (advS T (aF 77 ws0)) = atomD T 1 (aF 77 ws0) := by rw [atomD_1]; unfold atomF; (repeat' split) <;> first | rfl | (exfalso; omega)
            rw [hQ]
            exact y_vret C0 h (Fr.tr (Fr.tr (Fr.tr (Fr.tr (Fr.mono u_17 (by decide)) (Fr.mono u_25 (by decide))) (Fr.mono u_33 (by decide))) (Fr.mono u_172 (by decide))) (Fr.mono u_175 (by decide))) (Eq.trans hs_187 hz_188) dX5_atom_177
        · -- 84
          refine y_c3 (n := 1001) C0 (by decide) dX5_atom_87 (fun v_189 e_190 => ?_)
          refine lv_goto (tgt := 154) C0.1 C0.2.1 dX5_atom_90 (by decide) ?_
          refine lv_istore_n (lv' := [(2, .int v_189), (0, .ref (ad 77)), (1, .int a1)]) C0.1 C0.2.1 dX5_atom_154 rfl hl (by decide) rfl (fun ls hl => ?_)
          refine lv_iload_n C0.1 C0.2.1 dX5_atom_155 rfl (lv_at hl 0 rfl) ?_
          refine y_if_ge (tgt := 165) C0 dX5_atom_156 (by decide) (fun c_191 => ?_) (fun c_191 => ((o62_47 e_190 c_191)).elim)
          refine lv_aload_n C0.1 C0.2.1 dX5_atom_165 rfl (lv_at hl 1 rfl) ?_
          refine tg_X5_law C0 h kSC_77 q_380 dX5_atom_166 (fun i_192 hi_192 => ?_)
          refine lv_iload_n C0.1 C0.2.1 dX5_atom_169 rfl (lv_at hl 0 rfl) ?_
          refine y_cv h (y_rV (As := [.int v_189]) (rest := []) C0 hZ h (c_X4_add l G Z ad _ h.2 i_192 hi_192 v_189) k_X4_add q_827 q_828 q_826 hi_192 rfl rfl rfl hl.1 rfl rfl (Nat.le_of_ble_eq_true rfl) dX5_atom_170 ⟨Nat.le_of_ble_eq_true rfl, Nat.le_of_ble_eq_true rfl⟩ ⟨Nat.le_of_ble_eq_true rfl, Nat.le_of_ble_eq_true rfl⟩) (fun H locs ws_193 h u_194 p_195 => ?_)
          refine lv_aload_n C0.1 C0.2.1 dX5_atom_173 rfl (lv_at hl 1 rfl) ?_
          refine y_cv h (y_rV (As := []) (rest := []) C0 hZ h (c_X5_advanceS l G Z ad _ h.2 ((Tp.fr (M := [2, 3]) hTp (Fr.tr (Fr.tr (Fr.mono u_17 (by decide)) (Fr.mono u_25 (by decide))) u_194) kSC_78 (by decide)))) k_X5_advance q_616 q_0 q_614 kSC_77 rfl rfl rfl hl.1 rfl rfl (Nat.le_of_ble_eq_true rfl) dX5_atom_174 ⟨Nat.le_of_ble_eq_true rfl, Nat.le_of_ble_eq_true rfl⟩ ⟨Nat.le_of_ble_eq_true rfl, Nat.le_of_ble_eq_true rfl⟩) (fun H locs ws_196 h u_197 p_198 => ?_)
          have e_199 := p_198
          have hv_200 : (aF 77 ws0) 4 = v_1.toInt := (aF_at (by decide) e_2)
          have hv_201 : (aF 77 ws0) 4 = v_8.toInt := (aF_at (by decide) e_9)
          have hq_202 := e_22
          have hs_203 : aF 77 ws_16 = (aF 77 ws0) := (aF_fr u_17 kSC_77 (by decide))
          have hq_204 := e_30
          rw [hs_203] at hq_204
          have hs_205 : aF 77 ws_24 = (aF 77 ws0) := (aF_fr u_25 kSC_77 (by decide)).trans hs_203
          have hs_206 : aF 77 ws_193 = (aF 77 ws0) := (aF_fr u_194 kSC_77 (by decide)).trans hs_205
          have hs_207 : aF 77 ws_196 = (advS T (aF 77 ws0)) := e_199.trans (congrArg (fun s => advS T s) hs_206)
          have hz_208 : (advS T (aF 77 ws0)) = atomD T 1 (aF 77 ws0) := by rw [atomD_1]; unfold atomF; (repeat' split) <;> first | rfl | (exfalso; omega)
          rw [hQ]
          exact y_vret C0 h (Fr.tr (Fr.tr (Fr.tr (Fr.mono u_17 (by decide)) (Fr.mono u_25 (by decide))) (Fr.mono u_194 (by decide))) (Fr.mono u_197 (by decide))) (Eq.trans hs_207 hz_208) dX5_atom_177
      · -- 69
        refine y_c3 (n := 1000) C0 (by decide) dX5_atom_72 (fun v_209 e_210 => ?_)
        refine lv_goto (tgt := 154) C0.1 C0.2.1 dX5_atom_75 (by decide) ?_
        refine lv_istore_n (lv' := [(2, .int v_209), (0, .ref (ad 77)), (1, .int a1)]) C0.1 C0.2.1 dX5_atom_154 rfl hl (by decide) rfl (fun ls hl => ?_)
        refine lv_iload_n C0.1 C0.2.1 dX5_atom_155 rfl (lv_at hl 0 rfl) ?_
        refine y_if_ge (tgt := 165) C0 dX5_atom_156 (by decide) (fun c_211 => ?_) (fun c_211 => ((o62_48 e_210 c_211)).elim)
        refine lv_aload_n C0.1 C0.2.1 dX5_atom_165 rfl (lv_at hl 1 rfl) ?_
        refine tg_X5_law C0 h kSC_77 q_380 dX5_atom_166 (fun i_212 hi_212 => ?_)
        refine lv_iload_n C0.1 C0.2.1 dX5_atom_169 rfl (lv_at hl 0 rfl) ?_
        refine y_cv h (y_rV (As := [.int v_209]) (rest := []) C0 hZ h (c_X4_add l G Z ad _ h.2 i_212 hi_212 v_209) k_X4_add q_827 q_828 q_826 hi_212 rfl rfl rfl hl.1 rfl rfl (Nat.le_of_ble_eq_true rfl) dX5_atom_170 ⟨Nat.le_of_ble_eq_true rfl, Nat.le_of_ble_eq_true rfl⟩ ⟨Nat.le_of_ble_eq_true rfl, Nat.le_of_ble_eq_true rfl⟩) (fun H locs ws_213 h u_214 p_215 => ?_)
        refine lv_aload_n C0.1 C0.2.1 dX5_atom_173 rfl (lv_at hl 1 rfl) ?_
        refine y_cv h (y_rV (As := []) (rest := []) C0 hZ h (c_X5_advanceS l G Z ad _ h.2 ((Tp.fr (M := [2, 3]) hTp (Fr.tr (Fr.mono u_17 (by decide)) u_214) kSC_78 (by decide)))) k_X5_advance q_616 q_0 q_614 kSC_77 rfl rfl rfl hl.1 rfl rfl (Nat.le_of_ble_eq_true rfl) dX5_atom_174 ⟨Nat.le_of_ble_eq_true rfl, Nat.le_of_ble_eq_true rfl⟩ ⟨Nat.le_of_ble_eq_true rfl, Nat.le_of_ble_eq_true rfl⟩) (fun H locs ws_216 h u_217 p_218 => ?_)
        have e_219 := p_218
        have hv_220 : (aF 77 ws0) 4 = v_1.toInt := (aF_at (by decide) e_2)
        have hv_221 : (aF 77 ws0) 4 = v_8.toInt := (aF_at (by decide) e_9)
        have hq_222 := e_22
        have hs_223 : aF 77 ws_16 = (aF 77 ws0) := (aF_fr u_17 kSC_77 (by decide))
        have hs_224 : aF 77 ws_213 = (aF 77 ws0) := (aF_fr u_214 kSC_77 (by decide)).trans hs_223
        have hs_225 : aF 77 ws_216 = (advS T (aF 77 ws0)) := e_219.trans (congrArg (fun s => advS T s) hs_224)
        have hz_226 : (advS T (aF 77 ws0)) = atomD T 1 (aF 77 ws0) := by rw [atomD_1]; unfold atomF; (repeat' split) <;> first | rfl | (exfalso; omega)
        rw [hQ]
        exact y_vret C0 h (Fr.tr (Fr.tr (Fr.mono u_17 (by decide)) (Fr.mono u_214 (by decide))) (Fr.mono u_217 (by decide))) (Eq.trans hs_225 hz_226) dX5_atom_177
    · -- 32
      refine lv_aload_n C0.1 C0.2.1 dX5_atom_35 rfl (lv_at hl 0 rfl) ?_
      refine lv_iload_n C0.1 C0.2.1 dX5_atom_36 rfl (lv_at hl 1 rfl) ?_
      refine y_ci h (y_rV (As := [.int a1]) (rest := []) C0 hZ h (c_X5_tooDeep_5S l G Z ad _ h.2 a1 (o62_69 l1 u1) (o62_70 l1 u1)) k_X5_tooDeep q_832 q_18 q_830 kSC_77 rfl rfl rfl hl.1 rfl rfl (Nat.le_of_ble_eq_true rfl) dX5_atom_37 ⟨Nat.le_of_ble_eq_true rfl, Nat.le_of_ble_eq_true rfl⟩ ⟨Nat.le_of_ble_eq_true rfl, Nat.le_of_ble_eq_true rfl⟩) (fun r_230 H locs ws_227 h u_228 p_229 => ?_)
      obtain ⟨e_231, e_232, e_233⟩ := p_229
      refine y_if_ne (tgt := 177) C0 dX5_atom_40 (by decide) (fun c_234 => ((o62_71 e_231 e_232 c_234)).elim) (fun c_234 => ?_)
      refine lv_aload_n C0.1 C0.2.1 dX5_atom_43 rfl (lv_at hl 0 rfl) ?_
      refine y_cv h (y_rV (As := []) (rest := []) C0 hZ h (c_X5_advanceS l G Z ad _ h.2 ((Tp.fr (M := []) hTp u_228 kSC_78 (by decide)))) k_X5_advance q_616 q_0 q_614 kSC_77 rfl rfl rfl hl.1 rfl rfl (Nat.le_of_ble_eq_true rfl) dX5_atom_44 ⟨Nat.le_of_ble_eq_true rfl, Nat.le_of_ble_eq_true rfl⟩ ⟨Nat.le_of_ble_eq_true rfl, Nat.le_of_ble_eq_true rfl⟩) (fun H locs ws_235 h u_236 p_237 => ?_)
      have e_238 := p_237
      refine lv_aload_n C0.1 C0.2.1 dX5_atom_47 rfl (lv_at hl 0 rfl) ?_
      refine lv_iload_n C0.1 C0.2.1 dX5_atom_48 rfl (lv_at hl 1 rfl) ?_
      refine y_c1 (n := 1) C0 (by decide) dX5_atom_49 (fun v_239 e_240 => ?_)
      refine y_add C0 (o62_72 l1 u1 e_240 (le_min a1) (le_max a1) (le_min v_239) (le_max v_239)) (o62_73 l1 u1 e_240 (le_min a1) (le_max a1) (le_min v_239) (le_max v_239)) dX5_atom_50 (fun v_241 e_242 => ?_)
      refine y_cv h (y_rV (As := [.int v_241]) (rest := []) C0 hZ h (c_X5_sum_6S l G Z ad _ h.2 v_241 (o62_74 l1 u1 e_240 e_242) (o62_75 l1 u1 e_240 e_242) ((Tp.fr (M := [16]) hTp (Fr.tr (Fr.mono u_228 (by decide)) u_236) kSC_78 (by decide)))) k_X5_sum q_816 q_15 q_814 kSC_77 rfl rfl rfl hl.1 rfl rfl (Nat.le_of_ble_eq_true rfl) dX5_atom_51 ⟨Nat.le_of_ble_eq_true rfl, Nat.le_of_ble_eq_true rfl⟩ ⟨Nat.le_of_ble_eq_true rfl, Nat.le_of_ble_eq_true rfl⟩) (fun H locs ws_243 h u_244 p_245 => ?_)
      have e_246 := p_245
      refine lv_aload_n C0.1 C0.2.1 dX5_atom_54 rfl (lv_at hl 0 rfl) ?_
      refine y_c2 (n := 41) C0 (by decide) dX5_atom_55 (fun v_247 e_248 => ?_)
      refine y_cv h (y_rV (As := [.int v_247]) (rest := []) C0 hZ h (c_X5_signS l G Z ad _ h.2 v_247 (o62_76 e_248) (o62_77 e_248) ((Tp.fr (M := [2, 3, 16]) hTp (Fr.tr (Fr.tr (Fr.mono u_228 (by decide)) (Fr.mono u_236 (by decide))) u_244) kSC_78 (by decide)))) k_X5_sign q_812 q_14 q_810 kSC_77 rfl rfl rfl hl.1 rfl rfl (Nat.le_of_ble_eq_true rfl) dX5_atom_57 ⟨Nat.le_of_ble_eq_true rfl, Nat.le_of_ble_eq_true rfl⟩ ⟨Nat.le_of_ble_eq_true rfl, Nat.le_of_ble_eq_true rfl⟩) (fun H locs ws_249 h u_250 p_251 => ?_)
      have e_252 := p_251
      refine lv_goto (tgt := 177) C0.1 C0.2.1 dX5_atom_60 (by decide) ?_
      have hv_253 : (aF 77 ws0) 4 = v_1.toInt := (aF_at (by decide) e_2)
      have hv_254 : (aF 77 ws0) 4 = v_8.toInt := (aF_at (by decide) e_9)
      have hs_255 : aF 77 ws_227 = ((fun s => s) (aF 77 ws0)) := e_233
      have hs_256 : aF 77 ws_235 = (advS T ((fun s => s) (aF 77 ws0))) := e_238.trans (congrArg (fun s => advS T s) hs_255)
      have hs_257 : aF 77 ws_243 = (sumL T (atomD T 0) (advS T ((fun s => s) (aF 77 ws0)))) := e_246.trans (congrArg (fun s => sumL T (atomD T 0) s) hs_256)
      have hs_258 : aF 77 ws_249 = (signS T 41 (sumL T (atomD T 0) (advS T ((fun s => s) (aF 77 ws0))))) := e_252.trans ((congrArg (fun s => signS T v_247.toInt s) hs_257).trans (by rw [(o62_78 e_248)]))
      have hz_259 : (signS T 41 (sumL T (atomD T 0) (advS T ((fun s => s) (aF 77 ws0))))) = atomD T 1 (aF 77 ws0) := by rw [atomD_1]; unfold atomF; (repeat' split) <;> first | rfl | (exfalso; omega)
      rw [hQ]
      exact y_vret C0 h (Fr.tr (Fr.tr (Fr.tr (Fr.mono u_228 (by decide)) (Fr.mono u_236 (by decide))) u_244) (Fr.mono u_250 (by decide))) (Eq.trans hs_258 hz_259) dX5_atom_177
  · -- 5
    refine lv_aload_n C0.1 C0.2.1 dX5_atom_8 rfl (lv_at hl 0 rfl) ?_
    refine tg_X5_law C0 h kSC_77 q_380 dX5_atom_9 (fun i_260 hi_260 => ?_)
    refine lv_aload_n C0.1 C0.2.1 dX5_atom_12 rfl (lv_at hl 0 rfl) ?_
    refine tg_X5_number C0 h kSC_77 q_377 dX5_atom_13 (fun v_261 e_262 e_263 e_264 => ?_)
    refine y_cv h (y_rV (As := [.int v_261]) (rest := []) C0 hZ h (c_X4_add l G Z ad _ h.2 i_260 hi_260 v_261) k_X4_add q_827 q_828 q_826 hi_260 rfl rfl rfl hl.1 rfl rfl (Nat.le_of_ble_eq_true rfl) dX5_atom_16 ⟨Nat.le_of_ble_eq_true rfl, Nat.le_of_ble_eq_true rfl⟩ ⟨Nat.le_of_ble_eq_true rfl, Nat.le_of_ble_eq_true rfl⟩) (fun H locs ws_265 h u_266 p_267 => ?_)
    refine lv_aload_n C0.1 C0.2.1 dX5_atom_19 rfl (lv_at hl 0 rfl) ?_
    refine y_cv h (y_rV (As := []) (rest := []) C0 hZ h (c_X5_advanceS l G Z ad _ h.2 ((Tp.fr (M := [2, 3]) hTp u_266 kSC_78 (by decide)))) k_X5_advance q_616 q_0 q_614 kSC_77 rfl rfl rfl hl.1 rfl rfl (Nat.le_of_ble_eq_true rfl) dX5_atom_20 ⟨Nat.le_of_ble_eq_true rfl, Nat.le_of_ble_eq_true rfl⟩ ⟨Nat.le_of_ble_eq_true rfl, Nat.le_of_ble_eq_true rfl⟩) (fun H locs ws_268 h u_269 p_270 => ?_)
    have e_271 := p_270
    refine lv_goto (tgt := 177) C0.1 C0.2.1 dX5_atom_23 (by decide) ?_
    have hv_272 : (aF 77 ws0) 4 = v_1.toInt := (aF_at (by decide) e_2)
    have hv_273 : (aF 77 ws0) 7 = v_261.toInt := (aF_at (by decide) e_262)
    have hs_274 : aF 77 ws_265 = (aF 77 ws0) := (aF_fr u_266 kSC_77 (by decide))
    have hs_275 : aF 77 ws_268 = (advS T (aF 77 ws0)) := e_271.trans (congrArg (fun s => advS T s) hs_274)
    have hz_276 : (advS T (aF 77 ws0)) = atomD T 1 (aF 77 ws0) := by rw [atomD_1]; unfold atomF; (repeat' split) <;> first | rfl | (exfalso; omega)
    rw [hQ]
    exact y_vret C0 h (Fr.tr (Fr.mono u_266 (by decide)) (Fr.mono u_269 (by decide))) (Eq.trans hs_275 hz_276) dX5_atom_177
set_option maxHeartbeats 4000000 in
set_option maxRecDepth 100000 in
theorem c_X5_term_5S {T : Nat → Int} (l : Launch) (G : GG) (Z : RZ) (ad : Nat → Nat) (ws0 : va_W) (hT : Ty G (SC tt) ad ws0) (a1 : Int32) (l1 : 5 ≤ a1.toInt) (u1 : a1.toInt ≤ 5) (hTp : Tp T ws0) : Mq l yX5_term cX5_term 3 none 10 G Z [.ref (ad 77), .int a1] ws0 (PV G (SC tt) ad [2, 3, 16] ws0 (fun u => (aF 77 u = termL T (atomD T 1) (aF 77 ws0)))) := by
  refine Mq.start (by decide) (Nat.le_of_ble_eq_true rfl) ?_
  intro p e s m below meth c A ls C0 hZ h hl
  have hl : lv_has ls 3 [(0, .ref (ad 77)), (1, .int a1)] := hl
  have h : Wt G (SC tt) ad A s s.heap [] ws0 := ⟨h, hT⟩
  obtain ⟨args, hargs⟩ : ∃ z, z = ([.ref (ad 77), .int a1] : List Value).toArray := ⟨_, rfl⟩
  rw [← hargs] at C0 ⊢
  have C0 : Cx p s m args meth c RX5 cX5_term 3 none := C0
  obtain ⟨Q, hQ⟩ : ∃ z, z = MQ below ((PV G (SC tt) ad [2, 3, 16] ws0 (fun u => (aF 77 u = termL T (atomD T 1) (aF 77 ws0)))) A) args s 0 0 A := ⟨_, rfl⟩
  rw [← hQ]
  refine lv_aload_n C0.1 C0.2.1 dX5_term_0 rfl (lv_at hl 0 rfl) ?_
  refine lv_iload_n C0.1 C0.2.1 dX5_term_1 rfl (lv_at hl 1 rfl) ?_
  refine y_cv h (y_rV (As := [.int a1]) (rest := []) C0 hZ h (c_X5_atom_5S l G Z ad _ h.2 a1 (o62_69 l1 u1) (o62_70 l1 u1) hTp) k_X5_atom q_824 q_17 q_822 kSC_77 rfl rfl rfl hl.1 rfl rfl (Nat.le_of_ble_eq_true rfl) dX5_term_2 ⟨Nat.le_of_ble_eq_true rfl, Nat.le_of_ble_eq_true rfl⟩ ⟨Nat.le_of_ble_eq_true rfl, Nat.le_of_ble_eq_true rfl⟩) (fun H locs ws_1 h u_2 p_3 => ?_)
  have e_4 := p_3
  refine y_c1 (n := 0) C0 (by decide) dX5_term_5 (fun v_5 e_6 => ?_)
  refine lv_istore_n (lv' := [(2, .int v_5), (0, .ref (ad 77)), (1, .int a1)]) C0.1 C0.2.1 dX5_term_6 rfl hl (by decide) rfl (fun ls hl => ?_)
  have lp_10 : ∀ (n_12 : Nat) (x2_7 : Int32) (H : Heap) (locs : List Loc) (ls : Array Slot) (ws_8 : va_W), 900 - x2_7.toInt < (n_12 : Int) → 0 ≤ x2_7.toInt → x2_7.toInt ≤ 900 → (lpS (fun s => s 4 = 42) (fun s => atomD T 1 (advS T s)) (900 - x2_7.toInt).toNat (aF 77 ws_8) = termL T (atomD T 1) (aF 77 ws0)) → Wt G (SC tt) ad A s H locs ws_8 → Fr (SC tt) [2, 3, 16] ws_1 ws_8 → lv_has ls 3 [(2, .int x2_7), (0, .ref (ad 77)), (1, .int a1)] → W p l e (rmd 10 0 0) s m args below meth c H locs 0 0 Q (F0 m 7 ls []) := by
    intro n_12
    induction n_12 with
    | zero => intro x2_7 H locs ls ws_8 hn_13 b_14 b_15 hSp h hF_9 hl; exact ((o62_52 b_14 b_15 hn_13)).elim
    | succ n_12 ih_11 =>
      intro x2_7 H locs ls ws_8 hn_13 b_14 b_15 hSp h hF_9 hl
      refine lv_iload_n C0.1 C0.2.1 dX5_term_7 rfl (lv_at hl 0 rfl) ?_
      refine y_c3 (n := 900) C0 (by decide) dX5_term_8 (fun v_16 e_17 => ?_)
      refine y_icmp_ge (tgt := 48) C0 dX5_term_11 (by decide) (fun c_18 => ?_) (fun c_18 => ?_)
      · -- 11
        have hz_19 : (aF 77 ws_8) = lpS (fun s => s 4 = 42) (fun s => atomD T 1 (advS T s)) (900 - x2_7.toInt).toNat (aF 77 ws_8) := by first | (exfalso; omega) | exact (lp_0 (by omega)).symm | exact (lp_e (by omega)).symm
        rw [hQ]
        exact y_vret C0 h (Fr.tr u_2 hF_9) (Eq.trans rfl (Eq.trans hz_19 hSp)) dX5_term_48
      · -- 11
        refine lv_aload_n C0.1 C0.2.1 dX5_term_14 rfl (lv_at hl 1 rfl) ?_
        refine tg_X5_kind C0 h kSC_77 q_374 dX5_term_15 (fun v_20 e_21 e_22 e_23 => ?_)
        refine y_c2 (n := 42) C0 (by decide) dX5_term_18 (fun v_24 e_25 => ?_)
        refine y_icmp_ne (tgt := 48) C0 dX5_term_20 (by decide) (fun c_26 => ?_) (fun c_26 => ?_)
        · -- 20
          have hv_27 : (aF 77 ws_8) 4 = v_20.toInt := (aF_at (by decide) e_21)
          have hz_28 : (aF 77 ws_8) = lpS (fun s => s 4 = 42) (fun s => atomD T 1 (advS T s)) (900 - x2_7.toInt).toNat (aF 77 ws_8) := by first | (exfalso; omega) | exact (lp_0 (by omega)).symm | exact (lp_e (by omega)).symm
          rw [hQ]
          exact y_vret C0 h (Fr.tr u_2 hF_9) (Eq.trans rfl (Eq.trans hz_28 hSp)) dX5_term_48
        · -- 20
          refine lv_aload_n C0.1 C0.2.1 dX5_term_23 rfl (lv_at hl 1 rfl) ?_
          refine y_cv h (y_rV (As := []) (rest := []) C0 hZ h (c_X5_advanceS l G Z ad _ h.2 ((Tp.fr (M := [2, 3, 16]) hTp (Fr.tr u_2 hF_9) kSC_78 (by decide)))) k_X5_advance q_616 q_0 q_614 kSC_77 rfl rfl rfl hl.1 rfl rfl (Nat.le_of_ble_eq_true rfl) dX5_term_24 ⟨Nat.le_of_ble_eq_true rfl, Nat.le_of_ble_eq_true rfl⟩ ⟨Nat.le_of_ble_eq_true rfl, Nat.le_of_ble_eq_true rfl⟩) (fun H locs ws_29 h u_30 p_31 => ?_)
          have e_32 := p_31
          refine lv_aload_n C0.1 C0.2.1 dX5_term_27 rfl (lv_at hl 1 rfl) ?_
          refine lv_iload_n C0.1 C0.2.1 dX5_term_28 rfl (lv_at hl 2 rfl) ?_
          refine y_cv h (y_rV (As := [.int a1]) (rest := []) C0 hZ h (c_X5_atom_5S l G Z ad _ h.2 a1 (o62_69 l1 u1) (o62_70 l1 u1) ((Tp.fr (M := [2, 3, 16]) hTp (Fr.tr (Fr.tr u_2 hF_9) (Fr.mono u_30 (by decide))) kSC_78 (by decide)))) k_X5_atom q_824 q_17 q_822 kSC_77 rfl rfl rfl hl.1 rfl rfl (Nat.le_of_ble_eq_true rfl) dX5_term_29 ⟨Nat.le_of_ble_eq_true rfl, Nat.le_of_ble_eq_true rfl⟩ ⟨Nat.le_of_ble_eq_true rfl, Nat.le_of_ble_eq_true rfl⟩) (fun H locs ws_33 h u_34 p_35 => ?_)
          have e_36 := p_35
          refine lv_aload_n C0.1 C0.2.1 dX5_term_32 rfl (lv_at hl 1 rfl) ?_
          refine tg_X5_law C0 h kSC_77 q_380 dX5_term_33 (fun i_37 hi_37 => ?_)
          refine y_c3 (n := 2002) C0 (by decide) dX5_term_36 (fun v_38 e_39 => ?_)
          refine y_cv h (y_rV (As := [.int v_38]) (rest := []) C0 hZ h (c_X4_add l G Z ad _ h.2 i_37 hi_37 v_38) k_X4_add q_827 q_828 q_826 hi_37 rfl rfl rfl hl.1 rfl rfl (Nat.le_of_ble_eq_true rfl) dX5_term_39 ⟨Nat.le_of_ble_eq_true rfl, Nat.le_of_ble_eq_true rfl⟩ ⟨Nat.le_of_ble_eq_true rfl, Nat.le_of_ble_eq_true rfl⟩) (fun H locs ws_40 h u_41 p_42 => ?_)
          refine y_inc (kp := 0) (n := 1) (fun v_43 => [(2, .int v_43), (0, .ref (ad 77)), (1, .int a1)]) C0 hl rfl (by decide) (by decide) (fun _ => rfl) (o62_53 b_14 b_15 hn_13 e_17 c_18 (le_min x2_7) (le_max x2_7) (le_min v_16) (le_max v_16)) (o62_54 b_14 b_15 hn_13 e_17 c_18 (le_min x2_7) (le_max x2_7) (le_min v_16) (le_max v_16)) dX5_term_42 (fun v_43 ls e_44 hl => ?_)
          refine lv_goto (tgt := 7) C0.1 C0.2.1 dX5_term_45 (by decide) ?_
          have hv_45 : (aF 77 ws_8) 4 = v_20.toInt := (aF_at (by decide) e_21)
          have hs_46 : aF 77 ws_29 = (advS T (aF 77 ws_8)) := e_32
          have hs_47 : aF 77 ws_33 = (atomD T 1 (advS T (aF 77 ws_8))) := e_36.trans (congrArg (fun s => atomD T 1 s) hs_46)
          have hs_48 : aF 77 ws_40 = (atomD T 1 (advS T (aF 77 ws_8))) := (aF_fr u_41 kSC_77 (by decide)).trans hs_47
          exact ih_11 v_43 _ _ _ _ (o62_55 b_14 b_15 hn_13 e_17 c_18 e_44) (o62_56 b_14 b_15 hn_13 e_17 c_18 e_44) (o62_57 b_14 b_15 hn_13 e_17 c_18 e_44) ((by rw [hs_48]; exact (lp_s (by omega) (by omega) (by omega) (by omega)).trans hSp)) h (Fr.tr (Fr.tr (Fr.tr hF_9 (Fr.mono u_30 (by decide))) u_34) (Fr.mono u_41 (by decide))) (lv_sub hl [0, 1, 2] rfl)
  have hs_49 : aF 77 ws_1 = (atomD T 1 (aF 77 ws0)) := e_4
  exact lp_10 ((900 - v_5.toInt + 1).toNat) v_5 _ _ _ _ (o62_58 e_6) (o62_59 e_6) (o62_60 e_6) ((by rw [show (900 - v_5.toInt).toNat = 900 by omega, hs_49]; rfl)) h Fr.rf (lv_sub hl [0, 1, 2] rfl)
set_option maxHeartbeats 4000000 in
set_option maxRecDepth 100000 in
theorem c_X5_sum_5S {T : Nat → Int} (l : Launch) (G : GG) (Z : RZ) (ad : Nat → Nat) (ws0 : va_W) (hT : Ty G (SC tt) ad ws0) (a1 : Int32) (l1 : 5 ≤ a1.toInt) (u1 : a1.toInt ≤ 5) (hTp : Tp T ws0) : Mq l yX5_sum cX5_sum 4 none 11 G Z [.ref (ad 77), .int a1] ws0 (PV G (SC tt) ad [2, 3, 16] ws0 (fun u => (aF 77 u = sumL T (atomD T 1) (aF 77 ws0)))) := by
  refine Mq.start (by decide) (Nat.le_of_ble_eq_true rfl) ?_
  intro p e s m below meth c A ls C0 hZ h hl
  have hl : lv_has ls 4 [(0, .ref (ad 77)), (1, .int a1)] := hl
  have h : Wt G (SC tt) ad A s s.heap [] ws0 := ⟨h, hT⟩
  obtain ⟨args, hargs⟩ : ∃ z, z = ([.ref (ad 77), .int a1] : List Value).toArray := ⟨_, rfl⟩
  rw [← hargs] at C0 ⊢
  have C0 : Cx p s m args meth c RX5 cX5_sum 4 none := C0
  obtain ⟨Q, hQ⟩ : ∃ z, z = MQ below ((PV G (SC tt) ad [2, 3, 16] ws0 (fun u => (aF 77 u = sumL T (atomD T 1) (aF 77 ws0)))) A) args s 0 0 A := ⟨_, rfl⟩
  rw [← hQ]
  refine lv_aload_n C0.1 C0.2.1 dX5_sum_0 rfl (lv_at hl 0 rfl) ?_
  refine lv_iload_n C0.1 C0.2.1 dX5_sum_1 rfl (lv_at hl 1 rfl) ?_
  refine y_cv h (y_rV (As := [.int a1]) (rest := []) C0 hZ h (c_X5_term_5S l G Z ad _ h.2 a1 (o62_69 l1 u1) (o62_70 l1 u1) hTp) k_X5_term q_820 q_16 q_818 kSC_77 rfl rfl rfl hl.1 rfl rfl (Nat.le_of_ble_eq_true rfl) dX5_sum_2 ⟨Nat.le_of_ble_eq_true rfl, Nat.le_of_ble_eq_true rfl⟩ ⟨Nat.le_of_ble_eq_true rfl, Nat.le_of_ble_eq_true rfl⟩) (fun H locs ws_1 h u_2 p_3 => ?_)
  have e_4 := p_3
  refine y_c1 (n := 0) C0 (by decide) dX5_sum_5 (fun v_5 e_6 => ?_)
  refine lv_istore_n (lv' := [(2, .int v_5), (0, .ref (ad 77)), (1, .int a1)]) C0.1 C0.2.1 dX5_sum_6 rfl hl (by decide) rfl (fun ls hl => ?_)
  have lp_10 : ∀ (n_12 : Nat) (x2_7 : Int32) (H : Heap) (locs : List Loc) (ls : Array Slot) (ws_8 : va_W), 900 - x2_7.toInt < (n_12 : Int) → 0 ≤ x2_7.toInt → x2_7.toInt ≤ 900 → (lpS (fun s => s 4 = 43 ∨ s 4 = 45) (fun s => termL T (atomD T 1) (advS T s)) (900 - x2_7.toInt).toNat (aF 77 ws_8) = sumL T (atomD T 1) (aF 77 ws0)) → Wt G (SC tt) ad A s H locs ws_8 → Fr (SC tt) [2, 3, 16] ws_1 ws_8 → lv_has ls 4 [(2, .int x2_7), (0, .ref (ad 77)), (1, .int a1)] → W p l e (rmd 11 0 0) s m args below meth c H locs 0 0 Q (F0 m 7 ls []) := by
    intro n_12
    induction n_12 with
    | zero => intro x2_7 H locs ls ws_8 hn_13 b_14 b_15 hSp h hF_9 hl; exact ((o62_52 b_14 b_15 hn_13)).elim
    | succ n_12 ih_11 =>
      intro x2_7 H locs ls ws_8 hn_13 b_14 b_15 hSp h hF_9 hl
      refine lv_iload_n C0.1 C0.2.1 dX5_sum_7 rfl (lv_at hl 0 rfl) ?_
      refine y_c3 (n := 900) C0 (by decide) dX5_sum_8 (fun v_16 e_17 => ?_)
      refine y_icmp_ge (tgt := 74) C0 dX5_sum_11 (by decide) (fun c_18 => ?_) (fun c_18 => ?_)
      · -- 11
        have hz_19 : (aF 77 ws_8) = lpS (fun s => s 4 = 43 ∨ s 4 = 45) (fun s => termL T (atomD T 1) (advS T s)) (900 - x2_7.toInt).toNat (aF 77 ws_8) := by first | (exfalso; omega) | exact (lp_0 (by omega)).symm | exact (lp_e (by omega)).symm
        rw [hQ]
        exact y_vret C0 h (Fr.tr u_2 hF_9) (Eq.trans rfl (Eq.trans hz_19 hSp)) dX5_sum_74
      · -- 11
        refine lv_aload_n C0.1 C0.2.1 dX5_sum_14 rfl (lv_at hl 1 rfl) ?_
        refine tg_X5_kind C0 h kSC_77 q_374 dX5_sum_15 (fun v_20 e_21 e_22 e_23 => ?_)
        refine y_c2 (n := 43) C0 (by decide) dX5_sum_18 (fun v_24 e_25 => ?_)
        refine y_icmp_eq (tgt := 32) C0 dX5_sum_20 (by decide) (fun c_26 => ?_) (fun c_26 => ?_)
        · -- 20
          refine lv_aload_n C0.1 C0.2.1 dX5_sum_32 rfl (lv_at hl 1 rfl) ?_
          refine tg_X5_kind C0 h kSC_77 q_374 dX5_sum_33 (fun v_27 e_28 e_29 e_30 => ?_)
          have q_31 : v_27.toInt = v_20.toInt := congrArg Int32.toInt (e_28.symm.trans (Eq.trans rfl e_21))
          refine y_c2 (n := 43) C0 (by decide) dX5_sum_36 (fun v_32 e_33 => ?_)
          refine y_icmp_ne (tgt := 47) C0 dX5_sum_38 (by decide) (fun c_34 => ((o62_61 e_25 c_26 q_31 e_33 c_34)).elim) (fun c_34 => ?_)
          refine y_c3 (n := 2000) C0 (by decide) dX5_sum_41 (fun v_35 e_36 => ?_)
          refine lv_goto (tgt := 50) C0.1 C0.2.1 dX5_sum_44 (by decide) ?_
          refine lv_istore_n (lv' := [(3, .int v_35), (2, .int x2_7), (0, .ref (ad 77)), (1, .int a1)]) C0.1 C0.2.1 dX5_sum_50 rfl hl (by decide) rfl (fun ls hl => ?_)
          refine lv_aload_n C0.1 C0.2.1 dX5_sum_51 rfl (lv_at hl 2 rfl) ?_
          refine y_cv h (y_rV (As := []) (rest := []) C0 hZ h (c_X5_advanceS l G Z ad _ h.2 ((Tp.fr (M := [2, 3, 16]) hTp (Fr.tr u_2 hF_9) kSC_78 (by decide)))) k_X5_advance q_616 q_0 q_614 kSC_77 rfl rfl rfl hl.1 rfl rfl (Nat.le_of_ble_eq_true rfl) dX5_sum_52 ⟨Nat.le_of_ble_eq_true rfl, Nat.le_of_ble_eq_true rfl⟩ ⟨Nat.le_of_ble_eq_true rfl, Nat.le_of_ble_eq_true rfl⟩) (fun H locs ws_37 h u_38 p_39 => ?_)
          have e_40 := p_39
          refine lv_aload_n C0.1 C0.2.1 dX5_sum_55 rfl (lv_at hl 2 rfl) ?_
          refine lv_iload_n C0.1 C0.2.1 dX5_sum_56 rfl (lv_at hl 3 rfl) ?_
          refine y_cv h (y_rV (As := [.int a1]) (rest := []) C0 hZ h (c_X5_term_5S l G Z ad _ h.2 a1 (o62_69 l1 u1) (o62_70 l1 u1) ((Tp.fr (M := [2, 3, 16]) hTp (Fr.tr (Fr.tr u_2 hF_9) (Fr.mono u_38 (by decide))) kSC_78 (by decide)))) k_X5_term q_820 q_16 q_818 kSC_77 rfl rfl rfl hl.1 rfl rfl (Nat.le_of_ble_eq_true rfl) dX5_sum_57 ⟨Nat.le_of_ble_eq_true rfl, Nat.le_of_ble_eq_true rfl⟩ ⟨Nat.le_of_ble_eq_true rfl, Nat.le_of_ble_eq_true rfl⟩) (fun H locs ws_41 h u_42 p_43 => ?_)
          have e_44 := p_43
          refine lv_aload_n C0.1 C0.2.1 dX5_sum_60 rfl (lv_at hl 2 rfl) ?_
          refine tg_X5_law C0 h kSC_77 q_380 dX5_sum_61 (fun i_45 hi_45 => ?_)
          refine lv_iload_n C0.1 C0.2.1 dX5_sum_64 rfl (lv_at hl 0 rfl) ?_
          refine y_cv h (y_rV (As := [.int v_35]) (rest := []) C0 hZ h (c_X4_add l G Z ad _ h.2 i_45 hi_45 v_35) k_X4_add q_827 q_828 q_826 hi_45 rfl rfl rfl hl.1 rfl rfl (Nat.le_of_ble_eq_true rfl) dX5_sum_65 ⟨Nat.le_of_ble_eq_true rfl, Nat.le_of_ble_eq_true rfl⟩ ⟨Nat.le_of_ble_eq_true rfl, Nat.le_of_ble_eq_true rfl⟩) (fun H locs ws_46 h u_47 p_48 => ?_)
          refine y_inc (kp := 1) (n := 1) (fun v_49 => [(2, .int v_49), (3, .int v_35), (0, .ref (ad 77)), (1, .int a1)]) C0 hl rfl (by decide) (by decide) (fun _ => rfl) (o62_53 b_14 b_15 hn_13 e_17 c_18 (le_min x2_7) (le_max x2_7) (le_min v_16) (le_max v_16)) (o62_54 b_14 b_15 hn_13 e_17 c_18 (le_min x2_7) (le_max x2_7) (le_min v_16) (le_max v_16)) dX5_sum_68 (fun v_49 ls e_50 hl => ?_)
          refine lv_goto (tgt := 7) C0.1 C0.2.1 dX5_sum_71 (by decide) ?_
          have hv_51 : (aF 77 ws_8) 4 = v_20.toInt := (aF_at (by decide) e_21)
          have hv_52 : (aF 77 ws_8) 4 = v_27.toInt := (aF_at (by decide) e_28)
          have hs_53 : aF 77 ws_37 = (advS T (aF 77 ws_8)) := e_40
          have hs_54 : aF 77 ws_41 = (termL T (atomD T 1) (advS T (aF 77 ws_8))) := e_44.trans (congrArg (fun s => termL T (atomD T 1) s) hs_53)
          have hs_55 : aF 77 ws_46 = (termL T (atomD T 1) (advS T (aF 77 ws_8))) := (aF_fr u_47 kSC_77 (by decide)).trans hs_54
          exact ih_11 v_49 _ _ _ _ (o62_55 b_14 b_15 hn_13 e_17 c_18 e_50) (o62_56 b_14 b_15 hn_13 e_17 c_18 e_50) (o62_57 b_14 b_15 hn_13 e_17 c_18 e_50) ((by rw [hs_55]; exact (lp_s (by omega) (by omega) (by omega) (by omega)).trans hSp)) h (Fr.tr (Fr.tr (Fr.tr hF_9 (Fr.mono u_38 (by decide))) u_42) (Fr.mono u_47 (by decide))) (lv_sub hl [0, 2, 3] rfl)
        · -- 20
          refine lv_aload_n C0.1 C0.2.1 dX5_sum_23 rfl (lv_at hl 1 rfl) ?_
          refine tg_X5_kind C0 h kSC_77 q_374 dX5_sum_24 (fun v_56 e_57 e_58 e_59 => ?_)
          have q_60 : v_56.toInt = v_20.toInt := congrArg Int32.toInt (e_57.symm.trans (Eq.trans rfl e_21))
          refine y_c2 (n := 45) C0 (by decide) dX5_sum_27 (fun v_61 e_62 => ?_)
          refine y_icmp_ne (tgt := 74) C0 dX5_sum_29 (by decide) (fun c_63 => ?_) (fun c_63 => ?_)
          · -- 29
            have hv_64 : (aF 77 ws_8) 4 = v_20.toInt := (aF_at (by decide) e_21)
            have hv_65 : (aF 77 ws_8) 4 = v_56.toInt := (aF_at (by decide) e_57)
            have hz_66 : (aF 77 ws_8) = lpS (fun s => s 4 = 43 ∨ s 4 = 45) (fun s => termL T (atomD T 1) (advS T s)) (900 - x2_7.toInt).toNat (aF 77 ws_8) := by first | (exfalso; omega) | exact (lp_0 (by omega)).symm | exact (lp_e (by omega)).symm
            rw [hQ]
            exact y_vret C0 h (Fr.tr u_2 hF_9) (Eq.trans rfl (Eq.trans hz_66 hSp)) dX5_sum_74
          · -- 29
            refine lv_aload_n C0.1 C0.2.1 dX5_sum_32 rfl (lv_at hl 1 rfl) ?_
            refine tg_X5_kind C0 h kSC_77 q_374 dX5_sum_33 (fun v_67 e_68 e_69 e_70 => ?_)
            have q_71 : v_67.toInt = v_20.toInt := congrArg Int32.toInt (e_68.symm.trans (Eq.trans rfl e_21))
            refine y_c2 (n := 43) C0 (by decide) dX5_sum_36 (fun v_72 e_73 => ?_)
            refine y_icmp_ne (tgt := 47) C0 dX5_sum_38 (by decide) (fun c_74 => ?_) (fun c_74 => ((o62_62 e_25 c_26 q_60 e_62 c_63 q_71 e_73 c_74)).elim)
            refine y_c3 (n := 2001) C0 (by decide) dX5_sum_47 (fun v_75 e_76 => ?_)
            refine lv_istore_n (lv' := [(3, .int v_75), (2, .int x2_7), (0, .ref (ad 77)), (1, .int a1)]) C0.1 C0.2.1 dX5_sum_50 rfl hl (by decide) rfl (fun ls hl => ?_)
            refine lv_aload_n C0.1 C0.2.1 dX5_sum_51 rfl (lv_at hl 2 rfl) ?_
            refine y_cv h (y_rV (As := []) (rest := []) C0 hZ h (c_X5_advanceS l G Z ad _ h.2 ((Tp.fr (M := [2, 3, 16]) hTp (Fr.tr u_2 hF_9) kSC_78 (by decide)))) k_X5_advance q_616 q_0 q_614 kSC_77 rfl rfl rfl hl.1 rfl rfl (Nat.le_of_ble_eq_true rfl) dX5_sum_52 ⟨Nat.le_of_ble_eq_true rfl, Nat.le_of_ble_eq_true rfl⟩ ⟨Nat.le_of_ble_eq_true rfl, Nat.le_of_ble_eq_true rfl⟩) (fun H locs ws_77 h u_78 p_79 => ?_)
            have e_80 := p_79
            refine lv_aload_n C0.1 C0.2.1 dX5_sum_55 rfl (lv_at hl 2 rfl) ?_
            refine lv_iload_n C0.1 C0.2.1 dX5_sum_56 rfl (lv_at hl 3 rfl) ?_
            refine y_cv h (y_rV (As := [.int a1]) (rest := []) C0 hZ h (c_X5_term_5S l G Z ad _ h.2 a1 (o62_69 l1 u1) (o62_70 l1 u1) ((Tp.fr (M := [2, 3, 16]) hTp (Fr.tr (Fr.tr u_2 hF_9) (Fr.mono u_78 (by decide))) kSC_78 (by decide)))) k_X5_term q_820 q_16 q_818 kSC_77 rfl rfl rfl hl.1 rfl rfl (Nat.le_of_ble_eq_true rfl) dX5_sum_57 ⟨Nat.le_of_ble_eq_true rfl, Nat.le_of_ble_eq_true rfl⟩ ⟨Nat.le_of_ble_eq_true rfl, Nat.le_of_ble_eq_true rfl⟩) (fun H locs ws_81 h u_82 p_83 => ?_)
            have e_84 := p_83
            refine lv_aload_n C0.1 C0.2.1 dX5_sum_60 rfl (lv_at hl 2 rfl) ?_
            refine tg_X5_law C0 h kSC_77 q_380 dX5_sum_61 (fun i_85 hi_85 => ?_)
            refine lv_iload_n C0.1 C0.2.1 dX5_sum_64 rfl (lv_at hl 0 rfl) ?_
            refine y_cv h (y_rV (As := [.int v_75]) (rest := []) C0 hZ h (c_X4_add l G Z ad _ h.2 i_85 hi_85 v_75) k_X4_add q_827 q_828 q_826 hi_85 rfl rfl rfl hl.1 rfl rfl (Nat.le_of_ble_eq_true rfl) dX5_sum_65 ⟨Nat.le_of_ble_eq_true rfl, Nat.le_of_ble_eq_true rfl⟩ ⟨Nat.le_of_ble_eq_true rfl, Nat.le_of_ble_eq_true rfl⟩) (fun H locs ws_86 h u_87 p_88 => ?_)
            refine y_inc (kp := 1) (n := 1) (fun v_89 => [(2, .int v_89), (3, .int v_75), (0, .ref (ad 77)), (1, .int a1)]) C0 hl rfl (by decide) (by decide) (fun _ => rfl) (o62_53 b_14 b_15 hn_13 e_17 c_18 (le_min x2_7) (le_max x2_7) (le_min v_16) (le_max v_16)) (o62_54 b_14 b_15 hn_13 e_17 c_18 (le_min x2_7) (le_max x2_7) (le_min v_16) (le_max v_16)) dX5_sum_68 (fun v_89 ls e_90 hl => ?_)
            refine lv_goto (tgt := 7) C0.1 C0.2.1 dX5_sum_71 (by decide) ?_
            have hv_91 : (aF 77 ws_8) 4 = v_20.toInt := (aF_at (by decide) e_21)
            have hv_92 : (aF 77 ws_8) 4 = v_56.toInt := (aF_at (by decide) e_57)
            have hv_93 : (aF 77 ws_8) 4 = v_67.toInt := (aF_at (by decide) e_68)
            have hs_94 : aF 77 ws_77 = (advS T (aF 77 ws_8)) := e_80
            have hs_95 : aF 77 ws_81 = (termL T (atomD T 1) (advS T (aF 77 ws_8))) := e_84.trans (congrArg (fun s => termL T (atomD T 1) s) hs_94)
            have hs_96 : aF 77 ws_86 = (termL T (atomD T 1) (advS T (aF 77 ws_8))) := (aF_fr u_87 kSC_77 (by decide)).trans hs_95
            exact ih_11 v_89 _ _ _ _ (o62_55 b_14 b_15 hn_13 e_17 c_18 e_90) (o62_56 b_14 b_15 hn_13 e_17 c_18 e_90) (o62_57 b_14 b_15 hn_13 e_17 c_18 e_90) ((by rw [hs_96]; exact (lp_s (by omega) (by omega) (by omega) (by omega)).trans hSp)) h (Fr.tr (Fr.tr (Fr.tr hF_9 (Fr.mono u_78 (by decide))) u_82) (Fr.mono u_87 (by decide))) (lv_sub hl [0, 2, 3] rfl)
  have hs_97 : aF 77 ws_1 = (termL T (atomD T 1) (aF 77 ws0)) := e_4
  exact lp_10 ((900 - v_5.toInt + 1).toNat) v_5 _ _ _ _ (o62_58 e_6) (o62_59 e_6) (o62_60 e_6) ((by rw [show (900 - v_5.toInt).toNat = 900 by omega, hs_97]; rfl)) h Fr.rf (lv_sub hl [0, 1, 2] rfl)
set_option maxHeartbeats 4000000 in
set_option maxRecDepth 100000 in
theorem c_X5_unit_5S {T : Nat → Int} (l : Launch) (G : GG) (Z : RZ) (ad : Nat → Nat) (ws0 : va_W) (hT : Ty G (SC tt) ad ws0) (a1 : Int32) (l1 : 5 ≤ a1.toInt) (u1 : a1.toInt ≤ 5) (hTp : Tp T ws0) : Mq l yX5_unit cX5_unit 3 none 12 G Z [.ref (ad 77), .int a1] ws0 (PV G (SC tt) ad [2, 3, 16] ws0 (fun u => (aF 77 u = unitD T 1 (aF 77 ws0)))) := by
  refine Mq.start (by decide) (Nat.le_of_ble_eq_true rfl) ?_
  intro p e s m below meth c A ls C0 hZ h hl
  have hl : lv_has ls 3 [(0, .ref (ad 77)), (1, .int a1)] := hl
  have h : Wt G (SC tt) ad A s s.heap [] ws0 := ⟨h, hT⟩
  obtain ⟨args, hargs⟩ : ∃ z, z = ([.ref (ad 77), .int a1] : List Value).toArray := ⟨_, rfl⟩
  rw [← hargs] at C0 ⊢
  have C0 : Cx p s m args meth c RX5 cX5_unit 3 none := C0
  obtain ⟨Q, hQ⟩ : ∃ z, z = MQ below ((PV G (SC tt) ad [2, 3, 16] ws0 (fun u => (aF 77 u = unitD T 1 (aF 77 ws0)))) A) args s 0 0 A := ⟨_, rfl⟩
  rw [← hQ]
  refine lv_aload_n C0.1 C0.2.1 dX5_unit_0 rfl (lv_at hl 0 rfl) ?_
  refine va_ldcS C0.1 C0.2.1 C0.2.2.2.1 (sr_19 hZ) dX5_unit_1 ?_
  refine y_ci h (y_rV (As := [.ref (Z.2.1 19)]) (rest := []) C0 hZ h (c_X5_isWordS l G Z ad _ h.2 19 (by decide) hTp) k_X5_isWord q_724 q_5 q_722 kSC_77 rfl rfl rfl hl.1 rfl rfl (Nat.le_of_ble_eq_true rfl) dX5_unit_3 ⟨Nat.le_of_ble_eq_true rfl, Nat.le_of_ble_eq_true rfl⟩ ⟨Nat.le_of_ble_eq_true rfl, Nat.le_of_ble_eq_true rfl⟩) (fun r_4 H locs ws_1 h u_2 p_3 => ?_)
  obtain ⟨e_5, e_6, e_7⟩ := p_3
  refine y_if_eq (tgt := 49) C0 dX5_unit_6 (by decide) (fun c_8 => ?_) (fun c_8 => ?_)
  · -- 6
    refine lv_aload_n C0.1 C0.2.1 dX5_unit_49 rfl (lv_at hl 0 rfl) ?_
    refine tg_X5_kind C0 h kSC_77 q_374 dX5_unit_50 (fun v_9 e_10 e_11 e_12 => ?_)
    refine y_c2 (n := 91) C0 (by decide) dX5_unit_53 (fun v_13 e_14 => ?_)
    refine y_icmp_ne (tgt := 86) C0 dX5_unit_55 (by decide) (fun c_15 => ?_) (fun c_15 => ?_)
    · -- 55
      refine lv_aload_n C0.1 C0.2.1 dX5_unit_86 rfl (lv_at hl 0 rfl) ?_
      refine lv_iload_n C0.1 C0.2.1 dX5_unit_87 rfl (lv_at hl 1 rfl) ?_
      refine y_cv h (y_rV (As := [.int a1]) (rest := []) C0 hZ h (c_X5_sum_5S l G Z ad _ h.2 a1 (o62_69 l1 u1) (o62_70 l1 u1) ((Tp.fr (M := []) hTp u_2 kSC_78 (by decide)))) k_X5_sum q_816 q_15 q_814 kSC_77 rfl rfl rfl hl.1 rfl rfl (Nat.le_of_ble_eq_true rfl) dX5_unit_88 ⟨Nat.le_of_ble_eq_true rfl, Nat.le_of_ble_eq_true rfl⟩ ⟨Nat.le_of_ble_eq_true rfl, Nat.le_of_ble_eq_true rfl⟩) (fun H locs ws_16 h u_17 p_18 => ?_)
      have e_19 := p_18
      refine lv_aload_n C0.1 C0.2.1 dX5_unit_91 rfl (lv_at hl 0 rfl) ?_
      refine tg_X5_kind C0 h kSC_77 q_374 dX5_unit_92 (fun v_20 e_21 e_22 e_23 => ?_)
      refine y_c2 (n := 61) C0 (by decide) dX5_unit_95 (fun v_24 e_25 => ?_)
      refine y_icmp_ne (tgt := 106) C0 dX5_unit_97 (by decide) (fun c_26 => ?_) (fun c_26 => ?_)
      · -- 97
        refine lv_aload_n C0.1 C0.2.1 dX5_unit_106 rfl (lv_at hl 0 rfl) ?_
        refine tg_X5_kind C0 h kSC_77 q_374 dX5_unit_107 (fun v_27 e_28 e_29 e_30 => ?_)
        have q_31 : v_27.toInt = v_20.toInt := congrArg Int32.toInt (e_28.symm.trans (Eq.trans rfl e_21))
        refine y_c2 (n := 60) C0 (by decide) dX5_unit_110 (fun v_32 e_33 => ?_)
        refine y_icmp_ne (tgt := 121) C0 dX5_unit_112 (by decide) (fun c_34 => ?_) (fun c_34 => ?_)
        · -- 112
          refine lv_aload_n C0.1 C0.2.1 dX5_unit_121 rfl (lv_at hl 0 rfl) ?_
          refine tg_X5_kind C0 h kSC_77 q_374 dX5_unit_122 (fun v_35 e_36 e_37 e_38 => ?_)
          have q_39 : v_35.toInt = v_20.toInt := congrArg Int32.toInt (e_36.symm.trans (Eq.trans rfl e_21))
          refine y_c2 (n := 62) C0 (by decide) dX5_unit_125 (fun v_40 e_41 => ?_)
          refine y_icmp_ne (tgt := 136) C0 dX5_unit_127 (by decide) (fun c_42 => ?_) (fun c_42 => ?_)
          · -- 127
            refine y_c1 (n := (-1)) C0 (by decide) dX5_unit_136 (fun v_43 e_44 => ?_)
            refine lv_istore_n (lv' := [(2, .int v_43), (0, .ref (ad 77)), (1, .int a1)]) C0.1 C0.2.1 dX5_unit_137 rfl hl (by decide) rfl (fun ls hl => ?_)
            refine lv_iload_n C0.1 C0.2.1 dX5_unit_138 rfl (lv_at hl 0 rfl) ?_
            refine y_if_ge (tgt := 148) C0 dX5_unit_139 (by decide) (fun c_45 => ((o62_42 e_44 c_45)).elim) (fun c_45 => ?_)
            refine lv_aload_n C0.1 C0.2.1 dX5_unit_142 rfl (lv_at hl 1 rfl) ?_
            refine y_c1 (n := 2) C0 (by decide) dX5_unit_143 (fun v_46 e_47 => ?_)
            refine y_cv h (y_rV (As := [.int v_46]) (rest := []) C0 hZ h (c_X5_failS l G Z ad _ h.2 v_46) k_X5_fail q_628 q_3 q_626 kSC_77 rfl rfl rfl hl.1 rfl rfl (Nat.le_of_ble_eq_true rfl) dX5_unit_144 ⟨Nat.le_of_ble_eq_true rfl, Nat.le_of_ble_eq_true rfl⟩ ⟨Nat.le_of_ble_eq_true rfl, Nat.le_of_ble_eq_true rfl⟩) (fun H locs ws_48 h u_49 p_50 => ?_)
            have e_51 := p_50
            have hq_52 := e_7
            have hs_53 : aF 77 ws_1 = (aF 77 ws0) := (aF_fr u_2 kSC_77 (by decide))
            have hv_54 : (aF 77 ws0) 4 = v_9.toInt := (congrFun hs_53 4).symm.trans (aF_at (by decide) e_10)
            have hs_55 : aF 77 ws_16 = (sumL T (atomD T 1) (aF 77 ws0)) := e_19.trans (congrArg (fun s => sumL T (atomD T 1) s) hs_53)
            have hv_56 : (sumL T (atomD T 1) (aF 77 ws0)) 4 = v_20.toInt := (congrFun hs_55 4).symm.trans (aF_at (by decide) e_21)
            have hv_57 : (sumL T (atomD T 1) (aF 77 ws0)) 4 = v_27.toInt := (congrFun hs_55 4).symm.trans (aF_at (by decide) e_28)
            have hv_58 : (sumL T (atomD T 1) (aF 77 ws0)) 4 = v_35.toInt := (congrFun hs_55 4).symm.trans (aF_at (by decide) e_36)
            have hs_59 : aF 77 ws_48 = (failS 2 (sumL T (atomD T 1) (aF 77 ws0))) := e_51.trans ((congrArg (fun s => failS v_46.toInt s) hs_55).trans (by rw [(o62_1 e_47)]))
            have hz_60 : (failS 2 (sumL T (atomD T 1) (aF 77 ws0))) = unitD T 1 (aF 77 ws0) := by rw [unitD_1]; unfold unitF; (repeat' split) <;> first | rfl | (exfalso; omega)
            rw [hQ]
            exact y_vret C0 h (Fr.tr (Fr.tr (Fr.mono u_2 (by decide)) u_17) (Fr.mono u_49 (by decide))) (Eq.trans hs_59 hz_60) dX5_unit_147
          · -- 127
            refine y_c3 (n := 2005) C0 (by decide) dX5_unit_130 (fun v_61 e_62 => ?_)
            refine lv_goto (tgt := 137) C0.1 C0.2.1 dX5_unit_133 (by decide) ?_
            refine lv_istore_n (lv' := [(2, .int v_61), (0, .ref (ad 77)), (1, .int a1)]) C0.1 C0.2.1 dX5_unit_137 rfl hl (by decide) rfl (fun ls hl => ?_)
            refine lv_iload_n C0.1 C0.2.1 dX5_unit_138 rfl (lv_at hl 0 rfl) ?_
            refine y_if_ge (tgt := 148) C0 dX5_unit_139 (by decide) (fun c_63 => ?_) (fun c_63 => ((o62_63 e_62 c_63)).elim)
            refine lv_aload_n C0.1 C0.2.1 dX5_unit_148 rfl (lv_at hl 1 rfl) ?_
            refine y_cv h (y_rV (As := []) (rest := []) C0 hZ h (c_X5_advanceS l G Z ad _ h.2 ((Tp.fr (M := [2, 3, 16]) hTp (Fr.tr (Fr.mono u_2 (by decide)) u_17) kSC_78 (by decide)))) k_X5_advance q_616 q_0 q_614 kSC_77 rfl rfl rfl hl.1 rfl rfl (Nat.le_of_ble_eq_true rfl) dX5_unit_149 ⟨Nat.le_of_ble_eq_true rfl, Nat.le_of_ble_eq_true rfl⟩ ⟨Nat.le_of_ble_eq_true rfl, Nat.le_of_ble_eq_true rfl⟩) (fun H locs ws_64 h u_65 p_66 => ?_)
            have e_67 := p_66
            refine lv_aload_n C0.1 C0.2.1 dX5_unit_152 rfl (lv_at hl 1 rfl) ?_
            refine lv_iload_n C0.1 C0.2.1 dX5_unit_153 rfl (lv_at hl 2 rfl) ?_
            refine y_cv h (y_rV (As := [.int a1]) (rest := []) C0 hZ h (c_X5_sum_5S l G Z ad _ h.2 a1 (o62_69 l1 u1) (o62_70 l1 u1) ((Tp.fr (M := [2, 3, 16]) hTp (Fr.tr (Fr.tr (Fr.mono u_2 (by decide)) u_17) (Fr.mono u_65 (by decide))) kSC_78 (by decide)))) k_X5_sum q_816 q_15 q_814 kSC_77 rfl rfl rfl hl.1 rfl rfl (Nat.le_of_ble_eq_true rfl) dX5_unit_154 ⟨Nat.le_of_ble_eq_true rfl, Nat.le_of_ble_eq_true rfl⟩ ⟨Nat.le_of_ble_eq_true rfl, Nat.le_of_ble_eq_true rfl⟩) (fun H locs ws_68 h u_69 p_70 => ?_)
            have e_71 := p_70
            refine lv_aload_n C0.1 C0.2.1 dX5_unit_157 rfl (lv_at hl 1 rfl) ?_
            refine tg_X5_law C0 h kSC_77 q_380 dX5_unit_158 (fun i_72 hi_72 => ?_)
            refine lv_iload_n C0.1 C0.2.1 dX5_unit_161 rfl (lv_at hl 0 rfl) ?_
            refine y_cv h (y_rV (As := [.int v_61]) (rest := []) C0 hZ h (c_X4_add l G Z ad _ h.2 i_72 hi_72 v_61) k_X4_add q_827 q_828 q_826 hi_72 rfl rfl rfl hl.1 rfl rfl (Nat.le_of_ble_eq_true rfl) dX5_unit_162 ⟨Nat.le_of_ble_eq_true rfl, Nat.le_of_ble_eq_true rfl⟩ ⟨Nat.le_of_ble_eq_true rfl, Nat.le_of_ble_eq_true rfl⟩) (fun H locs ws_73 h u_74 p_75 => ?_)
            have hq_76 := e_7
            have hs_77 : aF 77 ws_1 = (aF 77 ws0) := (aF_fr u_2 kSC_77 (by decide))
            have hv_78 : (aF 77 ws0) 4 = v_9.toInt := (congrFun hs_77 4).symm.trans (aF_at (by decide) e_10)
            have hs_79 : aF 77 ws_16 = (sumL T (atomD T 1) (aF 77 ws0)) := e_19.trans (congrArg (fun s => sumL T (atomD T 1) s) hs_77)
            have hv_80 : (sumL T (atomD T 1) (aF 77 ws0)) 4 = v_20.toInt := (congrFun hs_79 4).symm.trans (aF_at (by decide) e_21)
            have hv_81 : (sumL T (atomD T 1) (aF 77 ws0)) 4 = v_27.toInt := (congrFun hs_79 4).symm.trans (aF_at (by decide) e_28)
            have hv_82 : (sumL T (atomD T 1) (aF 77 ws0)) 4 = v_35.toInt := (congrFun hs_79 4).symm.trans (aF_at (by decide) e_36)
            have hs_83 : aF 77 ws_64 = (advS T (sumL T (atomD T 1) (aF 77 ws0))) := e_67.trans (congrArg (fun s => advS T s) hs_79)
            have hs_84 : aF 77 ws_68 = (sumL T (atomD T 1) (advS T (sumL T (atomD T 1) (aF 77 ws0)))) := e_71.trans (congrArg (fun s => sumL T (atomD T 1) s) hs_83)
            have hs_85 : aF 77 ws_73 = (sumL T (atomD T 1) (advS T (sumL T (atomD T 1) (aF 77 ws0)))) := (aF_fr u_74 kSC_77 (by decide)).trans hs_84
            have hz_86 : (sumL T (atomD T 1) (advS T (sumL T (atomD T 1) (aF 77 ws0)))) = unitD T 1 (aF 77 ws0) := by rw [unitD_1]; unfold unitF; (repeat' split) <;> first | rfl | (exfalso; omega)
            rw [hQ]
            exact y_vret C0 h (Fr.tr (Fr.tr (Fr.tr (Fr.tr (Fr.mono u_2 (by decide)) u_17) (Fr.mono u_65 (by decide))) u_69) (Fr.mono u_74 (by decide))) (Eq.trans hs_85 hz_86) dX5_unit_165
        · -- 112
          refine y_c3 (n := 2004) C0 (by decide) dX5_unit_115 (fun v_87 e_88 => ?_)
          refine lv_goto (tgt := 137) C0.1 C0.2.1 dX5_unit_118 (by decide) ?_
          refine lv_istore_n (lv' := [(2, .int v_87), (0, .ref (ad 77)), (1, .int a1)]) C0.1 C0.2.1 dX5_unit_137 rfl hl (by decide) rfl (fun ls hl => ?_)
          refine lv_iload_n C0.1 C0.2.1 dX5_unit_138 rfl (lv_at hl 0 rfl) ?_
          refine y_if_ge (tgt := 148) C0 dX5_unit_139 (by decide) (fun c_89 => ?_) (fun c_89 => ((o62_64 e_88 c_89)).elim)
          refine lv_aload_n C0.1 C0.2.1 dX5_unit_148 rfl (lv_at hl 1 rfl) ?_
          refine y_cv h (y_rV (As := []) (rest := []) C0 hZ h (c_X5_advanceS l G Z ad _ h.2 ((Tp.fr (M := [2, 3, 16]) hTp (Fr.tr (Fr.mono u_2 (by decide)) u_17) kSC_78 (by decide)))) k_X5_advance q_616 q_0 q_614 kSC_77 rfl rfl rfl hl.1 rfl rfl (Nat.le_of_ble_eq_true rfl) dX5_unit_149 ⟨Nat.le_of_ble_eq_true rfl, Nat.le_of_ble_eq_true rfl⟩ ⟨Nat.le_of_ble_eq_true rfl, Nat.le_of_ble_eq_true rfl⟩) (fun H locs ws_90 h u_91 p_92 => ?_)
          have e_93 := p_92
          refine lv_aload_n C0.1 C0.2.1 dX5_unit_152 rfl (lv_at hl 1 rfl) ?_
          refine lv_iload_n C0.1 C0.2.1 dX5_unit_153 rfl (lv_at hl 2 rfl) ?_
          refine y_cv h (y_rV (As := [.int a1]) (rest := []) C0 hZ h (c_X5_sum_5S l G Z ad _ h.2 a1 (o62_69 l1 u1) (o62_70 l1 u1) ((Tp.fr (M := [2, 3, 16]) hTp (Fr.tr (Fr.tr (Fr.mono u_2 (by decide)) u_17) (Fr.mono u_91 (by decide))) kSC_78 (by decide)))) k_X5_sum q_816 q_15 q_814 kSC_77 rfl rfl rfl hl.1 rfl rfl (Nat.le_of_ble_eq_true rfl) dX5_unit_154 ⟨Nat.le_of_ble_eq_true rfl, Nat.le_of_ble_eq_true rfl⟩ ⟨Nat.le_of_ble_eq_true rfl, Nat.le_of_ble_eq_true rfl⟩) (fun H locs ws_94 h u_95 p_96 => ?_)
          have e_97 := p_96
          refine lv_aload_n C0.1 C0.2.1 dX5_unit_157 rfl (lv_at hl 1 rfl) ?_
          refine tg_X5_law C0 h kSC_77 q_380 dX5_unit_158 (fun i_98 hi_98 => ?_)
          refine lv_iload_n C0.1 C0.2.1 dX5_unit_161 rfl (lv_at hl 0 rfl) ?_
          refine y_cv h (y_rV (As := [.int v_87]) (rest := []) C0 hZ h (c_X4_add l G Z ad _ h.2 i_98 hi_98 v_87) k_X4_add q_827 q_828 q_826 hi_98 rfl rfl rfl hl.1 rfl rfl (Nat.le_of_ble_eq_true rfl) dX5_unit_162 ⟨Nat.le_of_ble_eq_true rfl, Nat.le_of_ble_eq_true rfl⟩ ⟨Nat.le_of_ble_eq_true rfl, Nat.le_of_ble_eq_true rfl⟩) (fun H locs ws_99 h u_100 p_101 => ?_)
          have hq_102 := e_7
          have hs_103 : aF 77 ws_1 = (aF 77 ws0) := (aF_fr u_2 kSC_77 (by decide))
          have hv_104 : (aF 77 ws0) 4 = v_9.toInt := (congrFun hs_103 4).symm.trans (aF_at (by decide) e_10)
          have hs_105 : aF 77 ws_16 = (sumL T (atomD T 1) (aF 77 ws0)) := e_19.trans (congrArg (fun s => sumL T (atomD T 1) s) hs_103)
          have hv_106 : (sumL T (atomD T 1) (aF 77 ws0)) 4 = v_20.toInt := (congrFun hs_105 4).symm.trans (aF_at (by decide) e_21)
          have hv_107 : (sumL T (atomD T 1) (aF 77 ws0)) 4 = v_27.toInt := (congrFun hs_105 4).symm.trans (aF_at (by decide) e_28)
          have hs_108 : aF 77 ws_90 = (advS T (sumL T (atomD T 1) (aF 77 ws0))) := e_93.trans (congrArg (fun s => advS T s) hs_105)
          have hs_109 : aF 77 ws_94 = (sumL T (atomD T 1) (advS T (sumL T (atomD T 1) (aF 77 ws0)))) := e_97.trans (congrArg (fun s => sumL T (atomD T 1) s) hs_108)
          have hs_110 : aF 77 ws_99 = (sumL T (atomD T 1) (advS T (sumL T (atomD T 1) (aF 77 ws0)))) := (aF_fr u_100 kSC_77 (by decide)).trans hs_109
          have hz_111 : (sumL T (atomD T 1) (advS T (sumL T (atomD T 1) (aF 77 ws0)))) = unitD T 1 (aF 77 ws0) := by rw [unitD_1]; unfold unitF; (repeat' split) <;> first | rfl | (exfalso; omega)
          rw [hQ]
          exact y_vret C0 h (Fr.tr (Fr.tr (Fr.tr (Fr.tr (Fr.mono u_2 (by decide)) u_17) (Fr.mono u_91 (by decide))) u_95) (Fr.mono u_100 (by decide))) (Eq.trans hs_110 hz_111) dX5_unit_165
      · -- 97
        refine y_c3 (n := 2003) C0 (by decide) dX5_unit_100 (fun v_112 e_113 => ?_)
        refine lv_goto (tgt := 137) C0.1 C0.2.1 dX5_unit_103 (by decide) ?_
        refine lv_istore_n (lv' := [(2, .int v_112), (0, .ref (ad 77)), (1, .int a1)]) C0.1 C0.2.1 dX5_unit_137 rfl hl (by decide) rfl (fun ls hl => ?_)
        refine lv_iload_n C0.1 C0.2.1 dX5_unit_138 rfl (lv_at hl 0 rfl) ?_
        refine y_if_ge (tgt := 148) C0 dX5_unit_139 (by decide) (fun c_114 => ?_) (fun c_114 => ((o62_65 e_113 c_114)).elim)
        refine lv_aload_n C0.1 C0.2.1 dX5_unit_148 rfl (lv_at hl 1 rfl) ?_
        refine y_cv h (y_rV (As := []) (rest := []) C0 hZ h (c_X5_advanceS l G Z ad _ h.2 ((Tp.fr (M := [2, 3, 16]) hTp (Fr.tr (Fr.mono u_2 (by decide)) u_17) kSC_78 (by decide)))) k_X5_advance q_616 q_0 q_614 kSC_77 rfl rfl rfl hl.1 rfl rfl (Nat.le_of_ble_eq_true rfl) dX5_unit_149 ⟨Nat.le_of_ble_eq_true rfl, Nat.le_of_ble_eq_true rfl⟩ ⟨Nat.le_of_ble_eq_true rfl, Nat.le_of_ble_eq_true rfl⟩) (fun H locs ws_115 h u_116 p_117 => ?_)
        have e_118 := p_117
        refine lv_aload_n C0.1 C0.2.1 dX5_unit_152 rfl (lv_at hl 1 rfl) ?_
        refine lv_iload_n C0.1 C0.2.1 dX5_unit_153 rfl (lv_at hl 2 rfl) ?_
        refine y_cv h (y_rV (As := [.int a1]) (rest := []) C0 hZ h (c_X5_sum_5S l G Z ad _ h.2 a1 (o62_69 l1 u1) (o62_70 l1 u1) ((Tp.fr (M := [2, 3, 16]) hTp (Fr.tr (Fr.tr (Fr.mono u_2 (by decide)) u_17) (Fr.mono u_116 (by decide))) kSC_78 (by decide)))) k_X5_sum q_816 q_15 q_814 kSC_77 rfl rfl rfl hl.1 rfl rfl (Nat.le_of_ble_eq_true rfl) dX5_unit_154 ⟨Nat.le_of_ble_eq_true rfl, Nat.le_of_ble_eq_true rfl⟩ ⟨Nat.le_of_ble_eq_true rfl, Nat.le_of_ble_eq_true rfl⟩) (fun H locs ws_119 h u_120 p_121 => ?_)
        have e_122 := p_121
        refine lv_aload_n C0.1 C0.2.1 dX5_unit_157 rfl (lv_at hl 1 rfl) ?_
        refine tg_X5_law C0 h kSC_77 q_380 dX5_unit_158 (fun i_123 hi_123 => ?_)
        refine lv_iload_n C0.1 C0.2.1 dX5_unit_161 rfl (lv_at hl 0 rfl) ?_
        refine y_cv h (y_rV (As := [.int v_112]) (rest := []) C0 hZ h (c_X4_add l G Z ad _ h.2 i_123 hi_123 v_112) k_X4_add q_827 q_828 q_826 hi_123 rfl rfl rfl hl.1 rfl rfl (Nat.le_of_ble_eq_true rfl) dX5_unit_162 ⟨Nat.le_of_ble_eq_true rfl, Nat.le_of_ble_eq_true rfl⟩ ⟨Nat.le_of_ble_eq_true rfl, Nat.le_of_ble_eq_true rfl⟩) (fun H locs ws_124 h u_125 p_126 => ?_)
        have hq_127 := e_7
        have hs_128 : aF 77 ws_1 = (aF 77 ws0) := (aF_fr u_2 kSC_77 (by decide))
        have hv_129 : (aF 77 ws0) 4 = v_9.toInt := (congrFun hs_128 4).symm.trans (aF_at (by decide) e_10)
        have hs_130 : aF 77 ws_16 = (sumL T (atomD T 1) (aF 77 ws0)) := e_19.trans (congrArg (fun s => sumL T (atomD T 1) s) hs_128)
        have hv_131 : (sumL T (atomD T 1) (aF 77 ws0)) 4 = v_20.toInt := (congrFun hs_130 4).symm.trans (aF_at (by decide) e_21)
        have hs_132 : aF 77 ws_115 = (advS T (sumL T (atomD T 1) (aF 77 ws0))) := e_118.trans (congrArg (fun s => advS T s) hs_130)
        have hs_133 : aF 77 ws_119 = (sumL T (atomD T 1) (advS T (sumL T (atomD T 1) (aF 77 ws0)))) := e_122.trans (congrArg (fun s => sumL T (atomD T 1) s) hs_132)
        have hs_134 : aF 77 ws_124 = (sumL T (atomD T 1) (advS T (sumL T (atomD T 1) (aF 77 ws0)))) := (aF_fr u_125 kSC_77 (by decide)).trans hs_133
        have hz_135 : (sumL T (atomD T 1) (advS T (sumL T (atomD T 1) (aF 77 ws0)))) = unitD T 1 (aF 77 ws0) := by rw [unitD_1]; unfold unitF; (repeat' split) <;> first | rfl | (exfalso; omega)
        rw [hQ]
        exact y_vret C0 h (Fr.tr (Fr.tr (Fr.tr (Fr.tr (Fr.mono u_2 (by decide)) u_17) (Fr.mono u_116 (by decide))) u_120) (Fr.mono u_125 (by decide))) (Eq.trans hs_134 hz_135) dX5_unit_165
    · -- 55
      refine lv_aload_n C0.1 C0.2.1 dX5_unit_58 rfl (lv_at hl 0 rfl) ?_
      refine lv_iload_n C0.1 C0.2.1 dX5_unit_59 rfl (lv_at hl 1 rfl) ?_
      refine y_ci h (y_rV (As := [.int a1]) (rest := []) C0 hZ h (c_X5_tooDeep_5S l G Z ad _ h.2 a1 (o62_69 l1 u1) (o62_70 l1 u1)) k_X5_tooDeep q_832 q_18 q_830 kSC_77 rfl rfl rfl hl.1 rfl rfl (Nat.le_of_ble_eq_true rfl) dX5_unit_60 ⟨Nat.le_of_ble_eq_true rfl, Nat.le_of_ble_eq_true rfl⟩ ⟨Nat.le_of_ble_eq_true rfl, Nat.le_of_ble_eq_true rfl⟩) (fun r_139 H locs ws_136 h u_137 p_138 => ?_)
      obtain ⟨e_140, e_141, e_142⟩ := p_138
      refine y_if_ne (tgt := 165) C0 dX5_unit_63 (by decide) (fun c_143 => ((o62_71 e_140 e_141 c_143)).elim) (fun c_143 => ?_)
      refine lv_aload_n C0.1 C0.2.1 dX5_unit_66 rfl (lv_at hl 0 rfl) ?_
      refine y_cv h (y_rV (As := []) (rest := []) C0 hZ h (c_X5_advanceS l G Z ad _ h.2 ((Tp.fr (M := []) hTp (Fr.tr u_2 u_137) kSC_78 (by decide)))) k_X5_advance q_616 q_0 q_614 kSC_77 rfl rfl rfl hl.1 rfl rfl (Nat.le_of_ble_eq_true rfl) dX5_unit_67 ⟨Nat.le_of_ble_eq_true rfl, Nat.le_of_ble_eq_true rfl⟩ ⟨Nat.le_of_ble_eq_true rfl, Nat.le_of_ble_eq_true rfl⟩) (fun H locs ws_144 h u_145 p_146 => ?_)
      have e_147 := p_146
      refine lv_aload_n C0.1 C0.2.1 dX5_unit_70 rfl (lv_at hl 0 rfl) ?_
      refine lv_iload_n C0.1 C0.2.1 dX5_unit_71 rfl (lv_at hl 1 rfl) ?_
      refine y_c1 (n := 1) C0 (by decide) dX5_unit_72 (fun v_148 e_149 => ?_)
      refine y_add C0 (o62_72 l1 u1 e_149 (le_min a1) (le_max a1) (le_min v_148) (le_max v_148)) (o62_73 l1 u1 e_149 (le_min a1) (le_max a1) (le_min v_148) (le_max v_148)) dX5_unit_73 (fun v_150 e_151 => ?_)
      refine y_cv h (y_rV (As := [.int v_150]) (rest := []) C0 hZ h (c_X5_truth_6S l G Z ad _ h.2 v_150 (o62_74 l1 u1 e_149 e_151) (o62_75 l1 u1 e_149 e_151) ((Tp.fr (M := [16]) hTp (Fr.tr (Fr.tr (Fr.mono u_2 (by decide)) (Fr.mono u_137 (by decide))) u_145) kSC_78 (by decide)))) k_X5_truth q_843 q_19 q_841 kSC_77 rfl rfl rfl hl.1 rfl rfl (Nat.le_of_ble_eq_true rfl) dX5_unit_74 ⟨Nat.le_of_ble_eq_true rfl, Nat.le_of_ble_eq_true rfl⟩ ⟨Nat.le_of_ble_eq_true rfl, Nat.le_of_ble_eq_true rfl⟩) (fun H locs ws_152 h u_153 p_154 => ?_)
      have e_155 := p_154
      refine lv_aload_n C0.1 C0.2.1 dX5_unit_77 rfl (lv_at hl 0 rfl) ?_
      refine y_c2 (n := 93) C0 (by decide) dX5_unit_78 (fun v_156 e_157 => ?_)
      refine y_cv h (y_rV (As := [.int v_156]) (rest := []) C0 hZ h (c_X5_signS l G Z ad _ h.2 v_156 (o62_79 e_157) (o62_80 e_157) ((Tp.fr (M := [2, 3, 16]) hTp (Fr.tr (Fr.tr (Fr.tr (Fr.mono u_2 (by decide)) (Fr.mono u_137 (by decide))) (Fr.mono u_145 (by decide))) u_153) kSC_78 (by decide)))) k_X5_sign q_812 q_14 q_810 kSC_77 rfl rfl rfl hl.1 rfl rfl (Nat.le_of_ble_eq_true rfl) dX5_unit_80 ⟨Nat.le_of_ble_eq_true rfl, Nat.le_of_ble_eq_true rfl⟩ ⟨Nat.le_of_ble_eq_true rfl, Nat.le_of_ble_eq_true rfl⟩) (fun H locs ws_158 h u_159 p_160 => ?_)
      have e_161 := p_160
      refine lv_goto (tgt := 165) C0.1 C0.2.1 dX5_unit_83 (by decide) ?_
      have hq_162 := e_7
      have hs_163 : aF 77 ws_1 = (aF 77 ws0) := (aF_fr u_2 kSC_77 (by decide))
      have hv_164 : (aF 77 ws0) 4 = v_9.toInt := (congrFun hs_163 4).symm.trans (aF_at (by decide) e_10)
      have hs_165 : aF 77 ws_136 = ((fun s => s) (aF 77 ws0)) := e_142.trans (congrArg (fun s => (fun s => s) s) hs_163)
      have hs_166 : aF 77 ws_144 = (advS T ((fun s => s) (aF 77 ws0))) := e_147.trans (congrArg (fun s => advS T s) hs_165)
      have hs_167 : aF 77 ws_152 = (truthL T (unitD T 0) (advS T ((fun s => s) (aF 77 ws0)))) := e_155.trans (congrArg (fun s => truthL T (unitD T 0) s) hs_166)
      have hs_168 : aF 77 ws_158 = (signS T 93 (truthL T (unitD T 0) (advS T ((fun s => s) (aF 77 ws0))))) := e_161.trans ((congrArg (fun s => signS T v_156.toInt s) hs_167).trans (by rw [(o62_81 e_157)]))
      have hz_169 : (signS T 93 (truthL T (unitD T 0) (advS T ((fun s => s) (aF 77 ws0))))) = unitD T 1 (aF 77 ws0) := by rw [unitD_1]; unfold unitF; (repeat' split) <;> first | rfl | (exfalso; omega)
      rw [hQ]
      exact y_vret C0 h (Fr.tr (Fr.tr (Fr.tr (Fr.tr (Fr.mono u_2 (by decide)) (Fr.mono u_137 (by decide))) (Fr.mono u_145 (by decide))) u_153) (Fr.mono u_159 (by decide))) (Eq.trans hs_168 hz_169) dX5_unit_165
  · -- 6
    refine lv_aload_n C0.1 C0.2.1 dX5_unit_9 rfl (lv_at hl 0 rfl) ?_
    refine lv_iload_n C0.1 C0.2.1 dX5_unit_10 rfl (lv_at hl 1 rfl) ?_
    refine y_ci h (y_rV (As := [.int a1]) (rest := []) C0 hZ h (c_X5_tooDeep_5S l G Z ad _ h.2 a1 (o62_69 l1 u1) (o62_70 l1 u1)) k_X5_tooDeep q_832 q_18 q_830 kSC_77 rfl rfl rfl hl.1 rfl rfl (Nat.le_of_ble_eq_true rfl) dX5_unit_11 ⟨Nat.le_of_ble_eq_true rfl, Nat.le_of_ble_eq_true rfl⟩ ⟨Nat.le_of_ble_eq_true rfl, Nat.le_of_ble_eq_true rfl⟩) (fun r_173 H locs ws_170 h u_171 p_172 => ?_)
    obtain ⟨e_174, e_175, e_176⟩ := p_172
    refine y_if_ne (tgt := 165) C0 dX5_unit_14 (by decide) (fun c_177 => ((o62_71 e_174 e_175 c_177)).elim) (fun c_177 => ?_)
    refine lv_aload_n C0.1 C0.2.1 dX5_unit_17 rfl (lv_at hl 0 rfl) ?_
    refine y_cv h (y_rV (As := []) (rest := []) C0 hZ h (c_X5_advanceS l G Z ad _ h.2 ((Tp.fr (M := []) hTp (Fr.tr u_2 u_171) kSC_78 (by decide)))) k_X5_advance q_616 q_0 q_614 kSC_77 rfl rfl rfl hl.1 rfl rfl (Nat.le_of_ble_eq_true rfl) dX5_unit_18 ⟨Nat.le_of_ble_eq_true rfl, Nat.le_of_ble_eq_true rfl⟩ ⟨Nat.le_of_ble_eq_true rfl, Nat.le_of_ble_eq_true rfl⟩) (fun H locs ws_178 h u_179 p_180 => ?_)
    have e_181 := p_180
    refine lv_aload_n C0.1 C0.2.1 dX5_unit_21 rfl (lv_at hl 0 rfl) ?_
    refine lv_iload_n C0.1 C0.2.1 dX5_unit_22 rfl (lv_at hl 1 rfl) ?_
    refine y_c1 (n := 1) C0 (by decide) dX5_unit_23 (fun v_182 e_183 => ?_)
    refine y_add C0 (o62_72 l1 u1 e_183 (le_min a1) (le_max a1) (le_min v_182) (le_max v_182)) (o62_73 l1 u1 e_183 (le_min a1) (le_max a1) (le_min v_182) (le_max v_182)) dX5_unit_24 (fun v_184 e_185 => ?_)
    refine y_cv h (y_rV (As := [.int v_184]) (rest := []) C0 hZ h (c_X5_unit_6S l G Z ad _ h.2 v_184 (o62_74 l1 u1 e_183 e_185) (o62_75 l1 u1 e_183 e_185) ((Tp.fr (M := [16]) hTp (Fr.tr (Fr.tr (Fr.mono u_2 (by decide)) (Fr.mono u_171 (by decide))) u_179) kSC_78 (by decide)))) k_X5_unit q_851 q_21 q_849 kSC_77 rfl rfl rfl hl.1 rfl rfl (Nat.le_of_ble_eq_true rfl) dX5_unit_25 ⟨Nat.le_of_ble_eq_true rfl, Nat.le_of_ble_eq_true rfl⟩ ⟨Nat.le_of_ble_eq_true rfl, Nat.le_of_ble_eq_true rfl⟩) (fun H locs ws_186 h u_187 p_188 => ?_)
    have e_189 := p_188
    refine lv_aload_n C0.1 C0.2.1 dX5_unit_28 rfl (lv_at hl 0 rfl) ?_
    refine tg_X5_law C0 h kSC_77 q_380 dX5_unit_29 (fun i_190 hi_190 => ?_)
    refine y_c1 (n := 0) C0 (by decide) dX5_unit_32 (fun v_191 e_192 => ?_)
    refine y_cv h (y_rV (As := [.int v_191]) (rest := []) C0 hZ h (c_X4_add l G Z ad _ h.2 i_190 hi_190 v_191) k_X4_add q_827 q_828 q_826 hi_190 rfl rfl rfl hl.1 rfl rfl (Nat.le_of_ble_eq_true rfl) dX5_unit_33 ⟨Nat.le_of_ble_eq_true rfl, Nat.le_of_ble_eq_true rfl⟩ ⟨Nat.le_of_ble_eq_true rfl, Nat.le_of_ble_eq_true rfl⟩) (fun H locs ws_193 h u_194 p_195 => ?_)
    refine lv_aload_n C0.1 C0.2.1 dX5_unit_36 rfl (lv_at hl 0 rfl) ?_
    refine tg_X5_law C0 h kSC_77 q_380 dX5_unit_37 (fun i_196 hi_196 => ?_)
    refine y_c3 (n := 2003) C0 (by decide) dX5_unit_40 (fun v_197 e_198 => ?_)
    refine y_cv h (y_rV (As := [.int v_197]) (rest := []) C0 hZ h (c_X4_add l G Z ad _ h.2 i_196 hi_196 v_197) k_X4_add q_827 q_828 q_826 hi_196 rfl rfl rfl hl.1 rfl rfl (Nat.le_of_ble_eq_true rfl) dX5_unit_43 ⟨Nat.le_of_ble_eq_true rfl, Nat.le_of_ble_eq_true rfl⟩ ⟨Nat.le_of_ble_eq_true rfl, Nat.le_of_ble_eq_true rfl⟩) (fun H locs ws_199 h u_200 p_201 => ?_)
    refine lv_goto (tgt := 165) C0.1 C0.2.1 dX5_unit_46 (by decide) ?_
    have hq_202 := e_7
    have hs_203 : aF 77 ws_1 = (aF 77 ws0) := (aF_fr u_2 kSC_77 (by decide))
    have hs_204 : aF 77 ws_170 = ((fun s => s) (aF 77 ws0)) := e_176.trans (congrArg (fun s => (fun s => s) s) hs_203)
    have hs_205 : aF 77 ws_178 = (advS T ((fun s => s) (aF 77 ws0))) := e_181.trans (congrArg (fun s => advS T s) hs_204)
    have hs_206 : aF 77 ws_186 = (unitD T 0 (advS T ((fun s => s) (aF 77 ws0)))) := e_189.trans (congrArg (fun s => unitD T 0 s) hs_205)
    have hs_207 : aF 77 ws_193 = (unitD T 0 (advS T ((fun s => s) (aF 77 ws0)))) := (aF_fr u_194 kSC_77 (by decide)).trans hs_206
    have hs_208 : aF 77 ws_199 = (unitD T 0 (advS T ((fun s => s) (aF 77 ws0)))) := (aF_fr u_200 kSC_77 (by decide)).trans hs_207
    have hz_209 : (unitD T 0 (advS T ((fun s => s) (aF 77 ws0)))) = unitD T 1 (aF 77 ws0) := by rw [unitD_1]; unfold unitF; (repeat' split) <;> first | rfl | (exfalso; omega)
    rw [hQ]
    exact y_vret C0 h (Fr.tr (Fr.tr (Fr.tr (Fr.tr (Fr.tr (Fr.mono u_2 (by decide)) (Fr.mono u_171 (by decide))) (Fr.mono u_179 (by decide))) u_187) (Fr.mono u_194 (by decide))) (Fr.mono u_200 (by decide))) (Eq.trans hs_208 hz_209) dX5_unit_165
set_option maxHeartbeats 4000000 in
set_option maxRecDepth 100000 in
theorem c_X5_both_5S {T : Nat → Int} (l : Launch) (G : GG) (Z : RZ) (ad : Nat → Nat) (ws0 : va_W) (hT : Ty G (SC tt) ad ws0) (a1 : Int32) (l1 : 5 ≤ a1.toInt) (u1 : a1.toInt ≤ 5) (hTp : Tp T ws0) : Mq l yX5_both cX5_both 3 none 13 G Z [.ref (ad 77), .int a1] ws0 (PV G (SC tt) ad [2, 3, 16] ws0 (fun u => (aF 77 u = bothL T (unitD T 1) (aF 77 ws0)))) := by
  refine Mq.start (by decide) (Nat.le_of_ble_eq_true rfl) ?_
  intro p e s m below meth c A ls C0 hZ h hl
  have hl : lv_has ls 3 [(0, .ref (ad 77)), (1, .int a1)] := hl
  have h : Wt G (SC tt) ad A s s.heap [] ws0 := ⟨h, hT⟩
  obtain ⟨args, hargs⟩ : ∃ z, z = ([.ref (ad 77), .int a1] : List Value).toArray := ⟨_, rfl⟩
  rw [← hargs] at C0 ⊢
  have C0 : Cx p s m args meth c RX5 cX5_both 3 none := C0
  obtain ⟨Q, hQ⟩ : ∃ z, z = MQ below ((PV G (SC tt) ad [2, 3, 16] ws0 (fun u => (aF 77 u = bothL T (unitD T 1) (aF 77 ws0)))) A) args s 0 0 A := ⟨_, rfl⟩
  rw [← hQ]
  refine lv_aload_n C0.1 C0.2.1 dX5_both_0 rfl (lv_at hl 0 rfl) ?_
  refine lv_iload_n C0.1 C0.2.1 dX5_both_1 rfl (lv_at hl 1 rfl) ?_
  refine y_cv h (y_rV (As := [.int a1]) (rest := []) C0 hZ h (c_X5_unit_5S l G Z ad _ h.2 a1 (o62_69 l1 u1) (o62_70 l1 u1) hTp) k_X5_unit q_851 q_21 q_849 kSC_77 rfl rfl rfl hl.1 rfl rfl (Nat.le_of_ble_eq_true rfl) dX5_both_2 ⟨Nat.le_of_ble_eq_true rfl, Nat.le_of_ble_eq_true rfl⟩ ⟨Nat.le_of_ble_eq_true rfl, Nat.le_of_ble_eq_true rfl⟩) (fun H locs ws_1 h u_2 p_3 => ?_)
  have e_4 := p_3
  refine y_c1 (n := 0) C0 (by decide) dX5_both_5 (fun v_5 e_6 => ?_)
  refine lv_istore_n (lv' := [(2, .int v_5), (0, .ref (ad 77)), (1, .int a1)]) C0.1 C0.2.1 dX5_both_6 rfl hl (by decide) rfl (fun ls hl => ?_)
  have lp_10 : ∀ (n_12 : Nat) (x2_7 : Int32) (H : Heap) (locs : List Loc) (ls : Array Slot) (ws_8 : va_W), 900 - x2_7.toInt < (n_12 : Int) → 0 ≤ x2_7.toInt → x2_7.toInt ≤ 900 → (lpS (fun s => wI T 20 s = 1) (fun s => unitD T 1 (advS T s)) (900 - x2_7.toInt).toNat (aF 77 ws_8) = bothL T (unitD T 1) (aF 77 ws0)) → Wt G (SC tt) ad A s H locs ws_8 → Fr (SC tt) [2, 3, 16] ws_1 ws_8 → lv_has ls 3 [(2, .int x2_7), (0, .ref (ad 77)), (1, .int a1)] → W p l e (rmd 13 0 0) s m args below meth c H locs 0 0 Q (F0 m 7 ls []) := by
    intro n_12
    induction n_12 with
    | zero => intro x2_7 H locs ls ws_8 hn_13 b_14 b_15 hSp h hF_9 hl; exact ((o62_52 b_14 b_15 hn_13)).elim
    | succ n_12 ih_11 =>
      intro x2_7 H locs ls ws_8 hn_13 b_14 b_15 hSp h hF_9 hl
      refine lv_iload_n C0.1 C0.2.1 dX5_both_7 rfl (lv_at hl 0 rfl) ?_
      refine y_c3 (n := 900) C0 (by decide) dX5_both_8 (fun v_16 e_17 => ?_)
      refine y_icmp_ge (tgt := 48) C0 dX5_both_11 (by decide) (fun c_18 => ?_) (fun c_18 => ?_)
      · -- 11
        have hz_19 : (aF 77 ws_8) = lpS (fun s => wI T 20 s = 1) (fun s => unitD T 1 (advS T s)) (900 - x2_7.toInt).toNat (aF 77 ws_8) := by first | (exfalso; omega) | exact (lp_0 (by omega)).symm | exact (lp_e (by omega)).symm
        rw [hQ]
        exact y_vret C0 h (Fr.tr u_2 hF_9) (Eq.trans rfl (Eq.trans hz_19 hSp)) dX5_both_48
      · -- 11
        refine lv_aload_n C0.1 C0.2.1 dX5_both_14 rfl (lv_at hl 1 rfl) ?_
        refine va_ldcS C0.1 C0.2.1 C0.2.2.2.1 (sr_20 hZ) dX5_both_15 ?_
        refine y_ci h (y_rV (As := [.ref (Z.2.1 20)]) (rest := []) C0 hZ h (c_X5_isWordS l G Z ad _ h.2 20 (by decide) ((Tp.fr (M := [2, 3, 16]) hTp (Fr.tr u_2 hF_9) kSC_78 (by decide)))) k_X5_isWord q_724 q_5 q_722 kSC_77 rfl rfl rfl hl.1 rfl rfl (Nat.le_of_ble_eq_true rfl) dX5_both_17 ⟨Nat.le_of_ble_eq_true rfl, Nat.le_of_ble_eq_true rfl⟩ ⟨Nat.le_of_ble_eq_true rfl, Nat.le_of_ble_eq_true rfl⟩) (fun r_23 H locs ws_20 h u_21 p_22 => ?_)
        obtain ⟨e_24, e_25, e_26⟩ := p_22
        refine y_if_eq (tgt := 48) C0 dX5_both_20 (by decide) (fun c_27 => ?_) (fun c_27 => ?_)
        · -- 20
          have hq_28 := e_26
          have hs_29 : aF 77 ws_20 = (aF 77 ws_8) := (aF_fr u_21 kSC_77 (by decide))
          have hz_30 : (aF 77 ws_8) = lpS (fun s => wI T 20 s = 1) (fun s => unitD T 1 (advS T s)) (900 - x2_7.toInt).toNat (aF 77 ws_8) := by first | (exfalso; omega) | exact (lp_0 (by omega)).symm | exact (lp_e (by omega)).symm
          rw [hQ]
          exact y_vret C0 h (Fr.tr (Fr.tr u_2 hF_9) (Fr.mono u_21 (by decide))) (Eq.trans hs_29 (Eq.trans hz_30 hSp)) dX5_both_48
        · -- 20
          refine lv_aload_n C0.1 C0.2.1 dX5_both_23 rfl (lv_at hl 1 rfl) ?_
          refine y_cv h (y_rV (As := []) (rest := []) C0 hZ h (c_X5_advanceS l G Z ad _ h.2 ((Tp.fr (M := [2, 3, 16]) hTp (Fr.tr (Fr.tr u_2 hF_9) (Fr.mono u_21 (by decide))) kSC_78 (by decide)))) k_X5_advance q_616 q_0 q_614 kSC_77 rfl rfl rfl hl.1 rfl rfl (Nat.le_of_ble_eq_true rfl) dX5_both_24 ⟨Nat.le_of_ble_eq_true rfl, Nat.le_of_ble_eq_true rfl⟩ ⟨Nat.le_of_ble_eq_true rfl, Nat.le_of_ble_eq_true rfl⟩) (fun H locs ws_31 h u_32 p_33 => ?_)
          have e_34 := p_33
          refine lv_aload_n C0.1 C0.2.1 dX5_both_27 rfl (lv_at hl 1 rfl) ?_
          refine lv_iload_n C0.1 C0.2.1 dX5_both_28 rfl (lv_at hl 2 rfl) ?_
          refine y_cv h (y_rV (As := [.int a1]) (rest := []) C0 hZ h (c_X5_unit_5S l G Z ad _ h.2 a1 (o62_69 l1 u1) (o62_70 l1 u1) ((Tp.fr (M := [2, 3, 16]) hTp (Fr.tr (Fr.tr (Fr.tr u_2 hF_9) (Fr.mono u_21 (by decide))) (Fr.mono u_32 (by decide))) kSC_78 (by decide)))) k_X5_unit q_851 q_21 q_849 kSC_77 rfl rfl rfl hl.1 rfl rfl (Nat.le_of_ble_eq_true rfl) dX5_both_29 ⟨Nat.le_of_ble_eq_true rfl, Nat.le_of_ble_eq_true rfl⟩ ⟨Nat.le_of_ble_eq_true rfl, Nat.le_of_ble_eq_true rfl⟩) (fun H locs ws_35 h u_36 p_37 => ?_)
          have e_38 := p_37
          refine lv_aload_n C0.1 C0.2.1 dX5_both_32 rfl (lv_at hl 1 rfl) ?_
          refine tg_X5_law C0 h kSC_77 q_380 dX5_both_33 (fun i_39 hi_39 => ?_)
          refine y_c3 (n := 2006) C0 (by decide) dX5_both_36 (fun v_40 e_41 => ?_)
          refine y_cv h (y_rV (As := [.int v_40]) (rest := []) C0 hZ h (c_X4_add l G Z ad _ h.2 i_39 hi_39 v_40) k_X4_add q_827 q_828 q_826 hi_39 rfl rfl rfl hl.1 rfl rfl (Nat.le_of_ble_eq_true rfl) dX5_both_39 ⟨Nat.le_of_ble_eq_true rfl, Nat.le_of_ble_eq_true rfl⟩ ⟨Nat.le_of_ble_eq_true rfl, Nat.le_of_ble_eq_true rfl⟩) (fun H locs ws_42 h u_43 p_44 => ?_)
          refine y_inc (kp := 0) (n := 1) (fun v_45 => [(2, .int v_45), (0, .ref (ad 77)), (1, .int a1)]) C0 hl rfl (by decide) (by decide) (fun _ => rfl) (o62_53 b_14 b_15 hn_13 e_17 c_18 (le_min x2_7) (le_max x2_7) (le_min v_16) (le_max v_16)) (o62_54 b_14 b_15 hn_13 e_17 c_18 (le_min x2_7) (le_max x2_7) (le_min v_16) (le_max v_16)) dX5_both_42 (fun v_45 ls e_46 hl => ?_)
          refine lv_goto (tgt := 7) C0.1 C0.2.1 dX5_both_45 (by decide) ?_
          have hq_47 := e_26
          have hs_48 : aF 77 ws_20 = (aF 77 ws_8) := (aF_fr u_21 kSC_77 (by decide))
          have hs_49 : aF 77 ws_31 = (advS T (aF 77 ws_8)) := e_34.trans (congrArg (fun s => advS T s) hs_48)
          have hs_50 : aF 77 ws_35 = (unitD T 1 (advS T (aF 77 ws_8))) := e_38.trans (congrArg (fun s => unitD T 1 s) hs_49)
          have hs_51 : aF 77 ws_42 = (unitD T 1 (advS T (aF 77 ws_8))) := (aF_fr u_43 kSC_77 (by decide)).trans hs_50
          exact ih_11 v_45 _ _ _ _ (o62_55 b_14 b_15 hn_13 e_17 c_18 e_46) (o62_56 b_14 b_15 hn_13 e_17 c_18 e_46) (o62_57 b_14 b_15 hn_13 e_17 c_18 e_46) ((by rw [hs_51]; exact (lp_s (by omega) (by omega) (by omega) (by omega)).trans hSp)) h (Fr.tr (Fr.tr (Fr.tr (Fr.tr hF_9 (Fr.mono u_21 (by decide))) (Fr.mono u_32 (by decide))) u_36) (Fr.mono u_43 (by decide))) (lv_sub hl [0, 1, 2] rfl)
  have hs_52 : aF 77 ws_1 = (unitD T 1 (aF 77 ws0)) := e_4
  exact lp_10 ((900 - v_5.toInt + 1).toNat) v_5 _ _ _ _ (o62_58 e_6) (o62_59 e_6) (o62_60 e_6) ((by rw [show (900 - v_5.toInt).toNat = 900 by omega, hs_52]; rfl)) h Fr.rf (lv_sub hl [0, 1, 2] rfl)
set_option maxHeartbeats 4000000 in
set_option maxRecDepth 100000 in
theorem c_X5_truth_5S {T : Nat → Int} (l : Launch) (G : GG) (Z : RZ) (ad : Nat → Nat) (ws0 : va_W) (hT : Ty G (SC tt) ad ws0) (a1 : Int32) (l1 : 5 ≤ a1.toInt) (u1 : a1.toInt ≤ 5) (hTp : Tp T ws0) : Mq l yX5_truth cX5_truth 3 none 14 G Z [.ref (ad 77), .int a1] ws0 (PV G (SC tt) ad [2, 3, 16] ws0 (fun u => (aF 77 u = truthL T (unitD T 1) (aF 77 ws0)))) := by
  refine Mq.start (by decide) (Nat.le_of_ble_eq_true rfl) ?_
  intro p e s m below meth c A ls C0 hZ h hl
  have hl : lv_has ls 3 [(0, .ref (ad 77)), (1, .int a1)] := hl
  have h : Wt G (SC tt) ad A s s.heap [] ws0 := ⟨h, hT⟩
  obtain ⟨args, hargs⟩ : ∃ z, z = ([.ref (ad 77), .int a1] : List Value).toArray := ⟨_, rfl⟩
  rw [← hargs] at C0 ⊢
  have C0 : Cx p s m args meth c RX5 cX5_truth 3 none := C0
  obtain ⟨Q, hQ⟩ : ∃ z, z = MQ below ((PV G (SC tt) ad [2, 3, 16] ws0 (fun u => (aF 77 u = truthL T (unitD T 1) (aF 77 ws0)))) A) args s 0 0 A := ⟨_, rfl⟩
  rw [← hQ]
  refine lv_aload_n C0.1 C0.2.1 dX5_truth_0 rfl (lv_at hl 0 rfl) ?_
  refine lv_iload_n C0.1 C0.2.1 dX5_truth_1 rfl (lv_at hl 1 rfl) ?_
  refine y_cv h (y_rV (As := [.int a1]) (rest := []) C0 hZ h (c_X5_both_5S l G Z ad _ h.2 a1 (o62_69 l1 u1) (o62_70 l1 u1) hTp) k_X5_both q_847 q_20 q_845 kSC_77 rfl rfl rfl hl.1 rfl rfl (Nat.le_of_ble_eq_true rfl) dX5_truth_2 ⟨Nat.le_of_ble_eq_true rfl, Nat.le_of_ble_eq_true rfl⟩ ⟨Nat.le_of_ble_eq_true rfl, Nat.le_of_ble_eq_true rfl⟩) (fun H locs ws_1 h u_2 p_3 => ?_)
  have e_4 := p_3
  refine y_c1 (n := 0) C0 (by decide) dX5_truth_5 (fun v_5 e_6 => ?_)
  refine lv_istore_n (lv' := [(2, .int v_5), (0, .ref (ad 77)), (1, .int a1)]) C0.1 C0.2.1 dX5_truth_6 rfl hl (by decide) rfl (fun ls hl => ?_)
  have lp_10 : ∀ (n_12 : Nat) (x2_7 : Int32) (H : Heap) (locs : List Loc) (ls : Array Slot) (ws_8 : va_W), 900 - x2_7.toInt < (n_12 : Int) → 0 ≤ x2_7.toInt → x2_7.toInt ≤ 900 → (lpS (fun s => wI T 21 s = 1) (fun s => bothL T (unitD T 1) (advS T s)) (900 - x2_7.toInt).toNat (aF 77 ws_8) = truthL T (unitD T 1) (aF 77 ws0)) → Wt G (SC tt) ad A s H locs ws_8 → Fr (SC tt) [2, 3, 16] ws_1 ws_8 → lv_has ls 3 [(2, .int x2_7), (0, .ref (ad 77)), (1, .int a1)] → W p l e (rmd 14 0 0) s m args below meth c H locs 0 0 Q (F0 m 7 ls []) := by
    intro n_12
    induction n_12 with
    | zero => intro x2_7 H locs ls ws_8 hn_13 b_14 b_15 hSp h hF_9 hl; exact ((o62_52 b_14 b_15 hn_13)).elim
    | succ n_12 ih_11 =>
      intro x2_7 H locs ls ws_8 hn_13 b_14 b_15 hSp h hF_9 hl
      refine lv_iload_n C0.1 C0.2.1 dX5_truth_7 rfl (lv_at hl 0 rfl) ?_
      refine y_c3 (n := 900) C0 (by decide) dX5_truth_8 (fun v_16 e_17 => ?_)
      refine y_icmp_ge (tgt := 48) C0 dX5_truth_11 (by decide) (fun c_18 => ?_) (fun c_18 => ?_)
      · -- 11
        have hz_19 : (aF 77 ws_8) = lpS (fun s => wI T 21 s = 1) (fun s => bothL T (unitD T 1) (advS T s)) (900 - x2_7.toInt).toNat (aF 77 ws_8) := by first | (exfalso; omega) | exact (lp_0 (by omega)).symm | exact (lp_e (by omega)).symm
        rw [hQ]
        exact y_vret C0 h (Fr.tr u_2 hF_9) (Eq.trans rfl (Eq.trans hz_19 hSp)) dX5_truth_48
      · -- 11
        refine lv_aload_n C0.1 C0.2.1 dX5_truth_14 rfl (lv_at hl 1 rfl) ?_
        refine va_ldcS C0.1 C0.2.1 C0.2.2.2.1 (sr_21 hZ) dX5_truth_15 ?_
        refine y_ci h (y_rV (As := [.ref (Z.2.1 21)]) (rest := []) C0 hZ h (c_X5_isWordS l G Z ad _ h.2 21 (by decide) ((Tp.fr (M := [2, 3, 16]) hTp (Fr.tr u_2 hF_9) kSC_78 (by decide)))) k_X5_isWord q_724 q_5 q_722 kSC_77 rfl rfl rfl hl.1 rfl rfl (Nat.le_of_ble_eq_true rfl) dX5_truth_17 ⟨Nat.le_of_ble_eq_true rfl, Nat.le_of_ble_eq_true rfl⟩ ⟨Nat.le_of_ble_eq_true rfl, Nat.le_of_ble_eq_true rfl⟩) (fun r_23 H locs ws_20 h u_21 p_22 => ?_)
        obtain ⟨e_24, e_25, e_26⟩ := p_22
        refine y_if_eq (tgt := 48) C0 dX5_truth_20 (by decide) (fun c_27 => ?_) (fun c_27 => ?_)
        · -- 20
          have hq_28 := e_26
          have hs_29 : aF 77 ws_20 = (aF 77 ws_8) := (aF_fr u_21 kSC_77 (by decide))
          have hz_30 : (aF 77 ws_8) = lpS (fun s => wI T 21 s = 1) (fun s => bothL T (unitD T 1) (advS T s)) (900 - x2_7.toInt).toNat (aF 77 ws_8) := by first | (exfalso; omega) | exact (lp_0 (by omega)).symm | exact (lp_e (by omega)).symm
          rw [hQ]
          exact y_vret C0 h (Fr.tr (Fr.tr u_2 hF_9) (Fr.mono u_21 (by decide))) (Eq.trans hs_29 (Eq.trans hz_30 hSp)) dX5_truth_48
        · -- 20
          refine lv_aload_n C0.1 C0.2.1 dX5_truth_23 rfl (lv_at hl 1 rfl) ?_
          refine y_cv h (y_rV (As := []) (rest := []) C0 hZ h (c_X5_advanceS l G Z ad _ h.2 ((Tp.fr (M := [2, 3, 16]) hTp (Fr.tr (Fr.tr u_2 hF_9) (Fr.mono u_21 (by decide))) kSC_78 (by decide)))) k_X5_advance q_616 q_0 q_614 kSC_77 rfl rfl rfl hl.1 rfl rfl (Nat.le_of_ble_eq_true rfl) dX5_truth_24 ⟨Nat.le_of_ble_eq_true rfl, Nat.le_of_ble_eq_true rfl⟩ ⟨Nat.le_of_ble_eq_true rfl, Nat.le_of_ble_eq_true rfl⟩) (fun H locs ws_31 h u_32 p_33 => ?_)
          have e_34 := p_33
          refine lv_aload_n C0.1 C0.2.1 dX5_truth_27 rfl (lv_at hl 1 rfl) ?_
          refine lv_iload_n C0.1 C0.2.1 dX5_truth_28 rfl (lv_at hl 2 rfl) ?_
          refine y_cv h (y_rV (As := [.int a1]) (rest := []) C0 hZ h (c_X5_both_5S l G Z ad _ h.2 a1 (o62_69 l1 u1) (o62_70 l1 u1) ((Tp.fr (M := [2, 3, 16]) hTp (Fr.tr (Fr.tr (Fr.tr u_2 hF_9) (Fr.mono u_21 (by decide))) (Fr.mono u_32 (by decide))) kSC_78 (by decide)))) k_X5_both q_847 q_20 q_845 kSC_77 rfl rfl rfl hl.1 rfl rfl (Nat.le_of_ble_eq_true rfl) dX5_truth_29 ⟨Nat.le_of_ble_eq_true rfl, Nat.le_of_ble_eq_true rfl⟩ ⟨Nat.le_of_ble_eq_true rfl, Nat.le_of_ble_eq_true rfl⟩) (fun H locs ws_35 h u_36 p_37 => ?_)
          have e_38 := p_37
          refine lv_aload_n C0.1 C0.2.1 dX5_truth_32 rfl (lv_at hl 1 rfl) ?_
          refine tg_X5_law C0 h kSC_77 q_380 dX5_truth_33 (fun i_39 hi_39 => ?_)
          refine y_c3 (n := 2007) C0 (by decide) dX5_truth_36 (fun v_40 e_41 => ?_)
          refine y_cv h (y_rV (As := [.int v_40]) (rest := []) C0 hZ h (c_X4_add l G Z ad _ h.2 i_39 hi_39 v_40) k_X4_add q_827 q_828 q_826 hi_39 rfl rfl rfl hl.1 rfl rfl (Nat.le_of_ble_eq_true rfl) dX5_truth_39 ⟨Nat.le_of_ble_eq_true rfl, Nat.le_of_ble_eq_true rfl⟩ ⟨Nat.le_of_ble_eq_true rfl, Nat.le_of_ble_eq_true rfl⟩) (fun H locs ws_42 h u_43 p_44 => ?_)
          refine y_inc (kp := 0) (n := 1) (fun v_45 => [(2, .int v_45), (0, .ref (ad 77)), (1, .int a1)]) C0 hl rfl (by decide) (by decide) (fun _ => rfl) (o62_53 b_14 b_15 hn_13 e_17 c_18 (le_min x2_7) (le_max x2_7) (le_min v_16) (le_max v_16)) (o62_54 b_14 b_15 hn_13 e_17 c_18 (le_min x2_7) (le_max x2_7) (le_min v_16) (le_max v_16)) dX5_truth_42 (fun v_45 ls e_46 hl => ?_)
          refine lv_goto (tgt := 7) C0.1 C0.2.1 dX5_truth_45 (by decide) ?_
          have hq_47 := e_26
          have hs_48 : aF 77 ws_20 = (aF 77 ws_8) := (aF_fr u_21 kSC_77 (by decide))
          have hs_49 : aF 77 ws_31 = (advS T (aF 77 ws_8)) := e_34.trans (congrArg (fun s => advS T s) hs_48)
          have hs_50 : aF 77 ws_35 = (bothL T (unitD T 1) (advS T (aF 77 ws_8))) := e_38.trans (congrArg (fun s => bothL T (unitD T 1) s) hs_49)
          have hs_51 : aF 77 ws_42 = (bothL T (unitD T 1) (advS T (aF 77 ws_8))) := (aF_fr u_43 kSC_77 (by decide)).trans hs_50
          exact ih_11 v_45 _ _ _ _ (o62_55 b_14 b_15 hn_13 e_17 c_18 e_46) (o62_56 b_14 b_15 hn_13 e_17 c_18 e_46) (o62_57 b_14 b_15 hn_13 e_17 c_18 e_46) ((by rw [hs_51]; exact (lp_s (by omega) (by omega) (by omega) (by omega)).trans hSp)) h (Fr.tr (Fr.tr (Fr.tr (Fr.tr hF_9 (Fr.mono u_21 (by decide))) (Fr.mono u_32 (by decide))) u_36) (Fr.mono u_43 (by decide))) (lv_sub hl [0, 1, 2] rfl)
  have hs_52 : aF 77 ws_1 = (bothL T (unitD T 1) (aF 77 ws0)) := e_4
  exact lp_10 ((900 - v_5.toInt + 1).toNat) v_5 _ _ _ _ (o62_58 e_6) (o62_59 e_6) (o62_60 e_6) ((by rw [show (900 - v_5.toInt).toNat = 900 by omega, hs_52]; rfl)) h Fr.rf (lv_sub hl [0, 1, 2] rfl)
set_option maxHeartbeats 4000000 in
set_option maxRecDepth 100000 in
theorem c_X5_tooDeep_4S (l : Launch) (G : GG) (Z : RZ) (ad : Nat → Nat) (ws0 : va_W) (hT : Ty G (SC tt) ad ws0) (a1 : Int32) (l1 : 4 ≤ a1.toInt) (u1 : a1.toInt ≤ 4) : Mq l yX5_tooDeep cX5_tooDeep 2 (some .boolean) 1 G Z [.ref (ad 77), .int a1] ws0 (PI G (SC tt) ad [] ws0 (fun r u => (0 ≤ r.toInt) ∧ (r.toInt ≤ 0) ∧ (aF 77 u = (fun s => s) (aF 77 ws0)))) := by
  refine Mq.start (by decide) (Nat.le_of_ble_eq_true rfl) ?_
  intro p e s m below meth c A ls C0 hZ h hl
  have hl : lv_has ls 2 [(0, .ref (ad 77)), (1, .int a1)] := hl
  have h : Wt G (SC tt) ad A s s.heap [] ws0 := ⟨h, hT⟩
  obtain ⟨args, hargs⟩ : ∃ z, z = ([.ref (ad 77), .int a1] : List Value).toArray := ⟨_, rfl⟩
  rw [← hargs] at C0 ⊢
  have C0 : Cx p s m args meth c RX5 cX5_tooDeep 2 (some .boolean) := C0
  obtain ⟨Q, hQ⟩ : ∃ z, z = MQ below ((PI G (SC tt) ad [] ws0 (fun r u => (0 ≤ r.toInt) ∧ (r.toInt ≤ 0) ∧ (aF 77 u = (fun s => s) (aF 77 ws0)))) A) args s 0 0 A := ⟨_, rfl⟩
  rw [← hQ]
  refine lv_iload_n C0.1 C0.2.1 dX5_tooDeep_0 rfl (lv_at hl 1 rfl) ?_
  refine y_c2 (n := 6) C0 (by decide) dX5_tooDeep_1 (fun v_1 e_2 => ?_)
  refine y_icmp_lt (tgt := 13) C0 dX5_tooDeep_3 (by decide) (fun c_3 => ?_) (fun c_3 => ((o62_82 l1 u1 e_2 c_3)).elim)
  refine y_c1 (n := 0) C0 (by decide) dX5_tooDeep_13 (fun v_4 e_5 => ?_)
  have hz_6 : (aF 77 ws0) = (fun s => s) (aF 77 ws0) := by rfl
  rw [hQ]
  exact y_zret C0 h (o62_59 e_5) (o62_68 e_5) Fr.rf ⟨(o62_59 e_5), (o62_67 e_5), (Eq.trans rfl hz_6)⟩ dX5_tooDeep_14
set_option maxHeartbeats 4000000 in
set_option maxRecDepth 100000 in
theorem c_X5_atom_4S {T : Nat → Int} (l : Launch) (G : GG) (Z : RZ) (ad : Nat → Nat) (ws0 : va_W) (hT : Ty G (SC tt) ad ws0) (a1 : Int32) (l1 : 4 ≤ a1.toInt) (u1 : a1.toInt ≤ 4) (hTp : Tp T ws0) : Mq l yX5_atom cX5_atom 3 none 12 G Z [.ref (ad 77), .int a1] ws0 (PV G (SC tt) ad [2, 3, 16] ws0 (fun u => (aF 77 u = atomD T 2 (aF 77 ws0)))) := by
  refine Mq.start (by decide) (Nat.le_of_ble_eq_true rfl) ?_
  intro p e s m below meth c A ls C0 hZ h hl
  have hl : lv_has ls 3 [(0, .ref (ad 77)), (1, .int a1)] := hl
  have h : Wt G (SC tt) ad A s s.heap [] ws0 := ⟨h, hT⟩
  obtain ⟨args, hargs⟩ : ∃ z, z = ([.ref (ad 77), .int a1] : List Value).toArray := ⟨_, rfl⟩
  rw [← hargs] at C0 ⊢
  have C0 : Cx p s m args meth c RX5 cX5_atom 3 none := C0
  obtain ⟨Q, hQ⟩ : ∃ z, z = MQ below ((PV G (SC tt) ad [2, 3, 16] ws0 (fun u => (aF 77 u = atomD T 2 (aF 77 ws0)))) A) args s 0 0 A := ⟨_, rfl⟩
  rw [← hQ]
  refine lv_aload_n C0.1 C0.2.1 dX5_atom_0 rfl (lv_at hl 0 rfl) ?_
  refine tg_X5_kind C0 h kSC_77 q_374 dX5_atom_1 (fun v_1 e_2 e_3 e_4 => ?_)
  refine y_c1 (n := 2) C0 (by decide) dX5_atom_4 (fun v_5 e_6 => ?_)
  refine y_icmp_ne (tgt := 26) C0 dX5_atom_5 (by decide) (fun c_7 => ?_) (fun c_7 => ?_)
  · -- 5
    refine lv_aload_n C0.1 C0.2.1 dX5_atom_26 rfl (lv_at hl 0 rfl) ?_
    refine tg_X5_kind C0 h kSC_77 q_374 dX5_atom_27 (fun v_8 e_9 e_10 e_11 => ?_)
    have q_12 : v_8.toInt = v_1.toInt := congrArg Int32.toInt (e_9.symm.trans (Eq.trans rfl e_2))
    refine y_c2 (n := 40) C0 (by decide) dX5_atom_30 (fun v_13 e_14 => ?_)
    refine y_icmp_ne (tgt := 63) C0 dX5_atom_32 (by decide) (fun c_15 => ?_) (fun c_15 => ?_)
    · -- 32
      refine lv_aload_n C0.1 C0.2.1 dX5_atom_63 rfl (lv_at hl 0 rfl) ?_
      refine va_ldcS C0.1 C0.2.1 C0.2.2.2.1 (sr_12 hZ) dX5_atom_64 ?_
      refine y_ci h (y_rV (As := [.ref (Z.2.1 12)]) (rest := []) C0 hZ h (c_X5_isWordS l G Z ad _ h.2 12 (by decide) hTp) k_X5_isWord q_724 q_5 q_722 kSC_77 rfl rfl rfl hl.1 rfl rfl (Nat.le_of_ble_eq_true rfl) dX5_atom_66 ⟨Nat.le_of_ble_eq_true rfl, Nat.le_of_ble_eq_true rfl⟩ ⟨Nat.le_of_ble_eq_true rfl, Nat.le_of_ble_eq_true rfl⟩) (fun r_19 H locs ws_16 h u_17 p_18 => ?_)
      obtain ⟨e_20, e_21, e_22⟩ := p_18
      refine y_if_eq (tgt := 78) C0 dX5_atom_69 (by decide) (fun c_23 => ?_) (fun c_23 => ?_)
      · -- 69
        refine lv_aload_n C0.1 C0.2.1 dX5_atom_78 rfl (lv_at hl 0 rfl) ?_
        refine va_ldcS C0.1 C0.2.1 C0.2.2.2.1 (sr_13 hZ) dX5_atom_79 ?_
        refine y_ci h (y_rV (As := [.ref (Z.2.1 13)]) (rest := []) C0 hZ h (c_X5_isWordS l G Z ad _ h.2 13 (by decide) ((Tp.fr (M := []) hTp u_17 kSC_78 (by decide)))) k_X5_isWord q_724 q_5 q_722 kSC_77 rfl rfl rfl hl.1 rfl rfl (Nat.le_of_ble_eq_true rfl) dX5_atom_81 ⟨Nat.le_of_ble_eq_true rfl, Nat.le_of_ble_eq_true rfl⟩ ⟨Nat.le_of_ble_eq_true rfl, Nat.le_of_ble_eq_true rfl⟩) (fun r_27 H locs ws_24 h u_25 p_26 => ?_)
        obtain ⟨e_28, e_29, e_30⟩ := p_26
        refine y_if_eq (tgt := 93) C0 dX5_atom_84 (by decide) (fun c_31 => ?_) (fun c_31 => ?_)
        · -- 84
          refine lv_aload_n C0.1 C0.2.1 dX5_atom_93 rfl (lv_at hl 0 rfl) ?_
          refine va_ldcS C0.1 C0.2.1 C0.2.2.2.1 (sr_14 hZ) dX5_atom_94 ?_
          refine y_ci h (y_rV (As := [.ref (Z.2.1 14)]) (rest := []) C0 hZ h (c_X5_isWordS l G Z ad _ h.2 14 (by decide) ((Tp.fr (M := []) hTp (Fr.tr u_17 u_25) kSC_78 (by decide)))) k_X5_isWord q_724 q_5 q_722 kSC_77 rfl rfl rfl hl.1 rfl rfl (Nat.le_of_ble_eq_true rfl) dX5_atom_96 ⟨Nat.le_of_ble_eq_true rfl, Nat.le_of_ble_eq_true rfl⟩ ⟨Nat.le_of_ble_eq_true rfl, Nat.le_of_ble_eq_true rfl⟩) (fun r_35 H locs ws_32 h u_33 p_34 => ?_)
          obtain ⟨e_36, e_37, e_38⟩ := p_34
          refine y_if_eq (tgt := 108) C0 dX5_atom_99 (by decide) (fun c_39 => ?_) (fun c_39 => ?_)
          · -- 99
            refine lv_aload_n C0.1 C0.2.1 dX5_atom_108 rfl (lv_at hl 0 rfl) ?_
            refine va_ldcS C0.1 C0.2.1 C0.2.2.2.1 (sr_15 hZ) dX5_atom_109 ?_
            refine y_ci h (y_rV (As := [.ref (Z.2.1 15)]) (rest := []) C0 hZ h (c_X5_isWordS l G Z ad _ h.2 15 (by decide) ((Tp.fr (M := []) hTp (Fr.tr (Fr.tr u_17 u_25) u_33) kSC_78 (by decide)))) k_X5_isWord q_724 q_5 q_722 kSC_77 rfl rfl rfl hl.1 rfl rfl (Nat.le_of_ble_eq_true rfl) dX5_atom_111 ⟨Nat.le_of_ble_eq_true rfl, Nat.le_of_ble_eq_true rfl⟩ ⟨Nat.le_of_ble_eq_true rfl, Nat.le_of_ble_eq_true rfl⟩) (fun r_43 H locs ws_40 h u_41 p_42 => ?_)
            obtain ⟨e_44, e_45, e_46⟩ := p_42
            refine y_if_eq (tgt := 123) C0 dX5_atom_114 (by decide) (fun c_47 => ?_) (fun c_47 => ?_)
            · -- 114
              refine lv_aload_n C0.1 C0.2.1 dX5_atom_123 rfl (lv_at hl 0 rfl) ?_
              refine va_ldcS C0.1 C0.2.1 C0.2.2.2.1 (sr_16 hZ) dX5_atom_124 ?_
              refine y_ci h (y_rV (As := [.ref (Z.2.1 16)]) (rest := []) C0 hZ h (c_X5_isWordS l G Z ad _ h.2 16 (by decide) ((Tp.fr (M := []) hTp (Fr.tr (Fr.tr (Fr.tr u_17 u_25) u_33) u_41) kSC_78 (by decide)))) k_X5_isWord q_724 q_5 q_722 kSC_77 rfl rfl rfl hl.1 rfl rfl (Nat.le_of_ble_eq_true rfl) dX5_atom_126 ⟨Nat.le_of_ble_eq_true rfl, Nat.le_of_ble_eq_true rfl⟩ ⟨Nat.le_of_ble_eq_true rfl, Nat.le_of_ble_eq_true rfl⟩) (fun r_51 H locs ws_48 h u_49 p_50 => ?_)
              obtain ⟨e_52, e_53, e_54⟩ := p_50
              refine y_if_eq (tgt := 138) C0 dX5_atom_129 (by decide) (fun c_55 => ?_) (fun c_55 => ?_)
              · -- 129
                refine lv_aload_n C0.1 C0.2.1 dX5_atom_138 rfl (lv_at hl 0 rfl) ?_
                refine va_ldcS C0.1 C0.2.1 C0.2.2.2.1 (sr_17 hZ) dX5_atom_139 ?_
                refine y_ci h (y_rV (As := [.ref (Z.2.1 17)]) (rest := []) C0 hZ h (c_X5_isWordS l G Z ad _ h.2 17 (by decide) ((Tp.fr (M := []) hTp (Fr.tr (Fr.tr (Fr.tr (Fr.tr u_17 u_25) u_33) u_41) u_49) kSC_78 (by decide)))) k_X5_isWord q_724 q_5 q_722 kSC_77 rfl rfl rfl hl.1 rfl rfl (Nat.le_of_ble_eq_true rfl) dX5_atom_141 ⟨Nat.le_of_ble_eq_true rfl, Nat.le_of_ble_eq_true rfl⟩ ⟨Nat.le_of_ble_eq_true rfl, Nat.le_of_ble_eq_true rfl⟩) (fun r_59 H locs ws_56 h u_57 p_58 => ?_)
                obtain ⟨e_60, e_61, e_62⟩ := p_58
                refine y_if_eq (tgt := 153) C0 dX5_atom_144 (by decide) (fun c_63 => ?_) (fun c_63 => ?_)
                · -- 144
                  refine y_c1 (n := (-1)) C0 (by decide) dX5_atom_153 (fun v_64 e_65 => ?_)
                  refine lv_istore_n (lv' := [(2, .int v_64), (0, .ref (ad 77)), (1, .int a1)]) C0.1 C0.2.1 dX5_atom_154 rfl hl (by decide) rfl (fun ls hl => ?_)
                  refine lv_iload_n C0.1 C0.2.1 dX5_atom_155 rfl (lv_at hl 0 rfl) ?_
                  refine y_if_ge (tgt := 165) C0 dX5_atom_156 (by decide) (fun c_66 => ((o62_42 e_65 c_66)).elim) (fun c_66 => ?_)
                  refine lv_aload_n C0.1 C0.2.1 dX5_atom_159 rfl (lv_at hl 1 rfl) ?_
                  refine y_c1 (n := 2) C0 (by decide) dX5_atom_160 (fun v_67 e_68 => ?_)
                  refine y_cv h (y_rV (As := [.int v_67]) (rest := []) C0 hZ h (c_X5_failS l G Z ad _ h.2 v_67) k_X5_fail q_628 q_3 q_626 kSC_77 rfl rfl rfl hl.1 rfl rfl (Nat.le_of_ble_eq_true rfl) dX5_atom_161 ⟨Nat.le_of_ble_eq_true rfl, Nat.le_of_ble_eq_true rfl⟩ ⟨Nat.le_of_ble_eq_true rfl, Nat.le_of_ble_eq_true rfl⟩) (fun H locs ws_69 h u_70 p_71 => ?_)
                  have e_72 := p_71
                  have hv_73 : (aF 77 ws0) 4 = v_1.toInt := (aF_at (by decide) e_2)
                  have hv_74 : (aF 77 ws0) 4 = v_8.toInt := (aF_at (by decide) e_9)
                  have hq_75 := e_22
                  have hs_76 : aF 77 ws_16 = (aF 77 ws0) := (aF_fr u_17 kSC_77 (by decide))
                  have hq_77 := e_30
                  rw [hs_76] at hq_77
                  have hs_78 : aF 77 ws_24 = (aF 77 ws0) := (aF_fr u_25 kSC_77 (by decide)).trans hs_76
                  have hq_79 := e_38
                  rw [hs_78] at hq_79
                  have hs_80 : aF 77 ws_32 = (aF 77 ws0) := (aF_fr u_33 kSC_77 (by decide)).trans hs_78
                  have hq_81 := e_46
                  rw [hs_80] at hq_81
                  have hs_82 : aF 77 ws_40 = (aF 77 ws0) := (aF_fr u_41 kSC_77 (by decide)).trans hs_80
                  have hq_83 := e_54
                  rw [hs_82] at hq_83
                  have hs_84 : aF 77 ws_48 = (aF 77 ws0) := (aF_fr u_49 kSC_77 (by decide)).trans hs_82
                  have hq_85 := e_62
                  rw [hs_84] at hq_85
                  have hs_86 : aF 77 ws_56 = (aF 77 ws0) := (aF_fr u_57 kSC_77 (by decide)).trans hs_84
                  have hs_87 : aF 77 ws_69 = (failS 2 (aF 77 ws0)) := e_72.trans ((congrArg (fun s => failS v_67.toInt s) hs_86).trans (by rw [(o62_1 e_68)]))
                  have hz_88 : (failS 2 (aF 77 ws0)) = atomD T 2 (aF 77 ws0) := by rw [atomD_2]; unfold atomF; (repeat' split) <;> first | rfl | (exfalso; omega)
                  rw [hQ]
                  exact y_vret C0 h (Fr.tr (Fr.tr (Fr.tr (Fr.tr (Fr.tr (Fr.tr (Fr.mono u_17 (by decide)) (Fr.mono u_25 (by decide))) (Fr.mono u_33 (by decide))) (Fr.mono u_41 (by decide))) (Fr.mono u_49 (by decide))) (Fr.mono u_57 (by decide))) (Fr.mono u_70 (by decide))) (Eq.trans hs_87 hz_88) dX5_atom_164
                · -- 144
                  refine y_c3 (n := 1005) C0 (by decide) dX5_atom_147 (fun v_89 e_90 => ?_)
                  refine lv_goto (tgt := 154) C0.1 C0.2.1 dX5_atom_150 (by decide) ?_
                  refine lv_istore_n (lv' := [(2, .int v_89), (0, .ref (ad 77)), (1, .int a1)]) C0.1 C0.2.1 dX5_atom_154 rfl hl (by decide) rfl (fun ls hl => ?_)
                  refine lv_iload_n C0.1 C0.2.1 dX5_atom_155 rfl (lv_at hl 0 rfl) ?_
                  refine y_if_ge (tgt := 165) C0 dX5_atom_156 (by decide) (fun c_91 => ?_) (fun c_91 => ((o62_43 e_90 c_91)).elim)
                  refine lv_aload_n C0.1 C0.2.1 dX5_atom_165 rfl (lv_at hl 1 rfl) ?_
                  refine tg_X5_law C0 h kSC_77 q_380 dX5_atom_166 (fun i_92 hi_92 => ?_)
                  refine lv_iload_n C0.1 C0.2.1 dX5_atom_169 rfl (lv_at hl 0 rfl) ?_
                  refine y_cv h (y_rV (As := [.int v_89]) (rest := []) C0 hZ h (c_X4_add l G Z ad _ h.2 i_92 hi_92 v_89) k_X4_add q_827 q_828 q_826 hi_92 rfl rfl rfl hl.1 rfl rfl (Nat.le_of_ble_eq_true rfl) dX5_atom_170 ⟨Nat.le_of_ble_eq_true rfl, Nat.le_of_ble_eq_true rfl⟩ ⟨Nat.le_of_ble_eq_true rfl, Nat.le_of_ble_eq_true rfl⟩) (fun H locs ws_93 h u_94 p_95 => ?_)
                  refine lv_aload_n C0.1 C0.2.1 dX5_atom_173 rfl (lv_at hl 1 rfl) ?_
                  refine y_cv h (y_rV (As := []) (rest := []) C0 hZ h (c_X5_advanceS l G Z ad _ h.2 ((Tp.fr (M := [2, 3]) hTp (Fr.tr (Fr.tr (Fr.tr (Fr.tr (Fr.tr (Fr.tr (Fr.mono u_17 (by decide)) (Fr.mono u_25 (by decide))) (Fr.mono u_33 (by decide))) (Fr.mono u_41 (by decide))) (Fr.mono u_49 (by decide))) (Fr.mono u_57 (by decide))) u_94) kSC_78 (by decide)))) k_X5_advance q_616 q_0 q_614 kSC_77 rfl rfl rfl hl.1 rfl rfl (Nat.le_of_ble_eq_true rfl) dX5_atom_174 ⟨Nat.le_of_ble_eq_true rfl, Nat.le_of_ble_eq_true rfl⟩ ⟨Nat.le_of_ble_eq_true rfl, Nat.le_of_ble_eq_true rfl⟩) (fun H locs ws_96 h u_97 p_98 => ?_)
                  have e_99 := p_98
                  have hv_100 : (aF 77 ws0) 4 = v_1.toInt := (aF_at (by decide) e_2)
                  have hv_101 : (aF 77 ws0) 4 = v_8.toInt := (aF_at (by decide) e_9)
                  have hq_102 := e_22
                  have hs_103 : aF 77 ws_16 = (aF 77 ws0) := (aF_fr u_17 kSC_77 (by decide))
                  have hq_104 := e_30
                  rw [hs_103] at hq_104
                  have hs_105 : aF 77 ws_24 = (aF 77 ws0) := (aF_fr u_25 kSC_77 (by decide)).trans hs_103
                  have hq_106 := e_38
                  rw [hs_105] at hq_106
                  have hs_107 : aF 77 ws_32 = (aF 77 ws0) := (aF_fr u_33 kSC_77 (by decide)).trans hs_105
                  have hq_108 := e_46
                  rw [hs_107] at hq_108
                  have hs_109 : aF 77 ws_40 = (aF 77 ws0) := (aF_fr u_41 kSC_77 (by decide)).trans hs_107
                  have hq_110 := e_54
                  rw [hs_109] at hq_110
                  have hs_111 : aF 77 ws_48 = (aF 77 ws0) := (aF_fr u_49 kSC_77 (by decide)).trans hs_109
                  have hq_112 := e_62
                  rw [hs_111] at hq_112
                  have hs_113 : aF 77 ws_56 = (aF 77 ws0) := (aF_fr u_57 kSC_77 (by decide)).trans hs_111
                  have hs_114 : aF 77 ws_93 = (aF 77 ws0) := (aF_fr u_94 kSC_77 (by decide)).trans hs_113
                  have hs_115 : aF 77 ws_96 = (advS T (aF 77 ws0)) := e_99.trans (congrArg (fun s => advS T s) hs_114)
                  have hz_116 : (advS T (aF 77 ws0)) = atomD T 2 (aF 77 ws0) := by rw [atomD_2]; unfold atomF; (repeat' split) <;> first | rfl | (exfalso; omega)
                  rw [hQ]
                  exact y_vret C0 h (Fr.tr (Fr.tr (Fr.tr (Fr.tr (Fr.tr (Fr.tr (Fr.tr (Fr.mono u_17 (by decide)) (Fr.mono u_25 (by decide))) (Fr.mono u_33 (by decide))) (Fr.mono u_41 (by decide))) (Fr.mono u_49 (by decide))) (Fr.mono u_57 (by decide))) (Fr.mono u_94 (by decide))) (Fr.mono u_97 (by decide))) (Eq.trans hs_115 hz_116) dX5_atom_177
              · -- 129
                refine y_c3 (n := 1004) C0 (by decide) dX5_atom_132 (fun v_117 e_118 => ?_)
                refine lv_goto (tgt := 154) C0.1 C0.2.1 dX5_atom_135 (by decide) ?_
                refine lv_istore_n (lv' := [(2, .int v_117), (0, .ref (ad 77)), (1, .int a1)]) C0.1 C0.2.1 dX5_atom_154 rfl hl (by decide) rfl (fun ls hl => ?_)
                refine lv_iload_n C0.1 C0.2.1 dX5_atom_155 rfl (lv_at hl 0 rfl) ?_
                refine y_if_ge (tgt := 165) C0 dX5_atom_156 (by decide) (fun c_119 => ?_) (fun c_119 => ((o62_44 e_118 c_119)).elim)
                refine lv_aload_n C0.1 C0.2.1 dX5_atom_165 rfl (lv_at hl 1 rfl) ?_
                refine tg_X5_law C0 h kSC_77 q_380 dX5_atom_166 (fun i_120 hi_120 => ?_)
                refine lv_iload_n C0.1 C0.2.1 dX5_atom_169 rfl (lv_at hl 0 rfl) ?_
                refine y_cv h (y_rV (As := [.int v_117]) (rest := []) C0 hZ h (c_X4_add l G Z ad _ h.2 i_120 hi_120 v_117) k_X4_add q_827 q_828 q_826 hi_120 rfl rfl rfl hl.1 rfl rfl (Nat.le_of_ble_eq_true rfl) dX5_atom_170 ⟨Nat.le_of_ble_eq_true rfl, Nat.le_of_ble_eq_true rfl⟩ ⟨Nat.le_of_ble_eq_true rfl, Nat.le_of_ble_eq_true rfl⟩) (fun H locs ws_121 h u_122 p_123 => ?_)
                refine lv_aload_n C0.1 C0.2.1 dX5_atom_173 rfl (lv_at hl 1 rfl) ?_
                refine y_cv h (y_rV (As := []) (rest := []) C0 hZ h (c_X5_advanceS l G Z ad _ h.2 ((Tp.fr (M := [2, 3]) hTp (Fr.tr (Fr.tr (Fr.tr (Fr.tr (Fr.tr (Fr.mono u_17 (by decide)) (Fr.mono u_25 (by decide))) (Fr.mono u_33 (by decide))) (Fr.mono u_41 (by decide))) (Fr.mono u_49 (by decide))) u_122) kSC_78 (by decide)))) k_X5_advance q_616 q_0 q_614 kSC_77 rfl rfl rfl hl.1 rfl rfl (Nat.le_of_ble_eq_true rfl) dX5_atom_174 ⟨Nat.le_of_ble_eq_true rfl, Nat.le_of_ble_eq_true rfl⟩ ⟨Nat.le_of_ble_eq_true rfl, Nat.le_of_ble_eq_true rfl⟩) (fun H locs ws_124 h u_125 p_126 => ?_)
                have e_127 := p_126
                have hv_128 : (aF 77 ws0) 4 = v_1.toInt := (aF_at (by decide) e_2)
                have hv_129 : (aF 77 ws0) 4 = v_8.toInt := (aF_at (by decide) e_9)
                have hq_130 := e_22
                have hs_131 : aF 77 ws_16 = (aF 77 ws0) := (aF_fr u_17 kSC_77 (by decide))
                have hq_132 := e_30
                rw [hs_131] at hq_132
                have hs_133 : aF 77 ws_24 = (aF 77 ws0) := (aF_fr u_25 kSC_77 (by decide)).trans hs_131
                have hq_134 := e_38
                rw [hs_133] at hq_134
                have hs_135 : aF 77 ws_32 = (aF 77 ws0) := (aF_fr u_33 kSC_77 (by decide)).trans hs_133
                have hq_136 := e_46
                rw [hs_135] at hq_136
                have hs_137 : aF 77 ws_40 = (aF 77 ws0) := (aF_fr u_41 kSC_77 (by decide)).trans hs_135
                have hq_138 := e_54
                rw [hs_137] at hq_138
                have hs_139 : aF 77 ws_48 = (aF 77 ws0) := (aF_fr u_49 kSC_77 (by decide)).trans hs_137
                have hs_140 : aF 77 ws_121 = (aF 77 ws0) := (aF_fr u_122 kSC_77 (by decide)).trans hs_139
                have hs_141 : aF 77 ws_124 = (advS T (aF 77 ws0)) := e_127.trans (congrArg (fun s => advS T s) hs_140)
                have hz_142 : (advS T (aF 77 ws0)) = atomD T 2 (aF 77 ws0) := by rw [atomD_2]; unfold atomF; (repeat' split) <;> first | rfl | (exfalso; omega)
                rw [hQ]
                exact y_vret C0 h (Fr.tr (Fr.tr (Fr.tr (Fr.tr (Fr.tr (Fr.tr (Fr.mono u_17 (by decide)) (Fr.mono u_25 (by decide))) (Fr.mono u_33 (by decide))) (Fr.mono u_41 (by decide))) (Fr.mono u_49 (by decide))) (Fr.mono u_122 (by decide))) (Fr.mono u_125 (by decide))) (Eq.trans hs_141 hz_142) dX5_atom_177
            · -- 114
              refine y_c3 (n := 1003) C0 (by decide) dX5_atom_117 (fun v_143 e_144 => ?_)
              refine lv_goto (tgt := 154) C0.1 C0.2.1 dX5_atom_120 (by decide) ?_
              refine lv_istore_n (lv' := [(2, .int v_143), (0, .ref (ad 77)), (1, .int a1)]) C0.1 C0.2.1 dX5_atom_154 rfl hl (by decide) rfl (fun ls hl => ?_)
              refine lv_iload_n C0.1 C0.2.1 dX5_atom_155 rfl (lv_at hl 0 rfl) ?_
              refine y_if_ge (tgt := 165) C0 dX5_atom_156 (by decide) (fun c_145 => ?_) (fun c_145 => ((o62_45 e_144 c_145)).elim)
              refine lv_aload_n C0.1 C0.2.1 dX5_atom_165 rfl (lv_at hl 1 rfl) ?_
              refine tg_X5_law C0 h kSC_77 q_380 dX5_atom_166 (fun i_146 hi_146 => ?_)
              refine lv_iload_n C0.1 C0.2.1 dX5_atom_169 rfl (lv_at hl 0 rfl) ?_
              refine y_cv h (y_rV (As := [.int v_143]) (rest := []) C0 hZ h (c_X4_add l G Z ad _ h.2 i_146 hi_146 v_143) k_X4_add q_827 q_828 q_826 hi_146 rfl rfl rfl hl.1 rfl rfl (Nat.le_of_ble_eq_true rfl) dX5_atom_170 ⟨Nat.le_of_ble_eq_true rfl, Nat.le_of_ble_eq_true rfl⟩ ⟨Nat.le_of_ble_eq_true rfl, Nat.le_of_ble_eq_true rfl⟩) (fun H locs ws_147 h u_148 p_149 => ?_)
              refine lv_aload_n C0.1 C0.2.1 dX5_atom_173 rfl (lv_at hl 1 rfl) ?_
              refine y_cv h (y_rV (As := []) (rest := []) C0 hZ h (c_X5_advanceS l G Z ad _ h.2 ((Tp.fr (M := [2, 3]) hTp (Fr.tr (Fr.tr (Fr.tr (Fr.tr (Fr.mono u_17 (by decide)) (Fr.mono u_25 (by decide))) (Fr.mono u_33 (by decide))) (Fr.mono u_41 (by decide))) u_148) kSC_78 (by decide)))) k_X5_advance q_616 q_0 q_614 kSC_77 rfl rfl rfl hl.1 rfl rfl (Nat.le_of_ble_eq_true rfl) dX5_atom_174 ⟨Nat.le_of_ble_eq_true rfl, Nat.le_of_ble_eq_true rfl⟩ ⟨Nat.le_of_ble_eq_true rfl, Nat.le_of_ble_eq_true rfl⟩) (fun H locs ws_150 h u_151 p_152 => ?_)
              have e_153 := p_152
              have hv_154 : (aF 77 ws0) 4 = v_1.toInt := (aF_at (by decide) e_2)
              have hv_155 : (aF 77 ws0) 4 = v_8.toInt := (aF_at (by decide) e_9)
              have hq_156 := e_22
              have hs_157 : aF 77 ws_16 = (aF 77 ws0) := (aF_fr u_17 kSC_77 (by decide))
              have hq_158 := e_30
              rw [hs_157] at hq_158
              have hs_159 : aF 77 ws_24 = (aF 77 ws0) := (aF_fr u_25 kSC_77 (by decide)).trans hs_157
              have hq_160 := e_38
              rw [hs_159] at hq_160
              have hs_161 : aF 77 ws_32 = (aF 77 ws0) := (aF_fr u_33 kSC_77 (by decide)).trans hs_159
              have hq_162 := e_46
              rw [hs_161] at hq_162
              have hs_163 : aF 77 ws_40 = (aF 77 ws0) := (aF_fr u_41 kSC_77 (by decide)).trans hs_161
              have hs_164 : aF 77 ws_147 = (aF 77 ws0) := (aF_fr u_148 kSC_77 (by decide)).trans hs_163
              have hs_165 : aF 77 ws_150 = (advS T (aF 77 ws0)) := e_153.trans (congrArg (fun s => advS T s) hs_164)
              have hz_166 : (advS T (aF 77 ws0)) = atomD T 2 (aF 77 ws0) := by rw [atomD_2]; unfold atomF; (repeat' split) <;> first | rfl | (exfalso; omega)
              rw [hQ]
              exact y_vret C0 h (Fr.tr (Fr.tr (Fr.tr (Fr.tr (Fr.tr (Fr.mono u_17 (by decide)) (Fr.mono u_25 (by decide))) (Fr.mono u_33 (by decide))) (Fr.mono u_41 (by decide))) (Fr.mono u_148 (by decide))) (Fr.mono u_151 (by decide))) (Eq.trans hs_165 hz_166) dX5_atom_177
          · -- 99
            refine y_c3 (n := 1002) C0 (by decide) dX5_atom_102 (fun v_167 e_168 => ?_)
            refine lv_goto (tgt := 154) C0.1 C0.2.1 dX5_atom_105 (by decide) ?_
            refine lv_istore_n (lv' := [(2, .int v_167), (0, .ref (ad 77)), (1, .int a1)]) C0.1 C0.2.1 dX5_atom_154 rfl hl (by decide) rfl (fun ls hl => ?_)
            refine lv_iload_n C0.1 C0.2.1 dX5_atom_155 rfl (lv_at hl 0 rfl) ?_
            refine y_if_ge (tgt := 165) C0 dX5_atom_156 (by decide) (fun c_169 => ?_) (fun c_169 => ((o62_46 e_168 c_169)).elim)
            refine lv_aload_n C0.1 C0.2.1 dX5_atom_165 rfl (lv_at hl 1 rfl) ?_
            refine tg_X5_law C0 h kSC_77 q_380 dX5_atom_166 (fun i_170 hi_170 => ?_)
            refine lv_iload_n C0.1 C0.2.1 dX5_atom_169 rfl (lv_at hl 0 rfl) ?_
            refine y_cv h (y_rV (As := [.int v_167]) (rest := []) C0 hZ h (c_X4_add l G Z ad _ h.2 i_170 hi_170 v_167) k_X4_add q_827 q_828 q_826 hi_170 rfl rfl rfl hl.1 rfl rfl (Nat.le_of_ble_eq_true rfl) dX5_atom_170 ⟨Nat.le_of_ble_eq_true rfl, Nat.le_of_ble_eq_true rfl⟩ ⟨Nat.le_of_ble_eq_true rfl, Nat.le_of_ble_eq_true rfl⟩) (fun H locs ws_171 h u_172 p_173 => ?_)
            refine lv_aload_n C0.1 C0.2.1 dX5_atom_173 rfl (lv_at hl 1 rfl) ?_
            refine y_cv h (y_rV (As := []) (rest := []) C0 hZ h (c_X5_advanceS l G Z ad _ h.2 ((Tp.fr (M := [2, 3]) hTp (Fr.tr (Fr.tr (Fr.tr (Fr.mono u_17 (by decide)) (Fr.mono u_25 (by decide))) (Fr.mono u_33 (by decide))) u_172) kSC_78 (by decide)))) k_X5_advance q_616 q_0 q_614 kSC_77 rfl rfl rfl hl.1 rfl rfl (Nat.le_of_ble_eq_true rfl) dX5_atom_174 ⟨Nat.le_of_ble_eq_true rfl, Nat.le_of_ble_eq_true rfl⟩ ⟨Nat.le_of_ble_eq_true rfl, Nat.le_of_ble_eq_true rfl⟩) (fun H locs ws_174 h u_175 p_176 => ?_)
            have e_177 := p_176
            have hv_178 : (aF 77 ws0) 4 = v_1.toInt := (aF_at (by decide) e_2)
            have hv_179 : (aF 77 ws0) 4 = v_8.toInt := (aF_at (by decide) e_9)
            have hq_180 := e_22
            have hs_181 : aF 77 ws_16 = (aF 77 ws0) := (aF_fr u_17 kSC_77 (by decide))
            have hq_182 := e_30
            rw [hs_181] at hq_182
            have hs_183 : aF 77 ws_24 = (aF 77 ws0) := (aF_fr u_25 kSC_77 (by decide)).trans hs_181
            have hq_184 := e_38
            rw [hs_183] at hq_184
            have hs_185 : aF 77 ws_32 = (aF 77 ws0) := (aF_fr u_33 kSC_77 (by decide)).trans hs_183
            have hs_186 : aF 77 ws_171 = (aF 77 ws0) := (aF_fr u_172 kSC_77 (by decide)).trans hs_185
            have hs_187 : aF 77 ws_174 = (advS T (aF 77 ws0)) := e_177.trans (congrArg (fun s => advS T s) hs_186)
            have hz_188 : (advS T (aF 77 ws0)) = atomD T 2 (aF 77 ws0) := by rw [atomD_2]; unfold atomF; (repeat' split) <;> first | rfl | (exfalso; omega)
            rw [hQ]
            exact y_vret C0 h (Fr.tr (Fr.tr (Fr.tr (Fr.tr (Fr.mono u_17 (by decide)) (Fr.mono u_25 (by decide))) (Fr.mono u_33 (by decide))) (Fr.mono u_172 (by decide))) (Fr.mono u_175 (by decide))) (Eq.trans hs_187 hz_188) dX5_atom_177
        · -- 84
          refine y_c3 (n := 1001) C0 (by decide) dX5_atom_87 (fun v_189 e_190 => ?_)
          refine lv_goto (tgt := 154) C0.1 C0.2.1 dX5_atom_90 (by decide) ?_
          refine lv_istore_n (lv' := [(2, .int v_189), (0, .ref (ad 77)), (1, .int a1)]) C0.1 C0.2.1 dX5_atom_154 rfl hl (by decide) rfl (fun ls hl => ?_)
          refine lv_iload_n C0.1 C0.2.1 dX5_atom_155 rfl (lv_at hl 0 rfl) ?_
          refine y_if_ge (tgt := 165) C0 dX5_atom_156 (by decide) (fun c_191 => ?_) (fun c_191 => ((o62_47 e_190 c_191)).elim)
          refine lv_aload_n C0.1 C0.2.1 dX5_atom_165 rfl (lv_at hl 1 rfl) ?_
          refine tg_X5_law C0 h kSC_77 q_380 dX5_atom_166 (fun i_192 hi_192 => ?_)
          refine lv_iload_n C0.1 C0.2.1 dX5_atom_169 rfl (lv_at hl 0 rfl) ?_
          refine y_cv h (y_rV (As := [.int v_189]) (rest := []) C0 hZ h (c_X4_add l G Z ad _ h.2 i_192 hi_192 v_189) k_X4_add q_827 q_828 q_826 hi_192 rfl rfl rfl hl.1 rfl rfl (Nat.le_of_ble_eq_true rfl) dX5_atom_170 ⟨Nat.le_of_ble_eq_true rfl, Nat.le_of_ble_eq_true rfl⟩ ⟨Nat.le_of_ble_eq_true rfl, Nat.le_of_ble_eq_true rfl⟩) (fun H locs ws_193 h u_194 p_195 => ?_)
          refine lv_aload_n C0.1 C0.2.1 dX5_atom_173 rfl (lv_at hl 1 rfl) ?_
          refine y_cv h (y_rV (As := []) (rest := []) C0 hZ h (c_X5_advanceS l G Z ad _ h.2 ((Tp.fr (M := [2, 3]) hTp (Fr.tr (Fr.tr (Fr.mono u_17 (by decide)) (Fr.mono u_25 (by decide))) u_194) kSC_78 (by decide)))) k_X5_advance q_616 q_0 q_614 kSC_77 rfl rfl rfl hl.1 rfl rfl (Nat.le_of_ble_eq_true rfl) dX5_atom_174 ⟨Nat.le_of_ble_eq_true rfl, Nat.le_of_ble_eq_true rfl⟩ ⟨Nat.le_of_ble_eq_true rfl, Nat.le_of_ble_eq_true rfl⟩) (fun H locs ws_196 h u_197 p_198 => ?_)
          have e_199 := p_198
          have hv_200 : (aF 77 ws0) 4 = v_1.toInt := (aF_at (by decide) e_2)
          have hv_201 : (aF 77 ws0) 4 = v_8.toInt := (aF_at (by decide) e_9)
          have hq_202 := e_22
          have hs_203 : aF 77 ws_16 = (aF 77 ws0) := (aF_fr u_17 kSC_77 (by decide))
          have hq_204 := e_30
          rw [hs_203] at hq_204
          have hs_205 : aF 77 ws_24 = (aF 77 ws0) := (aF_fr u_25 kSC_77 (by decide)).trans hs_203
          have hs_206 : aF 77 ws_193 = (aF 77 ws0) := (aF_fr u_194 kSC_77 (by decide)).trans hs_205
          have hs_207 : aF 77 ws_196 = (advS T (aF 77 ws0)) := e_199.trans (congrArg (fun s => advS T s) hs_206)
          have hz_208 : (advS T (aF 77 ws0)) = atomD T 2 (aF 77 ws0) := by rw [atomD_2]; unfold atomF; (repeat' split) <;> first | rfl | (exfalso; omega)
          rw [hQ]
          exact y_vret C0 h (Fr.tr (Fr.tr (Fr.tr (Fr.mono u_17 (by decide)) (Fr.mono u_25 (by decide))) (Fr.mono u_194 (by decide))) (Fr.mono u_197 (by decide))) (Eq.trans hs_207 hz_208) dX5_atom_177
      · -- 69
        refine y_c3 (n := 1000) C0 (by decide) dX5_atom_72 (fun v_209 e_210 => ?_)
        refine lv_goto (tgt := 154) C0.1 C0.2.1 dX5_atom_75 (by decide) ?_
        refine lv_istore_n (lv' := [(2, .int v_209), (0, .ref (ad 77)), (1, .int a1)]) C0.1 C0.2.1 dX5_atom_154 rfl hl (by decide) rfl (fun ls hl => ?_)
        refine lv_iload_n C0.1 C0.2.1 dX5_atom_155 rfl (lv_at hl 0 rfl) ?_
        refine y_if_ge (tgt := 165) C0 dX5_atom_156 (by decide) (fun c_211 => ?_) (fun c_211 => ((o62_48 e_210 c_211)).elim)
        refine lv_aload_n C0.1 C0.2.1 dX5_atom_165 rfl (lv_at hl 1 rfl) ?_
        refine tg_X5_law C0 h kSC_77 q_380 dX5_atom_166 (fun i_212 hi_212 => ?_)
        refine lv_iload_n C0.1 C0.2.1 dX5_atom_169 rfl (lv_at hl 0 rfl) ?_
        refine y_cv h (y_rV (As := [.int v_209]) (rest := []) C0 hZ h (c_X4_add l G Z ad _ h.2 i_212 hi_212 v_209) k_X4_add q_827 q_828 q_826 hi_212 rfl rfl rfl hl.1 rfl rfl (Nat.le_of_ble_eq_true rfl) dX5_atom_170 ⟨Nat.le_of_ble_eq_true rfl, Nat.le_of_ble_eq_true rfl⟩ ⟨Nat.le_of_ble_eq_true rfl, Nat.le_of_ble_eq_true rfl⟩) (fun H locs ws_213 h u_214 p_215 => ?_)
        refine lv_aload_n C0.1 C0.2.1 dX5_atom_173 rfl (lv_at hl 1 rfl) ?_
        refine y_cv h (y_rV (As := []) (rest := []) C0 hZ h (c_X5_advanceS l G Z ad _ h.2 ((Tp.fr (M := [2, 3]) hTp (Fr.tr (Fr.mono u_17 (by decide)) u_214) kSC_78 (by decide)))) k_X5_advance q_616 q_0 q_614 kSC_77 rfl rfl rfl hl.1 rfl rfl (Nat.le_of_ble_eq_true rfl) dX5_atom_174 ⟨Nat.le_of_ble_eq_true rfl, Nat.le_of_ble_eq_true rfl⟩ ⟨Nat.le_of_ble_eq_true rfl, Nat.le_of_ble_eq_true rfl⟩) (fun H locs ws_216 h u_217 p_218 => ?_)
        have e_219 := p_218
        have hv_220 : (aF 77 ws0) 4 = v_1.toInt := (aF_at (by decide) e_2)
        have hv_221 : (aF 77 ws0) 4 = v_8.toInt := (aF_at (by decide) e_9)
        have hq_222 := e_22
        have hs_223 : aF 77 ws_16 = (aF 77 ws0) := (aF_fr u_17 kSC_77 (by decide))
        have hs_224 : aF 77 ws_213 = (aF 77 ws0) := (aF_fr u_214 kSC_77 (by decide)).trans hs_223
        have hs_225 : aF 77 ws_216 = (advS T (aF 77 ws0)) := e_219.trans (congrArg (fun s => advS T s) hs_224)
        have hz_226 : (advS T (aF 77 ws0)) = atomD T 2 (aF 77 ws0) := by rw [atomD_2]; unfold atomF; (repeat' split) <;> first | rfl | (exfalso; omega)
        rw [hQ]
        exact y_vret C0 h (Fr.tr (Fr.tr (Fr.mono u_17 (by decide)) (Fr.mono u_214 (by decide))) (Fr.mono u_217 (by decide))) (Eq.trans hs_225 hz_226) dX5_atom_177
    · -- 32
      refine lv_aload_n C0.1 C0.2.1 dX5_atom_35 rfl (lv_at hl 0 rfl) ?_
      refine lv_iload_n C0.1 C0.2.1 dX5_atom_36 rfl (lv_at hl 1 rfl) ?_
      refine y_ci h (y_rV (As := [.int a1]) (rest := []) C0 hZ h (c_X5_tooDeep_4S l G Z ad _ h.2 a1 (o62_83 l1 u1) (o62_84 l1 u1)) k_X5_tooDeep q_832 q_18 q_830 kSC_77 rfl rfl rfl hl.1 rfl rfl (Nat.le_of_ble_eq_true rfl) dX5_atom_37 ⟨Nat.le_of_ble_eq_true rfl, Nat.le_of_ble_eq_true rfl⟩ ⟨Nat.le_of_ble_eq_true rfl, Nat.le_of_ble_eq_true rfl⟩) (fun r_230 H locs ws_227 h u_228 p_229 => ?_)
      obtain ⟨e_231, e_232, e_233⟩ := p_229
      refine y_if_ne (tgt := 177) C0 dX5_atom_40 (by decide) (fun c_234 => ((o62_71 e_231 e_232 c_234)).elim) (fun c_234 => ?_)
      refine lv_aload_n C0.1 C0.2.1 dX5_atom_43 rfl (lv_at hl 0 rfl) ?_
      refine y_cv h (y_rV (As := []) (rest := []) C0 hZ h (c_X5_advanceS l G Z ad _ h.2 ((Tp.fr (M := []) hTp u_228 kSC_78 (by decide)))) k_X5_advance q_616 q_0 q_614 kSC_77 rfl rfl rfl hl.1 rfl rfl (Nat.le_of_ble_eq_true rfl) dX5_atom_44 ⟨Nat.le_of_ble_eq_true rfl, Nat.le_of_ble_eq_true rfl⟩ ⟨Nat.le_of_ble_eq_true rfl, Nat.le_of_ble_eq_true rfl⟩) (fun H locs ws_235 h u_236 p_237 => ?_)
      have e_238 := p_237
      refine lv_aload_n C0.1 C0.2.1 dX5_atom_47 rfl (lv_at hl 0 rfl) ?_
      refine lv_iload_n C0.1 C0.2.1 dX5_atom_48 rfl (lv_at hl 1 rfl) ?_
      refine y_c1 (n := 1) C0 (by decide) dX5_atom_49 (fun v_239 e_240 => ?_)
      refine y_add C0 (o62_85 l1 u1 e_240 (le_min a1) (le_max a1) (le_min v_239) (le_max v_239)) (o62_86 l1 u1 e_240 (le_min a1) (le_max a1) (le_min v_239) (le_max v_239)) dX5_atom_50 (fun v_241 e_242 => ?_)
      refine y_cv h (y_rV (As := [.int v_241]) (rest := []) C0 hZ h (c_X5_sum_5S l G Z ad _ h.2 v_241 (o62_87 l1 u1 e_240 e_242) (o62_88 l1 u1 e_240 e_242) ((Tp.fr (M := [16]) hTp (Fr.tr (Fr.mono u_228 (by decide)) u_236) kSC_78 (by decide)))) k_X5_sum q_816 q_15 q_814 kSC_77 rfl rfl rfl hl.1 rfl rfl (Nat.le_of_ble_eq_true rfl) dX5_atom_51 ⟨Nat.le_of_ble_eq_true rfl, Nat.le_of_ble_eq_true rfl⟩ ⟨Nat.le_of_ble_eq_true rfl, Nat.le_of_ble_eq_true rfl⟩) (fun H locs ws_243 h u_244 p_245 => ?_)
      have e_246 := p_245
      refine lv_aload_n C0.1 C0.2.1 dX5_atom_54 rfl (lv_at hl 0 rfl) ?_
      refine y_c2 (n := 41) C0 (by decide) dX5_atom_55 (fun v_247 e_248 => ?_)
      refine y_cv h (y_rV (As := [.int v_247]) (rest := []) C0 hZ h (c_X5_signS l G Z ad _ h.2 v_247 (o62_76 e_248) (o62_77 e_248) ((Tp.fr (M := [2, 3, 16]) hTp (Fr.tr (Fr.tr (Fr.mono u_228 (by decide)) (Fr.mono u_236 (by decide))) u_244) kSC_78 (by decide)))) k_X5_sign q_812 q_14 q_810 kSC_77 rfl rfl rfl hl.1 rfl rfl (Nat.le_of_ble_eq_true rfl) dX5_atom_57 ⟨Nat.le_of_ble_eq_true rfl, Nat.le_of_ble_eq_true rfl⟩ ⟨Nat.le_of_ble_eq_true rfl, Nat.le_of_ble_eq_true rfl⟩) (fun H locs ws_249 h u_250 p_251 => ?_)
      have e_252 := p_251
      refine lv_goto (tgt := 177) C0.1 C0.2.1 dX5_atom_60 (by decide) ?_
      have hv_253 : (aF 77 ws0) 4 = v_1.toInt := (aF_at (by decide) e_2)
      have hv_254 : (aF 77 ws0) 4 = v_8.toInt := (aF_at (by decide) e_9)
      have hs_255 : aF 77 ws_227 = ((fun s => s) (aF 77 ws0)) := e_233
      have hs_256 : aF 77 ws_235 = (advS T ((fun s => s) (aF 77 ws0))) := e_238.trans (congrArg (fun s => advS T s) hs_255)
      have hs_257 : aF 77 ws_243 = (sumL T (atomD T 1) (advS T ((fun s => s) (aF 77 ws0)))) := e_246.trans (congrArg (fun s => sumL T (atomD T 1) s) hs_256)
      have hs_258 : aF 77 ws_249 = (signS T 41 (sumL T (atomD T 1) (advS T ((fun s => s) (aF 77 ws0))))) := e_252.trans ((congrArg (fun s => signS T v_247.toInt s) hs_257).trans (by rw [(o62_78 e_248)]))
      have hz_259 : (signS T 41 (sumL T (atomD T 1) (advS T ((fun s => s) (aF 77 ws0))))) = atomD T 2 (aF 77 ws0) := by rw [atomD_2]; unfold atomF; (repeat' split) <;> first | rfl | (exfalso; omega)
      rw [hQ]
      exact y_vret C0 h (Fr.tr (Fr.tr (Fr.tr (Fr.mono u_228 (by decide)) (Fr.mono u_236 (by decide))) u_244) (Fr.mono u_250 (by decide))) (Eq.trans hs_258 hz_259) dX5_atom_177
  · -- 5
    refine lv_aload_n C0.1 C0.2.1 dX5_atom_8 rfl (lv_at hl 0 rfl) ?_
    refine tg_X5_law C0 h kSC_77 q_380 dX5_atom_9 (fun i_260 hi_260 => ?_)
    refine lv_aload_n C0.1 C0.2.1 dX5_atom_12 rfl (lv_at hl 0 rfl) ?_
    refine tg_X5_number C0 h kSC_77 q_377 dX5_atom_13 (fun v_261 e_262 e_263 e_264 => ?_)
    refine y_cv h (y_rV (As := [.int v_261]) (rest := []) C0 hZ h (c_X4_add l G Z ad _ h.2 i_260 hi_260 v_261) k_X4_add q_827 q_828 q_826 hi_260 rfl rfl rfl hl.1 rfl rfl (Nat.le_of_ble_eq_true rfl) dX5_atom_16 ⟨Nat.le_of_ble_eq_true rfl, Nat.le_of_ble_eq_true rfl⟩ ⟨Nat.le_of_ble_eq_true rfl, Nat.le_of_ble_eq_true rfl⟩) (fun H locs ws_265 h u_266 p_267 => ?_)
    refine lv_aload_n C0.1 C0.2.1 dX5_atom_19 rfl (lv_at hl 0 rfl) ?_
    refine y_cv h (y_rV (As := []) (rest := []) C0 hZ h (c_X5_advanceS l G Z ad _ h.2 ((Tp.fr (M := [2, 3]) hTp u_266 kSC_78 (by decide)))) k_X5_advance q_616 q_0 q_614 kSC_77 rfl rfl rfl hl.1 rfl rfl (Nat.le_of_ble_eq_true rfl) dX5_atom_20 ⟨Nat.le_of_ble_eq_true rfl, Nat.le_of_ble_eq_true rfl⟩ ⟨Nat.le_of_ble_eq_true rfl, Nat.le_of_ble_eq_true rfl⟩) (fun H locs ws_268 h u_269 p_270 => ?_)
    have e_271 := p_270
    refine lv_goto (tgt := 177) C0.1 C0.2.1 dX5_atom_23 (by decide) ?_
    have hv_272 : (aF 77 ws0) 4 = v_1.toInt := (aF_at (by decide) e_2)
    have hv_273 : (aF 77 ws0) 7 = v_261.toInt := (aF_at (by decide) e_262)
    have hs_274 : aF 77 ws_265 = (aF 77 ws0) := (aF_fr u_266 kSC_77 (by decide))
    have hs_275 : aF 77 ws_268 = (advS T (aF 77 ws0)) := e_271.trans (congrArg (fun s => advS T s) hs_274)
    have hz_276 : (advS T (aF 77 ws0)) = atomD T 2 (aF 77 ws0) := by rw [atomD_2]; unfold atomF; (repeat' split) <;> first | rfl | (exfalso; omega)
    rw [hQ]
    exact y_vret C0 h (Fr.tr (Fr.mono u_266 (by decide)) (Fr.mono u_269 (by decide))) (Eq.trans hs_275 hz_276) dX5_atom_177
set_option maxHeartbeats 4000000 in
set_option maxRecDepth 100000 in
theorem c_X5_term_4S {T : Nat → Int} (l : Launch) (G : GG) (Z : RZ) (ad : Nat → Nat) (ws0 : va_W) (hT : Ty G (SC tt) ad ws0) (a1 : Int32) (l1 : 4 ≤ a1.toInt) (u1 : a1.toInt ≤ 4) (hTp : Tp T ws0) : Mq l yX5_term cX5_term 3 none 13 G Z [.ref (ad 77), .int a1] ws0 (PV G (SC tt) ad [2, 3, 16] ws0 (fun u => (aF 77 u = termL T (atomD T 2) (aF 77 ws0)))) := by
  refine Mq.start (by decide) (Nat.le_of_ble_eq_true rfl) ?_
  intro p e s m below meth c A ls C0 hZ h hl
  have hl : lv_has ls 3 [(0, .ref (ad 77)), (1, .int a1)] := hl
  have h : Wt G (SC tt) ad A s s.heap [] ws0 := ⟨h, hT⟩
  obtain ⟨args, hargs⟩ : ∃ z, z = ([.ref (ad 77), .int a1] : List Value).toArray := ⟨_, rfl⟩
  rw [← hargs] at C0 ⊢
  have C0 : Cx p s m args meth c RX5 cX5_term 3 none := C0
  obtain ⟨Q, hQ⟩ : ∃ z, z = MQ below ((PV G (SC tt) ad [2, 3, 16] ws0 (fun u => (aF 77 u = termL T (atomD T 2) (aF 77 ws0)))) A) args s 0 0 A := ⟨_, rfl⟩
  rw [← hQ]
  refine lv_aload_n C0.1 C0.2.1 dX5_term_0 rfl (lv_at hl 0 rfl) ?_
  refine lv_iload_n C0.1 C0.2.1 dX5_term_1 rfl (lv_at hl 1 rfl) ?_
  refine y_cv h (y_rV (As := [.int a1]) (rest := []) C0 hZ h (c_X5_atom_4S l G Z ad _ h.2 a1 (o62_83 l1 u1) (o62_84 l1 u1) hTp) k_X5_atom q_824 q_17 q_822 kSC_77 rfl rfl rfl hl.1 rfl rfl (Nat.le_of_ble_eq_true rfl) dX5_term_2 ⟨Nat.le_of_ble_eq_true rfl, Nat.le_of_ble_eq_true rfl⟩ ⟨Nat.le_of_ble_eq_true rfl, Nat.le_of_ble_eq_true rfl⟩) (fun H locs ws_1 h u_2 p_3 => ?_)
  have e_4 := p_3
  refine y_c1 (n := 0) C0 (by decide) dX5_term_5 (fun v_5 e_6 => ?_)
  refine lv_istore_n (lv' := [(2, .int v_5), (0, .ref (ad 77)), (1, .int a1)]) C0.1 C0.2.1 dX5_term_6 rfl hl (by decide) rfl (fun ls hl => ?_)
  have lp_10 : ∀ (n_12 : Nat) (x2_7 : Int32) (H : Heap) (locs : List Loc) (ls : Array Slot) (ws_8 : va_W), 900 - x2_7.toInt < (n_12 : Int) → 0 ≤ x2_7.toInt → x2_7.toInt ≤ 900 → (lpS (fun s => s 4 = 42) (fun s => atomD T 2 (advS T s)) (900 - x2_7.toInt).toNat (aF 77 ws_8) = termL T (atomD T 2) (aF 77 ws0)) → Wt G (SC tt) ad A s H locs ws_8 → Fr (SC tt) [2, 3, 16] ws_1 ws_8 → lv_has ls 3 [(2, .int x2_7), (0, .ref (ad 77)), (1, .int a1)] → W p l e (rmd 13 0 0) s m args below meth c H locs 0 0 Q (F0 m 7 ls []) := by
    intro n_12
    induction n_12 with
    | zero => intro x2_7 H locs ls ws_8 hn_13 b_14 b_15 hSp h hF_9 hl; exact ((o62_52 b_14 b_15 hn_13)).elim
    | succ n_12 ih_11 =>
      intro x2_7 H locs ls ws_8 hn_13 b_14 b_15 hSp h hF_9 hl
      refine lv_iload_n C0.1 C0.2.1 dX5_term_7 rfl (lv_at hl 0 rfl) ?_
      refine y_c3 (n := 900) C0 (by decide) dX5_term_8 (fun v_16 e_17 => ?_)
      refine y_icmp_ge (tgt := 48) C0 dX5_term_11 (by decide) (fun c_18 => ?_) (fun c_18 => ?_)
      · -- 11
        have hz_19 : (aF 77 ws_8) = lpS (fun s => s 4 = 42) (fun s => atomD T 2 (advS T s)) (900 - x2_7.toInt).toNat (aF 77 ws_8) := by first | (exfalso; omega) | exact (lp_0 (by omega)).symm | exact (lp_e (by omega)).symm
        rw [hQ]
        exact y_vret C0 h (Fr.tr u_2 hF_9) (Eq.trans rfl (Eq.trans hz_19 hSp)) dX5_term_48
      · -- 11
        refine lv_aload_n C0.1 C0.2.1 dX5_term_14 rfl (lv_at hl 1 rfl) ?_
        refine tg_X5_kind C0 h kSC_77 q_374 dX5_term_15 (fun v_20 e_21 e_22 e_23 => ?_)
        refine y_c2 (n := 42) C0 (by decide) dX5_term_18 (fun v_24 e_25 => ?_)
        refine y_icmp_ne (tgt := 48) C0 dX5_term_20 (by decide) (fun c_26 => ?_) (fun c_26 => ?_)
        · -- 20
          have hv_27 : (aF 77 ws_8) 4 = v_20.toInt := (aF_at (by decide) e_21)
          have hz_28 : (aF 77 ws_8) = lpS (fun s => s 4 = 42) (fun s => atomD T 2 (advS T s)) (900 - x2_7.toInt).toNat (aF 77 ws_8) := by first | (exfalso; omega) | exact (lp_0 (by omega)).symm | exact (lp_e (by omega)).symm
          rw [hQ]
          exact y_vret C0 h (Fr.tr u_2 hF_9) (Eq.trans rfl (Eq.trans hz_28 hSp)) dX5_term_48
        · -- 20
          refine lv_aload_n C0.1 C0.2.1 dX5_term_23 rfl (lv_at hl 1 rfl) ?_
          refine y_cv h (y_rV (As := []) (rest := []) C0 hZ h (c_X5_advanceS l G Z ad _ h.2 ((Tp.fr (M := [2, 3, 16]) hTp (Fr.tr u_2 hF_9) kSC_78 (by decide)))) k_X5_advance q_616 q_0 q_614 kSC_77 rfl rfl rfl hl.1 rfl rfl (Nat.le_of_ble_eq_true rfl) dX5_term_24 ⟨Nat.le_of_ble_eq_true rfl, Nat.le_of_ble_eq_true rfl⟩ ⟨Nat.le_of_ble_eq_true rfl, Nat.le_of_ble_eq_true rfl⟩) (fun H locs ws_29 h u_30 p_31 => ?_)
          have e_32 := p_31
          refine lv_aload_n C0.1 C0.2.1 dX5_term_27 rfl (lv_at hl 1 rfl) ?_
          refine lv_iload_n C0.1 C0.2.1 dX5_term_28 rfl (lv_at hl 2 rfl) ?_
          refine y_cv h (y_rV (As := [.int a1]) (rest := []) C0 hZ h (c_X5_atom_4S l G Z ad _ h.2 a1 (o62_83 l1 u1) (o62_84 l1 u1) ((Tp.fr (M := [2, 3, 16]) hTp (Fr.tr (Fr.tr u_2 hF_9) (Fr.mono u_30 (by decide))) kSC_78 (by decide)))) k_X5_atom q_824 q_17 q_822 kSC_77 rfl rfl rfl hl.1 rfl rfl (Nat.le_of_ble_eq_true rfl) dX5_term_29 ⟨Nat.le_of_ble_eq_true rfl, Nat.le_of_ble_eq_true rfl⟩ ⟨Nat.le_of_ble_eq_true rfl, Nat.le_of_ble_eq_true rfl⟩) (fun H locs ws_33 h u_34 p_35 => ?_)
          have e_36 := p_35
          refine lv_aload_n C0.1 C0.2.1 dX5_term_32 rfl (lv_at hl 1 rfl) ?_
          refine tg_X5_law C0 h kSC_77 q_380 dX5_term_33 (fun i_37 hi_37 => ?_)
          refine y_c3 (n := 2002) C0 (by decide) dX5_term_36 (fun v_38 e_39 => ?_)
          refine y_cv h (y_rV (As := [.int v_38]) (rest := []) C0 hZ h (c_X4_add l G Z ad _ h.2 i_37 hi_37 v_38) k_X4_add q_827 q_828 q_826 hi_37 rfl rfl rfl hl.1 rfl rfl (Nat.le_of_ble_eq_true rfl) dX5_term_39 ⟨Nat.le_of_ble_eq_true rfl, Nat.le_of_ble_eq_true rfl⟩ ⟨Nat.le_of_ble_eq_true rfl, Nat.le_of_ble_eq_true rfl⟩) (fun H locs ws_40 h u_41 p_42 => ?_)
          refine y_inc (kp := 0) (n := 1) (fun v_43 => [(2, .int v_43), (0, .ref (ad 77)), (1, .int a1)]) C0 hl rfl (by decide) (by decide) (fun _ => rfl) (o62_53 b_14 b_15 hn_13 e_17 c_18 (le_min x2_7) (le_max x2_7) (le_min v_16) (le_max v_16)) (o62_54 b_14 b_15 hn_13 e_17 c_18 (le_min x2_7) (le_max x2_7) (le_min v_16) (le_max v_16)) dX5_term_42 (fun v_43 ls e_44 hl => ?_)
          refine lv_goto (tgt := 7) C0.1 C0.2.1 dX5_term_45 (by decide) ?_
          have hv_45 : (aF 77 ws_8) 4 = v_20.toInt := (aF_at (by decide) e_21)
          have hs_46 : aF 77 ws_29 = (advS T (aF 77 ws_8)) := e_32
          have hs_47 : aF 77 ws_33 = (atomD T 2 (advS T (aF 77 ws_8))) := e_36.trans (congrArg (fun s => atomD T 2 s) hs_46)
          have hs_48 : aF 77 ws_40 = (atomD T 2 (advS T (aF 77 ws_8))) := (aF_fr u_41 kSC_77 (by decide)).trans hs_47
          exact ih_11 v_43 _ _ _ _ (o62_55 b_14 b_15 hn_13 e_17 c_18 e_44) (o62_56 b_14 b_15 hn_13 e_17 c_18 e_44) (o62_57 b_14 b_15 hn_13 e_17 c_18 e_44) ((by rw [hs_48]; exact (lp_s (by omega) (by omega) (by omega) (by omega)).trans hSp)) h (Fr.tr (Fr.tr (Fr.tr hF_9 (Fr.mono u_30 (by decide))) u_34) (Fr.mono u_41 (by decide))) (lv_sub hl [0, 1, 2] rfl)
  have hs_49 : aF 77 ws_1 = (atomD T 2 (aF 77 ws0)) := e_4
  exact lp_10 ((900 - v_5.toInt + 1).toNat) v_5 _ _ _ _ (o62_58 e_6) (o62_59 e_6) (o62_60 e_6) ((by rw [show (900 - v_5.toInt).toNat = 900 by omega, hs_49]; rfl)) h Fr.rf (lv_sub hl [0, 1, 2] rfl)
set_option maxHeartbeats 4000000 in
set_option maxRecDepth 100000 in
theorem c_X5_sum_4S {T : Nat → Int} (l : Launch) (G : GG) (Z : RZ) (ad : Nat → Nat) (ws0 : va_W) (hT : Ty G (SC tt) ad ws0) (a1 : Int32) (l1 : 4 ≤ a1.toInt) (u1 : a1.toInt ≤ 4) (hTp : Tp T ws0) : Mq l yX5_sum cX5_sum 4 none 14 G Z [.ref (ad 77), .int a1] ws0 (PV G (SC tt) ad [2, 3, 16] ws0 (fun u => (aF 77 u = sumL T (atomD T 2) (aF 77 ws0)))) := by
  refine Mq.start (by decide) (Nat.le_of_ble_eq_true rfl) ?_
  intro p e s m below meth c A ls C0 hZ h hl
  have hl : lv_has ls 4 [(0, .ref (ad 77)), (1, .int a1)] := hl
  have h : Wt G (SC tt) ad A s s.heap [] ws0 := ⟨h, hT⟩
  obtain ⟨args, hargs⟩ : ∃ z, z = ([.ref (ad 77), .int a1] : List Value).toArray := ⟨_, rfl⟩
  rw [← hargs] at C0 ⊢
  have C0 : Cx p s m args meth c RX5 cX5_sum 4 none := C0
  obtain ⟨Q, hQ⟩ : ∃ z, z = MQ below ((PV G (SC tt) ad [2, 3, 16] ws0 (fun u => (aF 77 u = sumL T (atomD T 2) (aF 77 ws0)))) A) args s 0 0 A := ⟨_, rfl⟩
  rw [← hQ]
  refine lv_aload_n C0.1 C0.2.1 dX5_sum_0 rfl (lv_at hl 0 rfl) ?_
  refine lv_iload_n C0.1 C0.2.1 dX5_sum_1 rfl (lv_at hl 1 rfl) ?_
  refine y_cv h (y_rV (As := [.int a1]) (rest := []) C0 hZ h (c_X5_term_4S l G Z ad _ h.2 a1 (o62_83 l1 u1) (o62_84 l1 u1) hTp) k_X5_term q_820 q_16 q_818 kSC_77 rfl rfl rfl hl.1 rfl rfl (Nat.le_of_ble_eq_true rfl) dX5_sum_2 ⟨Nat.le_of_ble_eq_true rfl, Nat.le_of_ble_eq_true rfl⟩ ⟨Nat.le_of_ble_eq_true rfl, Nat.le_of_ble_eq_true rfl⟩) (fun H locs ws_1 h u_2 p_3 => ?_)
  have e_4 := p_3
  refine y_c1 (n := 0) C0 (by decide) dX5_sum_5 (fun v_5 e_6 => ?_)
  refine lv_istore_n (lv' := [(2, .int v_5), (0, .ref (ad 77)), (1, .int a1)]) C0.1 C0.2.1 dX5_sum_6 rfl hl (by decide) rfl (fun ls hl => ?_)
  have lp_10 : ∀ (n_12 : Nat) (x2_7 : Int32) (H : Heap) (locs : List Loc) (ls : Array Slot) (ws_8 : va_W), 900 - x2_7.toInt < (n_12 : Int) → 0 ≤ x2_7.toInt → x2_7.toInt ≤ 900 → (lpS (fun s => s 4 = 43 ∨ s 4 = 45) (fun s => termL T (atomD T 2) (advS T s)) (900 - x2_7.toInt).toNat (aF 77 ws_8) = sumL T (atomD T 2) (aF 77 ws0)) → Wt G (SC tt) ad A s H locs ws_8 → Fr (SC tt) [2, 3, 16] ws_1 ws_8 → lv_has ls 4 [(2, .int x2_7), (0, .ref (ad 77)), (1, .int a1)] → W p l e (rmd 14 0 0) s m args below meth c H locs 0 0 Q (F0 m 7 ls []) := by
    intro n_12
    induction n_12 with
    | zero => intro x2_7 H locs ls ws_8 hn_13 b_14 b_15 hSp h hF_9 hl; exact ((o62_52 b_14 b_15 hn_13)).elim
    | succ n_12 ih_11 =>
      intro x2_7 H locs ls ws_8 hn_13 b_14 b_15 hSp h hF_9 hl
      refine lv_iload_n C0.1 C0.2.1 dX5_sum_7 rfl (lv_at hl 0 rfl) ?_
      refine y_c3 (n := 900) C0 (by decide) dX5_sum_8 (fun v_16 e_17 => ?_)
      refine y_icmp_ge (tgt := 74) C0 dX5_sum_11 (by decide) (fun c_18 => ?_) (fun c_18 => ?_)
      · -- 11
        have hz_19 : (aF 77 ws_8) = lpS (fun s => s 4 = 43 ∨ s 4 = 45) (fun s => termL T (atomD T 2) (advS T s)) (900 - x2_7.toInt).toNat (aF 77 ws_8) := by first | (exfalso; omega) | exact (lp_0 (by omega)).symm | exact (lp_e (by omega)).symm
        rw [hQ]
        exact y_vret C0 h (Fr.tr u_2 hF_9) (Eq.trans rfl (Eq.trans hz_19 hSp)) dX5_sum_74
      · -- 11
        refine lv_aload_n C0.1 C0.2.1 dX5_sum_14 rfl (lv_at hl 1 rfl) ?_
        refine tg_X5_kind C0 h kSC_77 q_374 dX5_sum_15 (fun v_20 e_21 e_22 e_23 => ?_)
        refine y_c2 (n := 43) C0 (by decide) dX5_sum_18 (fun v_24 e_25 => ?_)
        refine y_icmp_eq (tgt := 32) C0 dX5_sum_20 (by decide) (fun c_26 => ?_) (fun c_26 => ?_)
        · -- 20
          refine lv_aload_n C0.1 C0.2.1 dX5_sum_32 rfl (lv_at hl 1 rfl) ?_
          refine tg_X5_kind C0 h kSC_77 q_374 dX5_sum_33 (fun v_27 e_28 e_29 e_30 => ?_)
          have q_31 : v_27.toInt = v_20.toInt := congrArg Int32.toInt (e_28.symm.trans (Eq.trans rfl e_21))
          refine y_c2 (n := 43) C0 (by decide) dX5_sum_36 (fun v_32 e_33 => ?_)
          refine y_icmp_ne (tgt := 47) C0 dX5_sum_38 (by decide) (fun c_34 => ((o62_61 e_25 c_26 q_31 e_33 c_34)).elim) (fun c_34 => ?_)
          refine y_c3 (n := 2000) C0 (by decide) dX5_sum_41 (fun v_35 e_36 => ?_)
          refine lv_goto (tgt := 50) C0.1 C0.2.1 dX5_sum_44 (by decide) ?_
          refine lv_istore_n (lv' := [(3, .int v_35), (2, .int x2_7), (0, .ref (ad 77)), (1, .int a1)]) C0.1 C0.2.1 dX5_sum_50 rfl hl (by decide) rfl (fun ls hl => ?_)
          refine lv_aload_n C0.1 C0.2.1 dX5_sum_51 rfl (lv_at hl 2 rfl) ?_
          refine y_cv h (y_rV (As := []) (rest := []) C0 hZ h (c_X5_advanceS l G Z ad _ h.2 ((Tp.fr (M := [2, 3, 16]) hTp (Fr.tr u_2 hF_9) kSC_78 (by decide)))) k_X5_advance q_616 q_0 q_614 kSC_77 rfl rfl rfl hl.1 rfl rfl (Nat.le_of_ble_eq_true rfl) dX5_sum_52 ⟨Nat.le_of_ble_eq_true rfl, Nat.le_of_ble_eq_true rfl⟩ ⟨Nat.le_of_ble_eq_true rfl, Nat.le_of_ble_eq_true rfl⟩) (fun H locs ws_37 h u_38 p_39 => ?_)
          have e_40 := p_39
          refine lv_aload_n C0.1 C0.2.1 dX5_sum_55 rfl (lv_at hl 2 rfl) ?_
          refine lv_iload_n C0.1 C0.2.1 dX5_sum_56 rfl (lv_at hl 3 rfl) ?_
          refine y_cv h (y_rV (As := [.int a1]) (rest := []) C0 hZ h (c_X5_term_4S l G Z ad _ h.2 a1 (o62_83 l1 u1) (o62_84 l1 u1) ((Tp.fr (M := [2, 3, 16]) hTp (Fr.tr (Fr.tr u_2 hF_9) (Fr.mono u_38 (by decide))) kSC_78 (by decide)))) k_X5_term q_820 q_16 q_818 kSC_77 rfl rfl rfl hl.1 rfl rfl (Nat.le_of_ble_eq_true rfl) dX5_sum_57 ⟨Nat.le_of_ble_eq_true rfl, Nat.le_of_ble_eq_true rfl⟩ ⟨Nat.le_of_ble_eq_true rfl, Nat.le_of_ble_eq_true rfl⟩) (fun H locs ws_41 h u_42 p_43 => ?_)
          have e_44 := p_43
          refine lv_aload_n C0.1 C0.2.1 dX5_sum_60 rfl (lv_at hl 2 rfl) ?_
          refine tg_X5_law C0 h kSC_77 q_380 dX5_sum_61 (fun i_45 hi_45 => ?_)
          refine lv_iload_n C0.1 C0.2.1 dX5_sum_64 rfl (lv_at hl 0 rfl) ?_
          refine y_cv h (y_rV (As := [.int v_35]) (rest := []) C0 hZ h (c_X4_add l G Z ad _ h.2 i_45 hi_45 v_35) k_X4_add q_827 q_828 q_826 hi_45 rfl rfl rfl hl.1 rfl rfl (Nat.le_of_ble_eq_true rfl) dX5_sum_65 ⟨Nat.le_of_ble_eq_true rfl, Nat.le_of_ble_eq_true rfl⟩ ⟨Nat.le_of_ble_eq_true rfl, Nat.le_of_ble_eq_true rfl⟩) (fun H locs ws_46 h u_47 p_48 => ?_)
          refine y_inc (kp := 1) (n := 1) (fun v_49 => [(2, .int v_49), (3, .int v_35), (0, .ref (ad 77)), (1, .int a1)]) C0 hl rfl (by decide) (by decide) (fun _ => rfl) (o62_53 b_14 b_15 hn_13 e_17 c_18 (le_min x2_7) (le_max x2_7) (le_min v_16) (le_max v_16)) (o62_54 b_14 b_15 hn_13 e_17 c_18 (le_min x2_7) (le_max x2_7) (le_min v_16) (le_max v_16)) dX5_sum_68 (fun v_49 ls e_50 hl => ?_)
          refine lv_goto (tgt := 7) C0.1 C0.2.1 dX5_sum_71 (by decide) ?_
          have hv_51 : (aF 77 ws_8) 4 = v_20.toInt := (aF_at (by decide) e_21)
          have hv_52 : (aF 77 ws_8) 4 = v_27.toInt := (aF_at (by decide) e_28)
          have hs_53 : aF 77 ws_37 = (advS T (aF 77 ws_8)) := e_40
          have hs_54 : aF 77 ws_41 = (termL T (atomD T 2) (advS T (aF 77 ws_8))) := e_44.trans (congrArg (fun s => termL T (atomD T 2) s) hs_53)
          have hs_55 : aF 77 ws_46 = (termL T (atomD T 2) (advS T (aF 77 ws_8))) := (aF_fr u_47 kSC_77 (by decide)).trans hs_54
          exact ih_11 v_49 _ _ _ _ (o62_55 b_14 b_15 hn_13 e_17 c_18 e_50) (o62_56 b_14 b_15 hn_13 e_17 c_18 e_50) (o62_57 b_14 b_15 hn_13 e_17 c_18 e_50) ((by rw [hs_55]; exact (lp_s (by omega) (by omega) (by omega) (by omega)).trans hSp)) h (Fr.tr (Fr.tr (Fr.tr hF_9 (Fr.mono u_38 (by decide))) u_42) (Fr.mono u_47 (by decide))) (lv_sub hl [0, 2, 3] rfl)
        · -- 20
          refine lv_aload_n C0.1 C0.2.1 dX5_sum_23 rfl (lv_at hl 1 rfl) ?_
          refine tg_X5_kind C0 h kSC_77 q_374 dX5_sum_24 (fun v_56 e_57 e_58 e_59 => ?_)
          have q_60 : v_56.toInt = v_20.toInt := congrArg Int32.toInt (e_57.symm.trans (Eq.trans rfl e_21))
          refine y_c2 (n := 45) C0 (by decide) dX5_sum_27 (fun v_61 e_62 => ?_)
          refine y_icmp_ne (tgt := 74) C0 dX5_sum_29 (by decide) (fun c_63 => ?_) (fun c_63 => ?_)
          · -- 29
            have hv_64 : (aF 77 ws_8) 4 = v_20.toInt := (aF_at (by decide) e_21)
            have hv_65 : (aF 77 ws_8) 4 = v_56.toInt := (aF_at (by decide) e_57)
            have hz_66 : (aF 77 ws_8) = lpS (fun s => s 4 = 43 ∨ s 4 = 45) (fun s => termL T (atomD T 2) (advS T s)) (900 - x2_7.toInt).toNat (aF 77 ws_8) := by first | (exfalso; omega) | exact (lp_0 (by omega)).symm | exact (lp_e (by omega)).symm
            rw [hQ]
            exact y_vret C0 h (Fr.tr u_2 hF_9) (Eq.trans rfl (Eq.trans hz_66 hSp)) dX5_sum_74
          · -- 29
            refine lv_aload_n C0.1 C0.2.1 dX5_sum_32 rfl (lv_at hl 1 rfl) ?_
            refine tg_X5_kind C0 h kSC_77 q_374 dX5_sum_33 (fun v_67 e_68 e_69 e_70 => ?_)
            have q_71 : v_67.toInt = v_20.toInt := congrArg Int32.toInt (e_68.symm.trans (Eq.trans rfl e_21))
            refine y_c2 (n := 43) C0 (by decide) dX5_sum_36 (fun v_72 e_73 => ?_)
            refine y_icmp_ne (tgt := 47) C0 dX5_sum_38 (by decide) (fun c_74 => ?_) (fun c_74 => ((o62_62 e_25 c_26 q_60 e_62 c_63 q_71 e_73 c_74)).elim)
            refine y_c3 (n := 2001) C0 (by decide) dX5_sum_47 (fun v_75 e_76 => ?_)
            refine lv_istore_n (lv' := [(3, .int v_75), (2, .int x2_7), (0, .ref (ad 77)), (1, .int a1)]) C0.1 C0.2.1 dX5_sum_50 rfl hl (by decide) rfl (fun ls hl => ?_)
            refine lv_aload_n C0.1 C0.2.1 dX5_sum_51 rfl (lv_at hl 2 rfl) ?_
            refine y_cv h (y_rV (As := []) (rest := []) C0 hZ h (c_X5_advanceS l G Z ad _ h.2 ((Tp.fr (M := [2, 3, 16]) hTp (Fr.tr u_2 hF_9) kSC_78 (by decide)))) k_X5_advance q_616 q_0 q_614 kSC_77 rfl rfl rfl hl.1 rfl rfl (Nat.le_of_ble_eq_true rfl) dX5_sum_52 ⟨Nat.le_of_ble_eq_true rfl, Nat.le_of_ble_eq_true rfl⟩ ⟨Nat.le_of_ble_eq_true rfl, Nat.le_of_ble_eq_true rfl⟩) (fun H locs ws_77 h u_78 p_79 => ?_)
            have e_80 := p_79
            refine lv_aload_n C0.1 C0.2.1 dX5_sum_55 rfl (lv_at hl 2 rfl) ?_
            refine lv_iload_n C0.1 C0.2.1 dX5_sum_56 rfl (lv_at hl 3 rfl) ?_
            refine y_cv h (y_rV (As := [.int a1]) (rest := []) C0 hZ h (c_X5_term_4S l G Z ad _ h.2 a1 (o62_83 l1 u1) (o62_84 l1 u1) ((Tp.fr (M := [2, 3, 16]) hTp (Fr.tr (Fr.tr u_2 hF_9) (Fr.mono u_78 (by decide))) kSC_78 (by decide)))) k_X5_term q_820 q_16 q_818 kSC_77 rfl rfl rfl hl.1 rfl rfl (Nat.le_of_ble_eq_true rfl) dX5_sum_57 ⟨Nat.le_of_ble_eq_true rfl, Nat.le_of_ble_eq_true rfl⟩ ⟨Nat.le_of_ble_eq_true rfl, Nat.le_of_ble_eq_true rfl⟩) (fun H locs ws_81 h u_82 p_83 => ?_)
            have e_84 := p_83
            refine lv_aload_n C0.1 C0.2.1 dX5_sum_60 rfl (lv_at hl 2 rfl) ?_
            refine tg_X5_law C0 h kSC_77 q_380 dX5_sum_61 (fun i_85 hi_85 => ?_)
            refine lv_iload_n C0.1 C0.2.1 dX5_sum_64 rfl (lv_at hl 0 rfl) ?_
            refine y_cv h (y_rV (As := [.int v_75]) (rest := []) C0 hZ h (c_X4_add l G Z ad _ h.2 i_85 hi_85 v_75) k_X4_add q_827 q_828 q_826 hi_85 rfl rfl rfl hl.1 rfl rfl (Nat.le_of_ble_eq_true rfl) dX5_sum_65 ⟨Nat.le_of_ble_eq_true rfl, Nat.le_of_ble_eq_true rfl⟩ ⟨Nat.le_of_ble_eq_true rfl, Nat.le_of_ble_eq_true rfl⟩) (fun H locs ws_86 h u_87 p_88 => ?_)
            refine y_inc (kp := 1) (n := 1) (fun v_89 => [(2, .int v_89), (3, .int v_75), (0, .ref (ad 77)), (1, .int a1)]) C0 hl rfl (by decide) (by decide) (fun _ => rfl) (o62_53 b_14 b_15 hn_13 e_17 c_18 (le_min x2_7) (le_max x2_7) (le_min v_16) (le_max v_16)) (o62_54 b_14 b_15 hn_13 e_17 c_18 (le_min x2_7) (le_max x2_7) (le_min v_16) (le_max v_16)) dX5_sum_68 (fun v_89 ls e_90 hl => ?_)
            refine lv_goto (tgt := 7) C0.1 C0.2.1 dX5_sum_71 (by decide) ?_
            have hv_91 : (aF 77 ws_8) 4 = v_20.toInt := (aF_at (by decide) e_21)
            have hv_92 : (aF 77 ws_8) 4 = v_56.toInt := (aF_at (by decide) e_57)
            have hv_93 : (aF 77 ws_8) 4 = v_67.toInt := (aF_at (by decide) e_68)
            have hs_94 : aF 77 ws_77 = (advS T (aF 77 ws_8)) := e_80
            have hs_95 : aF 77 ws_81 = (termL T (atomD T 2) (advS T (aF 77 ws_8))) := e_84.trans (congrArg (fun s => termL T (atomD T 2) s) hs_94)
            have hs_96 : aF 77 ws_86 = (termL T (atomD T 2) (advS T (aF 77 ws_8))) := (aF_fr u_87 kSC_77 (by decide)).trans hs_95
            exact ih_11 v_89 _ _ _ _ (o62_55 b_14 b_15 hn_13 e_17 c_18 e_90) (o62_56 b_14 b_15 hn_13 e_17 c_18 e_90) (o62_57 b_14 b_15 hn_13 e_17 c_18 e_90) ((by rw [hs_96]; exact (lp_s (by omega) (by omega) (by omega) (by omega)).trans hSp)) h (Fr.tr (Fr.tr (Fr.tr hF_9 (Fr.mono u_78 (by decide))) u_82) (Fr.mono u_87 (by decide))) (lv_sub hl [0, 2, 3] rfl)
  have hs_97 : aF 77 ws_1 = (termL T (atomD T 2) (aF 77 ws0)) := e_4
  exact lp_10 ((900 - v_5.toInt + 1).toNat) v_5 _ _ _ _ (o62_58 e_6) (o62_59 e_6) (o62_60 e_6) ((by rw [show (900 - v_5.toInt).toNat = 900 by omega, hs_97]; rfl)) h Fr.rf (lv_sub hl [0, 1, 2] rfl)
set_option maxHeartbeats 4000000 in
set_option maxRecDepth 100000 in
theorem c_X5_unit_4S {T : Nat → Int} (l : Launch) (G : GG) (Z : RZ) (ad : Nat → Nat) (ws0 : va_W) (hT : Ty G (SC tt) ad ws0) (a1 : Int32) (l1 : 4 ≤ a1.toInt) (u1 : a1.toInt ≤ 4) (hTp : Tp T ws0) : Mq l yX5_unit cX5_unit 3 none 15 G Z [.ref (ad 77), .int a1] ws0 (PV G (SC tt) ad [2, 3, 16] ws0 (fun u => (aF 77 u = unitD T 2 (aF 77 ws0)))) := by
  refine Mq.start (by decide) (Nat.le_of_ble_eq_true rfl) ?_
  intro p e s m below meth c A ls C0 hZ h hl
  have hl : lv_has ls 3 [(0, .ref (ad 77)), (1, .int a1)] := hl
  have h : Wt G (SC tt) ad A s s.heap [] ws0 := ⟨h, hT⟩
  obtain ⟨args, hargs⟩ : ∃ z, z = ([.ref (ad 77), .int a1] : List Value).toArray := ⟨_, rfl⟩
  rw [← hargs] at C0 ⊢
  have C0 : Cx p s m args meth c RX5 cX5_unit 3 none := C0
  obtain ⟨Q, hQ⟩ : ∃ z, z = MQ below ((PV G (SC tt) ad [2, 3, 16] ws0 (fun u => (aF 77 u = unitD T 2 (aF 77 ws0)))) A) args s 0 0 A := ⟨_, rfl⟩
  rw [← hQ]
  refine lv_aload_n C0.1 C0.2.1 dX5_unit_0 rfl (lv_at hl 0 rfl) ?_
  refine va_ldcS C0.1 C0.2.1 C0.2.2.2.1 (sr_19 hZ) dX5_unit_1 ?_
  refine y_ci h (y_rV (As := [.ref (Z.2.1 19)]) (rest := []) C0 hZ h (c_X5_isWordS l G Z ad _ h.2 19 (by decide) hTp) k_X5_isWord q_724 q_5 q_722 kSC_77 rfl rfl rfl hl.1 rfl rfl (Nat.le_of_ble_eq_true rfl) dX5_unit_3 ⟨Nat.le_of_ble_eq_true rfl, Nat.le_of_ble_eq_true rfl⟩ ⟨Nat.le_of_ble_eq_true rfl, Nat.le_of_ble_eq_true rfl⟩) (fun r_4 H locs ws_1 h u_2 p_3 => ?_)
  obtain ⟨e_5, e_6, e_7⟩ := p_3
  refine y_if_eq (tgt := 49) C0 dX5_unit_6 (by decide) (fun c_8 => ?_) (fun c_8 => ?_)
  · -- 6
    refine lv_aload_n C0.1 C0.2.1 dX5_unit_49 rfl (lv_at hl 0 rfl) ?_
    refine tg_X5_kind C0 h kSC_77 q_374 dX5_unit_50 (fun v_9 e_10 e_11 e_12 => ?_)
    refine y_c2 (n := 91) C0 (by decide) dX5_unit_53 (fun v_13 e_14 => ?_)
    refine y_icmp_ne (tgt := 86) C0 dX5_unit_55 (by decide) (fun c_15 => ?_) (fun c_15 => ?_)
    · -- 55
      refine lv_aload_n C0.1 C0.2.1 dX5_unit_86 rfl (lv_at hl 0 rfl) ?_
      refine lv_iload_n C0.1 C0.2.1 dX5_unit_87 rfl (lv_at hl 1 rfl) ?_
      refine y_cv h (y_rV (As := [.int a1]) (rest := []) C0 hZ h (c_X5_sum_4S l G Z ad _ h.2 a1 (o62_83 l1 u1) (o62_84 l1 u1) ((Tp.fr (M := []) hTp u_2 kSC_78 (by decide)))) k_X5_sum q_816 q_15 q_814 kSC_77 rfl rfl rfl hl.1 rfl rfl (Nat.le_of_ble_eq_true rfl) dX5_unit_88 ⟨Nat.le_of_ble_eq_true rfl, Nat.le_of_ble_eq_true rfl⟩ ⟨Nat.le_of_ble_eq_true rfl, Nat.le_of_ble_eq_true rfl⟩) (fun H locs ws_16 h u_17 p_18 => ?_)
      have e_19 := p_18
      refine lv_aload_n C0.1 C0.2.1 dX5_unit_91 rfl (lv_at hl 0 rfl) ?_
      refine tg_X5_kind C0 h kSC_77 q_374 dX5_unit_92 (fun v_20 e_21 e_22 e_23 => ?_)
      refine y_c2 (n := 61) C0 (by decide) dX5_unit_95 (fun v_24 e_25 => ?_)
      refine y_icmp_ne (tgt := 106) C0 dX5_unit_97 (by decide) (fun c_26 => ?_) (fun c_26 => ?_)
      · -- 97
        refine lv_aload_n C0.1 C0.2.1 dX5_unit_106 rfl (lv_at hl 0 rfl) ?_
        refine tg_X5_kind C0 h kSC_77 q_374 dX5_unit_107 (fun v_27 e_28 e_29 e_30 => ?_)
        have q_31 : v_27.toInt = v_20.toInt := congrArg Int32.toInt (e_28.symm.trans (Eq.trans rfl e_21))
        refine y_c2 (n := 60) C0 (by decide) dX5_unit_110 (fun v_32 e_33 => ?_)
        refine y_icmp_ne (tgt := 121) C0 dX5_unit_112 (by decide) (fun c_34 => ?_) (fun c_34 => ?_)
        · -- 112
          refine lv_aload_n C0.1 C0.2.1 dX5_unit_121 rfl (lv_at hl 0 rfl) ?_
          refine tg_X5_kind C0 h kSC_77 q_374 dX5_unit_122 (fun v_35 e_36 e_37 e_38 => ?_)
          have q_39 : v_35.toInt = v_20.toInt := congrArg Int32.toInt (e_36.symm.trans (Eq.trans rfl e_21))
          refine y_c2 (n := 62) C0 (by decide) dX5_unit_125 (fun v_40 e_41 => ?_)
          refine y_icmp_ne (tgt := 136) C0 dX5_unit_127 (by decide) (fun c_42 => ?_) (fun c_42 => ?_)
          · -- 127
            refine y_c1 (n := (-1)) C0 (by decide) dX5_unit_136 (fun v_43 e_44 => ?_)
            refine lv_istore_n (lv' := [(2, .int v_43), (0, .ref (ad 77)), (1, .int a1)]) C0.1 C0.2.1 dX5_unit_137 rfl hl (by decide) rfl (fun ls hl => ?_)
            refine lv_iload_n C0.1 C0.2.1 dX5_unit_138 rfl (lv_at hl 0 rfl) ?_
            refine y_if_ge (tgt := 148) C0 dX5_unit_139 (by decide) (fun c_45 => ((o62_42 e_44 c_45)).elim) (fun c_45 => ?_)
            refine lv_aload_n C0.1 C0.2.1 dX5_unit_142 rfl (lv_at hl 1 rfl) ?_
            refine y_c1 (n := 2) C0 (by decide) dX5_unit_143 (fun v_46 e_47 => ?_)
            refine y_cv h (y_rV (As := [.int v_46]) (rest := []) C0 hZ h (c_X5_failS l G Z ad _ h.2 v_46) k_X5_fail q_628 q_3 q_626 kSC_77 rfl rfl rfl hl.1 rfl rfl (Nat.le_of_ble_eq_true rfl) dX5_unit_144 ⟨Nat.le_of_ble_eq_true rfl, Nat.le_of_ble_eq_true rfl⟩ ⟨Nat.le_of_ble_eq_true rfl, Nat.le_of_ble_eq_true rfl⟩) (fun H locs ws_48 h u_49 p_50 => ?_)
            have e_51 := p_50
            have hq_52 := e_7
            have hs_53 : aF 77 ws_1 = (aF 77 ws0) := (aF_fr u_2 kSC_77 (by decide))
            have hv_54 : (aF 77 ws0) 4 = v_9.toInt := (congrFun hs_53 4).symm.trans (aF_at (by decide) e_10)
            have hs_55 : aF 77 ws_16 = (sumL T (atomD T 2) (aF 77 ws0)) := e_19.trans (congrArg (fun s => sumL T (atomD T 2) s) hs_53)
            have hv_56 : (sumL T (atomD T 2) (aF 77 ws0)) 4 = v_20.toInt := (congrFun hs_55 4).symm.trans (aF_at (by decide) e_21)
            have hv_57 : (sumL T (atomD T 2) (aF 77 ws0)) 4 = v_27.toInt := (congrFun hs_55 4).symm.trans (aF_at (by decide) e_28)
            have hv_58 : (sumL T (atomD T 2) (aF 77 ws0)) 4 = v_35.toInt := (congrFun hs_55 4).symm.trans (aF_at (by decide) e_36)
            have hs_59 : aF 77 ws_48 = (failS 2 (sumL T (atomD T 2) (aF 77 ws0))) := e_51.trans ((congrArg (fun s => failS v_46.toInt s) hs_55).trans (by rw [(o62_1 e_47)]))
            have hz_60 : (failS 2 (sumL T (atomD T 2) (aF 77 ws0))) = unitD T 2 (aF 77 ws0) := by rw [unitD_2]; unfold unitF; (repeat' split) <;> first | rfl | (exfalso; omega)
            rw [hQ]
            exact y_vret C0 h (Fr.tr (Fr.tr (Fr.mono u_2 (by decide)) u_17) (Fr.mono u_49 (by decide))) (Eq.trans hs_59 hz_60) dX5_unit_147
          · -- 127
            refine y_c3 (n := 2005) C0 (by decide) dX5_unit_130 (fun v_61 e_62 => ?_)
            refine lv_goto (tgt := 137) C0.1 C0.2.1 dX5_unit_133 (by decide) ?_
            refine lv_istore_n (lv' := [(2, .int v_61), (0, .ref (ad 77)), (1, .int a1)]) C0.1 C0.2.1 dX5_unit_137 rfl hl (by decide) rfl (fun ls hl => ?_)
            refine lv_iload_n C0.1 C0.2.1 dX5_unit_138 rfl (lv_at hl 0 rfl) ?_
            refine y_if_ge (tgt := 148) C0 dX5_unit_139 (by decide) (fun c_63 => ?_) (fun c_63 => ((o62_63 e_62 c_63)).elim)
            refine lv_aload_n C0.1 C0.2.1 dX5_unit_148 rfl (lv_at hl 1 rfl) ?_
            refine y_cv h (y_rV (As := []) (rest := []) C0 hZ h (c_X5_advanceS l G Z ad _ h.2 ((Tp.fr (M := [2, 3, 16]) hTp (Fr.tr (Fr.mono u_2 (by decide)) u_17) kSC_78 (by decide)))) k_X5_advance q_616 q_0 q_614 kSC_77 rfl rfl rfl hl.1 rfl rfl (Nat.le_of_ble_eq_true rfl) dX5_unit_149 ⟨Nat.le_of_ble_eq_true rfl, Nat.le_of_ble_eq_true rfl⟩ ⟨Nat.le_of_ble_eq_true rfl, Nat.le_of_ble_eq_true rfl⟩) (fun H locs ws_64 h u_65 p_66 => ?_)
            have e_67 := p_66
            refine lv_aload_n C0.1 C0.2.1 dX5_unit_152 rfl (lv_at hl 1 rfl) ?_
            refine lv_iload_n C0.1 C0.2.1 dX5_unit_153 rfl (lv_at hl 2 rfl) ?_
            refine y_cv h (y_rV (As := [.int a1]) (rest := []) C0 hZ h (c_X5_sum_4S l G Z ad _ h.2 a1 (o62_83 l1 u1) (o62_84 l1 u1) ((Tp.fr (M := [2, 3, 16]) hTp (Fr.tr (Fr.tr (Fr.mono u_2 (by decide)) u_17) (Fr.mono u_65 (by decide))) kSC_78 (by decide)))) k_X5_sum q_816 q_15 q_814 kSC_77 rfl rfl rfl hl.1 rfl rfl (Nat.le_of_ble_eq_true rfl) dX5_unit_154 ⟨Nat.le_of_ble_eq_true rfl, Nat.le_of_ble_eq_true rfl⟩ ⟨Nat.le_of_ble_eq_true rfl, Nat.le_of_ble_eq_true rfl⟩) (fun H locs ws_68 h u_69 p_70 => ?_)
            have e_71 := p_70
            refine lv_aload_n C0.1 C0.2.1 dX5_unit_157 rfl (lv_at hl 1 rfl) ?_
            refine tg_X5_law C0 h kSC_77 q_380 dX5_unit_158 (fun i_72 hi_72 => ?_)
            refine lv_iload_n C0.1 C0.2.1 dX5_unit_161 rfl (lv_at hl 0 rfl) ?_
            refine y_cv h (y_rV (As := [.int v_61]) (rest := []) C0 hZ h (c_X4_add l G Z ad _ h.2 i_72 hi_72 v_61) k_X4_add q_827 q_828 q_826 hi_72 rfl rfl rfl hl.1 rfl rfl (Nat.le_of_ble_eq_true rfl) dX5_unit_162 ⟨Nat.le_of_ble_eq_true rfl, Nat.le_of_ble_eq_true rfl⟩ ⟨Nat.le_of_ble_eq_true rfl, Nat.le_of_ble_eq_true rfl⟩) (fun H locs ws_73 h u_74 p_75 => ?_)
            have hq_76 := e_7
            have hs_77 : aF 77 ws_1 = (aF 77 ws0) := (aF_fr u_2 kSC_77 (by decide))
            have hv_78 : (aF 77 ws0) 4 = v_9.toInt := (congrFun hs_77 4).symm.trans (aF_at (by decide) e_10)
            have hs_79 : aF 77 ws_16 = (sumL T (atomD T 2) (aF 77 ws0)) := e_19.trans (congrArg (fun s => sumL T (atomD T 2) s) hs_77)
            have hv_80 : (sumL T (atomD T 2) (aF 77 ws0)) 4 = v_20.toInt := (congrFun hs_79 4).symm.trans (aF_at (by decide) e_21)
            have hv_81 : (sumL T (atomD T 2) (aF 77 ws0)) 4 = v_27.toInt := (congrFun hs_79 4).symm.trans (aF_at (by decide) e_28)
            have hv_82 : (sumL T (atomD T 2) (aF 77 ws0)) 4 = v_35.toInt := (congrFun hs_79 4).symm.trans (aF_at (by decide) e_36)
            have hs_83 : aF 77 ws_64 = (advS T (sumL T (atomD T 2) (aF 77 ws0))) := e_67.trans (congrArg (fun s => advS T s) hs_79)
            have hs_84 : aF 77 ws_68 = (sumL T (atomD T 2) (advS T (sumL T (atomD T 2) (aF 77 ws0)))) := e_71.trans (congrArg (fun s => sumL T (atomD T 2) s) hs_83)
            have hs_85 : aF 77 ws_73 = (sumL T (atomD T 2) (advS T (sumL T (atomD T 2) (aF 77 ws0)))) := (aF_fr u_74 kSC_77 (by decide)).trans hs_84
            have hz_86 : (sumL T (atomD T 2) (advS T (sumL T (atomD T 2) (aF 77 ws0)))) = unitD T 2 (aF 77 ws0) := by rw [unitD_2]; unfold unitF; (repeat' split) <;> first | rfl | (exfalso; omega)
            rw [hQ]
            exact y_vret C0 h (Fr.tr (Fr.tr (Fr.tr (Fr.tr (Fr.mono u_2 (by decide)) u_17) (Fr.mono u_65 (by decide))) u_69) (Fr.mono u_74 (by decide))) (Eq.trans hs_85 hz_86) dX5_unit_165
        · -- 112
          refine y_c3 (n := 2004) C0 (by decide) dX5_unit_115 (fun v_87 e_88 => ?_)
          refine lv_goto (tgt := 137) C0.1 C0.2.1 dX5_unit_118 (by decide) ?_
          refine lv_istore_n (lv' := [(2, .int v_87), (0, .ref (ad 77)), (1, .int a1)]) C0.1 C0.2.1 dX5_unit_137 rfl hl (by decide) rfl (fun ls hl => ?_)
          refine lv_iload_n C0.1 C0.2.1 dX5_unit_138 rfl (lv_at hl 0 rfl) ?_
          refine y_if_ge (tgt := 148) C0 dX5_unit_139 (by decide) (fun c_89 => ?_) (fun c_89 => ((o62_64 e_88 c_89)).elim)
          refine lv_aload_n C0.1 C0.2.1 dX5_unit_148 rfl (lv_at hl 1 rfl) ?_
          refine y_cv h (y_rV (As := []) (rest := []) C0 hZ h (c_X5_advanceS l G Z ad _ h.2 ((Tp.fr (M := [2, 3, 16]) hTp (Fr.tr (Fr.mono u_2 (by decide)) u_17) kSC_78 (by decide)))) k_X5_advance q_616 q_0 q_614 kSC_77 rfl rfl rfl hl.1 rfl rfl (Nat.le_of_ble_eq_true rfl) dX5_unit_149 ⟨Nat.le_of_ble_eq_true rfl, Nat.le_of_ble_eq_true rfl⟩ ⟨Nat.le_of_ble_eq_true rfl, Nat.le_of_ble_eq_true rfl⟩) (fun H locs ws_90 h u_91 p_92 => ?_)
          have e_93 := p_92
          refine lv_aload_n C0.1 C0.2.1 dX5_unit_152 rfl (lv_at hl 1 rfl) ?_
          refine lv_iload_n C0.1 C0.2.1 dX5_unit_153 rfl (lv_at hl 2 rfl) ?_
          refine y_cv h (y_rV (As := [.int a1]) (rest := []) C0 hZ h (c_X5_sum_4S l G Z ad _ h.2 a1 (o62_83 l1 u1) (o62_84 l1 u1) ((Tp.fr (M := [2, 3, 16]) hTp (Fr.tr (Fr.tr (Fr.mono u_2 (by decide)) u_17) (Fr.mono u_91 (by decide))) kSC_78 (by decide)))) k_X5_sum q_816 q_15 q_814 kSC_77 rfl rfl rfl hl.1 rfl rfl (Nat.le_of_ble_eq_true rfl) dX5_unit_154 ⟨Nat.le_of_ble_eq_true rfl, Nat.le_of_ble_eq_true rfl⟩ ⟨Nat.le_of_ble_eq_true rfl, Nat.le_of_ble_eq_true rfl⟩) (fun H locs ws_94 h u_95 p_96 => ?_)
          have e_97 := p_96
          refine lv_aload_n C0.1 C0.2.1 dX5_unit_157 rfl (lv_at hl 1 rfl) ?_
          refine tg_X5_law C0 h kSC_77 q_380 dX5_unit_158 (fun i_98 hi_98 => ?_)
          refine lv_iload_n C0.1 C0.2.1 dX5_unit_161 rfl (lv_at hl 0 rfl) ?_
          refine y_cv h (y_rV (As := [.int v_87]) (rest := []) C0 hZ h (c_X4_add l G Z ad _ h.2 i_98 hi_98 v_87) k_X4_add q_827 q_828 q_826 hi_98 rfl rfl rfl hl.1 rfl rfl (Nat.le_of_ble_eq_true rfl) dX5_unit_162 ⟨Nat.le_of_ble_eq_true rfl, Nat.le_of_ble_eq_true rfl⟩ ⟨Nat.le_of_ble_eq_true rfl, Nat.le_of_ble_eq_true rfl⟩) (fun H locs ws_99 h u_100 p_101 => ?_)
          have hq_102 := e_7
          have hs_103 : aF 77 ws_1 = (aF 77 ws0) := (aF_fr u_2 kSC_77 (by decide))
          have hv_104 : (aF 77 ws0) 4 = v_9.toInt := (congrFun hs_103 4).symm.trans (aF_at (by decide) e_10)
          have hs_105 : aF 77 ws_16 = (sumL T (atomD T 2) (aF 77 ws0)) := e_19.trans (congrArg (fun s => sumL T (atomD T 2) s) hs_103)
          have hv_106 : (sumL T (atomD T 2) (aF 77 ws0)) 4 = v_20.toInt := (congrFun hs_105 4).symm.trans (aF_at (by decide) e_21)
          have hv_107 : (sumL T (atomD T 2) (aF 77 ws0)) 4 = v_27.toInt := (congrFun hs_105 4).symm.trans (aF_at (by decide) e_28)
          have hs_108 : aF 77 ws_90 = (advS T (sumL T (atomD T 2) (aF 77 ws0))) := e_93.trans (congrArg (fun s => advS T s) hs_105)
          have hs_109 : aF 77 ws_94 = (sumL T (atomD T 2) (advS T (sumL T (atomD T 2) (aF 77 ws0)))) := e_97.trans (congrArg (fun s => sumL T (atomD T 2) s) hs_108)
          have hs_110 : aF 77 ws_99 = (sumL T (atomD T 2) (advS T (sumL T (atomD T 2) (aF 77 ws0)))) := (aF_fr u_100 kSC_77 (by decide)).trans hs_109
          have hz_111 : (sumL T (atomD T 2) (advS T (sumL T (atomD T 2) (aF 77 ws0)))) = unitD T 2 (aF 77 ws0) := by rw [unitD_2]; unfold unitF; (repeat' split) <;> first | rfl | (exfalso; omega)
          rw [hQ]
          exact y_vret C0 h (Fr.tr (Fr.tr (Fr.tr (Fr.tr (Fr.mono u_2 (by decide)) u_17) (Fr.mono u_91 (by decide))) u_95) (Fr.mono u_100 (by decide))) (Eq.trans hs_110 hz_111) dX5_unit_165
      · -- 97
        refine y_c3 (n := 2003) C0 (by decide) dX5_unit_100 (fun v_112 e_113 => ?_)
        refine lv_goto (tgt := 137) C0.1 C0.2.1 dX5_unit_103 (by decide) ?_
        refine lv_istore_n (lv' := [(2, .int v_112), (0, .ref (ad 77)), (1, .int a1)]) C0.1 C0.2.1 dX5_unit_137 rfl hl (by decide) rfl (fun ls hl => ?_)
        refine lv_iload_n C0.1 C0.2.1 dX5_unit_138 rfl (lv_at hl 0 rfl) ?_
        refine y_if_ge (tgt := 148) C0 dX5_unit_139 (by decide) (fun c_114 => ?_) (fun c_114 => ((o62_65 e_113 c_114)).elim)
        refine lv_aload_n C0.1 C0.2.1 dX5_unit_148 rfl (lv_at hl 1 rfl) ?_
        refine y_cv h (y_rV (As := []) (rest := []) C0 hZ h (c_X5_advanceS l G Z ad _ h.2 ((Tp.fr (M := [2, 3, 16]) hTp (Fr.tr (Fr.mono u_2 (by decide)) u_17) kSC_78 (by decide)))) k_X5_advance q_616 q_0 q_614 kSC_77 rfl rfl rfl hl.1 rfl rfl (Nat.le_of_ble_eq_true rfl) dX5_unit_149 ⟨Nat.le_of_ble_eq_true rfl, Nat.le_of_ble_eq_true rfl⟩ ⟨Nat.le_of_ble_eq_true rfl, Nat.le_of_ble_eq_true rfl⟩) (fun H locs ws_115 h u_116 p_117 => ?_)
        have e_118 := p_117
        refine lv_aload_n C0.1 C0.2.1 dX5_unit_152 rfl (lv_at hl 1 rfl) ?_
        refine lv_iload_n C0.1 C0.2.1 dX5_unit_153 rfl (lv_at hl 2 rfl) ?_
        refine y_cv h (y_rV (As := [.int a1]) (rest := []) C0 hZ h (c_X5_sum_4S l G Z ad _ h.2 a1 (o62_83 l1 u1) (o62_84 l1 u1) ((Tp.fr (M := [2, 3, 16]) hTp (Fr.tr (Fr.tr (Fr.mono u_2 (by decide)) u_17) (Fr.mono u_116 (by decide))) kSC_78 (by decide)))) k_X5_sum q_816 q_15 q_814 kSC_77 rfl rfl rfl hl.1 rfl rfl (Nat.le_of_ble_eq_true rfl) dX5_unit_154 ⟨Nat.le_of_ble_eq_true rfl, Nat.le_of_ble_eq_true rfl⟩ ⟨Nat.le_of_ble_eq_true rfl, Nat.le_of_ble_eq_true rfl⟩) (fun H locs ws_119 h u_120 p_121 => ?_)
        have e_122 := p_121
        refine lv_aload_n C0.1 C0.2.1 dX5_unit_157 rfl (lv_at hl 1 rfl) ?_
        refine tg_X5_law C0 h kSC_77 q_380 dX5_unit_158 (fun i_123 hi_123 => ?_)
        refine lv_iload_n C0.1 C0.2.1 dX5_unit_161 rfl (lv_at hl 0 rfl) ?_
        refine y_cv h (y_rV (As := [.int v_112]) (rest := []) C0 hZ h (c_X4_add l G Z ad _ h.2 i_123 hi_123 v_112) k_X4_add q_827 q_828 q_826 hi_123 rfl rfl rfl hl.1 rfl rfl (Nat.le_of_ble_eq_true rfl) dX5_unit_162 ⟨Nat.le_of_ble_eq_true rfl, Nat.le_of_ble_eq_true rfl⟩ ⟨Nat.le_of_ble_eq_true rfl, Nat.le_of_ble_eq_true rfl⟩) (fun H locs ws_124 h u_125 p_126 => ?_)
        have hq_127 := e_7
        have hs_128 : aF 77 ws_1 = (aF 77 ws0) := (aF_fr u_2 kSC_77 (by decide))
        have hv_129 : (aF 77 ws0) 4 = v_9.toInt := (congrFun hs_128 4).symm.trans (aF_at (by decide) e_10)
        have hs_130 : aF 77 ws_16 = (sumL T (atomD T 2) (aF 77 ws0)) := e_19.trans (congrArg (fun s => sumL T (atomD T 2) s) hs_128)
        have hv_131 : (sumL T (atomD T 2) (aF 77 ws0)) 4 = v_20.toInt := (congrFun hs_130 4).symm.trans (aF_at (by decide) e_21)
        have hs_132 : aF 77 ws_115 = (advS T (sumL T (atomD T 2) (aF 77 ws0))) := e_118.trans (congrArg (fun s => advS T s) hs_130)
        have hs_133 : aF 77 ws_119 = (sumL T (atomD T 2) (advS T (sumL T (atomD T 2) (aF 77 ws0)))) := e_122.trans (congrArg (fun s => sumL T (atomD T 2) s) hs_132)
        have hs_134 : aF 77 ws_124 = (sumL T (atomD T 2) (advS T (sumL T (atomD T 2) (aF 77 ws0)))) := (aF_fr u_125 kSC_77 (by decide)).trans hs_133
        have hz_135 : (sumL T (atomD T 2) (advS T (sumL T (atomD T 2) (aF 77 ws0)))) = unitD T 2 (aF 77 ws0) := by rw [unitD_2]; unfold unitF; (repeat' split) <;> first | rfl | (exfalso; omega)
        rw [hQ]
        exact y_vret C0 h (Fr.tr (Fr.tr (Fr.tr (Fr.tr (Fr.mono u_2 (by decide)) u_17) (Fr.mono u_116 (by decide))) u_120) (Fr.mono u_125 (by decide))) (Eq.trans hs_134 hz_135) dX5_unit_165
    · -- 55
      refine lv_aload_n C0.1 C0.2.1 dX5_unit_58 rfl (lv_at hl 0 rfl) ?_
      refine lv_iload_n C0.1 C0.2.1 dX5_unit_59 rfl (lv_at hl 1 rfl) ?_
      refine y_ci h (y_rV (As := [.int a1]) (rest := []) C0 hZ h (c_X5_tooDeep_4S l G Z ad _ h.2 a1 (o62_83 l1 u1) (o62_84 l1 u1)) k_X5_tooDeep q_832 q_18 q_830 kSC_77 rfl rfl rfl hl.1 rfl rfl (Nat.le_of_ble_eq_true rfl) dX5_unit_60 ⟨Nat.le_of_ble_eq_true rfl, Nat.le_of_ble_eq_true rfl⟩ ⟨Nat.le_of_ble_eq_true rfl, Nat.le_of_ble_eq_true rfl⟩) (fun r_139 H locs ws_136 h u_137 p_138 => ?_)
      obtain ⟨e_140, e_141, e_142⟩ := p_138
      refine y_if_ne (tgt := 165) C0 dX5_unit_63 (by decide) (fun c_143 => ((o62_71 e_140 e_141 c_143)).elim) (fun c_143 => ?_)
      refine lv_aload_n C0.1 C0.2.1 dX5_unit_66 rfl (lv_at hl 0 rfl) ?_
      refine y_cv h (y_rV (As := []) (rest := []) C0 hZ h (c_X5_advanceS l G Z ad _ h.2 ((Tp.fr (M := []) hTp (Fr.tr u_2 u_137) kSC_78 (by decide)))) k_X5_advance q_616 q_0 q_614 kSC_77 rfl rfl rfl hl.1 rfl rfl (Nat.le_of_ble_eq_true rfl) dX5_unit_67 ⟨Nat.le_of_ble_eq_true rfl, Nat.le_of_ble_eq_true rfl⟩ ⟨Nat.le_of_ble_eq_true rfl, Nat.le_of_ble_eq_true rfl⟩) (fun H locs ws_144 h u_145 p_146 => ?_)
      have e_147 := p_146
      refine lv_aload_n C0.1 C0.2.1 dX5_unit_70 rfl (lv_at hl 0 rfl) ?_
      refine lv_iload_n C0.1 C0.2.1 dX5_unit_71 rfl (lv_at hl 1 rfl) ?_
      refine y_c1 (n := 1) C0 (by decide) dX5_unit_72 (fun v_148 e_149 => ?_)
      refine y_add C0 (o62_85 l1 u1 e_149 (le_min a1) (le_max a1) (le_min v_148) (le_max v_148)) (o62_86 l1 u1 e_149 (le_min a1) (le_max a1) (le_min v_148) (le_max v_148)) dX5_unit_73 (fun v_150 e_151 => ?_)
      refine y_cv h (y_rV (As := [.int v_150]) (rest := []) C0 hZ h (c_X5_truth_5S l G Z ad _ h.2 v_150 (o62_87 l1 u1 e_149 e_151) (o62_88 l1 u1 e_149 e_151) ((Tp.fr (M := [16]) hTp (Fr.tr (Fr.tr (Fr.mono u_2 (by decide)) (Fr.mono u_137 (by decide))) u_145) kSC_78 (by decide)))) k_X5_truth q_843 q_19 q_841 kSC_77 rfl rfl rfl hl.1 rfl rfl (Nat.le_of_ble_eq_true rfl) dX5_unit_74 ⟨Nat.le_of_ble_eq_true rfl, Nat.le_of_ble_eq_true rfl⟩ ⟨Nat.le_of_ble_eq_true rfl, Nat.le_of_ble_eq_true rfl⟩) (fun H locs ws_152 h u_153 p_154 => ?_)
      have e_155 := p_154
      refine lv_aload_n C0.1 C0.2.1 dX5_unit_77 rfl (lv_at hl 0 rfl) ?_
      refine y_c2 (n := 93) C0 (by decide) dX5_unit_78 (fun v_156 e_157 => ?_)
      refine y_cv h (y_rV (As := [.int v_156]) (rest := []) C0 hZ h (c_X5_signS l G Z ad _ h.2 v_156 (o62_79 e_157) (o62_80 e_157) ((Tp.fr (M := [2, 3, 16]) hTp (Fr.tr (Fr.tr (Fr.tr (Fr.mono u_2 (by decide)) (Fr.mono u_137 (by decide))) (Fr.mono u_145 (by decide))) u_153) kSC_78 (by decide)))) k_X5_sign q_812 q_14 q_810 kSC_77 rfl rfl rfl hl.1 rfl rfl (Nat.le_of_ble_eq_true rfl) dX5_unit_80 ⟨Nat.le_of_ble_eq_true rfl, Nat.le_of_ble_eq_true rfl⟩ ⟨Nat.le_of_ble_eq_true rfl, Nat.le_of_ble_eq_true rfl⟩) (fun H locs ws_158 h u_159 p_160 => ?_)
      have e_161 := p_160
      refine lv_goto (tgt := 165) C0.1 C0.2.1 dX5_unit_83 (by decide) ?_
      have hq_162 := e_7
      have hs_163 : aF 77 ws_1 = (aF 77 ws0) := (aF_fr u_2 kSC_77 (by decide))
      have hv_164 : (aF 77 ws0) 4 = v_9.toInt := (congrFun hs_163 4).symm.trans (aF_at (by decide) e_10)
      have hs_165 : aF 77 ws_136 = ((fun s => s) (aF 77 ws0)) := e_142.trans (congrArg (fun s => (fun s => s) s) hs_163)
      have hs_166 : aF 77 ws_144 = (advS T ((fun s => s) (aF 77 ws0))) := e_147.trans (congrArg (fun s => advS T s) hs_165)
      have hs_167 : aF 77 ws_152 = (truthL T (unitD T 1) (advS T ((fun s => s) (aF 77 ws0)))) := e_155.trans (congrArg (fun s => truthL T (unitD T 1) s) hs_166)
      have hs_168 : aF 77 ws_158 = (signS T 93 (truthL T (unitD T 1) (advS T ((fun s => s) (aF 77 ws0))))) := e_161.trans ((congrArg (fun s => signS T v_156.toInt s) hs_167).trans (by rw [(o62_81 e_157)]))
      have hz_169 : (signS T 93 (truthL T (unitD T 1) (advS T ((fun s => s) (aF 77 ws0))))) = unitD T 2 (aF 77 ws0) := by rw [unitD_2]; unfold unitF; (repeat' split) <;> first | rfl | (exfalso; omega)
      rw [hQ]
      exact y_vret C0 h (Fr.tr (Fr.tr (Fr.tr (Fr.tr (Fr.mono u_2 (by decide)) (Fr.mono u_137 (by decide))) (Fr.mono u_145 (by decide))) u_153) (Fr.mono u_159 (by decide))) (Eq.trans hs_168 hz_169) dX5_unit_165
  · -- 6
    refine lv_aload_n C0.1 C0.2.1 dX5_unit_9 rfl (lv_at hl 0 rfl) ?_
    refine lv_iload_n C0.1 C0.2.1 dX5_unit_10 rfl (lv_at hl 1 rfl) ?_
    refine y_ci h (y_rV (As := [.int a1]) (rest := []) C0 hZ h (c_X5_tooDeep_4S l G Z ad _ h.2 a1 (o62_83 l1 u1) (o62_84 l1 u1)) k_X5_tooDeep q_832 q_18 q_830 kSC_77 rfl rfl rfl hl.1 rfl rfl (Nat.le_of_ble_eq_true rfl) dX5_unit_11 ⟨Nat.le_of_ble_eq_true rfl, Nat.le_of_ble_eq_true rfl⟩ ⟨Nat.le_of_ble_eq_true rfl, Nat.le_of_ble_eq_true rfl⟩) (fun r_173 H locs ws_170 h u_171 p_172 => ?_)
    obtain ⟨e_174, e_175, e_176⟩ := p_172
    refine y_if_ne (tgt := 165) C0 dX5_unit_14 (by decide) (fun c_177 => ((o62_71 e_174 e_175 c_177)).elim) (fun c_177 => ?_)
    refine lv_aload_n C0.1 C0.2.1 dX5_unit_17 rfl (lv_at hl 0 rfl) ?_
    refine y_cv h (y_rV (As := []) (rest := []) C0 hZ h (c_X5_advanceS l G Z ad _ h.2 ((Tp.fr (M := []) hTp (Fr.tr u_2 u_171) kSC_78 (by decide)))) k_X5_advance q_616 q_0 q_614 kSC_77 rfl rfl rfl hl.1 rfl rfl (Nat.le_of_ble_eq_true rfl) dX5_unit_18 ⟨Nat.le_of_ble_eq_true rfl, Nat.le_of_ble_eq_true rfl⟩ ⟨Nat.le_of_ble_eq_true rfl, Nat.le_of_ble_eq_true rfl⟩) (fun H locs ws_178 h u_179 p_180 => ?_)
    have e_181 := p_180
    refine lv_aload_n C0.1 C0.2.1 dX5_unit_21 rfl (lv_at hl 0 rfl) ?_
    refine lv_iload_n C0.1 C0.2.1 dX5_unit_22 rfl (lv_at hl 1 rfl) ?_
    refine y_c1 (n := 1) C0 (by decide) dX5_unit_23 (fun v_182 e_183 => ?_)
    refine y_add C0 (o62_85 l1 u1 e_183 (le_min a1) (le_max a1) (le_min v_182) (le_max v_182)) (o62_86 l1 u1 e_183 (le_min a1) (le_max a1) (le_min v_182) (le_max v_182)) dX5_unit_24 (fun v_184 e_185 => ?_)
    refine y_cv h (y_rV (As := [.int v_184]) (rest := []) C0 hZ h (c_X5_unit_5S l G Z ad _ h.2 v_184 (o62_87 l1 u1 e_183 e_185) (o62_88 l1 u1 e_183 e_185) ((Tp.fr (M := [16]) hTp (Fr.tr (Fr.tr (Fr.mono u_2 (by decide)) (Fr.mono u_171 (by decide))) u_179) kSC_78 (by decide)))) k_X5_unit q_851 q_21 q_849 kSC_77 rfl rfl rfl hl.1 rfl rfl (Nat.le_of_ble_eq_true rfl) dX5_unit_25 ⟨Nat.le_of_ble_eq_true rfl, Nat.le_of_ble_eq_true rfl⟩ ⟨Nat.le_of_ble_eq_true rfl, Nat.le_of_ble_eq_true rfl⟩) (fun H locs ws_186 h u_187 p_188 => ?_)
    have e_189 := p_188
    refine lv_aload_n C0.1 C0.2.1 dX5_unit_28 rfl (lv_at hl 0 rfl) ?_
    refine tg_X5_law C0 h kSC_77 q_380 dX5_unit_29 (fun i_190 hi_190 => ?_)
    refine y_c1 (n := 0) C0 (by decide) dX5_unit_32 (fun v_191 e_192 => ?_)
    refine y_cv h (y_rV (As := [.int v_191]) (rest := []) C0 hZ h (c_X4_add l G Z ad _ h.2 i_190 hi_190 v_191) k_X4_add q_827 q_828 q_826 hi_190 rfl rfl rfl hl.1 rfl rfl (Nat.le_of_ble_eq_true rfl) dX5_unit_33 ⟨Nat.le_of_ble_eq_true rfl, Nat.le_of_ble_eq_true rfl⟩ ⟨Nat.le_of_ble_eq_true rfl, Nat.le_of_ble_eq_true rfl⟩) (fun H locs ws_193 h u_194 p_195 => ?_)
    refine lv_aload_n C0.1 C0.2.1 dX5_unit_36 rfl (lv_at hl 0 rfl) ?_
    refine tg_X5_law C0 h kSC_77 q_380 dX5_unit_37 (fun i_196 hi_196 => ?_)
    refine y_c3 (n := 2003) C0 (by decide) dX5_unit_40 (fun v_197 e_198 => ?_)
    refine y_cv h (y_rV (As := [.int v_197]) (rest := []) C0 hZ h (c_X4_add l G Z ad _ h.2 i_196 hi_196 v_197) k_X4_add q_827 q_828 q_826 hi_196 rfl rfl rfl hl.1 rfl rfl (Nat.le_of_ble_eq_true rfl) dX5_unit_43 ⟨Nat.le_of_ble_eq_true rfl, Nat.le_of_ble_eq_true rfl⟩ ⟨Nat.le_of_ble_eq_true rfl, Nat.le_of_ble_eq_true rfl⟩) (fun H locs ws_199 h u_200 p_201 => ?_)
    refine lv_goto (tgt := 165) C0.1 C0.2.1 dX5_unit_46 (by decide) ?_
    have hq_202 := e_7
    have hs_203 : aF 77 ws_1 = (aF 77 ws0) := (aF_fr u_2 kSC_77 (by decide))
    have hs_204 : aF 77 ws_170 = ((fun s => s) (aF 77 ws0)) := e_176.trans (congrArg (fun s => (fun s => s) s) hs_203)
    have hs_205 : aF 77 ws_178 = (advS T ((fun s => s) (aF 77 ws0))) := e_181.trans (congrArg (fun s => advS T s) hs_204)
    have hs_206 : aF 77 ws_186 = (unitD T 1 (advS T ((fun s => s) (aF 77 ws0)))) := e_189.trans (congrArg (fun s => unitD T 1 s) hs_205)
    have hs_207 : aF 77 ws_193 = (unitD T 1 (advS T ((fun s => s) (aF 77 ws0)))) := (aF_fr u_194 kSC_77 (by decide)).trans hs_206
    have hs_208 : aF 77 ws_199 = (unitD T 1 (advS T ((fun s => s) (aF 77 ws0)))) := (aF_fr u_200 kSC_77 (by decide)).trans hs_207
    have hz_209 : (unitD T 1 (advS T ((fun s => s) (aF 77 ws0)))) = unitD T 2 (aF 77 ws0) := by rw [unitD_2]; unfold unitF; (repeat' split) <;> first | rfl | (exfalso; omega)
    rw [hQ]
    exact y_vret C0 h (Fr.tr (Fr.tr (Fr.tr (Fr.tr (Fr.tr (Fr.mono u_2 (by decide)) (Fr.mono u_171 (by decide))) (Fr.mono u_179 (by decide))) u_187) (Fr.mono u_194 (by decide))) (Fr.mono u_200 (by decide))) (Eq.trans hs_208 hz_209) dX5_unit_165
set_option maxHeartbeats 4000000 in
set_option maxRecDepth 100000 in
theorem c_X5_both_4S {T : Nat → Int} (l : Launch) (G : GG) (Z : RZ) (ad : Nat → Nat) (ws0 : va_W) (hT : Ty G (SC tt) ad ws0) (a1 : Int32) (l1 : 4 ≤ a1.toInt) (u1 : a1.toInt ≤ 4) (hTp : Tp T ws0) : Mq l yX5_both cX5_both 3 none 16 G Z [.ref (ad 77), .int a1] ws0 (PV G (SC tt) ad [2, 3, 16] ws0 (fun u => (aF 77 u = bothL T (unitD T 2) (aF 77 ws0)))) := by
  refine Mq.start (by decide) (Nat.le_of_ble_eq_true rfl) ?_
  intro p e s m below meth c A ls C0 hZ h hl
  have hl : lv_has ls 3 [(0, .ref (ad 77)), (1, .int a1)] := hl
  have h : Wt G (SC tt) ad A s s.heap [] ws0 := ⟨h, hT⟩
  obtain ⟨args, hargs⟩ : ∃ z, z = ([.ref (ad 77), .int a1] : List Value).toArray := ⟨_, rfl⟩
  rw [← hargs] at C0 ⊢
  have C0 : Cx p s m args meth c RX5 cX5_both 3 none := C0
  obtain ⟨Q, hQ⟩ : ∃ z, z = MQ below ((PV G (SC tt) ad [2, 3, 16] ws0 (fun u => (aF 77 u = bothL T (unitD T 2) (aF 77 ws0)))) A) args s 0 0 A := ⟨_, rfl⟩
  rw [← hQ]
  refine lv_aload_n C0.1 C0.2.1 dX5_both_0 rfl (lv_at hl 0 rfl) ?_
  refine lv_iload_n C0.1 C0.2.1 dX5_both_1 rfl (lv_at hl 1 rfl) ?_
  refine y_cv h (y_rV (As := [.int a1]) (rest := []) C0 hZ h (c_X5_unit_4S l G Z ad _ h.2 a1 (o62_83 l1 u1) (o62_84 l1 u1) hTp) k_X5_unit q_851 q_21 q_849 kSC_77 rfl rfl rfl hl.1 rfl rfl (Nat.le_of_ble_eq_true rfl) dX5_both_2 ⟨Nat.le_of_ble_eq_true rfl, Nat.le_of_ble_eq_true rfl⟩ ⟨Nat.le_of_ble_eq_true rfl, Nat.le_of_ble_eq_true rfl⟩) (fun H locs ws_1 h u_2 p_3 => ?_)
  have e_4 := p_3
  refine y_c1 (n := 0) C0 (by decide) dX5_both_5 (fun v_5 e_6 => ?_)
  refine lv_istore_n (lv' := [(2, .int v_5), (0, .ref (ad 77)), (1, .int a1)]) C0.1 C0.2.1 dX5_both_6 rfl hl (by decide) rfl (fun ls hl => ?_)
  have lp_10 : ∀ (n_12 : Nat) (x2_7 : Int32) (H : Heap) (locs : List Loc) (ls : Array Slot) (ws_8 : va_W), 900 - x2_7.toInt < (n_12 : Int) → 0 ≤ x2_7.toInt → x2_7.toInt ≤ 900 → (lpS (fun s => wI T 20 s = 1) (fun s => unitD T 2 (advS T s)) (900 - x2_7.toInt).toNat (aF 77 ws_8) = bothL T (unitD T 2) (aF 77 ws0)) → Wt G (SC tt) ad A s H locs ws_8 → Fr (SC tt) [2, 3, 16] ws_1 ws_8 → lv_has ls 3 [(2, .int x2_7), (0, .ref (ad 77)), (1, .int a1)] → W p l e (rmd 16 0 0) s m args below meth c H locs 0 0 Q (F0 m 7 ls []) := by
    intro n_12
    induction n_12 with
    | zero => intro x2_7 H locs ls ws_8 hn_13 b_14 b_15 hSp h hF_9 hl; exact ((o62_52 b_14 b_15 hn_13)).elim
    | succ n_12 ih_11 =>
      intro x2_7 H locs ls ws_8 hn_13 b_14 b_15 hSp h hF_9 hl
      refine lv_iload_n C0.1 C0.2.1 dX5_both_7 rfl (lv_at hl 0 rfl) ?_
      refine y_c3 (n := 900) C0 (by decide) dX5_both_8 (fun v_16 e_17 => ?_)
      refine y_icmp_ge (tgt := 48) C0 dX5_both_11 (by decide) (fun c_18 => ?_) (fun c_18 => ?_)
      · -- 11
        have hz_19 : (aF 77 ws_8) = lpS (fun s => wI T 20 s = 1) (fun s => unitD T 2 (advS T s)) (900 - x2_7.toInt).toNat (aF 77 ws_8) := by first | (exfalso; omega) | exact (lp_0 (by omega)).symm | exact (lp_e (by omega)).symm
        rw [hQ]
        exact y_vret C0 h (Fr.tr u_2 hF_9) (Eq.trans rfl (Eq.trans hz_19 hSp)) dX5_both_48
      · -- 11
        refine lv_aload_n C0.1 C0.2.1 dX5_both_14 rfl (lv_at hl 1 rfl) ?_
        refine va_ldcS C0.1 C0.2.1 C0.2.2.2.1 (sr_20 hZ) dX5_both_15 ?_
        refine y_ci h (y_rV (As := [.ref (Z.2.1 20)]) (rest := []) C0 hZ h (c_X5_isWordS l G Z ad _ h.2 20 (by decide) ((Tp.fr (M := [2, 3, 16]) hTp (Fr.tr u_2 hF_9) kSC_78 (by decide)))) k_X5_isWord q_724 q_5 q_722 kSC_77 rfl rfl rfl hl.1 rfl rfl (Nat.le_of_ble_eq_true rfl) dX5_both_17 ⟨Nat.le_of_ble_eq_true rfl, Nat.le_of_ble_eq_true rfl⟩ ⟨Nat.le_of_ble_eq_true rfl, Nat.le_of_ble_eq_true rfl⟩) (fun r_23 H locs ws_20 h u_21 p_22 => ?_)
        obtain ⟨e_24, e_25, e_26⟩ := p_22
        refine y_if_eq (tgt := 48) C0 dX5_both_20 (by decide) (fun c_27 => ?_) (fun c_27 => ?_)
        · -- 20
          have hq_28 := e_26
          have hs_29 : aF 77 ws_20 = (aF 77 ws_8) := (aF_fr u_21 kSC_77 (by decide))
          have hz_30 : (aF 77 ws_8) = lpS (fun s => wI T 20 s = 1) (fun s => unitD T 2 (advS T s)) (900 - x2_7.toInt).toNat (aF 77 ws_8) := by first | (exfalso; omega) | exact (lp_0 (by omega)).symm | exact (lp_e (by omega)).symm
          rw [hQ]
          exact y_vret C0 h (Fr.tr (Fr.tr u_2 hF_9) (Fr.mono u_21 (by decide))) (Eq.trans hs_29 (Eq.trans hz_30 hSp)) dX5_both_48
        · -- 20
          refine lv_aload_n C0.1 C0.2.1 dX5_both_23 rfl (lv_at hl 1 rfl) ?_
          refine y_cv h (y_rV (As := []) (rest := []) C0 hZ h (c_X5_advanceS l G Z ad _ h.2 ((Tp.fr (M := [2, 3, 16]) hTp (Fr.tr (Fr.tr u_2 hF_9) (Fr.mono u_21 (by decide))) kSC_78 (by decide)))) k_X5_advance q_616 q_0 q_614 kSC_77 rfl rfl rfl hl.1 rfl rfl (Nat.le_of_ble_eq_true rfl) dX5_both_24 ⟨Nat.le_of_ble_eq_true rfl, Nat.le_of_ble_eq_true rfl⟩ ⟨Nat.le_of_ble_eq_true rfl, Nat.le_of_ble_eq_true rfl⟩) (fun H locs ws_31 h u_32 p_33 => ?_)
          have e_34 := p_33
          refine lv_aload_n C0.1 C0.2.1 dX5_both_27 rfl (lv_at hl 1 rfl) ?_
          refine lv_iload_n C0.1 C0.2.1 dX5_both_28 rfl (lv_at hl 2 rfl) ?_
          refine y_cv h (y_rV (As := [.int a1]) (rest := []) C0 hZ h (c_X5_unit_4S l G Z ad _ h.2 a1 (o62_83 l1 u1) (o62_84 l1 u1) ((Tp.fr (M := [2, 3, 16]) hTp (Fr.tr (Fr.tr (Fr.tr u_2 hF_9) (Fr.mono u_21 (by decide))) (Fr.mono u_32 (by decide))) kSC_78 (by decide)))) k_X5_unit q_851 q_21 q_849 kSC_77 rfl rfl rfl hl.1 rfl rfl (Nat.le_of_ble_eq_true rfl) dX5_both_29 ⟨Nat.le_of_ble_eq_true rfl, Nat.le_of_ble_eq_true rfl⟩ ⟨Nat.le_of_ble_eq_true rfl, Nat.le_of_ble_eq_true rfl⟩) (fun H locs ws_35 h u_36 p_37 => ?_)
          have e_38 := p_37
          refine lv_aload_n C0.1 C0.2.1 dX5_both_32 rfl (lv_at hl 1 rfl) ?_
          refine tg_X5_law C0 h kSC_77 q_380 dX5_both_33 (fun i_39 hi_39 => ?_)
          refine y_c3 (n := 2006) C0 (by decide) dX5_both_36 (fun v_40 e_41 => ?_)
          refine y_cv h (y_rV (As := [.int v_40]) (rest := []) C0 hZ h (c_X4_add l G Z ad _ h.2 i_39 hi_39 v_40) k_X4_add q_827 q_828 q_826 hi_39 rfl rfl rfl hl.1 rfl rfl (Nat.le_of_ble_eq_true rfl) dX5_both_39 ⟨Nat.le_of_ble_eq_true rfl, Nat.le_of_ble_eq_true rfl⟩ ⟨Nat.le_of_ble_eq_true rfl, Nat.le_of_ble_eq_true rfl⟩) (fun H locs ws_42 h u_43 p_44 => ?_)
          refine y_inc (kp := 0) (n := 1) (fun v_45 => [(2, .int v_45), (0, .ref (ad 77)), (1, .int a1)]) C0 hl rfl (by decide) (by decide) (fun _ => rfl) (o62_53 b_14 b_15 hn_13 e_17 c_18 (le_min x2_7) (le_max x2_7) (le_min v_16) (le_max v_16)) (o62_54 b_14 b_15 hn_13 e_17 c_18 (le_min x2_7) (le_max x2_7) (le_min v_16) (le_max v_16)) dX5_both_42 (fun v_45 ls e_46 hl => ?_)
          refine lv_goto (tgt := 7) C0.1 C0.2.1 dX5_both_45 (by decide) ?_
          have hq_47 := e_26
          have hs_48 : aF 77 ws_20 = (aF 77 ws_8) := (aF_fr u_21 kSC_77 (by decide))
          have hs_49 : aF 77 ws_31 = (advS T (aF 77 ws_8)) := e_34.trans (congrArg (fun s => advS T s) hs_48)
          have hs_50 : aF 77 ws_35 = (unitD T 2 (advS T (aF 77 ws_8))) := e_38.trans (congrArg (fun s => unitD T 2 s) hs_49)
          have hs_51 : aF 77 ws_42 = (unitD T 2 (advS T (aF 77 ws_8))) := (aF_fr u_43 kSC_77 (by decide)).trans hs_50
          exact ih_11 v_45 _ _ _ _ (o62_55 b_14 b_15 hn_13 e_17 c_18 e_46) (o62_56 b_14 b_15 hn_13 e_17 c_18 e_46) (o62_57 b_14 b_15 hn_13 e_17 c_18 e_46) ((by rw [hs_51]; exact (lp_s (by omega) (by omega) (by omega) (by omega)).trans hSp)) h (Fr.tr (Fr.tr (Fr.tr (Fr.tr hF_9 (Fr.mono u_21 (by decide))) (Fr.mono u_32 (by decide))) u_36) (Fr.mono u_43 (by decide))) (lv_sub hl [0, 1, 2] rfl)
  have hs_52 : aF 77 ws_1 = (unitD T 2 (aF 77 ws0)) := e_4
  exact lp_10 ((900 - v_5.toInt + 1).toNat) v_5 _ _ _ _ (o62_58 e_6) (o62_59 e_6) (o62_60 e_6) ((by rw [show (900 - v_5.toInt).toNat = 900 by omega, hs_52]; rfl)) h Fr.rf (lv_sub hl [0, 1, 2] rfl)
set_option maxHeartbeats 4000000 in
set_option maxRecDepth 100000 in
theorem c_X5_truth_4S {T : Nat → Int} (l : Launch) (G : GG) (Z : RZ) (ad : Nat → Nat) (ws0 : va_W) (hT : Ty G (SC tt) ad ws0) (a1 : Int32) (l1 : 4 ≤ a1.toInt) (u1 : a1.toInt ≤ 4) (hTp : Tp T ws0) : Mq l yX5_truth cX5_truth 3 none 17 G Z [.ref (ad 77), .int a1] ws0 (PV G (SC tt) ad [2, 3, 16] ws0 (fun u => (aF 77 u = truthL T (unitD T 2) (aF 77 ws0)))) := by
  refine Mq.start (by decide) (Nat.le_of_ble_eq_true rfl) ?_
  intro p e s m below meth c A ls C0 hZ h hl
  have hl : lv_has ls 3 [(0, .ref (ad 77)), (1, .int a1)] := hl
  have h : Wt G (SC tt) ad A s s.heap [] ws0 := ⟨h, hT⟩
  obtain ⟨args, hargs⟩ : ∃ z, z = ([.ref (ad 77), .int a1] : List Value).toArray := ⟨_, rfl⟩
  rw [← hargs] at C0 ⊢
  have C0 : Cx p s m args meth c RX5 cX5_truth 3 none := C0
  obtain ⟨Q, hQ⟩ : ∃ z, z = MQ below ((PV G (SC tt) ad [2, 3, 16] ws0 (fun u => (aF 77 u = truthL T (unitD T 2) (aF 77 ws0)))) A) args s 0 0 A := ⟨_, rfl⟩
  rw [← hQ]
  refine lv_aload_n C0.1 C0.2.1 dX5_truth_0 rfl (lv_at hl 0 rfl) ?_
  refine lv_iload_n C0.1 C0.2.1 dX5_truth_1 rfl (lv_at hl 1 rfl) ?_
  refine y_cv h (y_rV (As := [.int a1]) (rest := []) C0 hZ h (c_X5_both_4S l G Z ad _ h.2 a1 (o62_83 l1 u1) (o62_84 l1 u1) hTp) k_X5_both q_847 q_20 q_845 kSC_77 rfl rfl rfl hl.1 rfl rfl (Nat.le_of_ble_eq_true rfl) dX5_truth_2 ⟨Nat.le_of_ble_eq_true rfl, Nat.le_of_ble_eq_true rfl⟩ ⟨Nat.le_of_ble_eq_true rfl, Nat.le_of_ble_eq_true rfl⟩) (fun H locs ws_1 h u_2 p_3 => ?_)
  have e_4 := p_3
  refine y_c1 (n := 0) C0 (by decide) dX5_truth_5 (fun v_5 e_6 => ?_)
  refine lv_istore_n (lv' := [(2, .int v_5), (0, .ref (ad 77)), (1, .int a1)]) C0.1 C0.2.1 dX5_truth_6 rfl hl (by decide) rfl (fun ls hl => ?_)
  have lp_10 : ∀ (n_12 : Nat) (x2_7 : Int32) (H : Heap) (locs : List Loc) (ls : Array Slot) (ws_8 : va_W), 900 - x2_7.toInt < (n_12 : Int) → 0 ≤ x2_7.toInt → x2_7.toInt ≤ 900 → (lpS (fun s => wI T 21 s = 1) (fun s => bothL T (unitD T 2) (advS T s)) (900 - x2_7.toInt).toNat (aF 77 ws_8) = truthL T (unitD T 2) (aF 77 ws0)) → Wt G (SC tt) ad A s H locs ws_8 → Fr (SC tt) [2, 3, 16] ws_1 ws_8 → lv_has ls 3 [(2, .int x2_7), (0, .ref (ad 77)), (1, .int a1)] → W p l e (rmd 17 0 0) s m args below meth c H locs 0 0 Q (F0 m 7 ls []) := by
    intro n_12
    induction n_12 with
    | zero => intro x2_7 H locs ls ws_8 hn_13 b_14 b_15 hSp h hF_9 hl; exact ((o62_52 b_14 b_15 hn_13)).elim
    | succ n_12 ih_11 =>
      intro x2_7 H locs ls ws_8 hn_13 b_14 b_15 hSp h hF_9 hl
      refine lv_iload_n C0.1 C0.2.1 dX5_truth_7 rfl (lv_at hl 0 rfl) ?_
      refine y_c3 (n := 900) C0 (by decide) dX5_truth_8 (fun v_16 e_17 => ?_)
      refine y_icmp_ge (tgt := 48) C0 dX5_truth_11 (by decide) (fun c_18 => ?_) (fun c_18 => ?_)
      · -- 11
        have hz_19 : (aF 77 ws_8) = lpS (fun s => wI T 21 s = 1) (fun s => bothL T (unitD T 2) (advS T s)) (900 - x2_7.toInt).toNat (aF 77 ws_8) := by first | (exfalso; omega) | exact (lp_0 (by omega)).symm | exact (lp_e (by omega)).symm
        rw [hQ]
        exact y_vret C0 h (Fr.tr u_2 hF_9) (Eq.trans rfl (Eq.trans hz_19 hSp)) dX5_truth_48
      · -- 11
        refine lv_aload_n C0.1 C0.2.1 dX5_truth_14 rfl (lv_at hl 1 rfl) ?_
        refine va_ldcS C0.1 C0.2.1 C0.2.2.2.1 (sr_21 hZ) dX5_truth_15 ?_
        refine y_ci h (y_rV (As := [.ref (Z.2.1 21)]) (rest := []) C0 hZ h (c_X5_isWordS l G Z ad _ h.2 21 (by decide) ((Tp.fr (M := [2, 3, 16]) hTp (Fr.tr u_2 hF_9) kSC_78 (by decide)))) k_X5_isWord q_724 q_5 q_722 kSC_77 rfl rfl rfl hl.1 rfl rfl (Nat.le_of_ble_eq_true rfl) dX5_truth_17 ⟨Nat.le_of_ble_eq_true rfl, Nat.le_of_ble_eq_true rfl⟩ ⟨Nat.le_of_ble_eq_true rfl, Nat.le_of_ble_eq_true rfl⟩) (fun r_23 H locs ws_20 h u_21 p_22 => ?_)
        obtain ⟨e_24, e_25, e_26⟩ := p_22
        refine y_if_eq (tgt := 48) C0 dX5_truth_20 (by decide) (fun c_27 => ?_) (fun c_27 => ?_)
        · -- 20
          have hq_28 := e_26
          have hs_29 : aF 77 ws_20 = (aF 77 ws_8) := (aF_fr u_21 kSC_77 (by decide))
          have hz_30 : (aF 77 ws_8) = lpS (fun s => wI T 21 s = 1) (fun s => bothL T (unitD T 2) (advS T s)) (900 - x2_7.toInt).toNat (aF 77 ws_8) := by first | (exfalso; omega) | exact (lp_0 (by omega)).symm | exact (lp_e (by omega)).symm
          rw [hQ]
          exact y_vret C0 h (Fr.tr (Fr.tr u_2 hF_9) (Fr.mono u_21 (by decide))) (Eq.trans hs_29 (Eq.trans hz_30 hSp)) dX5_truth_48
        · -- 20
          refine lv_aload_n C0.1 C0.2.1 dX5_truth_23 rfl (lv_at hl 1 rfl) ?_
          refine y_cv h (y_rV (As := []) (rest := []) C0 hZ h (c_X5_advanceS l G Z ad _ h.2 ((Tp.fr (M := [2, 3, 16]) hTp (Fr.tr (Fr.tr u_2 hF_9) (Fr.mono u_21 (by decide))) kSC_78 (by decide)))) k_X5_advance q_616 q_0 q_614 kSC_77 rfl rfl rfl hl.1 rfl rfl (Nat.le_of_ble_eq_true rfl) dX5_truth_24 ⟨Nat.le_of_ble_eq_true rfl, Nat.le_of_ble_eq_true rfl⟩ ⟨Nat.le_of_ble_eq_true rfl, Nat.le_of_ble_eq_true rfl⟩) (fun H locs ws_31 h u_32 p_33 => ?_)
          have e_34 := p_33
          refine lv_aload_n C0.1 C0.2.1 dX5_truth_27 rfl (lv_at hl 1 rfl) ?_
          refine lv_iload_n C0.1 C0.2.1 dX5_truth_28 rfl (lv_at hl 2 rfl) ?_
          refine y_cv h (y_rV (As := [.int a1]) (rest := []) C0 hZ h (c_X5_both_4S l G Z ad _ h.2 a1 (o62_83 l1 u1) (o62_84 l1 u1) ((Tp.fr (M := [2, 3, 16]) hTp (Fr.tr (Fr.tr (Fr.tr u_2 hF_9) (Fr.mono u_21 (by decide))) (Fr.mono u_32 (by decide))) kSC_78 (by decide)))) k_X5_both q_847 q_20 q_845 kSC_77 rfl rfl rfl hl.1 rfl rfl (Nat.le_of_ble_eq_true rfl) dX5_truth_29 ⟨Nat.le_of_ble_eq_true rfl, Nat.le_of_ble_eq_true rfl⟩ ⟨Nat.le_of_ble_eq_true rfl, Nat.le_of_ble_eq_true rfl⟩) (fun H locs ws_35 h u_36 p_37 => ?_)
          have e_38 := p_37
          refine lv_aload_n C0.1 C0.2.1 dX5_truth_32 rfl (lv_at hl 1 rfl) ?_
          refine tg_X5_law C0 h kSC_77 q_380 dX5_truth_33 (fun i_39 hi_39 => ?_)
          refine y_c3 (n := 2007) C0 (by decide) dX5_truth_36 (fun v_40 e_41 => ?_)
          refine y_cv h (y_rV (As := [.int v_40]) (rest := []) C0 hZ h (c_X4_add l G Z ad _ h.2 i_39 hi_39 v_40) k_X4_add q_827 q_828 q_826 hi_39 rfl rfl rfl hl.1 rfl rfl (Nat.le_of_ble_eq_true rfl) dX5_truth_39 ⟨Nat.le_of_ble_eq_true rfl, Nat.le_of_ble_eq_true rfl⟩ ⟨Nat.le_of_ble_eq_true rfl, Nat.le_of_ble_eq_true rfl⟩) (fun H locs ws_42 h u_43 p_44 => ?_)
          refine y_inc (kp := 0) (n := 1) (fun v_45 => [(2, .int v_45), (0, .ref (ad 77)), (1, .int a1)]) C0 hl rfl (by decide) (by decide) (fun _ => rfl) (o62_53 b_14 b_15 hn_13 e_17 c_18 (le_min x2_7) (le_max x2_7) (le_min v_16) (le_max v_16)) (o62_54 b_14 b_15 hn_13 e_17 c_18 (le_min x2_7) (le_max x2_7) (le_min v_16) (le_max v_16)) dX5_truth_42 (fun v_45 ls e_46 hl => ?_)
          refine lv_goto (tgt := 7) C0.1 C0.2.1 dX5_truth_45 (by decide) ?_
          have hq_47 := e_26
          have hs_48 : aF 77 ws_20 = (aF 77 ws_8) := (aF_fr u_21 kSC_77 (by decide))
          have hs_49 : aF 77 ws_31 = (advS T (aF 77 ws_8)) := e_34.trans (congrArg (fun s => advS T s) hs_48)
          have hs_50 : aF 77 ws_35 = (bothL T (unitD T 2) (advS T (aF 77 ws_8))) := e_38.trans (congrArg (fun s => bothL T (unitD T 2) s) hs_49)
          have hs_51 : aF 77 ws_42 = (bothL T (unitD T 2) (advS T (aF 77 ws_8))) := (aF_fr u_43 kSC_77 (by decide)).trans hs_50
          exact ih_11 v_45 _ _ _ _ (o62_55 b_14 b_15 hn_13 e_17 c_18 e_46) (o62_56 b_14 b_15 hn_13 e_17 c_18 e_46) (o62_57 b_14 b_15 hn_13 e_17 c_18 e_46) ((by rw [hs_51]; exact (lp_s (by omega) (by omega) (by omega) (by omega)).trans hSp)) h (Fr.tr (Fr.tr (Fr.tr (Fr.tr hF_9 (Fr.mono u_21 (by decide))) (Fr.mono u_32 (by decide))) u_36) (Fr.mono u_43 (by decide))) (lv_sub hl [0, 1, 2] rfl)
  have hs_52 : aF 77 ws_1 = (bothL T (unitD T 2) (aF 77 ws0)) := e_4
  exact lp_10 ((900 - v_5.toInt + 1).toNat) v_5 _ _ _ _ (o62_58 e_6) (o62_59 e_6) (o62_60 e_6) ((by rw [show (900 - v_5.toInt).toNat = 900 by omega, hs_52]; rfl)) h Fr.rf (lv_sub hl [0, 1, 2] rfl)
set_option maxHeartbeats 4000000 in
set_option maxRecDepth 100000 in
theorem c_X5_tooDeep_3S (l : Launch) (G : GG) (Z : RZ) (ad : Nat → Nat) (ws0 : va_W) (hT : Ty G (SC tt) ad ws0) (a1 : Int32) (l1 : 3 ≤ a1.toInt) (u1 : a1.toInt ≤ 3) : Mq l yX5_tooDeep cX5_tooDeep 2 (some .boolean) 1 G Z [.ref (ad 77), .int a1] ws0 (PI G (SC tt) ad [] ws0 (fun r u => (0 ≤ r.toInt) ∧ (r.toInt ≤ 0) ∧ (aF 77 u = (fun s => s) (aF 77 ws0)))) := by
  refine Mq.start (by decide) (Nat.le_of_ble_eq_true rfl) ?_
  intro p e s m below meth c A ls C0 hZ h hl
  have hl : lv_has ls 2 [(0, .ref (ad 77)), (1, .int a1)] := hl
  have h : Wt G (SC tt) ad A s s.heap [] ws0 := ⟨h, hT⟩
  obtain ⟨args, hargs⟩ : ∃ z, z = ([.ref (ad 77), .int a1] : List Value).toArray := ⟨_, rfl⟩
  rw [← hargs] at C0 ⊢
  have C0 : Cx p s m args meth c RX5 cX5_tooDeep 2 (some .boolean) := C0
  obtain ⟨Q, hQ⟩ : ∃ z, z = MQ below ((PI G (SC tt) ad [] ws0 (fun r u => (0 ≤ r.toInt) ∧ (r.toInt ≤ 0) ∧ (aF 77 u = (fun s => s) (aF 77 ws0)))) A) args s 0 0 A := ⟨_, rfl⟩
  rw [← hQ]
  refine lv_iload_n C0.1 C0.2.1 dX5_tooDeep_0 rfl (lv_at hl 1 rfl) ?_
  refine y_c2 (n := 6) C0 (by decide) dX5_tooDeep_1 (fun v_1 e_2 => ?_)
  refine y_icmp_lt (tgt := 13) C0 dX5_tooDeep_3 (by decide) (fun c_3 => ?_) (fun c_3 => ((o62_89 l1 u1 e_2 c_3)).elim)
  refine y_c1 (n := 0) C0 (by decide) dX5_tooDeep_13 (fun v_4 e_5 => ?_)
  have hz_6 : (aF 77 ws0) = (fun s => s) (aF 77 ws0) := by rfl
  rw [hQ]
  exact y_zret C0 h (o62_59 e_5) (o62_68 e_5) Fr.rf ⟨(o62_59 e_5), (o62_67 e_5), (Eq.trans rfl hz_6)⟩ dX5_tooDeep_14
set_option maxHeartbeats 4000000 in
set_option maxRecDepth 100000 in
theorem c_X5_atom_3S {T : Nat → Int} (l : Launch) (G : GG) (Z : RZ) (ad : Nat → Nat) (ws0 : va_W) (hT : Ty G (SC tt) ad ws0) (a1 : Int32) (l1 : 3 ≤ a1.toInt) (u1 : a1.toInt ≤ 3) (hTp : Tp T ws0) : Mq l yX5_atom cX5_atom 3 none 15 G Z [.ref (ad 77), .int a1] ws0 (PV G (SC tt) ad [2, 3, 16] ws0 (fun u => (aF 77 u = atomD T 3 (aF 77 ws0)))) := by
  refine Mq.start (by decide) (Nat.le_of_ble_eq_true rfl) ?_
  intro p e s m below meth c A ls C0 hZ h hl
  have hl : lv_has ls 3 [(0, .ref (ad 77)), (1, .int a1)] := hl
  have h : Wt G (SC tt) ad A s s.heap [] ws0 := ⟨h, hT⟩
  obtain ⟨args, hargs⟩ : ∃ z, z = ([.ref (ad 77), .int a1] : List Value).toArray := ⟨_, rfl⟩
  rw [← hargs] at C0 ⊢
  have C0 : Cx p s m args meth c RX5 cX5_atom 3 none := C0
  obtain ⟨Q, hQ⟩ : ∃ z, z = MQ below ((PV G (SC tt) ad [2, 3, 16] ws0 (fun u => (aF 77 u = atomD T 3 (aF 77 ws0)))) A) args s 0 0 A := ⟨_, rfl⟩
  rw [← hQ]
  refine lv_aload_n C0.1 C0.2.1 dX5_atom_0 rfl (lv_at hl 0 rfl) ?_
  refine tg_X5_kind C0 h kSC_77 q_374 dX5_atom_1 (fun v_1 e_2 e_3 e_4 => ?_)
  refine y_c1 (n := 2) C0 (by decide) dX5_atom_4 (fun v_5 e_6 => ?_)
  refine y_icmp_ne (tgt := 26) C0 dX5_atom_5 (by decide) (fun c_7 => ?_) (fun c_7 => ?_)
  · -- 5
    refine lv_aload_n C0.1 C0.2.1 dX5_atom_26 rfl (lv_at hl 0 rfl) ?_
    refine tg_X5_kind C0 h kSC_77 q_374 dX5_atom_27 (fun v_8 e_9 e_10 e_11 => ?_)
    have q_12 : v_8.toInt = v_1.toInt := congrArg Int32.toInt (e_9.symm.trans (Eq.trans rfl e_2))
    refine y_c2 (n := 40) C0 (by decide) dX5_atom_30 (fun v_13 e_14 => ?_)
    refine y_icmp_ne (tgt := 63) C0 dX5_atom_32 (by decide) (fun c_15 => ?_) (fun c_15 => ?_)
    · -- 32
      refine lv_aload_n C0.1 C0.2.1 dX5_atom_63 rfl (lv_at hl 0 rfl) ?_
      refine va_ldcS C0.1 C0.2.1 C0.2.2.2.1 (sr_12 hZ) dX5_atom_64 ?_
      refine y_ci h (y_rV (As := [.ref (Z.2.1 12)]) (rest := []) C0 hZ h (c_X5_isWordS l G Z ad _ h.2 12 (by decide) hTp) k_X5_isWord q_724 q_5 q_722 kSC_77 rfl rfl rfl hl.1 rfl rfl (Nat.le_of_ble_eq_true rfl) dX5_atom_66 ⟨Nat.le_of_ble_eq_true rfl, Nat.le_of_ble_eq_true rfl⟩ ⟨Nat.le_of_ble_eq_true rfl, Nat.le_of_ble_eq_true rfl⟩) (fun r_19 H locs ws_16 h u_17 p_18 => ?_)
      obtain ⟨e_20, e_21, e_22⟩ := p_18
      refine y_if_eq (tgt := 78) C0 dX5_atom_69 (by decide) (fun c_23 => ?_) (fun c_23 => ?_)
      · -- 69
        refine lv_aload_n C0.1 C0.2.1 dX5_atom_78 rfl (lv_at hl 0 rfl) ?_
        refine va_ldcS C0.1 C0.2.1 C0.2.2.2.1 (sr_13 hZ) dX5_atom_79 ?_
        refine y_ci h (y_rV (As := [.ref (Z.2.1 13)]) (rest := []) C0 hZ h (c_X5_isWordS l G Z ad _ h.2 13 (by decide) ((Tp.fr (M := []) hTp u_17 kSC_78 (by decide)))) k_X5_isWord q_724 q_5 q_722 kSC_77 rfl rfl rfl hl.1 rfl rfl (Nat.le_of_ble_eq_true rfl) dX5_atom_81 ⟨Nat.le_of_ble_eq_true rfl, Nat.le_of_ble_eq_true rfl⟩ ⟨Nat.le_of_ble_eq_true rfl, Nat.le_of_ble_eq_true rfl⟩) (fun r_27 H locs ws_24 h u_25 p_26 => ?_)
        obtain ⟨e_28, e_29, e_30⟩ := p_26
        refine y_if_eq (tgt := 93) C0 dX5_atom_84 (by decide) (fun c_31 => ?_) (fun c_31 => ?_)
        · -- 84
          refine lv_aload_n C0.1 C0.2.1 dX5_atom_93 rfl (lv_at hl 0 rfl) ?_
          refine va_ldcS C0.1 C0.2.1 C0.2.2.2.1 (sr_14 hZ) dX5_atom_94 ?_
          refine y_ci h (y_rV (As := [.ref (Z.2.1 14)]) (rest := []) C0 hZ h (c_X5_isWordS l G Z ad _ h.2 14 (by decide) ((Tp.fr (M := []) hTp (Fr.tr u_17 u_25) kSC_78 (by decide)))) k_X5_isWord q_724 q_5 q_722 kSC_77 rfl rfl rfl hl.1 rfl rfl (Nat.le_of_ble_eq_true rfl) dX5_atom_96 ⟨Nat.le_of_ble_eq_true rfl, Nat.le_of_ble_eq_true rfl⟩ ⟨Nat.le_of_ble_eq_true rfl, Nat.le_of_ble_eq_true rfl⟩) (fun r_35 H locs ws_32 h u_33 p_34 => ?_)
          obtain ⟨e_36, e_37, e_38⟩ := p_34
          refine y_if_eq (tgt := 108) C0 dX5_atom_99 (by decide) (fun c_39 => ?_) (fun c_39 => ?_)
          · -- 99
            refine lv_aload_n C0.1 C0.2.1 dX5_atom_108 rfl (lv_at hl 0 rfl) ?_
            refine va_ldcS C0.1 C0.2.1 C0.2.2.2.1 (sr_15 hZ) dX5_atom_109 ?_
            refine y_ci h (y_rV (As := [.ref (Z.2.1 15)]) (rest := []) C0 hZ h (c_X5_isWordS l G Z ad _ h.2 15 (by decide) ((Tp.fr (M := []) hTp (Fr.tr (Fr.tr u_17 u_25) u_33) kSC_78 (by decide)))) k_X5_isWord q_724 q_5 q_722 kSC_77 rfl rfl rfl hl.1 rfl rfl (Nat.le_of_ble_eq_true rfl) dX5_atom_111 ⟨Nat.le_of_ble_eq_true rfl, Nat.le_of_ble_eq_true rfl⟩ ⟨Nat.le_of_ble_eq_true rfl, Nat.le_of_ble_eq_true rfl⟩) (fun r_43 H locs ws_40 h u_41 p_42 => ?_)
            obtain ⟨e_44, e_45, e_46⟩ := p_42
            refine y_if_eq (tgt := 123) C0 dX5_atom_114 (by decide) (fun c_47 => ?_) (fun c_47 => ?_)
            · -- 114
              refine lv_aload_n C0.1 C0.2.1 dX5_atom_123 rfl (lv_at hl 0 rfl) ?_
              refine va_ldcS C0.1 C0.2.1 C0.2.2.2.1 (sr_16 hZ) dX5_atom_124 ?_
              refine y_ci h (y_rV (As := [.ref (Z.2.1 16)]) (rest := []) C0 hZ h (c_X5_isWordS l G Z ad _ h.2 16 (by decide) ((Tp.fr (M := []) hTp (Fr.tr (Fr.tr (Fr.tr u_17 u_25) u_33) u_41) kSC_78 (by decide)))) k_X5_isWord q_724 q_5 q_722 kSC_77 rfl rfl rfl hl.1 rfl rfl (Nat.le_of_ble_eq_true rfl) dX5_atom_126 ⟨Nat.le_of_ble_eq_true rfl, Nat.le_of_ble_eq_true rfl⟩ ⟨Nat.le_of_ble_eq_true rfl, Nat.le_of_ble_eq_true rfl⟩) (fun r_51 H locs ws_48 h u_49 p_50 => ?_)
              obtain ⟨e_52, e_53, e_54⟩ := p_50
              refine y_if_eq (tgt := 138) C0 dX5_atom_129 (by decide) (fun c_55 => ?_) (fun c_55 => ?_)
              · -- 129
                refine lv_aload_n C0.1 C0.2.1 dX5_atom_138 rfl (lv_at hl 0 rfl) ?_
                refine va_ldcS C0.1 C0.2.1 C0.2.2.2.1 (sr_17 hZ) dX5_atom_139 ?_
                refine y_ci h (y_rV (As := [.ref (Z.2.1 17)]) (rest := []) C0 hZ h (c_X5_isWordS l G Z ad _ h.2 17 (by decide) ((Tp.fr (M := []) hTp (Fr.tr (Fr.tr (Fr.tr (Fr.tr u_17 u_25) u_33) u_41) u_49) kSC_78 (by decide)))) k_X5_isWord q_724 q_5 q_722 kSC_77 rfl rfl rfl hl.1 rfl rfl (Nat.le_of_ble_eq_true rfl) dX5_atom_141 ⟨Nat.le_of_ble_eq_true rfl, Nat.le_of_ble_eq_true rfl⟩ ⟨Nat.le_of_ble_eq_true rfl, Nat.le_of_ble_eq_true rfl⟩) (fun r_59 H locs ws_56 h u_57 p_58 => ?_)
                obtain ⟨e_60, e_61, e_62⟩ := p_58
                refine y_if_eq (tgt := 153) C0 dX5_atom_144 (by decide) (fun c_63 => ?_) (fun c_63 => ?_)
                · -- 144
                  refine y_c1 (n := (-1)) C0 (by decide) dX5_atom_153 (fun v_64 e_65 => ?_)
                  refine lv_istore_n (lv' := [(2, .int v_64), (0, .ref (ad 77)), (1, .int a1)]) C0.1 C0.2.1 dX5_atom_154 rfl hl (by decide) rfl (fun ls hl => ?_)
                  refine lv_iload_n C0.1 C0.2.1 dX5_atom_155 rfl (lv_at hl 0 rfl) ?_
                  refine y_if_ge (tgt := 165) C0 dX5_atom_156 (by decide) (fun c_66 => ((o62_42 e_65 c_66)).elim) (fun c_66 => ?_)
                  refine lv_aload_n C0.1 C0.2.1 dX5_atom_159 rfl (lv_at hl 1 rfl) ?_
                  refine y_c1 (n := 2) C0 (by decide) dX5_atom_160 (fun v_67 e_68 => ?_)
                  refine y_cv h (y_rV (As := [.int v_67]) (rest := []) C0 hZ h (c_X5_failS l G Z ad _ h.2 v_67) k_X5_fail q_628 q_3 q_626 kSC_77 rfl rfl rfl hl.1 rfl rfl (Nat.le_of_ble_eq_true rfl) dX5_atom_161 ⟨Nat.le_of_ble_eq_true rfl, Nat.le_of_ble_eq_true rfl⟩ ⟨Nat.le_of_ble_eq_true rfl, Nat.le_of_ble_eq_true rfl⟩) (fun H locs ws_69 h u_70 p_71 => ?_)
                  have e_72 := p_71
                  have hv_73 : (aF 77 ws0) 4 = v_1.toInt := (aF_at (by decide) e_2)
                  have hv_74 : (aF 77 ws0) 4 = v_8.toInt := (aF_at (by decide) e_9)
                  have hq_75 := e_22
                  have hs_76 : aF 77 ws_16 = (aF 77 ws0) := (aF_fr u_17 kSC_77 (by decide))
                  have hq_77 := e_30
                  rw [hs_76] at hq_77
                  have hs_78 : aF 77 ws_24 = (aF 77 ws0) := (aF_fr u_25 kSC_77 (by decide)).trans hs_76
                  have hq_79 := e_38
                  rw [hs_78] at hq_79
                  have hs_80 : aF 77 ws_32 = (aF 77 ws0) := (aF_fr u_33 kSC_77 (by decide)).trans hs_78
                  have hq_81 := e_46
                  rw [hs_80] at hq_81
                  have hs_82 : aF 77 ws_40 = (aF 77 ws0) := (aF_fr u_41 kSC_77 (by decide)).trans hs_80
                  have hq_83 := e_54
                  rw [hs_82] at hq_83
                  have hs_84 : aF 77 ws_48 = (aF 77 ws0) := (aF_fr u_49 kSC_77 (by decide)).trans hs_82
                  have hq_85 := e_62
                  rw [hs_84] at hq_85
                  have hs_86 : aF 77 ws_56 = (aF 77 ws0) := (aF_fr u_57 kSC_77 (by decide)).trans hs_84
                  have hs_87 : aF 77 ws_69 = (failS 2 (aF 77 ws0)) := e_72.trans ((congrArg (fun s => failS v_67.toInt s) hs_86).trans (by rw [(o62_1 e_68)]))
                  have hz_88 : (failS 2 (aF 77 ws0)) = atomD T 3 (aF 77 ws0) := by rw [atomD_3]; unfold atomF; (repeat' split) <;> first | rfl | (exfalso; omega)
                  rw [hQ]
                  exact y_vret C0 h (Fr.tr (Fr.tr (Fr.tr (Fr.tr (Fr.tr (Fr.tr (Fr.mono u_17 (by decide)) (Fr.mono u_25 (by decide))) (Fr.mono u_33 (by decide))) (Fr.mono u_41 (by decide))) (Fr.mono u_49 (by decide))) (Fr.mono u_57 (by decide))) (Fr.mono u_70 (by decide))) (Eq.trans hs_87 hz_88) dX5_atom_164
                · -- 144
                  refine y_c3 (n := 1005) C0 (by decide) dX5_atom_147 (fun v_89 e_90 => ?_)
                  refine lv_goto (tgt := 154) C0.1 C0.2.1 dX5_atom_150 (by decide) ?_
                  refine lv_istore_n (lv' := [(2, .int v_89), (0, .ref (ad 77)), (1, .int a1)]) C0.1 C0.2.1 dX5_atom_154 rfl hl (by decide) rfl (fun ls hl => ?_)
                  refine lv_iload_n C0.1 C0.2.1 dX5_atom_155 rfl (lv_at hl 0 rfl) ?_
                  refine y_if_ge (tgt := 165) C0 dX5_atom_156 (by decide) (fun c_91 => ?_) (fun c_91 => ((o62_43 e_90 c_91)).elim)
                  refine lv_aload_n C0.1 C0.2.1 dX5_atom_165 rfl (lv_at hl 1 rfl) ?_
                  refine tg_X5_law C0 h kSC_77 q_380 dX5_atom_166 (fun i_92 hi_92 => ?_)
                  refine lv_iload_n C0.1 C0.2.1 dX5_atom_169 rfl (lv_at hl 0 rfl) ?_
                  refine y_cv h (y_rV (As := [.int v_89]) (rest := []) C0 hZ h (c_X4_add l G Z ad _ h.2 i_92 hi_92 v_89) k_X4_add q_827 q_828 q_826 hi_92 rfl rfl rfl hl.1 rfl rfl (Nat.le_of_ble_eq_true rfl) dX5_atom_170 ⟨Nat.le_of_ble_eq_true rfl, Nat.le_of_ble_eq_true rfl⟩ ⟨Nat.le_of_ble_eq_true rfl, Nat.le_of_ble_eq_true rfl⟩) (fun H locs ws_93 h u_94 p_95 => ?_)
                  refine lv_aload_n C0.1 C0.2.1 dX5_atom_173 rfl (lv_at hl 1 rfl) ?_
                  refine y_cv h (y_rV (As := []) (rest := []) C0 hZ h (c_X5_advanceS l G Z ad _ h.2 ((Tp.fr (M := [2, 3]) hTp (Fr.tr (Fr.tr (Fr.tr (Fr.tr (Fr.tr (Fr.tr (Fr.mono u_17 (by decide)) (Fr.mono u_25 (by decide))) (Fr.mono u_33 (by decide))) (Fr.mono u_41 (by decide))) (Fr.mono u_49 (by decide))) (Fr.mono u_57 (by decide))) u_94) kSC_78 (by decide)))) k_X5_advance q_616 q_0 q_614 kSC_77 rfl rfl rfl hl.1 rfl rfl (Nat.le_of_ble_eq_true rfl) dX5_atom_174 ⟨Nat.le_of_ble_eq_true rfl, Nat.le_of_ble_eq_true rfl⟩ ⟨Nat.le_of_ble_eq_true rfl, Nat.le_of_ble_eq_true rfl⟩) (fun H locs ws_96 h u_97 p_98 => ?_)
                  have e_99 := p_98
                  have hv_100 : (aF 77 ws0) 4 = v_1.toInt := (aF_at (by decide) e_2)
                  have hv_101 : (aF 77 ws0) 4 = v_8.toInt := (aF_at (by decide) e_9)
                  have hq_102 := e_22
                  have hs_103 : aF 77 ws_16 = (aF 77 ws0) := (aF_fr u_17 kSC_77 (by decide))
                  have hq_104 := e_30
                  rw [hs_103] at hq_104
                  have hs_105 : aF 77 ws_24 = (aF 77 ws0) := (aF_fr u_25 kSC_77 (by decide)).trans hs_103
                  have hq_106 := e_38
                  rw [hs_105] at hq_106
                  have hs_107 : aF 77 ws_32 = (aF 77 ws0) := (aF_fr u_33 kSC_77 (by decide)).trans hs_105
                  have hq_108 := e_46
                  rw [hs_107] at hq_108
                  have hs_109 : aF 77 ws_40 = (aF 77 ws0) := (aF_fr u_41 kSC_77 (by decide)).trans hs_107
                  have hq_110 := e_54
                  rw [hs_109] at hq_110
                  have hs_111 : aF 77 ws_48 = (aF 77 ws0) := (aF_fr u_49 kSC_77 (by decide)).trans hs_109
                  have hq_112 := e_62
                  rw [hs_111] at hq_112
                  have hs_113 : aF 77 ws_56 = (aF 77 ws0) := (aF_fr u_57 kSC_77 (by decide)).trans hs_111
                  have hs_114 : aF 77 ws_93 = (aF 77 ws0) := (aF_fr u_94 kSC_77 (by decide)).trans hs_113
                  have hs_115 : aF 77 ws_96 = (advS T (aF 77 ws0)) := e_99.trans (congrArg (fun s => advS T s) hs_114)
                  have hz_116 : (advS T (aF 77 ws0)) = atomD T 3 (aF 77 ws0) := by rw [atomD_3]; unfold atomF; (repeat' split) <;> first | rfl | (exfalso; omega)
                  rw [hQ]
                  exact y_vret C0 h (Fr.tr (Fr.tr (Fr.tr (Fr.tr (Fr.tr (Fr.tr (Fr.tr (Fr.mono u_17 (by decide)) (Fr.mono u_25 (by decide))) (Fr.mono u_33 (by decide))) (Fr.mono u_41 (by decide))) (Fr.mono u_49 (by decide))) (Fr.mono u_57 (by decide))) (Fr.mono u_94 (by decide))) (Fr.mono u_97 (by decide))) (Eq.trans hs_115 hz_116) dX5_atom_177
              · -- 129
                refine y_c3 (n := 1004) C0 (by decide) dX5_atom_132 (fun v_117 e_118 => ?_)
                refine lv_goto (tgt := 154) C0.1 C0.2.1 dX5_atom_135 (by decide) ?_
                refine lv_istore_n (lv' := [(2, .int v_117), (0, .ref (ad 77)), (1, .int a1)]) C0.1 C0.2.1 dX5_atom_154 rfl hl (by decide) rfl (fun ls hl => ?_)
                refine lv_iload_n C0.1 C0.2.1 dX5_atom_155 rfl (lv_at hl 0 rfl) ?_
                refine y_if_ge (tgt := 165) C0 dX5_atom_156 (by decide) (fun c_119 => ?_) (fun c_119 => ((o62_44 e_118 c_119)).elim)
                refine lv_aload_n C0.1 C0.2.1 dX5_atom_165 rfl (lv_at hl 1 rfl) ?_
                refine tg_X5_law C0 h kSC_77 q_380 dX5_atom_166 (fun i_120 hi_120 => ?_)
                refine lv_iload_n C0.1 C0.2.1 dX5_atom_169 rfl (lv_at hl 0 rfl) ?_
                refine y_cv h (y_rV (As := [.int v_117]) (rest := []) C0 hZ h (c_X4_add l G Z ad _ h.2 i_120 hi_120 v_117) k_X4_add q_827 q_828 q_826 hi_120 rfl rfl rfl hl.1 rfl rfl (Nat.le_of_ble_eq_true rfl) dX5_atom_170 ⟨Nat.le_of_ble_eq_true rfl, Nat.le_of_ble_eq_true rfl⟩ ⟨Nat.le_of_ble_eq_true rfl, Nat.le_of_ble_eq_true rfl⟩) (fun H locs ws_121 h u_122 p_123 => ?_)
                refine lv_aload_n C0.1 C0.2.1 dX5_atom_173 rfl (lv_at hl 1 rfl) ?_
                refine y_cv h (y_rV (As := []) (rest := []) C0 hZ h (c_X5_advanceS l G Z ad _ h.2 ((Tp.fr (M := [2, 3]) hTp (Fr.tr (Fr.tr (Fr.tr (Fr.tr (Fr.tr (Fr.mono u_17 (by decide)) (Fr.mono u_25 (by decide))) (Fr.mono u_33 (by decide))) (Fr.mono u_41 (by decide))) (Fr.mono u_49 (by decide))) u_122) kSC_78 (by decide)))) k_X5_advance q_616 q_0 q_614 kSC_77 rfl rfl rfl hl.1 rfl rfl (Nat.le_of_ble_eq_true rfl) dX5_atom_174 ⟨Nat.le_of_ble_eq_true rfl, Nat.le_of_ble_eq_true rfl⟩ ⟨Nat.le_of_ble_eq_true rfl, Nat.le_of_ble_eq_true rfl⟩) (fun H locs ws_124 h u_125 p_126 => ?_)
                have e_127 := p_126
                have hv_128 : (aF 77 ws0) 4 = v_1.toInt := (aF_at (by decide) e_2)
                have hv_129 : (aF 77 ws0) 4 = v_8.toInt := (aF_at (by decide) e_9)
                have hq_130 := e_22
                have hs_131 : aF 77 ws_16 = (aF 77 ws0) := (aF_fr u_17 kSC_77 (by decide))
                have hq_132 := e_30
                rw [hs_131] at hq_132
                have hs_133 : aF 77 ws_24 = (aF 77 ws0) := (aF_fr u_25 kSC_77 (by decide)).trans hs_131
                have hq_134 := e_38
                rw [hs_133] at hq_134
                have hs_135 : aF 77 ws_32 = (aF 77 ws0) := (aF_fr u_33 kSC_77 (by decide)).trans hs_133
                have hq_136 := e_46
                rw [hs_135] at hq_136
                have hs_137 : aF 77 ws_40 = (aF 77 ws0) := (aF_fr u_41 kSC_77 (by decide)).trans hs_135
                have hq_138 := e_54
                rw [hs_137] at hq_138
                have hs_139 : aF 77 ws_48 = (aF 77 ws0) := (aF_fr u_49 kSC_77 (by decide)).trans hs_137
                have hs_140 : aF 77 ws_121 = (aF 77 ws0) := (aF_fr u_122 kSC_77 (by decide)).trans hs_139
                have hs_141 : aF 77 ws_124 = (advS T (aF 77 ws0)) := e_127.trans (congrArg (fun s => advS T s) hs_140)
                have hz_142 : (advS T (aF 77 ws0)) = atomD T 3 (aF 77 ws0) := by rw [atomD_3]; unfold atomF; (repeat' split) <;> first | rfl | (exfalso; omega)
                rw [hQ]
                exact y_vret C0 h (Fr.tr (Fr.tr (Fr.tr (Fr.tr (Fr.tr (Fr.tr (Fr.mono u_17 (by decide)) (Fr.mono u_25 (by decide))) (Fr.mono u_33 (by decide))) (Fr.mono u_41 (by decide))) (Fr.mono u_49 (by decide))) (Fr.mono u_122 (by decide))) (Fr.mono u_125 (by decide))) (Eq.trans hs_141 hz_142) dX5_atom_177
            · -- 114
              refine y_c3 (n := 1003) C0 (by decide) dX5_atom_117 (fun v_143 e_144 => ?_)
              refine lv_goto (tgt := 154) C0.1 C0.2.1 dX5_atom_120 (by decide) ?_
              refine lv_istore_n (lv' := [(2, .int v_143), (0, .ref (ad 77)), (1, .int a1)]) C0.1 C0.2.1 dX5_atom_154 rfl hl (by decide) rfl (fun ls hl => ?_)
              refine lv_iload_n C0.1 C0.2.1 dX5_atom_155 rfl (lv_at hl 0 rfl) ?_
              refine y_if_ge (tgt := 165) C0 dX5_atom_156 (by decide) (fun c_145 => ?_) (fun c_145 => ((o62_45 e_144 c_145)).elim)
              refine lv_aload_n C0.1 C0.2.1 dX5_atom_165 rfl (lv_at hl 1 rfl) ?_
              refine tg_X5_law C0 h kSC_77 q_380 dX5_atom_166 (fun i_146 hi_146 => ?_)
              refine lv_iload_n C0.1 C0.2.1 dX5_atom_169 rfl (lv_at hl 0 rfl) ?_
              refine y_cv h (y_rV (As := [.int v_143]) (rest := []) C0 hZ h (c_X4_add l G Z ad _ h.2 i_146 hi_146 v_143) k_X4_add q_827 q_828 q_826 hi_146 rfl rfl rfl hl.1 rfl rfl (Nat.le_of_ble_eq_true rfl) dX5_atom_170 ⟨Nat.le_of_ble_eq_true rfl, Nat.le_of_ble_eq_true rfl⟩ ⟨Nat.le_of_ble_eq_true rfl, Nat.le_of_ble_eq_true rfl⟩) (fun H locs ws_147 h u_148 p_149 => ?_)
              refine lv_aload_n C0.1 C0.2.1 dX5_atom_173 rfl (lv_at hl 1 rfl) ?_
              refine y_cv h (y_rV (As := []) (rest := []) C0 hZ h (c_X5_advanceS l G Z ad _ h.2 ((Tp.fr (M := [2, 3]) hTp (Fr.tr (Fr.tr (Fr.tr (Fr.tr (Fr.mono u_17 (by decide)) (Fr.mono u_25 (by decide))) (Fr.mono u_33 (by decide))) (Fr.mono u_41 (by decide))) u_148) kSC_78 (by decide)))) k_X5_advance q_616 q_0 q_614 kSC_77 rfl rfl rfl hl.1 rfl rfl (Nat.le_of_ble_eq_true rfl) dX5_atom_174 ⟨Nat.le_of_ble_eq_true rfl, Nat.le_of_ble_eq_true rfl⟩ ⟨Nat.le_of_ble_eq_true rfl, Nat.le_of_ble_eq_true rfl⟩) (fun H locs ws_150 h u_151 p_152 => ?_)
              have e_153 := p_152
              have hv_154 : (aF 77 ws0) 4 = v_1.toInt := (aF_at (by decide) e_2)
              have hv_155 : (aF 77 ws0) 4 = v_8.toInt := (aF_at (by decide) e_9)
              have hq_156 := e_22
              have hs_157 : aF 77 ws_16 = (aF 77 ws0) := (aF_fr u_17 kSC_77 (by decide))
              have hq_158 := e_30
              rw [hs_157] at hq_158
              have hs_159 : aF 77 ws_24 = (aF 77 ws0) := (aF_fr u_25 kSC_77 (by decide)).trans hs_157
              have hq_160 := e_38
              rw [hs_159] at hq_160
              have hs_161 : aF 77 ws_32 = (aF 77 ws0) := (aF_fr u_33 kSC_77 (by decide)).trans hs_159
              have hq_162 := e_46
              rw [hs_161] at hq_162
              have hs_163 : aF 77 ws_40 = (aF 77 ws0) := (aF_fr u_41 kSC_77 (by decide)).trans hs_161
              have hs_164 : aF 77 ws_147 = (aF 77 ws0) := (aF_fr u_148 kSC_77 (by decide)).trans hs_163
              have hs_165 : aF 77 ws_150 = (advS T (aF 77 ws0)) := e_153.trans (congrArg (fun s => advS T s) hs_164)
              have hz_166 : (advS T (aF 77 ws0)) = atomD T 3 (aF 77 ws0) := by rw [atomD_3]; unfold atomF; (repeat' split) <;> first | rfl | (exfalso; omega)
              rw [hQ]
              exact y_vret C0 h (Fr.tr (Fr.tr (Fr.tr (Fr.tr (Fr.tr (Fr.mono u_17 (by decide)) (Fr.mono u_25 (by decide))) (Fr.mono u_33 (by decide))) (Fr.mono u_41 (by decide))) (Fr.mono u_148 (by decide))) (Fr.mono u_151 (by decide))) (Eq.trans hs_165 hz_166) dX5_atom_177
          · -- 99
            refine y_c3 (n := 1002) C0 (by decide) dX5_atom_102 (fun v_167 e_168 => ?_)
            refine lv_goto (tgt := 154) C0.1 C0.2.1 dX5_atom_105 (by decide) ?_
            refine lv_istore_n (lv' := [(2, .int v_167), (0, .ref (ad 77)), (1, .int a1)]) C0.1 C0.2.1 dX5_atom_154 rfl hl (by decide) rfl (fun ls hl => ?_)
            refine lv_iload_n C0.1 C0.2.1 dX5_atom_155 rfl (lv_at hl 0 rfl) ?_
            refine y_if_ge (tgt := 165) C0 dX5_atom_156 (by decide) (fun c_169 => ?_) (fun c_169 => ((o62_46 e_168 c_169)).elim)
            refine lv_aload_n C0.1 C0.2.1 dX5_atom_165 rfl (lv_at hl 1 rfl) ?_
            refine tg_X5_law C0 h kSC_77 q_380 dX5_atom_166 (fun i_170 hi_170 => ?_)
            refine lv_iload_n C0.1 C0.2.1 dX5_atom_169 rfl (lv_at hl 0 rfl) ?_
            refine y_cv h (y_rV (As := [.int v_167]) (rest := []) C0 hZ h (c_X4_add l G Z ad _ h.2 i_170 hi_170 v_167) k_X4_add q_827 q_828 q_826 hi_170 rfl rfl rfl hl.1 rfl rfl (Nat.le_of_ble_eq_true rfl) dX5_atom_170 ⟨Nat.le_of_ble_eq_true rfl, Nat.le_of_ble_eq_true rfl⟩ ⟨Nat.le_of_ble_eq_true rfl, Nat.le_of_ble_eq_true rfl⟩) (fun H locs ws_171 h u_172 p_173 => ?_)
            refine lv_aload_n C0.1 C0.2.1 dX5_atom_173 rfl (lv_at hl 1 rfl) ?_
            refine y_cv h (y_rV (As := []) (rest := []) C0 hZ h (c_X5_advanceS l G Z ad _ h.2 ((Tp.fr (M := [2, 3]) hTp (Fr.tr (Fr.tr (Fr.tr (Fr.mono u_17 (by decide)) (Fr.mono u_25 (by decide))) (Fr.mono u_33 (by decide))) u_172) kSC_78 (by decide)))) k_X5_advance q_616 q_0 q_614 kSC_77 rfl rfl rfl hl.1 rfl rfl (Nat.le_of_ble_eq_true rfl) dX5_atom_174 ⟨Nat.le_of_ble_eq_true rfl, Nat.le_of_ble_eq_true rfl⟩ ⟨Nat.le_of_ble_eq_true rfl, Nat.le_of_ble_eq_true rfl⟩) (fun H locs ws_174 h u_175 p_176 => ?_)
            have e_177 := p_176
            have hv_178 : (aF 77 ws0) 4 = v_1.toInt := (aF_at (by decide) e_2)
            have hv_179 : (aF 77 ws0) 4 = v_8.toInt := (aF_at (by decide) e_9)
            have hq_180 := e_22
            have hs_181 : aF 77 ws_16 = (aF 77 ws0) := (aF_fr u_17 kSC_77 (by decide))
            have hq_182 := e_30
            rw [hs_181] at hq_182
            have hs_183 : aF 77 ws_24 = (aF 77 ws0) := (aF_fr u_25 kSC_77 (by decide)).trans hs_181
            have hq_184 := e_38
            rw [hs_183] at hq_184
            have hs_185 : aF 77 ws_32 = (aF 77 ws0) := (aF_fr u_33 kSC_77 (by decide)).trans hs_183
            have hs_186 : aF 77 ws_171 = (aF 77 ws0) := (aF_fr u_172 kSC_77 (by decide)).trans hs_185
            have hs_187 : aF 77 ws_174 = (advS T (aF 77 ws0)) := e_177.trans (congrArg (fun s => advS T s) hs_186)
            have hz_188 : (advS T (aF 77 ws0)) = atomD T 3 (aF 77 ws0) := by rw [atomD_3]; unfold atomF; (repeat' split) <;> first | rfl | (exfalso; omega)
            rw [hQ]
            exact y_vret C0 h (Fr.tr (Fr.tr (Fr.tr (Fr.tr (Fr.mono u_17 (by decide)) (Fr.mono u_25 (by decide))) (Fr.mono u_33 (by decide))) (Fr.mono u_172 (by decide))) (Fr.mono u_175 (by decide))) (Eq.trans hs_187 hz_188) dX5_atom_177
        · -- 84
          refine y_c3 (n := 1001) C0 (by decide) dX5_atom_87 (fun v_189 e_190 => ?_)
          refine lv_goto (tgt := 154) C0.1 C0.2.1 dX5_atom_90 (by decide) ?_
          refine lv_istore_n (lv' := [(2, .int v_189), (0, .ref (ad 77)), (1, .int a1)]) C0.1 C0.2.1 dX5_atom_154 rfl hl (by decide) rfl (fun ls hl => ?_)
          refine lv_iload_n C0.1 C0.2.1 dX5_atom_155 rfl (lv_at hl 0 rfl) ?_
          refine y_if_ge (tgt := 165) C0 dX5_atom_156 (by decide) (fun c_191 => ?_) (fun c_191 => ((o62_47 e_190 c_191)).elim)
          refine lv_aload_n C0.1 C0.2.1 dX5_atom_165 rfl (lv_at hl 1 rfl) ?_
          refine tg_X5_law C0 h kSC_77 q_380 dX5_atom_166 (fun i_192 hi_192 => ?_)
          refine lv_iload_n C0.1 C0.2.1 dX5_atom_169 rfl (lv_at hl 0 rfl) ?_
          refine y_cv h (y_rV (As := [.int v_189]) (rest := []) C0 hZ h (c_X4_add l G Z ad _ h.2 i_192 hi_192 v_189) k_X4_add q_827 q_828 q_826 hi_192 rfl rfl rfl hl.1 rfl rfl (Nat.le_of_ble_eq_true rfl) dX5_atom_170 ⟨Nat.le_of_ble_eq_true rfl, Nat.le_of_ble_eq_true rfl⟩ ⟨Nat.le_of_ble_eq_true rfl, Nat.le_of_ble_eq_true rfl⟩) (fun H locs ws_193 h u_194 p_195 => ?_)
          refine lv_aload_n C0.1 C0.2.1 dX5_atom_173 rfl (lv_at hl 1 rfl) ?_
          refine y_cv h (y_rV (As := []) (rest := []) C0 hZ h (c_X5_advanceS l G Z ad _ h.2 ((Tp.fr (M := [2, 3]) hTp (Fr.tr (Fr.tr (Fr.mono u_17 (by decide)) (Fr.mono u_25 (by decide))) u_194) kSC_78 (by decide)))) k_X5_advance q_616 q_0 q_614 kSC_77 rfl rfl rfl hl.1 rfl rfl (Nat.le_of_ble_eq_true rfl) dX5_atom_174 ⟨Nat.le_of_ble_eq_true rfl, Nat.le_of_ble_eq_true rfl⟩ ⟨Nat.le_of_ble_eq_true rfl, Nat.le_of_ble_eq_true rfl⟩) (fun H locs ws_196 h u_197 p_198 => ?_)
          have e_199 := p_198
          have hv_200 : (aF 77 ws0) 4 = v_1.toInt := (aF_at (by decide) e_2)
          have hv_201 : (aF 77 ws0) 4 = v_8.toInt := (aF_at (by decide) e_9)
          have hq_202 := e_22
          have hs_203 : aF 77 ws_16 = (aF 77 ws0) := (aF_fr u_17 kSC_77 (by decide))
          have hq_204 := e_30
          rw [hs_203] at hq_204
          have hs_205 : aF 77 ws_24 = (aF 77 ws0) := (aF_fr u_25 kSC_77 (by decide)).trans hs_203
          have hs_206 : aF 77 ws_193 = (aF 77 ws0) := (aF_fr u_194 kSC_77 (by decide)).trans hs_205
          have hs_207 : aF 77 ws_196 = (advS T (aF 77 ws0)) := e_199.trans (congrArg (fun s => advS T s) hs_206)
          have hz_208 : (advS T (aF 77 ws0)) = atomD T 3 (aF 77 ws0) := by rw [atomD_3]; unfold atomF; (repeat' split) <;> first | rfl | (exfalso; omega)
          rw [hQ]
          exact y_vret C0 h (Fr.tr (Fr.tr (Fr.tr (Fr.mono u_17 (by decide)) (Fr.mono u_25 (by decide))) (Fr.mono u_194 (by decide))) (Fr.mono u_197 (by decide))) (Eq.trans hs_207 hz_208) dX5_atom_177
      · -- 69
        refine y_c3 (n := 1000) C0 (by decide) dX5_atom_72 (fun v_209 e_210 => ?_)
        refine lv_goto (tgt := 154) C0.1 C0.2.1 dX5_atom_75 (by decide) ?_
        refine lv_istore_n (lv' := [(2, .int v_209), (0, .ref (ad 77)), (1, .int a1)]) C0.1 C0.2.1 dX5_atom_154 rfl hl (by decide) rfl (fun ls hl => ?_)
        refine lv_iload_n C0.1 C0.2.1 dX5_atom_155 rfl (lv_at hl 0 rfl) ?_
        refine y_if_ge (tgt := 165) C0 dX5_atom_156 (by decide) (fun c_211 => ?_) (fun c_211 => ((o62_48 e_210 c_211)).elim)
        refine lv_aload_n C0.1 C0.2.1 dX5_atom_165 rfl (lv_at hl 1 rfl) ?_
        refine tg_X5_law C0 h kSC_77 q_380 dX5_atom_166 (fun i_212 hi_212 => ?_)
        refine lv_iload_n C0.1 C0.2.1 dX5_atom_169 rfl (lv_at hl 0 rfl) ?_
        refine y_cv h (y_rV (As := [.int v_209]) (rest := []) C0 hZ h (c_X4_add l G Z ad _ h.2 i_212 hi_212 v_209) k_X4_add q_827 q_828 q_826 hi_212 rfl rfl rfl hl.1 rfl rfl (Nat.le_of_ble_eq_true rfl) dX5_atom_170 ⟨Nat.le_of_ble_eq_true rfl, Nat.le_of_ble_eq_true rfl⟩ ⟨Nat.le_of_ble_eq_true rfl, Nat.le_of_ble_eq_true rfl⟩) (fun H locs ws_213 h u_214 p_215 => ?_)
        refine lv_aload_n C0.1 C0.2.1 dX5_atom_173 rfl (lv_at hl 1 rfl) ?_
        refine y_cv h (y_rV (As := []) (rest := []) C0 hZ h (c_X5_advanceS l G Z ad _ h.2 ((Tp.fr (M := [2, 3]) hTp (Fr.tr (Fr.mono u_17 (by decide)) u_214) kSC_78 (by decide)))) k_X5_advance q_616 q_0 q_614 kSC_77 rfl rfl rfl hl.1 rfl rfl (Nat.le_of_ble_eq_true rfl) dX5_atom_174 ⟨Nat.le_of_ble_eq_true rfl, Nat.le_of_ble_eq_true rfl⟩ ⟨Nat.le_of_ble_eq_true rfl, Nat.le_of_ble_eq_true rfl⟩) (fun H locs ws_216 h u_217 p_218 => ?_)
        have e_219 := p_218
        have hv_220 : (aF 77 ws0) 4 = v_1.toInt := (aF_at (by decide) e_2)
        have hv_221 : (aF 77 ws0) 4 = v_8.toInt := (aF_at (by decide) e_9)
        have hq_222 := e_22
        have hs_223 : aF 77 ws_16 = (aF 77 ws0) := (aF_fr u_17 kSC_77 (by decide))
        have hs_224 : aF 77 ws_213 = (aF 77 ws0) := (aF_fr u_214 kSC_77 (by decide)).trans hs_223
        have hs_225 : aF 77 ws_216 = (advS T (aF 77 ws0)) := e_219.trans (congrArg (fun s => advS T s) hs_224)
        have hz_226 : (advS T (aF 77 ws0)) = atomD T 3 (aF 77 ws0) := by rw [atomD_3]; unfold atomF; (repeat' split) <;> first | rfl | (exfalso; omega)
        rw [hQ]
        exact y_vret C0 h (Fr.tr (Fr.tr (Fr.mono u_17 (by decide)) (Fr.mono u_214 (by decide))) (Fr.mono u_217 (by decide))) (Eq.trans hs_225 hz_226) dX5_atom_177
    · -- 32
      refine lv_aload_n C0.1 C0.2.1 dX5_atom_35 rfl (lv_at hl 0 rfl) ?_
      refine lv_iload_n C0.1 C0.2.1 dX5_atom_36 rfl (lv_at hl 1 rfl) ?_
      refine y_ci h (y_rV (As := [.int a1]) (rest := []) C0 hZ h (c_X5_tooDeep_3S l G Z ad _ h.2 a1 (o62_90 l1 u1) (o62_91 l1 u1)) k_X5_tooDeep q_832 q_18 q_830 kSC_77 rfl rfl rfl hl.1 rfl rfl (Nat.le_of_ble_eq_true rfl) dX5_atom_37 ⟨Nat.le_of_ble_eq_true rfl, Nat.le_of_ble_eq_true rfl⟩ ⟨Nat.le_of_ble_eq_true rfl, Nat.le_of_ble_eq_true rfl⟩) (fun r_230 H locs ws_227 h u_228 p_229 => ?_)
      obtain ⟨e_231, e_232, e_233⟩ := p_229
      refine y_if_ne (tgt := 177) C0 dX5_atom_40 (by decide) (fun c_234 => ((o62_71 e_231 e_232 c_234)).elim) (fun c_234 => ?_)
      refine lv_aload_n C0.1 C0.2.1 dX5_atom_43 rfl (lv_at hl 0 rfl) ?_
      refine y_cv h (y_rV (As := []) (rest := []) C0 hZ h (c_X5_advanceS l G Z ad _ h.2 ((Tp.fr (M := []) hTp u_228 kSC_78 (by decide)))) k_X5_advance q_616 q_0 q_614 kSC_77 rfl rfl rfl hl.1 rfl rfl (Nat.le_of_ble_eq_true rfl) dX5_atom_44 ⟨Nat.le_of_ble_eq_true rfl, Nat.le_of_ble_eq_true rfl⟩ ⟨Nat.le_of_ble_eq_true rfl, Nat.le_of_ble_eq_true rfl⟩) (fun H locs ws_235 h u_236 p_237 => ?_)
      have e_238 := p_237
      refine lv_aload_n C0.1 C0.2.1 dX5_atom_47 rfl (lv_at hl 0 rfl) ?_
      refine lv_iload_n C0.1 C0.2.1 dX5_atom_48 rfl (lv_at hl 1 rfl) ?_
      refine y_c1 (n := 1) C0 (by decide) dX5_atom_49 (fun v_239 e_240 => ?_)
      refine y_add C0 (o62_92 l1 u1 e_240 (le_min a1) (le_max a1) (le_min v_239) (le_max v_239)) (o62_93 l1 u1 e_240 (le_min a1) (le_max a1) (le_min v_239) (le_max v_239)) dX5_atom_50 (fun v_241 e_242 => ?_)
      refine y_cv h (y_rV (As := [.int v_241]) (rest := []) C0 hZ h (c_X5_sum_4S l G Z ad _ h.2 v_241 (o62_94 l1 u1 e_240 e_242) (o62_95 l1 u1 e_240 e_242) ((Tp.fr (M := [16]) hTp (Fr.tr (Fr.mono u_228 (by decide)) u_236) kSC_78 (by decide)))) k_X5_sum q_816 q_15 q_814 kSC_77 rfl rfl rfl hl.1 rfl rfl (Nat.le_of_ble_eq_true rfl) dX5_atom_51 ⟨Nat.le_of_ble_eq_true rfl, Nat.le_of_ble_eq_true rfl⟩ ⟨Nat.le_of_ble_eq_true rfl, Nat.le_of_ble_eq_true rfl⟩) (fun H locs ws_243 h u_244 p_245 => ?_)
      have e_246 := p_245
      refine lv_aload_n C0.1 C0.2.1 dX5_atom_54 rfl (lv_at hl 0 rfl) ?_
      refine y_c2 (n := 41) C0 (by decide) dX5_atom_55 (fun v_247 e_248 => ?_)
      refine y_cv h (y_rV (As := [.int v_247]) (rest := []) C0 hZ h (c_X5_signS l G Z ad _ h.2 v_247 (o62_76 e_248) (o62_77 e_248) ((Tp.fr (M := [2, 3, 16]) hTp (Fr.tr (Fr.tr (Fr.mono u_228 (by decide)) (Fr.mono u_236 (by decide))) u_244) kSC_78 (by decide)))) k_X5_sign q_812 q_14 q_810 kSC_77 rfl rfl rfl hl.1 rfl rfl (Nat.le_of_ble_eq_true rfl) dX5_atom_57 ⟨Nat.le_of_ble_eq_true rfl, Nat.le_of_ble_eq_true rfl⟩ ⟨Nat.le_of_ble_eq_true rfl, Nat.le_of_ble_eq_true rfl⟩) (fun H locs ws_249 h u_250 p_251 => ?_)
      have e_252 := p_251
      refine lv_goto (tgt := 177) C0.1 C0.2.1 dX5_atom_60 (by decide) ?_
      have hv_253 : (aF 77 ws0) 4 = v_1.toInt := (aF_at (by decide) e_2)
      have hv_254 : (aF 77 ws0) 4 = v_8.toInt := (aF_at (by decide) e_9)
      have hs_255 : aF 77 ws_227 = ((fun s => s) (aF 77 ws0)) := e_233
      have hs_256 : aF 77 ws_235 = (advS T ((fun s => s) (aF 77 ws0))) := e_238.trans (congrArg (fun s => advS T s) hs_255)
      have hs_257 : aF 77 ws_243 = (sumL T (atomD T 2) (advS T ((fun s => s) (aF 77 ws0)))) := e_246.trans (congrArg (fun s => sumL T (atomD T 2) s) hs_256)
      have hs_258 : aF 77 ws_249 = (signS T 41 (sumL T (atomD T 2) (advS T ((fun s => s) (aF 77 ws0))))) := e_252.trans ((congrArg (fun s => signS T v_247.toInt s) hs_257).trans (by rw [(o62_78 e_248)]))
      have hz_259 : (signS T 41 (sumL T (atomD T 2) (advS T ((fun s => s) (aF 77 ws0))))) = atomD T 3 (aF 77 ws0) := by rw [atomD_3]; unfold atomF; (repeat' split) <;> first | rfl | (exfalso; omega)
      rw [hQ]
      exact y_vret C0 h (Fr.tr (Fr.tr (Fr.tr (Fr.mono u_228 (by decide)) (Fr.mono u_236 (by decide))) u_244) (Fr.mono u_250 (by decide))) (Eq.trans hs_258 hz_259) dX5_atom_177
  · -- 5
    refine lv_aload_n C0.1 C0.2.1 dX5_atom_8 rfl (lv_at hl 0 rfl) ?_
    refine tg_X5_law C0 h kSC_77 q_380 dX5_atom_9 (fun i_260 hi_260 => ?_)
    refine lv_aload_n C0.1 C0.2.1 dX5_atom_12 rfl (lv_at hl 0 rfl) ?_
    refine tg_X5_number C0 h kSC_77 q_377 dX5_atom_13 (fun v_261 e_262 e_263 e_264 => ?_)
    refine y_cv h (y_rV (As := [.int v_261]) (rest := []) C0 hZ h (c_X4_add l G Z ad _ h.2 i_260 hi_260 v_261) k_X4_add q_827 q_828 q_826 hi_260 rfl rfl rfl hl.1 rfl rfl (Nat.le_of_ble_eq_true rfl) dX5_atom_16 ⟨Nat.le_of_ble_eq_true rfl, Nat.le_of_ble_eq_true rfl⟩ ⟨Nat.le_of_ble_eq_true rfl, Nat.le_of_ble_eq_true rfl⟩) (fun H locs ws_265 h u_266 p_267 => ?_)
    refine lv_aload_n C0.1 C0.2.1 dX5_atom_19 rfl (lv_at hl 0 rfl) ?_
    refine y_cv h (y_rV (As := []) (rest := []) C0 hZ h (c_X5_advanceS l G Z ad _ h.2 ((Tp.fr (M := [2, 3]) hTp u_266 kSC_78 (by decide)))) k_X5_advance q_616 q_0 q_614 kSC_77 rfl rfl rfl hl.1 rfl rfl (Nat.le_of_ble_eq_true rfl) dX5_atom_20 ⟨Nat.le_of_ble_eq_true rfl, Nat.le_of_ble_eq_true rfl⟩ ⟨Nat.le_of_ble_eq_true rfl, Nat.le_of_ble_eq_true rfl⟩) (fun H locs ws_268 h u_269 p_270 => ?_)
    have e_271 := p_270
    refine lv_goto (tgt := 177) C0.1 C0.2.1 dX5_atom_23 (by decide) ?_
    have hv_272 : (aF 77 ws0) 4 = v_1.toInt := (aF_at (by decide) e_2)
    have hv_273 : (aF 77 ws0) 7 = v_261.toInt := (aF_at (by decide) e_262)
    have hs_274 : aF 77 ws_265 = (aF 77 ws0) := (aF_fr u_266 kSC_77 (by decide))
    have hs_275 : aF 77 ws_268 = (advS T (aF 77 ws0)) := e_271.trans (congrArg (fun s => advS T s) hs_274)
    have hz_276 : (advS T (aF 77 ws0)) = atomD T 3 (aF 77 ws0) := by rw [atomD_3]; unfold atomF; (repeat' split) <;> first | rfl | (exfalso; omega)
    rw [hQ]
    exact y_vret C0 h (Fr.tr (Fr.mono u_266 (by decide)) (Fr.mono u_269 (by decide))) (Eq.trans hs_275 hz_276) dX5_atom_177
set_option maxHeartbeats 4000000 in
set_option maxRecDepth 100000 in
theorem c_X5_term_3S {T : Nat → Int} (l : Launch) (G : GG) (Z : RZ) (ad : Nat → Nat) (ws0 : va_W) (hT : Ty G (SC tt) ad ws0) (a1 : Int32) (l1 : 3 ≤ a1.toInt) (u1 : a1.toInt ≤ 3) (hTp : Tp T ws0) : Mq l yX5_term cX5_term 3 none 16 G Z [.ref (ad 77), .int a1] ws0 (PV G (SC tt) ad [2, 3, 16] ws0 (fun u => (aF 77 u = termL T (atomD T 3) (aF 77 ws0)))) := by
  refine Mq.start (by decide) (Nat.le_of_ble_eq_true rfl) ?_
  intro p e s m below meth c A ls C0 hZ h hl
  have hl : lv_has ls 3 [(0, .ref (ad 77)), (1, .int a1)] := hl
  have h : Wt G (SC tt) ad A s s.heap [] ws0 := ⟨h, hT⟩
  obtain ⟨args, hargs⟩ : ∃ z, z = ([.ref (ad 77), .int a1] : List Value).toArray := ⟨_, rfl⟩
  rw [← hargs] at C0 ⊢
  have C0 : Cx p s m args meth c RX5 cX5_term 3 none := C0
  obtain ⟨Q, hQ⟩ : ∃ z, z = MQ below ((PV G (SC tt) ad [2, 3, 16] ws0 (fun u => (aF 77 u = termL T (atomD T 3) (aF 77 ws0)))) A) args s 0 0 A := ⟨_, rfl⟩
  rw [← hQ]
  refine lv_aload_n C0.1 C0.2.1 dX5_term_0 rfl (lv_at hl 0 rfl) ?_
  refine lv_iload_n C0.1 C0.2.1 dX5_term_1 rfl (lv_at hl 1 rfl) ?_
  refine y_cv h (y_rV (As := [.int a1]) (rest := []) C0 hZ h (c_X5_atom_3S l G Z ad _ h.2 a1 (o62_90 l1 u1) (o62_91 l1 u1) hTp) k_X5_atom q_824 q_17 q_822 kSC_77 rfl rfl rfl hl.1 rfl rfl (Nat.le_of_ble_eq_true rfl) dX5_term_2 ⟨Nat.le_of_ble_eq_true rfl, Nat.le_of_ble_eq_true rfl⟩ ⟨Nat.le_of_ble_eq_true rfl, Nat.le_of_ble_eq_true rfl⟩) (fun H locs ws_1 h u_2 p_3 => ?_)
  have e_4 := p_3
  refine y_c1 (n := 0) C0 (by decide) dX5_term_5 (fun v_5 e_6 => ?_)
  refine lv_istore_n (lv' := [(2, .int v_5), (0, .ref (ad 77)), (1, .int a1)]) C0.1 C0.2.1 dX5_term_6 rfl hl (by decide) rfl (fun ls hl => ?_)
  have lp_10 : ∀ (n_12 : Nat) (x2_7 : Int32) (H : Heap) (locs : List Loc) (ls : Array Slot) (ws_8 : va_W), 900 - x2_7.toInt < (n_12 : Int) → 0 ≤ x2_7.toInt → x2_7.toInt ≤ 900 → (lpS (fun s => s 4 = 42) (fun s => atomD T 3 (advS T s)) (900 - x2_7.toInt).toNat (aF 77 ws_8) = termL T (atomD T 3) (aF 77 ws0)) → Wt G (SC tt) ad A s H locs ws_8 → Fr (SC tt) [2, 3, 16] ws_1 ws_8 → lv_has ls 3 [(2, .int x2_7), (0, .ref (ad 77)), (1, .int a1)] → W p l e (rmd 16 0 0) s m args below meth c H locs 0 0 Q (F0 m 7 ls []) := by
    intro n_12
    induction n_12 with
    | zero => intro x2_7 H locs ls ws_8 hn_13 b_14 b_15 hSp h hF_9 hl; exact ((o62_52 b_14 b_15 hn_13)).elim
    | succ n_12 ih_11 =>
      intro x2_7 H locs ls ws_8 hn_13 b_14 b_15 hSp h hF_9 hl
      refine lv_iload_n C0.1 C0.2.1 dX5_term_7 rfl (lv_at hl 0 rfl) ?_
      refine y_c3 (n := 900) C0 (by decide) dX5_term_8 (fun v_16 e_17 => ?_)
      refine y_icmp_ge (tgt := 48) C0 dX5_term_11 (by decide) (fun c_18 => ?_) (fun c_18 => ?_)
      · -- 11
        have hz_19 : (aF 77 ws_8) = lpS (fun s => s 4 = 42) (fun s => atomD T 3 (advS T s)) (900 - x2_7.toInt).toNat (aF 77 ws_8) := by first | (exfalso; omega) | exact (lp_0 (by omega)).symm | exact (lp_e (by omega)).symm
        rw [hQ]
        exact y_vret C0 h (Fr.tr u_2 hF_9) (Eq.trans rfl (Eq.trans hz_19 hSp)) dX5_term_48
      · -- 11
        refine lv_aload_n C0.1 C0.2.1 dX5_term_14 rfl (lv_at hl 1 rfl) ?_
        refine tg_X5_kind C0 h kSC_77 q_374 dX5_term_15 (fun v_20 e_21 e_22 e_23 => ?_)
        refine y_c2 (n := 42) C0 (by decide) dX5_term_18 (fun v_24 e_25 => ?_)
        refine y_icmp_ne (tgt := 48) C0 dX5_term_20 (by decide) (fun c_26 => ?_) (fun c_26 => ?_)
        · -- 20
          have hv_27 : (aF 77 ws_8) 4 = v_20.toInt := (aF_at (by decide) e_21)
          have hz_28 : (aF 77 ws_8) = lpS (fun s => s 4 = 42) (fun s => atomD T 3 (advS T s)) (900 - x2_7.toInt).toNat (aF 77 ws_8) := by first | (exfalso; omega) | exact (lp_0 (by omega)).symm | exact (lp_e (by omega)).symm
          rw [hQ]
          exact y_vret C0 h (Fr.tr u_2 hF_9) (Eq.trans rfl (Eq.trans hz_28 hSp)) dX5_term_48
        · -- 20
          refine lv_aload_n C0.1 C0.2.1 dX5_term_23 rfl (lv_at hl 1 rfl) ?_
          refine y_cv h (y_rV (As := []) (rest := []) C0 hZ h (c_X5_advanceS l G Z ad _ h.2 ((Tp.fr (M := [2, 3, 16]) hTp (Fr.tr u_2 hF_9) kSC_78 (by decide)))) k_X5_advance q_616 q_0 q_614 kSC_77 rfl rfl rfl hl.1 rfl rfl (Nat.le_of_ble_eq_true rfl) dX5_term_24 ⟨Nat.le_of_ble_eq_true rfl, Nat.le_of_ble_eq_true rfl⟩ ⟨Nat.le_of_ble_eq_true rfl, Nat.le_of_ble_eq_true rfl⟩) (fun H locs ws_29 h u_30 p_31 => ?_)
          have e_32 := p_31
          refine lv_aload_n C0.1 C0.2.1 dX5_term_27 rfl (lv_at hl 1 rfl) ?_
          refine lv_iload_n C0.1 C0.2.1 dX5_term_28 rfl (lv_at hl 2 rfl) ?_
          refine y_cv h (y_rV (As := [.int a1]) (rest := []) C0 hZ h (c_X5_atom_3S l G Z ad _ h.2 a1 (o62_90 l1 u1) (o62_91 l1 u1) ((Tp.fr (M := [2, 3, 16]) hTp (Fr.tr (Fr.tr u_2 hF_9) (Fr.mono u_30 (by decide))) kSC_78 (by decide)))) k_X5_atom q_824 q_17 q_822 kSC_77 rfl rfl rfl hl.1 rfl rfl (Nat.le_of_ble_eq_true rfl) dX5_term_29 ⟨Nat.le_of_ble_eq_true rfl, Nat.le_of_ble_eq_true rfl⟩ ⟨Nat.le_of_ble_eq_true rfl, Nat.le_of_ble_eq_true rfl⟩) (fun H locs ws_33 h u_34 p_35 => ?_)
          have e_36 := p_35
          refine lv_aload_n C0.1 C0.2.1 dX5_term_32 rfl (lv_at hl 1 rfl) ?_
          refine tg_X5_law C0 h kSC_77 q_380 dX5_term_33 (fun i_37 hi_37 => ?_)
          refine y_c3 (n := 2002) C0 (by decide) dX5_term_36 (fun v_38 e_39 => ?_)
          refine y_cv h (y_rV (As := [.int v_38]) (rest := []) C0 hZ h (c_X4_add l G Z ad _ h.2 i_37 hi_37 v_38) k_X4_add q_827 q_828 q_826 hi_37 rfl rfl rfl hl.1 rfl rfl (Nat.le_of_ble_eq_true rfl) dX5_term_39 ⟨Nat.le_of_ble_eq_true rfl, Nat.le_of_ble_eq_true rfl⟩ ⟨Nat.le_of_ble_eq_true rfl, Nat.le_of_ble_eq_true rfl⟩) (fun H locs ws_40 h u_41 p_42 => ?_)
          refine y_inc (kp := 0) (n := 1) (fun v_43 => [(2, .int v_43), (0, .ref (ad 77)), (1, .int a1)]) C0 hl rfl (by decide) (by decide) (fun _ => rfl) (o62_53 b_14 b_15 hn_13 e_17 c_18 (le_min x2_7) (le_max x2_7) (le_min v_16) (le_max v_16)) (o62_54 b_14 b_15 hn_13 e_17 c_18 (le_min x2_7) (le_max x2_7) (le_min v_16) (le_max v_16)) dX5_term_42 (fun v_43 ls e_44 hl => ?_)
          refine lv_goto (tgt := 7) C0.1 C0.2.1 dX5_term_45 (by decide) ?_
          have hv_45 : (aF 77 ws_8) 4 = v_20.toInt := (aF_at (by decide) e_21)
          have hs_46 : aF 77 ws_29 = (advS T (aF 77 ws_8)) := e_32
          have hs_47 : aF 77 ws_33 = (atomD T 3 (advS T (aF 77 ws_8))) := e_36.trans (congrArg (fun s => atomD T 3 s) hs_46)
          have hs_48 : aF 77 ws_40 = (atomD T 3 (advS T (aF 77 ws_8))) := (aF_fr u_41 kSC_77 (by decide)).trans hs_47
          exact ih_11 v_43 _ _ _ _ (o62_55 b_14 b_15 hn_13 e_17 c_18 e_44) (o62_56 b_14 b_15 hn_13 e_17 c_18 e_44) (o62_57 b_14 b_15 hn_13 e_17 c_18 e_44) ((by rw [hs_48]; exact (lp_s (by omega) (by omega) (by omega) (by omega)).trans hSp)) h (Fr.tr (Fr.tr (Fr.tr hF_9 (Fr.mono u_30 (by decide))) u_34) (Fr.mono u_41 (by decide))) (lv_sub hl [0, 1, 2] rfl)
  have hs_49 : aF 77 ws_1 = (atomD T 3 (aF 77 ws0)) := e_4
  exact lp_10 ((900 - v_5.toInt + 1).toNat) v_5 _ _ _ _ (o62_58 e_6) (o62_59 e_6) (o62_60 e_6) ((by rw [show (900 - v_5.toInt).toNat = 900 by omega, hs_49]; rfl)) h Fr.rf (lv_sub hl [0, 1, 2] rfl)
set_option maxHeartbeats 4000000 in
set_option maxRecDepth 100000 in
theorem c_X5_sum_3S {T : Nat → Int} (l : Launch) (G : GG) (Z : RZ) (ad : Nat → Nat) (ws0 : va_W) (hT : Ty G (SC tt) ad ws0) (a1 : Int32) (l1 : 3 ≤ a1.toInt) (u1 : a1.toInt ≤ 3) (hTp : Tp T ws0) : Mq l yX5_sum cX5_sum 4 none 17 G Z [.ref (ad 77), .int a1] ws0 (PV G (SC tt) ad [2, 3, 16] ws0 (fun u => (aF 77 u = sumL T (atomD T 3) (aF 77 ws0)))) := by
  refine Mq.start (by decide) (Nat.le_of_ble_eq_true rfl) ?_
  intro p e s m below meth c A ls C0 hZ h hl
  have hl : lv_has ls 4 [(0, .ref (ad 77)), (1, .int a1)] := hl
  have h : Wt G (SC tt) ad A s s.heap [] ws0 := ⟨h, hT⟩
  obtain ⟨args, hargs⟩ : ∃ z, z = ([.ref (ad 77), .int a1] : List Value).toArray := ⟨_, rfl⟩
  rw [← hargs] at C0 ⊢
  have C0 : Cx p s m args meth c RX5 cX5_sum 4 none := C0
  obtain ⟨Q, hQ⟩ : ∃ z, z = MQ below ((PV G (SC tt) ad [2, 3, 16] ws0 (fun u => (aF 77 u = sumL T (atomD T 3) (aF 77 ws0)))) A) args s 0 0 A := ⟨_, rfl⟩
  rw [← hQ]
  refine lv_aload_n C0.1 C0.2.1 dX5_sum_0 rfl (lv_at hl 0 rfl) ?_
  refine lv_iload_n C0.1 C0.2.1 dX5_sum_1 rfl (lv_at hl 1 rfl) ?_
  refine y_cv h (y_rV (As := [.int a1]) (rest := []) C0 hZ h (c_X5_term_3S l G Z ad _ h.2 a1 (o62_90 l1 u1) (o62_91 l1 u1) hTp) k_X5_term q_820 q_16 q_818 kSC_77 rfl rfl rfl hl.1 rfl rfl (Nat.le_of_ble_eq_true rfl) dX5_sum_2 ⟨Nat.le_of_ble_eq_true rfl, Nat.le_of_ble_eq_true rfl⟩ ⟨Nat.le_of_ble_eq_true rfl, Nat.le_of_ble_eq_true rfl⟩) (fun H locs ws_1 h u_2 p_3 => ?_)
  have e_4 := p_3
  refine y_c1 (n := 0) C0 (by decide) dX5_sum_5 (fun v_5 e_6 => ?_)
  refine lv_istore_n (lv' := [(2, .int v_5), (0, .ref (ad 77)), (1, .int a1)]) C0.1 C0.2.1 dX5_sum_6 rfl hl (by decide) rfl (fun ls hl => ?_)
  have lp_10 : ∀ (n_12 : Nat) (x2_7 : Int32) (H : Heap) (locs : List Loc) (ls : Array Slot) (ws_8 : va_W), 900 - x2_7.toInt < (n_12 : Int) → 0 ≤ x2_7.toInt → x2_7.toInt ≤ 900 → (lpS (fun s => s 4 = 43 ∨ s 4 = 45) (fun s => termL T (atomD T 3) (advS T s)) (900 - x2_7.toInt).toNat (aF 77 ws_8) = sumL T (atomD T 3) (aF 77 ws0)) → Wt G (SC tt) ad A s H locs ws_8 → Fr (SC tt) [2, 3, 16] ws_1 ws_8 → lv_has ls 4 [(2, .int x2_7), (0, .ref (ad 77)), (1, .int a1)] → W p l e (rmd 17 0 0) s m args below meth c H locs 0 0 Q (F0 m 7 ls []) := by
    intro n_12
    induction n_12 with
    | zero => intro x2_7 H locs ls ws_8 hn_13 b_14 b_15 hSp h hF_9 hl; exact ((o62_52 b_14 b_15 hn_13)).elim
    | succ n_12 ih_11 =>
      intro x2_7 H locs ls ws_8 hn_13 b_14 b_15 hSp h hF_9 hl
      refine lv_iload_n C0.1 C0.2.1 dX5_sum_7 rfl (lv_at hl 0 rfl) ?_
      refine y_c3 (n := 900) C0 (by decide) dX5_sum_8 (fun v_16 e_17 => ?_)
      refine y_icmp_ge (tgt := 74) C0 dX5_sum_11 (by decide) (fun c_18 => ?_) (fun c_18 => ?_)
      · -- 11
        have hz_19 : (aF 77 ws_8) = lpS (fun s => s 4 = 43 ∨ s 4 = 45) (fun s => termL T (atomD T 3) (advS T s)) (900 - x2_7.toInt).toNat (aF 77 ws_8) := by first | (exfalso; omega) | exact (lp_0 (by omega)).symm | exact (lp_e (by omega)).symm
        rw [hQ]
        exact y_vret C0 h (Fr.tr u_2 hF_9) (Eq.trans rfl (Eq.trans hz_19 hSp)) dX5_sum_74
      · -- 11
        refine lv_aload_n C0.1 C0.2.1 dX5_sum_14 rfl (lv_at hl 1 rfl) ?_
        refine tg_X5_kind C0 h kSC_77 q_374 dX5_sum_15 (fun v_20 e_21 e_22 e_23 => ?_)
        refine y_c2 (n := 43) C0 (by decide) dX5_sum_18 (fun v_24 e_25 => ?_)
        refine y_icmp_eq (tgt := 32) C0 dX5_sum_20 (by decide) (fun c_26 => ?_) (fun c_26 => ?_)
        · -- 20
          refine lv_aload_n C0.1 C0.2.1 dX5_sum_32 rfl (lv_at hl 1 rfl) ?_
          refine tg_X5_kind C0 h kSC_77 q_374 dX5_sum_33 (fun v_27 e_28 e_29 e_30 => ?_)
          have q_31 : v_27.toInt = v_20.toInt := congrArg Int32.toInt (e_28.symm.trans (Eq.trans rfl e_21))
          refine y_c2 (n := 43) C0 (by decide) dX5_sum_36 (fun v_32 e_33 => ?_)
          refine y_icmp_ne (tgt := 47) C0 dX5_sum_38 (by decide) (fun c_34 => ((o62_61 e_25 c_26 q_31 e_33 c_34)).elim) (fun c_34 => ?_)
          refine y_c3 (n := 2000) C0 (by decide) dX5_sum_41 (fun v_35 e_36 => ?_)
          refine lv_goto (tgt := 50) C0.1 C0.2.1 dX5_sum_44 (by decide) ?_
          refine lv_istore_n (lv' := [(3, .int v_35), (2, .int x2_7), (0, .ref (ad 77)), (1, .int a1)]) C0.1 C0.2.1 dX5_sum_50 rfl hl (by decide) rfl (fun ls hl => ?_)
          refine lv_aload_n C0.1 C0.2.1 dX5_sum_51 rfl (lv_at hl 2 rfl) ?_
          refine y_cv h (y_rV (As := []) (rest := []) C0 hZ h (c_X5_advanceS l G Z ad _ h.2 ((Tp.fr (M := [2, 3, 16]) hTp (Fr.tr u_2 hF_9) kSC_78 (by decide)))) k_X5_advance q_616 q_0 q_614 kSC_77 rfl rfl rfl hl.1 rfl rfl (Nat.le_of_ble_eq_true rfl) dX5_sum_52 ⟨Nat.le_of_ble_eq_true rfl, Nat.le_of_ble_eq_true rfl⟩ ⟨Nat.le_of_ble_eq_true rfl, Nat.le_of_ble_eq_true rfl⟩) (fun H locs ws_37 h u_38 p_39 => ?_)
          have e_40 := p_39
          refine lv_aload_n C0.1 C0.2.1 dX5_sum_55 rfl (lv_at hl 2 rfl) ?_
          refine lv_iload_n C0.1 C0.2.1 dX5_sum_56 rfl (lv_at hl 3 rfl) ?_
          refine y_cv h (y_rV (As := [.int a1]) (rest := []) C0 hZ h (c_X5_term_3S l G Z ad _ h.2 a1 (o62_90 l1 u1) (o62_91 l1 u1) ((Tp.fr (M := [2, 3, 16]) hTp (Fr.tr (Fr.tr u_2 hF_9) (Fr.mono u_38 (by decide))) kSC_78 (by decide)))) k_X5_term q_820 q_16 q_818 kSC_77 rfl rfl rfl hl.1 rfl rfl (Nat.le_of_ble_eq_true rfl) dX5_sum_57 ⟨Nat.le_of_ble_eq_true rfl, Nat.le_of_ble_eq_true rfl⟩ ⟨Nat.le_of_ble_eq_true rfl, Nat.le_of_ble_eq_true rfl⟩) (fun H locs ws_41 h u_42 p_43 => ?_)
          have e_44 := p_43
          refine lv_aload_n C0.1 C0.2.1 dX5_sum_60 rfl (lv_at hl 2 rfl) ?_
          refine tg_X5_law C0 h kSC_77 q_380 dX5_sum_61 (fun i_45 hi_45 => ?_)
          refine lv_iload_n C0.1 C0.2.1 dX5_sum_64 rfl (lv_at hl 0 rfl) ?_
          refine y_cv h (y_rV (As := [.int v_35]) (rest := []) C0 hZ h (c_X4_add l G Z ad _ h.2 i_45 hi_45 v_35) k_X4_add q_827 q_828 q_826 hi_45 rfl rfl rfl hl.1 rfl rfl (Nat.le_of_ble_eq_true rfl) dX5_sum_65 ⟨Nat.le_of_ble_eq_true rfl, Nat.le_of_ble_eq_true rfl⟩ ⟨Nat.le_of_ble_eq_true rfl, Nat.le_of_ble_eq_true rfl⟩) (fun H locs ws_46 h u_47 p_48 => ?_)
          refine y_inc (kp := 1) (n := 1) (fun v_49 => [(2, .int v_49), (3, .int v_35), (0, .ref (ad 77)), (1, .int a1)]) C0 hl rfl (by decide) (by decide) (fun _ => rfl) (o62_53 b_14 b_15 hn_13 e_17 c_18 (le_min x2_7) (le_max x2_7) (le_min v_16) (le_max v_16)) (o62_54 b_14 b_15 hn_13 e_17 c_18 (le_min x2_7) (le_max x2_7) (le_min v_16) (le_max v_16)) dX5_sum_68 (fun v_49 ls e_50 hl => ?_)
          refine lv_goto (tgt := 7) C0.1 C0.2.1 dX5_sum_71 (by decide) ?_
          have hv_51 : (aF 77 ws_8) 4 = v_20.toInt := (aF_at (by decide) e_21)
          have hv_52 : (aF 77 ws_8) 4 = v_27.toInt := (aF_at (by decide) e_28)
          have hs_53 : aF 77 ws_37 = (advS T (aF 77 ws_8)) := e_40
          have hs_54 : aF 77 ws_41 = (termL T (atomD T 3) (advS T (aF 77 ws_8))) := e_44.trans (congrArg (fun s => termL T (atomD T 3) s) hs_53)
          have hs_55 : aF 77 ws_46 = (termL T (atomD T 3) (advS T (aF 77 ws_8))) := (aF_fr u_47 kSC_77 (by decide)).trans hs_54
          exact ih_11 v_49 _ _ _ _ (o62_55 b_14 b_15 hn_13 e_17 c_18 e_50) (o62_56 b_14 b_15 hn_13 e_17 c_18 e_50) (o62_57 b_14 b_15 hn_13 e_17 c_18 e_50) ((by rw [hs_55]; exact (lp_s (by omega) (by omega) (by omega) (by omega)).trans hSp)) h (Fr.tr (Fr.tr (Fr.tr hF_9 (Fr.mono u_38 (by decide))) u_42) (Fr.mono u_47 (by decide))) (lv_sub hl [0, 2, 3] rfl)
        · -- 20
          refine lv_aload_n C0.1 C0.2.1 dX5_sum_23 rfl (lv_at hl 1 rfl) ?_
          refine tg_X5_kind C0 h kSC_77 q_374 dX5_sum_24 (fun v_56 e_57 e_58 e_59 => ?_)
          have q_60 : v_56.toInt = v_20.toInt := congrArg Int32.toInt (e_57.symm.trans (Eq.trans rfl e_21))
          refine y_c2 (n := 45) C0 (by decide) dX5_sum_27 (fun v_61 e_62 => ?_)
          refine y_icmp_ne (tgt := 74) C0 dX5_sum_29 (by decide) (fun c_63 => ?_) (fun c_63 => ?_)
          · -- 29
            have hv_64 : (aF 77 ws_8) 4 = v_20.toInt := (aF_at (by decide) e_21)
            have hv_65 : (aF 77 ws_8) 4 = v_56.toInt := (aF_at (by decide) e_57)
            have hz_66 : (aF 77 ws_8) = lpS (fun s => s 4 = 43 ∨ s 4 = 45) (fun s => termL T (atomD T 3) (advS T s)) (900 - x2_7.toInt).toNat (aF 77 ws_8) := by first | (exfalso; omega) | exact (lp_0 (by omega)).symm | exact (lp_e (by omega)).symm
            rw [hQ]
            exact y_vret C0 h (Fr.tr u_2 hF_9) (Eq.trans rfl (Eq.trans hz_66 hSp)) dX5_sum_74
          · -- 29
            refine lv_aload_n C0.1 C0.2.1 dX5_sum_32 rfl (lv_at hl 1 rfl) ?_
            refine tg_X5_kind C0 h kSC_77 q_374 dX5_sum_33 (fun v_67 e_68 e_69 e_70 => ?_)
            have q_71 : v_67.toInt = v_20.toInt := congrArg Int32.toInt (e_68.symm.trans (Eq.trans rfl e_21))
            refine y_c2 (n := 43) C0 (by decide) dX5_sum_36 (fun v_72 e_73 => ?_)
            refine y_icmp_ne (tgt := 47) C0 dX5_sum_38 (by decide) (fun c_74 => ?_) (fun c_74 => ((o62_62 e_25 c_26 q_60 e_62 c_63 q_71 e_73 c_74)).elim)
            refine y_c3 (n := 2001) C0 (by decide) dX5_sum_47 (fun v_75 e_76 => ?_)
            refine lv_istore_n (lv' := [(3, .int v_75), (2, .int x2_7), (0, .ref (ad 77)), (1, .int a1)]) C0.1 C0.2.1 dX5_sum_50 rfl hl (by decide) rfl (fun ls hl => ?_)
            refine lv_aload_n C0.1 C0.2.1 dX5_sum_51 rfl (lv_at hl 2 rfl) ?_
            refine y_cv h (y_rV (As := []) (rest := []) C0 hZ h (c_X5_advanceS l G Z ad _ h.2 ((Tp.fr (M := [2, 3, 16]) hTp (Fr.tr u_2 hF_9) kSC_78 (by decide)))) k_X5_advance q_616 q_0 q_614 kSC_77 rfl rfl rfl hl.1 rfl rfl (Nat.le_of_ble_eq_true rfl) dX5_sum_52 ⟨Nat.le_of_ble_eq_true rfl, Nat.le_of_ble_eq_true rfl⟩ ⟨Nat.le_of_ble_eq_true rfl, Nat.le_of_ble_eq_true rfl⟩) (fun H locs ws_77 h u_78 p_79 => ?_)
            have e_80 := p_79
            refine lv_aload_n C0.1 C0.2.1 dX5_sum_55 rfl (lv_at hl 2 rfl) ?_
            refine lv_iload_n C0.1 C0.2.1 dX5_sum_56 rfl (lv_at hl 3 rfl) ?_
            refine y_cv h (y_rV (As := [.int a1]) (rest := []) C0 hZ h (c_X5_term_3S l G Z ad _ h.2 a1 (o62_90 l1 u1) (o62_91 l1 u1) ((Tp.fr (M := [2, 3, 16]) hTp (Fr.tr (Fr.tr u_2 hF_9) (Fr.mono u_78 (by decide))) kSC_78 (by decide)))) k_X5_term q_820 q_16 q_818 kSC_77 rfl rfl rfl hl.1 rfl rfl (Nat.le_of_ble_eq_true rfl) dX5_sum_57 ⟨Nat.le_of_ble_eq_true rfl, Nat.le_of_ble_eq_true rfl⟩ ⟨Nat.le_of_ble_eq_true rfl, Nat.le_of_ble_eq_true rfl⟩) (fun H locs ws_81 h u_82 p_83 => ?_)
            have e_84 := p_83
            refine lv_aload_n C0.1 C0.2.1 dX5_sum_60 rfl (lv_at hl 2 rfl) ?_
            refine tg_X5_law C0 h kSC_77 q_380 dX5_sum_61 (fun i_85 hi_85 => ?_)
            refine lv_iload_n C0.1 C0.2.1 dX5_sum_64 rfl (lv_at hl 0 rfl) ?_
            refine y_cv h (y_rV (As := [.int v_75]) (rest := []) C0 hZ h (c_X4_add l G Z ad _ h.2 i_85 hi_85 v_75) k_X4_add q_827 q_828 q_826 hi_85 rfl rfl rfl hl.1 rfl rfl (Nat.le_of_ble_eq_true rfl) dX5_sum_65 ⟨Nat.le_of_ble_eq_true rfl, Nat.le_of_ble_eq_true rfl⟩ ⟨Nat.le_of_ble_eq_true rfl, Nat.le_of_ble_eq_true rfl⟩) (fun H locs ws_86 h u_87 p_88 => ?_)
            refine y_inc (kp := 1) (n := 1) (fun v_89 => [(2, .int v_89), (3, .int v_75), (0, .ref (ad 77)), (1, .int a1)]) C0 hl rfl (by decide) (by decide) (fun _ => rfl) (o62_53 b_14 b_15 hn_13 e_17 c_18 (le_min x2_7) (le_max x2_7) (le_min v_16) (le_max v_16)) (o62_54 b_14 b_15 hn_13 e_17 c_18 (le_min x2_7) (le_max x2_7) (le_min v_16) (le_max v_16)) dX5_sum_68 (fun v_89 ls e_90 hl => ?_)
            refine lv_goto (tgt := 7) C0.1 C0.2.1 dX5_sum_71 (by decide) ?_
            have hv_91 : (aF 77 ws_8) 4 = v_20.toInt := (aF_at (by decide) e_21)
            have hv_92 : (aF 77 ws_8) 4 = v_56.toInt := (aF_at (by decide) e_57)
            have hv_93 : (aF 77 ws_8) 4 = v_67.toInt := (aF_at (by decide) e_68)
            have hs_94 : aF 77 ws_77 = (advS T (aF 77 ws_8)) := e_80
            have hs_95 : aF 77 ws_81 = (termL T (atomD T 3) (advS T (aF 77 ws_8))) := e_84.trans (congrArg (fun s => termL T (atomD T 3) s) hs_94)
            have hs_96 : aF 77 ws_86 = (termL T (atomD T 3) (advS T (aF 77 ws_8))) := (aF_fr u_87 kSC_77 (by decide)).trans hs_95
            exact ih_11 v_89 _ _ _ _ (o62_55 b_14 b_15 hn_13 e_17 c_18 e_90) (o62_56 b_14 b_15 hn_13 e_17 c_18 e_90) (o62_57 b_14 b_15 hn_13 e_17 c_18 e_90) ((by rw [hs_96]; exact (lp_s (by omega) (by omega) (by omega) (by omega)).trans hSp)) h (Fr.tr (Fr.tr (Fr.tr hF_9 (Fr.mono u_78 (by decide))) u_82) (Fr.mono u_87 (by decide))) (lv_sub hl [0, 2, 3] rfl)
  have hs_97 : aF 77 ws_1 = (termL T (atomD T 3) (aF 77 ws0)) := e_4
  exact lp_10 ((900 - v_5.toInt + 1).toNat) v_5 _ _ _ _ (o62_58 e_6) (o62_59 e_6) (o62_60 e_6) ((by rw [show (900 - v_5.toInt).toNat = 900 by omega, hs_97]; rfl)) h Fr.rf (lv_sub hl [0, 1, 2] rfl)
set_option maxHeartbeats 4000000 in
set_option maxRecDepth 100000 in
theorem c_X5_unit_3S {T : Nat → Int} (l : Launch) (G : GG) (Z : RZ) (ad : Nat → Nat) (ws0 : va_W) (hT : Ty G (SC tt) ad ws0) (a1 : Int32) (l1 : 3 ≤ a1.toInt) (u1 : a1.toInt ≤ 3) (hTp : Tp T ws0) : Mq l yX5_unit cX5_unit 3 none 18 G Z [.ref (ad 77), .int a1] ws0 (PV G (SC tt) ad [2, 3, 16] ws0 (fun u => (aF 77 u = unitD T 3 (aF 77 ws0)))) := by
  refine Mq.start (by decide) (Nat.le_of_ble_eq_true rfl) ?_
  intro p e s m below meth c A ls C0 hZ h hl
  have hl : lv_has ls 3 [(0, .ref (ad 77)), (1, .int a1)] := hl
  have h : Wt G (SC tt) ad A s s.heap [] ws0 := ⟨h, hT⟩
  obtain ⟨args, hargs⟩ : ∃ z, z = ([.ref (ad 77), .int a1] : List Value).toArray := ⟨_, rfl⟩
  rw [← hargs] at C0 ⊢
  have C0 : Cx p s m args meth c RX5 cX5_unit 3 none := C0
  obtain ⟨Q, hQ⟩ : ∃ z, z = MQ below ((PV G (SC tt) ad [2, 3, 16] ws0 (fun u => (aF 77 u = unitD T 3 (aF 77 ws0)))) A) args s 0 0 A := ⟨_, rfl⟩
  rw [← hQ]
  refine lv_aload_n C0.1 C0.2.1 dX5_unit_0 rfl (lv_at hl 0 rfl) ?_
  refine va_ldcS C0.1 C0.2.1 C0.2.2.2.1 (sr_19 hZ) dX5_unit_1 ?_
  refine y_ci h (y_rV (As := [.ref (Z.2.1 19)]) (rest := []) C0 hZ h (c_X5_isWordS l G Z ad _ h.2 19 (by decide) hTp) k_X5_isWord q_724 q_5 q_722 kSC_77 rfl rfl rfl hl.1 rfl rfl (Nat.le_of_ble_eq_true rfl) dX5_unit_3 ⟨Nat.le_of_ble_eq_true rfl, Nat.le_of_ble_eq_true rfl⟩ ⟨Nat.le_of_ble_eq_true rfl, Nat.le_of_ble_eq_true rfl⟩) (fun r_4 H locs ws_1 h u_2 p_3 => ?_)
  obtain ⟨e_5, e_6, e_7⟩ := p_3
  refine y_if_eq (tgt := 49) C0 dX5_unit_6 (by decide) (fun c_8 => ?_) (fun c_8 => ?_)
  · -- 6
    refine lv_aload_n C0.1 C0.2.1 dX5_unit_49 rfl (lv_at hl 0 rfl) ?_
    refine tg_X5_kind C0 h kSC_77 q_374 dX5_unit_50 (fun v_9 e_10 e_11 e_12 => ?_)
    refine y_c2 (n := 91) C0 (by decide) dX5_unit_53 (fun v_13 e_14 => ?_)
    refine y_icmp_ne (tgt := 86) C0 dX5_unit_55 (by decide) (fun c_15 => ?_) (fun c_15 => ?_)
    · -- 55
      refine lv_aload_n C0.1 C0.2.1 dX5_unit_86 rfl (lv_at hl 0 rfl) ?_
      refine lv_iload_n C0.1 C0.2.1 dX5_unit_87 rfl (lv_at hl 1 rfl) ?_
      refine y_cv h (y_rV (As := [.int a1]) (rest := []) C0 hZ h (c_X5_sum_3S l G Z ad _ h.2 a1 (o62_90 l1 u1) (o62_91 l1 u1) ((Tp.fr (M := []) hTp u_2 kSC_78 (by decide)))) k_X5_sum q_816 q_15 q_814 kSC_77 rfl rfl rfl hl.1 rfl rfl (Nat.le_of_ble_eq_true rfl) dX5_unit_88 ⟨Nat.le_of_ble_eq_true rfl, Nat.le_of_ble_eq_true rfl⟩ ⟨Nat.le_of_ble_eq_true rfl, Nat.le_of_ble_eq_true rfl⟩) (fun H locs ws_16 h u_17 p_18 => ?_)
      have e_19 := p_18
      refine lv_aload_n C0.1 C0.2.1 dX5_unit_91 rfl (lv_at hl 0 rfl) ?_
      refine tg_X5_kind C0 h kSC_77 q_374 dX5_unit_92 (fun v_20 e_21 e_22 e_23 => ?_)
      refine y_c2 (n := 61) C0 (by decide) dX5_unit_95 (fun v_24 e_25 => ?_)
      refine y_icmp_ne (tgt := 106) C0 dX5_unit_97 (by decide) (fun c_26 => ?_) (fun c_26 => ?_)
      · -- 97
        refine lv_aload_n C0.1 C0.2.1 dX5_unit_106 rfl (lv_at hl 0 rfl) ?_
        refine tg_X5_kind C0 h kSC_77 q_374 dX5_unit_107 (fun v_27 e_28 e_29 e_30 => ?_)
        have q_31 : v_27.toInt = v_20.toInt := congrArg Int32.toInt (e_28.symm.trans (Eq.trans rfl e_21))
        refine y_c2 (n := 60) C0 (by decide) dX5_unit_110 (fun v_32 e_33 => ?_)
        refine y_icmp_ne (tgt := 121) C0 dX5_unit_112 (by decide) (fun c_34 => ?_) (fun c_34 => ?_)
        · -- 112
          refine lv_aload_n C0.1 C0.2.1 dX5_unit_121 rfl (lv_at hl 0 rfl) ?_
          refine tg_X5_kind C0 h kSC_77 q_374 dX5_unit_122 (fun v_35 e_36 e_37 e_38 => ?_)
          have q_39 : v_35.toInt = v_20.toInt := congrArg Int32.toInt (e_36.symm.trans (Eq.trans rfl e_21))
          refine y_c2 (n := 62) C0 (by decide) dX5_unit_125 (fun v_40 e_41 => ?_)
          refine y_icmp_ne (tgt := 136) C0 dX5_unit_127 (by decide) (fun c_42 => ?_) (fun c_42 => ?_)
          · -- 127
            refine y_c1 (n := (-1)) C0 (by decide) dX5_unit_136 (fun v_43 e_44 => ?_)
            refine lv_istore_n (lv' := [(2, .int v_43), (0, .ref (ad 77)), (1, .int a1)]) C0.1 C0.2.1 dX5_unit_137 rfl hl (by decide) rfl (fun ls hl => ?_)
            refine lv_iload_n C0.1 C0.2.1 dX5_unit_138 rfl (lv_at hl 0 rfl) ?_
            refine y_if_ge (tgt := 148) C0 dX5_unit_139 (by decide) (fun c_45 => ((o62_42 e_44 c_45)).elim) (fun c_45 => ?_)
            refine lv_aload_n C0.1 C0.2.1 dX5_unit_142 rfl (lv_at hl 1 rfl) ?_
            refine y_c1 (n := 2) C0 (by decide) dX5_unit_143 (fun v_46 e_47 => ?_)
            refine y_cv h (y_rV (As := [.int v_46]) (rest := []) C0 hZ h (c_X5_failS l G Z ad _ h.2 v_46) k_X5_fail q_628 q_3 q_626 kSC_77 rfl rfl rfl hl.1 rfl rfl (Nat.le_of_ble_eq_true rfl) dX5_unit_144 ⟨Nat.le_of_ble_eq_true rfl, Nat.le_of_ble_eq_true rfl⟩ ⟨Nat.le_of_ble_eq_true rfl, Nat.le_of_ble_eq_true rfl⟩) (fun H locs ws_48 h u_49 p_50 => ?_)
            have e_51 := p_50
            have hq_52 := e_7
            have hs_53 : aF 77 ws_1 = (aF 77 ws0) := (aF_fr u_2 kSC_77 (by decide))
            have hv_54 : (aF 77 ws0) 4 = v_9.toInt := (congrFun hs_53 4).symm.trans (aF_at (by decide) e_10)
            have hs_55 : aF 77 ws_16 = (sumL T (atomD T 3) (aF 77 ws0)) := e_19.trans (congrArg (fun s => sumL T (atomD T 3) s) hs_53)
            have hv_56 : (sumL T (atomD T 3) (aF 77 ws0)) 4 = v_20.toInt := (congrFun hs_55 4).symm.trans (aF_at (by decide) e_21)
            have hv_57 : (sumL T (atomD T 3) (aF 77 ws0)) 4 = v_27.toInt := (congrFun hs_55 4).symm.trans (aF_at (by decide) e_28)
            have hv_58 : (sumL T (atomD T 3) (aF 77 ws0)) 4 = v_35.toInt := (congrFun hs_55 4).symm.trans (aF_at (by decide) e_36)
            have hs_59 : aF 77 ws_48 = (failS 2 (sumL T (atomD T 3) (aF 77 ws0))) := e_51.trans ((congrArg (fun s => failS v_46.toInt s) hs_55).trans (by rw [(o62_1 e_47)]))
            have hz_60 : (failS 2 (sumL T (atomD T 3) (aF 77 ws0))) = unitD T 3 (aF 77 ws0) := by rw [unitD_3]; unfold unitF; (repeat' split) <;> first | rfl | (exfalso; omega)
            rw [hQ]
            exact y_vret C0 h (Fr.tr (Fr.tr (Fr.mono u_2 (by decide)) u_17) (Fr.mono u_49 (by decide))) (Eq.trans hs_59 hz_60) dX5_unit_147
          · -- 127
            refine y_c3 (n := 2005) C0 (by decide) dX5_unit_130 (fun v_61 e_62 => ?_)
            refine lv_goto (tgt := 137) C0.1 C0.2.1 dX5_unit_133 (by decide) ?_
            refine lv_istore_n (lv' := [(2, .int v_61), (0, .ref (ad 77)), (1, .int a1)]) C0.1 C0.2.1 dX5_unit_137 rfl hl (by decide) rfl (fun ls hl => ?_)
            refine lv_iload_n C0.1 C0.2.1 dX5_unit_138 rfl (lv_at hl 0 rfl) ?_
            refine y_if_ge (tgt := 148) C0 dX5_unit_139 (by decide) (fun c_63 => ?_) (fun c_63 => ((o62_63 e_62 c_63)).elim)
            refine lv_aload_n C0.1 C0.2.1 dX5_unit_148 rfl (lv_at hl 1 rfl) ?_
            refine y_cv h (y_rV (As := []) (rest := []) C0 hZ h (c_X5_advanceS l G Z ad _ h.2 ((Tp.fr (M := [2, 3, 16]) hTp (Fr.tr (Fr.mono u_2 (by decide)) u_17) kSC_78 (by decide)))) k_X5_advance q_616 q_0 q_614 kSC_77 rfl rfl rfl hl.1 rfl rfl (Nat.le_of_ble_eq_true rfl) dX5_unit_149 ⟨Nat.le_of_ble_eq_true rfl, Nat.le_of_ble_eq_true rfl⟩ ⟨Nat.le_of_ble_eq_true rfl, Nat.le_of_ble_eq_true rfl⟩) (fun H locs ws_64 h u_65 p_66 => ?_)
            have e_67 := p_66
            refine lv_aload_n C0.1 C0.2.1 dX5_unit_152 rfl (lv_at hl 1 rfl) ?_
            refine lv_iload_n C0.1 C0.2.1 dX5_unit_153 rfl (lv_at hl 2 rfl) ?_
            refine y_cv h (y_rV (As := [.int a1]) (rest := []) C0 hZ h (c_X5_sum_3S l G Z ad _ h.2 a1 (o62_90 l1 u1) (o62_91 l1 u1) ((Tp.fr (M := [2, 3, 16]) hTp (Fr.tr (Fr.tr (Fr.mono u_2 (by decide)) u_17) (Fr.mono u_65 (by decide))) kSC_78 (by decide)))) k_X5_sum q_816 q_15 q_814 kSC_77 rfl rfl rfl hl.1 rfl rfl (Nat.le_of_ble_eq_true rfl) dX5_unit_154 ⟨Nat.le_of_ble_eq_true rfl, Nat.le_of_ble_eq_true rfl⟩ ⟨Nat.le_of_ble_eq_true rfl, Nat.le_of_ble_eq_true rfl⟩) (fun H locs ws_68 h u_69 p_70 => ?_)
            have e_71 := p_70
            refine lv_aload_n C0.1 C0.2.1 dX5_unit_157 rfl (lv_at hl 1 rfl) ?_
            refine tg_X5_law C0 h kSC_77 q_380 dX5_unit_158 (fun i_72 hi_72 => ?_)
            refine lv_iload_n C0.1 C0.2.1 dX5_unit_161 rfl (lv_at hl 0 rfl) ?_
            refine y_cv h (y_rV (As := [.int v_61]) (rest := []) C0 hZ h (c_X4_add l G Z ad _ h.2 i_72 hi_72 v_61) k_X4_add q_827 q_828 q_826 hi_72 rfl rfl rfl hl.1 rfl rfl (Nat.le_of_ble_eq_true rfl) dX5_unit_162 ⟨Nat.le_of_ble_eq_true rfl, Nat.le_of_ble_eq_true rfl⟩ ⟨Nat.le_of_ble_eq_true rfl, Nat.le_of_ble_eq_true rfl⟩) (fun H locs ws_73 h u_74 p_75 => ?_)
            have hq_76 := e_7
            have hs_77 : aF 77 ws_1 = (aF 77 ws0) := (aF_fr u_2 kSC_77 (by decide))
            have hv_78 : (aF 77 ws0) 4 = v_9.toInt := (congrFun hs_77 4).symm.trans (aF_at (by decide) e_10)
            have hs_79 : aF 77 ws_16 = (sumL T (atomD T 3) (aF 77 ws0)) := e_19.trans (congrArg (fun s => sumL T (atomD T 3) s) hs_77)
            have hv_80 : (sumL T (atomD T 3) (aF 77 ws0)) 4 = v_20.toInt := (congrFun hs_79 4).symm.trans (aF_at (by decide) e_21)
            have hv_81 : (sumL T (atomD T 3) (aF 77 ws0)) 4 = v_27.toInt := (congrFun hs_79 4).symm.trans (aF_at (by decide) e_28)
            have hv_82 : (sumL T (atomD T 3) (aF 77 ws0)) 4 = v_35.toInt := (congrFun hs_79 4).symm.trans (aF_at (by decide) e_36)
            have hs_83 : aF 77 ws_64 = (advS T (sumL T (atomD T 3) (aF 77 ws0))) := e_67.trans (congrArg (fun s => advS T s) hs_79)
            have hs_84 : aF 77 ws_68 = (sumL T (atomD T 3) (advS T (sumL T (atomD T 3) (aF 77 ws0)))) := e_71.trans (congrArg (fun s => sumL T (atomD T 3) s) hs_83)
            have hs_85 : aF 77 ws_73 = (sumL T (atomD T 3) (advS T (sumL T (atomD T 3) (aF 77 ws0)))) := (aF_fr u_74 kSC_77 (by decide)).trans hs_84
            have hz_86 : (sumL T (atomD T 3) (advS T (sumL T (atomD T 3) (aF 77 ws0)))) = unitD T 3 (aF 77 ws0) := by rw [unitD_3]; unfold unitF; (repeat' split) <;> first | rfl | (exfalso; omega)
            rw [hQ]
            exact y_vret C0 h (Fr.tr (Fr.tr (Fr.tr (Fr.tr (Fr.mono u_2 (by decide)) u_17) (Fr.mono u_65 (by decide))) u_69) (Fr.mono u_74 (by decide))) (Eq.trans hs_85 hz_86) dX5_unit_165
        · -- 112
          refine y_c3 (n := 2004) C0 (by decide) dX5_unit_115 (fun v_87 e_88 => ?_)
          refine lv_goto (tgt := 137) C0.1 C0.2.1 dX5_unit_118 (by decide) ?_
          refine lv_istore_n (lv' := [(2, .int v_87), (0, .ref (ad 77)), (1, .int a1)]) C0.1 C0.2.1 dX5_unit_137 rfl hl (by decide) rfl (fun ls hl => ?_)
          refine lv_iload_n C0.1 C0.2.1 dX5_unit_138 rfl (lv_at hl 0 rfl) ?_
          refine y_if_ge (tgt := 148) C0 dX5_unit_139 (by decide) (fun c_89 => ?_) (fun c_89 => ((o62_64 e_88 c_89)).elim)
          refine lv_aload_n C0.1 C0.2.1 dX5_unit_148 rfl (lv_at hl 1 rfl) ?_
          refine y_cv h (y_rV (As := []) (rest := []) C0 hZ h (c_X5_advanceS l G Z ad _ h.2 ((Tp.fr (M := [2, 3, 16]) hTp (Fr.tr (Fr.mono u_2 (by decide)) u_17) kSC_78 (by decide)))) k_X5_advance q_616 q_0 q_614 kSC_77 rfl rfl rfl hl.1 rfl rfl (Nat.le_of_ble_eq_true rfl) dX5_unit_149 ⟨Nat.le_of_ble_eq_true rfl, Nat.le_of_ble_eq_true rfl⟩ ⟨Nat.le_of_ble_eq_true rfl, Nat.le_of_ble_eq_true rfl⟩) (fun H locs ws_90 h u_91 p_92 => ?_)
          have e_93 := p_92
          refine lv_aload_n C0.1 C0.2.1 dX5_unit_152 rfl (lv_at hl 1 rfl) ?_
          refine lv_iload_n C0.1 C0.2.1 dX5_unit_153 rfl (lv_at hl 2 rfl) ?_
          refine y_cv h (y_rV (As := [.int a1]) (rest := []) C0 hZ h (c_X5_sum_3S l G Z ad _ h.2 a1 (o62_90 l1 u1) (o62_91 l1 u1) ((Tp.fr (M := [2, 3, 16]) hTp (Fr.tr (Fr.tr (Fr.mono u_2 (by decide)) u_17) (Fr.mono u_91 (by decide))) kSC_78 (by decide)))) k_X5_sum q_816 q_15 q_814 kSC_77 rfl rfl rfl hl.1 rfl rfl (Nat.le_of_ble_eq_true rfl) dX5_unit_154 ⟨Nat.le_of_ble_eq_true rfl, Nat.le_of_ble_eq_true rfl⟩ ⟨Nat.le_of_ble_eq_true rfl, Nat.le_of_ble_eq_true rfl⟩) (fun H locs ws_94 h u_95 p_96 => ?_)
          have e_97 := p_96
          refine lv_aload_n C0.1 C0.2.1 dX5_unit_157 rfl (lv_at hl 1 rfl) ?_
          refine tg_X5_law C0 h kSC_77 q_380 dX5_unit_158 (fun i_98 hi_98 => ?_)
          refine lv_iload_n C0.1 C0.2.1 dX5_unit_161 rfl (lv_at hl 0 rfl) ?_
          refine y_cv h (y_rV (As := [.int v_87]) (rest := []) C0 hZ h (c_X4_add l G Z ad _ h.2 i_98 hi_98 v_87) k_X4_add q_827 q_828 q_826 hi_98 rfl rfl rfl hl.1 rfl rfl (Nat.le_of_ble_eq_true rfl) dX5_unit_162 ⟨Nat.le_of_ble_eq_true rfl, Nat.le_of_ble_eq_true rfl⟩ ⟨Nat.le_of_ble_eq_true rfl, Nat.le_of_ble_eq_true rfl⟩) (fun H locs ws_99 h u_100 p_101 => ?_)
          have hq_102 := e_7
          have hs_103 : aF 77 ws_1 = (aF 77 ws0) := (aF_fr u_2 kSC_77 (by decide))
          have hv_104 : (aF 77 ws0) 4 = v_9.toInt := (congrFun hs_103 4).symm.trans (aF_at (by decide) e_10)
          have hs_105 : aF 77 ws_16 = (sumL T (atomD T 3) (aF 77 ws0)) := e_19.trans (congrArg (fun s => sumL T (atomD T 3) s) hs_103)
          have hv_106 : (sumL T (atomD T 3) (aF 77 ws0)) 4 = v_20.toInt := (congrFun hs_105 4).symm.trans (aF_at (by decide) e_21)
          have hv_107 : (sumL T (atomD T 3) (aF 77 ws0)) 4 = v_27.toInt := (congrFun hs_105 4).symm.trans (aF_at (by decide) e_28)
          have hs_108 : aF 77 ws_90 = (advS T (sumL T (atomD T 3) (aF 77 ws0))) := e_93.trans (congrArg (fun s => advS T s) hs_105)
          have hs_109 : aF 77 ws_94 = (sumL T (atomD T 3) (advS T (sumL T (atomD T 3) (aF 77 ws0)))) := e_97.trans (congrArg (fun s => sumL T (atomD T 3) s) hs_108)
          have hs_110 : aF 77 ws_99 = (sumL T (atomD T 3) (advS T (sumL T (atomD T 3) (aF 77 ws0)))) := (aF_fr u_100 kSC_77 (by decide)).trans hs_109
          have hz_111 : (sumL T (atomD T 3) (advS T (sumL T (atomD T 3) (aF 77 ws0)))) = unitD T 3 (aF 77 ws0) := by rw [unitD_3]; unfold unitF; (repeat' split) <;> first | rfl | (exfalso; omega)
          rw [hQ]
          exact y_vret C0 h (Fr.tr (Fr.tr (Fr.tr (Fr.tr (Fr.mono u_2 (by decide)) u_17) (Fr.mono u_91 (by decide))) u_95) (Fr.mono u_100 (by decide))) (Eq.trans hs_110 hz_111) dX5_unit_165
      · -- 97
        refine y_c3 (n := 2003) C0 (by decide) dX5_unit_100 (fun v_112 e_113 => ?_)
        refine lv_goto (tgt := 137) C0.1 C0.2.1 dX5_unit_103 (by decide) ?_
        refine lv_istore_n (lv' := [(2, .int v_112), (0, .ref (ad 77)), (1, .int a1)]) C0.1 C0.2.1 dX5_unit_137 rfl hl (by decide) rfl (fun ls hl => ?_)
        refine lv_iload_n C0.1 C0.2.1 dX5_unit_138 rfl (lv_at hl 0 rfl) ?_
        refine y_if_ge (tgt := 148) C0 dX5_unit_139 (by decide) (fun c_114 => ?_) (fun c_114 => ((o62_65 e_113 c_114)).elim)
        refine lv_aload_n C0.1 C0.2.1 dX5_unit_148 rfl (lv_at hl 1 rfl) ?_
        refine y_cv h (y_rV (As := []) (rest := []) C0 hZ h (c_X5_advanceS l G Z ad _ h.2 ((Tp.fr (M := [2, 3, 16]) hTp (Fr.tr (Fr.mono u_2 (by decide)) u_17) kSC_78 (by decide)))) k_X5_advance q_616 q_0 q_614 kSC_77 rfl rfl rfl hl.1 rfl rfl (Nat.le_of_ble_eq_true rfl) dX5_unit_149 ⟨Nat.le_of_ble_eq_true rfl, Nat.le_of_ble_eq_true rfl⟩ ⟨Nat.le_of_ble_eq_true rfl, Nat.le_of_ble_eq_true rfl⟩) (fun H locs ws_115 h u_116 p_117 => ?_)
        have e_118 := p_117
        refine lv_aload_n C0.1 C0.2.1 dX5_unit_152 rfl (lv_at hl 1 rfl) ?_
        refine lv_iload_n C0.1 C0.2.1 dX5_unit_153 rfl (lv_at hl 2 rfl) ?_
        refine y_cv h (y_rV (As := [.int a1]) (rest := []) C0 hZ h (c_X5_sum_3S l G Z ad _ h.2 a1 (o62_90 l1 u1) (o62_91 l1 u1) ((Tp.fr (M := [2, 3, 16]) hTp (Fr.tr (Fr.tr (Fr.mono u_2 (by decide)) u_17) (Fr.mono u_116 (by decide))) kSC_78 (by decide)))) k_X5_sum q_816 q_15 q_814 kSC_77 rfl rfl rfl hl.1 rfl rfl (Nat.le_of_ble_eq_true rfl) dX5_unit_154 ⟨Nat.le_of_ble_eq_true rfl, Nat.le_of_ble_eq_true rfl⟩ ⟨Nat.le_of_ble_eq_true rfl, Nat.le_of_ble_eq_true rfl⟩) (fun H locs ws_119 h u_120 p_121 => ?_)
        have e_122 := p_121
        refine lv_aload_n C0.1 C0.2.1 dX5_unit_157 rfl (lv_at hl 1 rfl) ?_
        refine tg_X5_law C0 h kSC_77 q_380 dX5_unit_158 (fun i_123 hi_123 => ?_)
        refine lv_iload_n C0.1 C0.2.1 dX5_unit_161 rfl (lv_at hl 0 rfl) ?_
        refine y_cv h (y_rV (As := [.int v_112]) (rest := []) C0 hZ h (c_X4_add l G Z ad _ h.2 i_123 hi_123 v_112) k_X4_add q_827 q_828 q_826 hi_123 rfl rfl rfl hl.1 rfl rfl (Nat.le_of_ble_eq_true rfl) dX5_unit_162 ⟨Nat.le_of_ble_eq_true rfl, Nat.le_of_ble_eq_true rfl⟩ ⟨Nat.le_of_ble_eq_true rfl, Nat.le_of_ble_eq_true rfl⟩) (fun H locs ws_124 h u_125 p_126 => ?_)
        have hq_127 := e_7
        have hs_128 : aF 77 ws_1 = (aF 77 ws0) := (aF_fr u_2 kSC_77 (by decide))
        have hv_129 : (aF 77 ws0) 4 = v_9.toInt := (congrFun hs_128 4).symm.trans (aF_at (by decide) e_10)
        have hs_130 : aF 77 ws_16 = (sumL T (atomD T 3) (aF 77 ws0)) := e_19.trans (congrArg (fun s => sumL T (atomD T 3) s) hs_128)
        have hv_131 : (sumL T (atomD T 3) (aF 77 ws0)) 4 = v_20.toInt := (congrFun hs_130 4).symm.trans (aF_at (by decide) e_21)
        have hs_132 : aF 77 ws_115 = (advS T (sumL T (atomD T 3) (aF 77 ws0))) := e_118.trans (congrArg (fun s => advS T s) hs_130)
        have hs_133 : aF 77 ws_119 = (sumL T (atomD T 3) (advS T (sumL T (atomD T 3) (aF 77 ws0)))) := e_122.trans (congrArg (fun s => sumL T (atomD T 3) s) hs_132)
        have hs_134 : aF 77 ws_124 = (sumL T (atomD T 3) (advS T (sumL T (atomD T 3) (aF 77 ws0)))) := (aF_fr u_125 kSC_77 (by decide)).trans hs_133
        have hz_135 : (sumL T (atomD T 3) (advS T (sumL T (atomD T 3) (aF 77 ws0)))) = unitD T 3 (aF 77 ws0) := by rw [unitD_3]; unfold unitF; (repeat' split) <;> first | rfl | (exfalso; omega)
        rw [hQ]
        exact y_vret C0 h (Fr.tr (Fr.tr (Fr.tr (Fr.tr (Fr.mono u_2 (by decide)) u_17) (Fr.mono u_116 (by decide))) u_120) (Fr.mono u_125 (by decide))) (Eq.trans hs_134 hz_135) dX5_unit_165
    · -- 55
      refine lv_aload_n C0.1 C0.2.1 dX5_unit_58 rfl (lv_at hl 0 rfl) ?_
      refine lv_iload_n C0.1 C0.2.1 dX5_unit_59 rfl (lv_at hl 1 rfl) ?_
      refine y_ci h (y_rV (As := [.int a1]) (rest := []) C0 hZ h (c_X5_tooDeep_3S l G Z ad _ h.2 a1 (o62_90 l1 u1) (o62_91 l1 u1)) k_X5_tooDeep q_832 q_18 q_830 kSC_77 rfl rfl rfl hl.1 rfl rfl (Nat.le_of_ble_eq_true rfl) dX5_unit_60 ⟨Nat.le_of_ble_eq_true rfl, Nat.le_of_ble_eq_true rfl⟩ ⟨Nat.le_of_ble_eq_true rfl, Nat.le_of_ble_eq_true rfl⟩) (fun r_139 H locs ws_136 h u_137 p_138 => ?_)
      obtain ⟨e_140, e_141, e_142⟩ := p_138
      refine y_if_ne (tgt := 165) C0 dX5_unit_63 (by decide) (fun c_143 => ((o62_71 e_140 e_141 c_143)).elim) (fun c_143 => ?_)
      refine lv_aload_n C0.1 C0.2.1 dX5_unit_66 rfl (lv_at hl 0 rfl) ?_
      refine y_cv h (y_rV (As := []) (rest := []) C0 hZ h (c_X5_advanceS l G Z ad _ h.2 ((Tp.fr (M := []) hTp (Fr.tr u_2 u_137) kSC_78 (by decide)))) k_X5_advance q_616 q_0 q_614 kSC_77 rfl rfl rfl hl.1 rfl rfl (Nat.le_of_ble_eq_true rfl) dX5_unit_67 ⟨Nat.le_of_ble_eq_true rfl, Nat.le_of_ble_eq_true rfl⟩ ⟨Nat.le_of_ble_eq_true rfl, Nat.le_of_ble_eq_true rfl⟩) (fun H locs ws_144 h u_145 p_146 => ?_)
      have e_147 := p_146
      refine lv_aload_n C0.1 C0.2.1 dX5_unit_70 rfl (lv_at hl 0 rfl) ?_
      refine lv_iload_n C0.1 C0.2.1 dX5_unit_71 rfl (lv_at hl 1 rfl) ?_
      refine y_c1 (n := 1) C0 (by decide) dX5_unit_72 (fun v_148 e_149 => ?_)
      refine y_add C0 (o62_92 l1 u1 e_149 (le_min a1) (le_max a1) (le_min v_148) (le_max v_148)) (o62_93 l1 u1 e_149 (le_min a1) (le_max a1) (le_min v_148) (le_max v_148)) dX5_unit_73 (fun v_150 e_151 => ?_)
      refine y_cv h (y_rV (As := [.int v_150]) (rest := []) C0 hZ h (c_X5_truth_4S l G Z ad _ h.2 v_150 (o62_94 l1 u1 e_149 e_151) (o62_95 l1 u1 e_149 e_151) ((Tp.fr (M := [16]) hTp (Fr.tr (Fr.tr (Fr.mono u_2 (by decide)) (Fr.mono u_137 (by decide))) u_145) kSC_78 (by decide)))) k_X5_truth q_843 q_19 q_841 kSC_77 rfl rfl rfl hl.1 rfl rfl (Nat.le_of_ble_eq_true rfl) dX5_unit_74 ⟨Nat.le_of_ble_eq_true rfl, Nat.le_of_ble_eq_true rfl⟩ ⟨Nat.le_of_ble_eq_true rfl, Nat.le_of_ble_eq_true rfl⟩) (fun H locs ws_152 h u_153 p_154 => ?_)
      have e_155 := p_154
      refine lv_aload_n C0.1 C0.2.1 dX5_unit_77 rfl (lv_at hl 0 rfl) ?_
      refine y_c2 (n := 93) C0 (by decide) dX5_unit_78 (fun v_156 e_157 => ?_)
      refine y_cv h (y_rV (As := [.int v_156]) (rest := []) C0 hZ h (c_X5_signS l G Z ad _ h.2 v_156 (o62_79 e_157) (o62_80 e_157) ((Tp.fr (M := [2, 3, 16]) hTp (Fr.tr (Fr.tr (Fr.tr (Fr.mono u_2 (by decide)) (Fr.mono u_137 (by decide))) (Fr.mono u_145 (by decide))) u_153) kSC_78 (by decide)))) k_X5_sign q_812 q_14 q_810 kSC_77 rfl rfl rfl hl.1 rfl rfl (Nat.le_of_ble_eq_true rfl) dX5_unit_80 ⟨Nat.le_of_ble_eq_true rfl, Nat.le_of_ble_eq_true rfl⟩ ⟨Nat.le_of_ble_eq_true rfl, Nat.le_of_ble_eq_true rfl⟩) (fun H locs ws_158 h u_159 p_160 => ?_)
      have e_161 := p_160
      refine lv_goto (tgt := 165) C0.1 C0.2.1 dX5_unit_83 (by decide) ?_
      have hq_162 := e_7
      have hs_163 : aF 77 ws_1 = (aF 77 ws0) := (aF_fr u_2 kSC_77 (by decide))
      have hv_164 : (aF 77 ws0) 4 = v_9.toInt := (congrFun hs_163 4).symm.trans (aF_at (by decide) e_10)
      have hs_165 : aF 77 ws_136 = ((fun s => s) (aF 77 ws0)) := e_142.trans (congrArg (fun s => (fun s => s) s) hs_163)
      have hs_166 : aF 77 ws_144 = (advS T ((fun s => s) (aF 77 ws0))) := e_147.trans (congrArg (fun s => advS T s) hs_165)
      have hs_167 : aF 77 ws_152 = (truthL T (unitD T 2) (advS T ((fun s => s) (aF 77 ws0)))) := e_155.trans (congrArg (fun s => truthL T (unitD T 2) s) hs_166)
      have hs_168 : aF 77 ws_158 = (signS T 93 (truthL T (unitD T 2) (advS T ((fun s => s) (aF 77 ws0))))) := e_161.trans ((congrArg (fun s => signS T v_156.toInt s) hs_167).trans (by rw [(o62_81 e_157)]))
      have hz_169 : (signS T 93 (truthL T (unitD T 2) (advS T ((fun s => s) (aF 77 ws0))))) = unitD T 3 (aF 77 ws0) := by rw [unitD_3]; unfold unitF; (repeat' split) <;> first | rfl | (exfalso; omega)
      rw [hQ]
      exact y_vret C0 h (Fr.tr (Fr.tr (Fr.tr (Fr.tr (Fr.mono u_2 (by decide)) (Fr.mono u_137 (by decide))) (Fr.mono u_145 (by decide))) u_153) (Fr.mono u_159 (by decide))) (Eq.trans hs_168 hz_169) dX5_unit_165
  · -- 6
    refine lv_aload_n C0.1 C0.2.1 dX5_unit_9 rfl (lv_at hl 0 rfl) ?_
    refine lv_iload_n C0.1 C0.2.1 dX5_unit_10 rfl (lv_at hl 1 rfl) ?_
    refine y_ci h (y_rV (As := [.int a1]) (rest := []) C0 hZ h (c_X5_tooDeep_3S l G Z ad _ h.2 a1 (o62_90 l1 u1) (o62_91 l1 u1)) k_X5_tooDeep q_832 q_18 q_830 kSC_77 rfl rfl rfl hl.1 rfl rfl (Nat.le_of_ble_eq_true rfl) dX5_unit_11 ⟨Nat.le_of_ble_eq_true rfl, Nat.le_of_ble_eq_true rfl⟩ ⟨Nat.le_of_ble_eq_true rfl, Nat.le_of_ble_eq_true rfl⟩) (fun r_173 H locs ws_170 h u_171 p_172 => ?_)
    obtain ⟨e_174, e_175, e_176⟩ := p_172
    refine y_if_ne (tgt := 165) C0 dX5_unit_14 (by decide) (fun c_177 => ((o62_71 e_174 e_175 c_177)).elim) (fun c_177 => ?_)
    refine lv_aload_n C0.1 C0.2.1 dX5_unit_17 rfl (lv_at hl 0 rfl) ?_
    refine y_cv h (y_rV (As := []) (rest := []) C0 hZ h (c_X5_advanceS l G Z ad _ h.2 ((Tp.fr (M := []) hTp (Fr.tr u_2 u_171) kSC_78 (by decide)))) k_X5_advance q_616 q_0 q_614 kSC_77 rfl rfl rfl hl.1 rfl rfl (Nat.le_of_ble_eq_true rfl) dX5_unit_18 ⟨Nat.le_of_ble_eq_true rfl, Nat.le_of_ble_eq_true rfl⟩ ⟨Nat.le_of_ble_eq_true rfl, Nat.le_of_ble_eq_true rfl⟩) (fun H locs ws_178 h u_179 p_180 => ?_)
    have e_181 := p_180
    refine lv_aload_n C0.1 C0.2.1 dX5_unit_21 rfl (lv_at hl 0 rfl) ?_
    refine lv_iload_n C0.1 C0.2.1 dX5_unit_22 rfl (lv_at hl 1 rfl) ?_
    refine y_c1 (n := 1) C0 (by decide) dX5_unit_23 (fun v_182 e_183 => ?_)
    refine y_add C0 (o62_92 l1 u1 e_183 (le_min a1) (le_max a1) (le_min v_182) (le_max v_182)) (o62_93 l1 u1 e_183 (le_min a1) (le_max a1) (le_min v_182) (le_max v_182)) dX5_unit_24 (fun v_184 e_185 => ?_)
    refine y_cv h (y_rV (As := [.int v_184]) (rest := []) C0 hZ h (c_X5_unit_4S l G Z ad _ h.2 v_184 (o62_94 l1 u1 e_183 e_185) (o62_95 l1 u1 e_183 e_185) ((Tp.fr (M := [16]) hTp (Fr.tr (Fr.tr (Fr.mono u_2 (by decide)) (Fr.mono u_171 (by decide))) u_179) kSC_78 (by decide)))) k_X5_unit q_851 q_21 q_849 kSC_77 rfl rfl rfl hl.1 rfl rfl (Nat.le_of_ble_eq_true rfl) dX5_unit_25 ⟨Nat.le_of_ble_eq_true rfl, Nat.le_of_ble_eq_true rfl⟩ ⟨Nat.le_of_ble_eq_true rfl, Nat.le_of_ble_eq_true rfl⟩) (fun H locs ws_186 h u_187 p_188 => ?_)
    have e_189 := p_188
    refine lv_aload_n C0.1 C0.2.1 dX5_unit_28 rfl (lv_at hl 0 rfl) ?_
    refine tg_X5_law C0 h kSC_77 q_380 dX5_unit_29 (fun i_190 hi_190 => ?_)
    refine y_c1 (n := 0) C0 (by decide) dX5_unit_32 (fun v_191 e_192 => ?_)
    refine y_cv h (y_rV (As := [.int v_191]) (rest := []) C0 hZ h (c_X4_add l G Z ad _ h.2 i_190 hi_190 v_191) k_X4_add q_827 q_828 q_826 hi_190 rfl rfl rfl hl.1 rfl rfl (Nat.le_of_ble_eq_true rfl) dX5_unit_33 ⟨Nat.le_of_ble_eq_true rfl, Nat.le_of_ble_eq_true rfl⟩ ⟨Nat.le_of_ble_eq_true rfl, Nat.le_of_ble_eq_true rfl⟩) (fun H locs ws_193 h u_194 p_195 => ?_)
    refine lv_aload_n C0.1 C0.2.1 dX5_unit_36 rfl (lv_at hl 0 rfl) ?_
    refine tg_X5_law C0 h kSC_77 q_380 dX5_unit_37 (fun i_196 hi_196 => ?_)
    refine y_c3 (n := 2003) C0 (by decide) dX5_unit_40 (fun v_197 e_198 => ?_)
    refine y_cv h (y_rV (As := [.int v_197]) (rest := []) C0 hZ h (c_X4_add l G Z ad _ h.2 i_196 hi_196 v_197) k_X4_add q_827 q_828 q_826 hi_196 rfl rfl rfl hl.1 rfl rfl (Nat.le_of_ble_eq_true rfl) dX5_unit_43 ⟨Nat.le_of_ble_eq_true rfl, Nat.le_of_ble_eq_true rfl⟩ ⟨Nat.le_of_ble_eq_true rfl, Nat.le_of_ble_eq_true rfl⟩) (fun H locs ws_199 h u_200 p_201 => ?_)
    refine lv_goto (tgt := 165) C0.1 C0.2.1 dX5_unit_46 (by decide) ?_
    have hq_202 := e_7
    have hs_203 : aF 77 ws_1 = (aF 77 ws0) := (aF_fr u_2 kSC_77 (by decide))
    have hs_204 : aF 77 ws_170 = ((fun s => s) (aF 77 ws0)) := e_176.trans (congrArg (fun s => (fun s => s) s) hs_203)
    have hs_205 : aF 77 ws_178 = (advS T ((fun s => s) (aF 77 ws0))) := e_181.trans (congrArg (fun s => advS T s) hs_204)
    have hs_206 : aF 77 ws_186 = (unitD T 2 (advS T ((fun s => s) (aF 77 ws0)))) := e_189.trans (congrArg (fun s => unitD T 2 s) hs_205)
    have hs_207 : aF 77 ws_193 = (unitD T 2 (advS T ((fun s => s) (aF 77 ws0)))) := (aF_fr u_194 kSC_77 (by decide)).trans hs_206
    have hs_208 : aF 77 ws_199 = (unitD T 2 (advS T ((fun s => s) (aF 77 ws0)))) := (aF_fr u_200 kSC_77 (by decide)).trans hs_207
    have hz_209 : (unitD T 2 (advS T ((fun s => s) (aF 77 ws0)))) = unitD T 3 (aF 77 ws0) := by rw [unitD_3]; unfold unitF; (repeat' split) <;> first | rfl | (exfalso; omega)
    rw [hQ]
    exact y_vret C0 h (Fr.tr (Fr.tr (Fr.tr (Fr.tr (Fr.tr (Fr.mono u_2 (by decide)) (Fr.mono u_171 (by decide))) (Fr.mono u_179 (by decide))) u_187) (Fr.mono u_194 (by decide))) (Fr.mono u_200 (by decide))) (Eq.trans hs_208 hz_209) dX5_unit_165
set_option maxHeartbeats 4000000 in
set_option maxRecDepth 100000 in
theorem c_X5_both_3S {T : Nat → Int} (l : Launch) (G : GG) (Z : RZ) (ad : Nat → Nat) (ws0 : va_W) (hT : Ty G (SC tt) ad ws0) (a1 : Int32) (l1 : 3 ≤ a1.toInt) (u1 : a1.toInt ≤ 3) (hTp : Tp T ws0) : Mq l yX5_both cX5_both 3 none 19 G Z [.ref (ad 77), .int a1] ws0 (PV G (SC tt) ad [2, 3, 16] ws0 (fun u => (aF 77 u = bothL T (unitD T 3) (aF 77 ws0)))) := by
  refine Mq.start (by decide) (Nat.le_of_ble_eq_true rfl) ?_
  intro p e s m below meth c A ls C0 hZ h hl
  have hl : lv_has ls 3 [(0, .ref (ad 77)), (1, .int a1)] := hl
  have h : Wt G (SC tt) ad A s s.heap [] ws0 := ⟨h, hT⟩
  obtain ⟨args, hargs⟩ : ∃ z, z = ([.ref (ad 77), .int a1] : List Value).toArray := ⟨_, rfl⟩
  rw [← hargs] at C0 ⊢
  have C0 : Cx p s m args meth c RX5 cX5_both 3 none := C0
  obtain ⟨Q, hQ⟩ : ∃ z, z = MQ below ((PV G (SC tt) ad [2, 3, 16] ws0 (fun u => (aF 77 u = bothL T (unitD T 3) (aF 77 ws0)))) A) args s 0 0 A := ⟨_, rfl⟩
  rw [← hQ]
  refine lv_aload_n C0.1 C0.2.1 dX5_both_0 rfl (lv_at hl 0 rfl) ?_
  refine lv_iload_n C0.1 C0.2.1 dX5_both_1 rfl (lv_at hl 1 rfl) ?_
  refine y_cv h (y_rV (As := [.int a1]) (rest := []) C0 hZ h (c_X5_unit_3S l G Z ad _ h.2 a1 (o62_90 l1 u1) (o62_91 l1 u1) hTp) k_X5_unit q_851 q_21 q_849 kSC_77 rfl rfl rfl hl.1 rfl rfl (Nat.le_of_ble_eq_true rfl) dX5_both_2 ⟨Nat.le_of_ble_eq_true rfl, Nat.le_of_ble_eq_true rfl⟩ ⟨Nat.le_of_ble_eq_true rfl, Nat.le_of_ble_eq_true rfl⟩) (fun H locs ws_1 h u_2 p_3 => ?_)
  have e_4 := p_3
  refine y_c1 (n := 0) C0 (by decide) dX5_both_5 (fun v_5 e_6 => ?_)
  refine lv_istore_n (lv' := [(2, .int v_5), (0, .ref (ad 77)), (1, .int a1)]) C0.1 C0.2.1 dX5_both_6 rfl hl (by decide) rfl (fun ls hl => ?_)
  have lp_10 : ∀ (n_12 : Nat) (x2_7 : Int32) (H : Heap) (locs : List Loc) (ls : Array Slot) (ws_8 : va_W), 900 - x2_7.toInt < (n_12 : Int) → 0 ≤ x2_7.toInt → x2_7.toInt ≤ 900 → (lpS (fun s => wI T 20 s = 1) (fun s => unitD T 3 (advS T s)) (900 - x2_7.toInt).toNat (aF 77 ws_8) = bothL T (unitD T 3) (aF 77 ws0)) → Wt G (SC tt) ad A s H locs ws_8 → Fr (SC tt) [2, 3, 16] ws_1 ws_8 → lv_has ls 3 [(2, .int x2_7), (0, .ref (ad 77)), (1, .int a1)] → W p l e (rmd 19 0 0) s m args below meth c H locs 0 0 Q (F0 m 7 ls []) := by
    intro n_12
    induction n_12 with
    | zero => intro x2_7 H locs ls ws_8 hn_13 b_14 b_15 hSp h hF_9 hl; exact ((o62_52 b_14 b_15 hn_13)).elim
    | succ n_12 ih_11 =>
      intro x2_7 H locs ls ws_8 hn_13 b_14 b_15 hSp h hF_9 hl
      refine lv_iload_n C0.1 C0.2.1 dX5_both_7 rfl (lv_at hl 0 rfl) ?_
      refine y_c3 (n := 900) C0 (by decide) dX5_both_8 (fun v_16 e_17 => ?_)
      refine y_icmp_ge (tgt := 48) C0 dX5_both_11 (by decide) (fun c_18 => ?_) (fun c_18 => ?_)
      · -- 11
        have hz_19 : (aF 77 ws_8) = lpS (fun s => wI T 20 s = 1) (fun s => unitD T 3 (advS T s)) (900 - x2_7.toInt).toNat (aF 77 ws_8) := by first | (exfalso; omega) | exact (lp_0 (by omega)).symm | exact (lp_e (by omega)).symm
        rw [hQ]
        exact y_vret C0 h (Fr.tr u_2 hF_9) (Eq.trans rfl (Eq.trans hz_19 hSp)) dX5_both_48
      · -- 11
        refine lv_aload_n C0.1 C0.2.1 dX5_both_14 rfl (lv_at hl 1 rfl) ?_
        refine va_ldcS C0.1 C0.2.1 C0.2.2.2.1 (sr_20 hZ) dX5_both_15 ?_
        refine y_ci h (y_rV (As := [.ref (Z.2.1 20)]) (rest := []) C0 hZ h (c_X5_isWordS l G Z ad _ h.2 20 (by decide) ((Tp.fr (M := [2, 3, 16]) hTp (Fr.tr u_2 hF_9) kSC_78 (by decide)))) k_X5_isWord q_724 q_5 q_722 kSC_77 rfl rfl rfl hl.1 rfl rfl (Nat.le_of_ble_eq_true rfl) dX5_both_17 ⟨Nat.le_of_ble_eq_true rfl, Nat.le_of_ble_eq_true rfl⟩ ⟨Nat.le_of_ble_eq_true rfl, Nat.le_of_ble_eq_true rfl⟩) (fun r_23 H locs ws_20 h u_21 p_22 => ?_)
        obtain ⟨e_24, e_25, e_26⟩ := p_22
        refine y_if_eq (tgt := 48) C0 dX5_both_20 (by decide) (fun c_27 => ?_) (fun c_27 => ?_)
        · -- 20
          have hq_28 := e_26
          have hs_29 : aF 77 ws_20 = (aF 77 ws_8) := (aF_fr u_21 kSC_77 (by decide))
          have hz_30 : (aF 77 ws_8) = lpS (fun s => wI T 20 s = 1) (fun s => unitD T 3 (advS T s)) (900 - x2_7.toInt).toNat (aF 77 ws_8) := by first | (exfalso; omega) | exact (lp_0 (by omega)).symm | exact (lp_e (by omega)).symm
          rw [hQ]
          exact y_vret C0 h (Fr.tr (Fr.tr u_2 hF_9) (Fr.mono u_21 (by decide))) (Eq.trans hs_29 (Eq.trans hz_30 hSp)) dX5_both_48
        · -- 20
          refine lv_aload_n C0.1 C0.2.1 dX5_both_23 rfl (lv_at hl 1 rfl) ?_
          refine y_cv h (y_rV (As := []) (rest := []) C0 hZ h (c_X5_advanceS l G Z ad _ h.2 ((Tp.fr (M := [2, 3, 16]) hTp (Fr.tr (Fr.tr u_2 hF_9) (Fr.mono u_21 (by decide))) kSC_78 (by decide)))) k_X5_advance q_616 q_0 q_614 kSC_77 rfl rfl rfl hl.1 rfl rfl (Nat.le_of_ble_eq_true rfl) dX5_both_24 ⟨Nat.le_of_ble_eq_true rfl, Nat.le_of_ble_eq_true rfl⟩ ⟨Nat.le_of_ble_eq_true rfl, Nat.le_of_ble_eq_true rfl⟩) (fun H locs ws_31 h u_32 p_33 => ?_)
          have e_34 := p_33
          refine lv_aload_n C0.1 C0.2.1 dX5_both_27 rfl (lv_at hl 1 rfl) ?_
          refine lv_iload_n C0.1 C0.2.1 dX5_both_28 rfl (lv_at hl 2 rfl) ?_
          refine y_cv h (y_rV (As := [.int a1]) (rest := []) C0 hZ h (c_X5_unit_3S l G Z ad _ h.2 a1 (o62_90 l1 u1) (o62_91 l1 u1) ((Tp.fr (M := [2, 3, 16]) hTp (Fr.tr (Fr.tr (Fr.tr u_2 hF_9) (Fr.mono u_21 (by decide))) (Fr.mono u_32 (by decide))) kSC_78 (by decide)))) k_X5_unit q_851 q_21 q_849 kSC_77 rfl rfl rfl hl.1 rfl rfl (Nat.le_of_ble_eq_true rfl) dX5_both_29 ⟨Nat.le_of_ble_eq_true rfl, Nat.le_of_ble_eq_true rfl⟩ ⟨Nat.le_of_ble_eq_true rfl, Nat.le_of_ble_eq_true rfl⟩) (fun H locs ws_35 h u_36 p_37 => ?_)
          have e_38 := p_37
          refine lv_aload_n C0.1 C0.2.1 dX5_both_32 rfl (lv_at hl 1 rfl) ?_
          refine tg_X5_law C0 h kSC_77 q_380 dX5_both_33 (fun i_39 hi_39 => ?_)
          refine y_c3 (n := 2006) C0 (by decide) dX5_both_36 (fun v_40 e_41 => ?_)
          refine y_cv h (y_rV (As := [.int v_40]) (rest := []) C0 hZ h (c_X4_add l G Z ad _ h.2 i_39 hi_39 v_40) k_X4_add q_827 q_828 q_826 hi_39 rfl rfl rfl hl.1 rfl rfl (Nat.le_of_ble_eq_true rfl) dX5_both_39 ⟨Nat.le_of_ble_eq_true rfl, Nat.le_of_ble_eq_true rfl⟩ ⟨Nat.le_of_ble_eq_true rfl, Nat.le_of_ble_eq_true rfl⟩) (fun H locs ws_42 h u_43 p_44 => ?_)
          refine y_inc (kp := 0) (n := 1) (fun v_45 => [(2, .int v_45), (0, .ref (ad 77)), (1, .int a1)]) C0 hl rfl (by decide) (by decide) (fun _ => rfl) (o62_53 b_14 b_15 hn_13 e_17 c_18 (le_min x2_7) (le_max x2_7) (le_min v_16) (le_max v_16)) (o62_54 b_14 b_15 hn_13 e_17 c_18 (le_min x2_7) (le_max x2_7) (le_min v_16) (le_max v_16)) dX5_both_42 (fun v_45 ls e_46 hl => ?_)
          refine lv_goto (tgt := 7) C0.1 C0.2.1 dX5_both_45 (by decide) ?_
          have hq_47 := e_26
          have hs_48 : aF 77 ws_20 = (aF 77 ws_8) := (aF_fr u_21 kSC_77 (by decide))
          have hs_49 : aF 77 ws_31 = (advS T (aF 77 ws_8)) := e_34.trans (congrArg (fun s => advS T s) hs_48)
          have hs_50 : aF 77 ws_35 = (unitD T 3 (advS T (aF 77 ws_8))) := e_38.trans (congrArg (fun s => unitD T 3 s) hs_49)
          have hs_51 : aF 77 ws_42 = (unitD T 3 (advS T (aF 77 ws_8))) := (aF_fr u_43 kSC_77 (by decide)).trans hs_50
          exact ih_11 v_45 _ _ _ _ (o62_55 b_14 b_15 hn_13 e_17 c_18 e_46) (o62_56 b_14 b_15 hn_13 e_17 c_18 e_46) (o62_57 b_14 b_15 hn_13 e_17 c_18 e_46) ((by rw [hs_51]; exact (lp_s (by omega) (by omega) (by omega) (by omega)).trans hSp)) h (Fr.tr (Fr.tr (Fr.tr (Fr.tr hF_9 (Fr.mono u_21 (by decide))) (Fr.mono u_32 (by decide))) u_36) (Fr.mono u_43 (by decide))) (lv_sub hl [0, 1, 2] rfl)
  have hs_52 : aF 77 ws_1 = (unitD T 3 (aF 77 ws0)) := e_4
  exact lp_10 ((900 - v_5.toInt + 1).toNat) v_5 _ _ _ _ (o62_58 e_6) (o62_59 e_6) (o62_60 e_6) ((by rw [show (900 - v_5.toInt).toNat = 900 by omega, hs_52]; rfl)) h Fr.rf (lv_sub hl [0, 1, 2] rfl)
set_option maxHeartbeats 4000000 in
set_option maxRecDepth 100000 in
theorem c_X5_truth_3S {T : Nat → Int} (l : Launch) (G : GG) (Z : RZ) (ad : Nat → Nat) (ws0 : va_W) (hT : Ty G (SC tt) ad ws0) (a1 : Int32) (l1 : 3 ≤ a1.toInt) (u1 : a1.toInt ≤ 3) (hTp : Tp T ws0) : Mq l yX5_truth cX5_truth 3 none 20 G Z [.ref (ad 77), .int a1] ws0 (PV G (SC tt) ad [2, 3, 16] ws0 (fun u => (aF 77 u = truthL T (unitD T 3) (aF 77 ws0)))) := by
  refine Mq.start (by decide) (Nat.le_of_ble_eq_true rfl) ?_
  intro p e s m below meth c A ls C0 hZ h hl
  have hl : lv_has ls 3 [(0, .ref (ad 77)), (1, .int a1)] := hl
  have h : Wt G (SC tt) ad A s s.heap [] ws0 := ⟨h, hT⟩
  obtain ⟨args, hargs⟩ : ∃ z, z = ([.ref (ad 77), .int a1] : List Value).toArray := ⟨_, rfl⟩
  rw [← hargs] at C0 ⊢
  have C0 : Cx p s m args meth c RX5 cX5_truth 3 none := C0
  obtain ⟨Q, hQ⟩ : ∃ z, z = MQ below ((PV G (SC tt) ad [2, 3, 16] ws0 (fun u => (aF 77 u = truthL T (unitD T 3) (aF 77 ws0)))) A) args s 0 0 A := ⟨_, rfl⟩
  rw [← hQ]
  refine lv_aload_n C0.1 C0.2.1 dX5_truth_0 rfl (lv_at hl 0 rfl) ?_
  refine lv_iload_n C0.1 C0.2.1 dX5_truth_1 rfl (lv_at hl 1 rfl) ?_
  refine y_cv h (y_rV (As := [.int a1]) (rest := []) C0 hZ h (c_X5_both_3S l G Z ad _ h.2 a1 (o62_90 l1 u1) (o62_91 l1 u1) hTp) k_X5_both q_847 q_20 q_845 kSC_77 rfl rfl rfl hl.1 rfl rfl (Nat.le_of_ble_eq_true rfl) dX5_truth_2 ⟨Nat.le_of_ble_eq_true rfl, Nat.le_of_ble_eq_true rfl⟩ ⟨Nat.le_of_ble_eq_true rfl, Nat.le_of_ble_eq_true rfl⟩) (fun H locs ws_1 h u_2 p_3 => ?_)
  have e_4 := p_3
  refine y_c1 (n := 0) C0 (by decide) dX5_truth_5 (fun v_5 e_6 => ?_)
  refine lv_istore_n (lv' := [(2, .int v_5), (0, .ref (ad 77)), (1, .int a1)]) C0.1 C0.2.1 dX5_truth_6 rfl hl (by decide) rfl (fun ls hl => ?_)
  have lp_10 : ∀ (n_12 : Nat) (x2_7 : Int32) (H : Heap) (locs : List Loc) (ls : Array Slot) (ws_8 : va_W), 900 - x2_7.toInt < (n_12 : Int) → 0 ≤ x2_7.toInt → x2_7.toInt ≤ 900 → (lpS (fun s => wI T 21 s = 1) (fun s => bothL T (unitD T 3) (advS T s)) (900 - x2_7.toInt).toNat (aF 77 ws_8) = truthL T (unitD T 3) (aF 77 ws0)) → Wt G (SC tt) ad A s H locs ws_8 → Fr (SC tt) [2, 3, 16] ws_1 ws_8 → lv_has ls 3 [(2, .int x2_7), (0, .ref (ad 77)), (1, .int a1)] → W p l e (rmd 20 0 0) s m args below meth c H locs 0 0 Q (F0 m 7 ls []) := by
    intro n_12
    induction n_12 with
    | zero => intro x2_7 H locs ls ws_8 hn_13 b_14 b_15 hSp h hF_9 hl; exact ((o62_52 b_14 b_15 hn_13)).elim
    | succ n_12 ih_11 =>
      intro x2_7 H locs ls ws_8 hn_13 b_14 b_15 hSp h hF_9 hl
      refine lv_iload_n C0.1 C0.2.1 dX5_truth_7 rfl (lv_at hl 0 rfl) ?_
      refine y_c3 (n := 900) C0 (by decide) dX5_truth_8 (fun v_16 e_17 => ?_)
      refine y_icmp_ge (tgt := 48) C0 dX5_truth_11 (by decide) (fun c_18 => ?_) (fun c_18 => ?_)
      · -- 11
        have hz_19 : (aF 77 ws_8) = lpS (fun s => wI T 21 s = 1) (fun s => bothL T (unitD T 3) (advS T s)) (900 - x2_7.toInt).toNat (aF 77 ws_8) := by first | (exfalso; omega) | exact (lp_0 (by omega)).symm | exact (lp_e (by omega)).symm
        rw [hQ]
        exact y_vret C0 h (Fr.tr u_2 hF_9) (Eq.trans rfl (Eq.trans hz_19 hSp)) dX5_truth_48
      · -- 11
        refine lv_aload_n C0.1 C0.2.1 dX5_truth_14 rfl (lv_at hl 1 rfl) ?_
        refine va_ldcS C0.1 C0.2.1 C0.2.2.2.1 (sr_21 hZ) dX5_truth_15 ?_
        refine y_ci h (y_rV (As := [.ref (Z.2.1 21)]) (rest := []) C0 hZ h (c_X5_isWordS l G Z ad _ h.2 21 (by decide) ((Tp.fr (M := [2, 3, 16]) hTp (Fr.tr u_2 hF_9) kSC_78 (by decide)))) k_X5_isWord q_724 q_5 q_722 kSC_77 rfl rfl rfl hl.1 rfl rfl (Nat.le_of_ble_eq_true rfl) dX5_truth_17 ⟨Nat.le_of_ble_eq_true rfl, Nat.le_of_ble_eq_true rfl⟩ ⟨Nat.le_of_ble_eq_true rfl, Nat.le_of_ble_eq_true rfl⟩) (fun r_23 H locs ws_20 h u_21 p_22 => ?_)
        obtain ⟨e_24, e_25, e_26⟩ := p_22
        refine y_if_eq (tgt := 48) C0 dX5_truth_20 (by decide) (fun c_27 => ?_) (fun c_27 => ?_)
        · -- 20
          have hq_28 := e_26
          have hs_29 : aF 77 ws_20 = (aF 77 ws_8) := (aF_fr u_21 kSC_77 (by decide))
          have hz_30 : (aF 77 ws_8) = lpS (fun s => wI T 21 s = 1) (fun s => bothL T (unitD T 3) (advS T s)) (900 - x2_7.toInt).toNat (aF 77 ws_8) := by first | (exfalso; omega) | exact (lp_0 (by omega)).symm | exact (lp_e (by omega)).symm
          rw [hQ]
          exact y_vret C0 h (Fr.tr (Fr.tr u_2 hF_9) (Fr.mono u_21 (by decide))) (Eq.trans hs_29 (Eq.trans hz_30 hSp)) dX5_truth_48
        · -- 20
          refine lv_aload_n C0.1 C0.2.1 dX5_truth_23 rfl (lv_at hl 1 rfl) ?_
          refine y_cv h (y_rV (As := []) (rest := []) C0 hZ h (c_X5_advanceS l G Z ad _ h.2 ((Tp.fr (M := [2, 3, 16]) hTp (Fr.tr (Fr.tr u_2 hF_9) (Fr.mono u_21 (by decide))) kSC_78 (by decide)))) k_X5_advance q_616 q_0 q_614 kSC_77 rfl rfl rfl hl.1 rfl rfl (Nat.le_of_ble_eq_true rfl) dX5_truth_24 ⟨Nat.le_of_ble_eq_true rfl, Nat.le_of_ble_eq_true rfl⟩ ⟨Nat.le_of_ble_eq_true rfl, Nat.le_of_ble_eq_true rfl⟩) (fun H locs ws_31 h u_32 p_33 => ?_)
          have e_34 := p_33
          refine lv_aload_n C0.1 C0.2.1 dX5_truth_27 rfl (lv_at hl 1 rfl) ?_
          refine lv_iload_n C0.1 C0.2.1 dX5_truth_28 rfl (lv_at hl 2 rfl) ?_
          refine y_cv h (y_rV (As := [.int a1]) (rest := []) C0 hZ h (c_X5_both_3S l G Z ad _ h.2 a1 (o62_90 l1 u1) (o62_91 l1 u1) ((Tp.fr (M := [2, 3, 16]) hTp (Fr.tr (Fr.tr (Fr.tr u_2 hF_9) (Fr.mono u_21 (by decide))) (Fr.mono u_32 (by decide))) kSC_78 (by decide)))) k_X5_both q_847 q_20 q_845 kSC_77 rfl rfl rfl hl.1 rfl rfl (Nat.le_of_ble_eq_true rfl) dX5_truth_29 ⟨Nat.le_of_ble_eq_true rfl, Nat.le_of_ble_eq_true rfl⟩ ⟨Nat.le_of_ble_eq_true rfl, Nat.le_of_ble_eq_true rfl⟩) (fun H locs ws_35 h u_36 p_37 => ?_)
          have e_38 := p_37
          refine lv_aload_n C0.1 C0.2.1 dX5_truth_32 rfl (lv_at hl 1 rfl) ?_
          refine tg_X5_law C0 h kSC_77 q_380 dX5_truth_33 (fun i_39 hi_39 => ?_)
          refine y_c3 (n := 2007) C0 (by decide) dX5_truth_36 (fun v_40 e_41 => ?_)
          refine y_cv h (y_rV (As := [.int v_40]) (rest := []) C0 hZ h (c_X4_add l G Z ad _ h.2 i_39 hi_39 v_40) k_X4_add q_827 q_828 q_826 hi_39 rfl rfl rfl hl.1 rfl rfl (Nat.le_of_ble_eq_true rfl) dX5_truth_39 ⟨Nat.le_of_ble_eq_true rfl, Nat.le_of_ble_eq_true rfl⟩ ⟨Nat.le_of_ble_eq_true rfl, Nat.le_of_ble_eq_true rfl⟩) (fun H locs ws_42 h u_43 p_44 => ?_)
          refine y_inc (kp := 0) (n := 1) (fun v_45 => [(2, .int v_45), (0, .ref (ad 77)), (1, .int a1)]) C0 hl rfl (by decide) (by decide) (fun _ => rfl) (o62_53 b_14 b_15 hn_13 e_17 c_18 (le_min x2_7) (le_max x2_7) (le_min v_16) (le_max v_16)) (o62_54 b_14 b_15 hn_13 e_17 c_18 (le_min x2_7) (le_max x2_7) (le_min v_16) (le_max v_16)) dX5_truth_42 (fun v_45 ls e_46 hl => ?_)
          refine lv_goto (tgt := 7) C0.1 C0.2.1 dX5_truth_45 (by decide) ?_
          have hq_47 := e_26
          have hs_48 : aF 77 ws_20 = (aF 77 ws_8) := (aF_fr u_21 kSC_77 (by decide))
          have hs_49 : aF 77 ws_31 = (advS T (aF 77 ws_8)) := e_34.trans (congrArg (fun s => advS T s) hs_48)
          have hs_50 : aF 77 ws_35 = (bothL T (unitD T 3) (advS T (aF 77 ws_8))) := e_38.trans (congrArg (fun s => bothL T (unitD T 3) s) hs_49)
          have hs_51 : aF 77 ws_42 = (bothL T (unitD T 3) (advS T (aF 77 ws_8))) := (aF_fr u_43 kSC_77 (by decide)).trans hs_50
          exact ih_11 v_45 _ _ _ _ (o62_55 b_14 b_15 hn_13 e_17 c_18 e_46) (o62_56 b_14 b_15 hn_13 e_17 c_18 e_46) (o62_57 b_14 b_15 hn_13 e_17 c_18 e_46) ((by rw [hs_51]; exact (lp_s (by omega) (by omega) (by omega) (by omega)).trans hSp)) h (Fr.tr (Fr.tr (Fr.tr (Fr.tr hF_9 (Fr.mono u_21 (by decide))) (Fr.mono u_32 (by decide))) u_36) (Fr.mono u_43 (by decide))) (lv_sub hl [0, 1, 2] rfl)
  have hs_52 : aF 77 ws_1 = (bothL T (unitD T 3) (aF 77 ws0)) := e_4
  exact lp_10 ((900 - v_5.toInt + 1).toNat) v_5 _ _ _ _ (o62_58 e_6) (o62_59 e_6) (o62_60 e_6) ((by rw [show (900 - v_5.toInt).toNat = 900 by omega, hs_52]; rfl)) h Fr.rf (lv_sub hl [0, 1, 2] rfl)
set_option maxHeartbeats 4000000 in
set_option maxRecDepth 100000 in
theorem c_X5_tooDeep_2S (l : Launch) (G : GG) (Z : RZ) (ad : Nat → Nat) (ws0 : va_W) (hT : Ty G (SC tt) ad ws0) (a1 : Int32) (l1 : 2 ≤ a1.toInt) (u1 : a1.toInt ≤ 2) : Mq l yX5_tooDeep cX5_tooDeep 2 (some .boolean) 1 G Z [.ref (ad 77), .int a1] ws0 (PI G (SC tt) ad [] ws0 (fun r u => (0 ≤ r.toInt) ∧ (r.toInt ≤ 0) ∧ (aF 77 u = (fun s => s) (aF 77 ws0)))) := by
  refine Mq.start (by decide) (Nat.le_of_ble_eq_true rfl) ?_
  intro p e s m below meth c A ls C0 hZ h hl
  have hl : lv_has ls 2 [(0, .ref (ad 77)), (1, .int a1)] := hl
  have h : Wt G (SC tt) ad A s s.heap [] ws0 := ⟨h, hT⟩
  obtain ⟨args, hargs⟩ : ∃ z, z = ([.ref (ad 77), .int a1] : List Value).toArray := ⟨_, rfl⟩
  rw [← hargs] at C0 ⊢
  have C0 : Cx p s m args meth c RX5 cX5_tooDeep 2 (some .boolean) := C0
  obtain ⟨Q, hQ⟩ : ∃ z, z = MQ below ((PI G (SC tt) ad [] ws0 (fun r u => (0 ≤ r.toInt) ∧ (r.toInt ≤ 0) ∧ (aF 77 u = (fun s => s) (aF 77 ws0)))) A) args s 0 0 A := ⟨_, rfl⟩
  rw [← hQ]
  refine lv_iload_n C0.1 C0.2.1 dX5_tooDeep_0 rfl (lv_at hl 1 rfl) ?_
  refine y_c2 (n := 6) C0 (by decide) dX5_tooDeep_1 (fun v_1 e_2 => ?_)
  refine y_icmp_lt (tgt := 13) C0 dX5_tooDeep_3 (by decide) (fun c_3 => ?_) (fun c_3 => ((o62_96 l1 u1 e_2 c_3)).elim)
  refine y_c1 (n := 0) C0 (by decide) dX5_tooDeep_13 (fun v_4 e_5 => ?_)
  have hz_6 : (aF 77 ws0) = (fun s => s) (aF 77 ws0) := by rfl
  rw [hQ]
  exact y_zret C0 h (o62_59 e_5) (o62_68 e_5) Fr.rf ⟨(o62_59 e_5), (o62_67 e_5), (Eq.trans rfl hz_6)⟩ dX5_tooDeep_14
set_option maxHeartbeats 4000000 in
set_option maxRecDepth 100000 in
theorem c_X5_atom_2S {T : Nat → Int} (l : Launch) (G : GG) (Z : RZ) (ad : Nat → Nat) (ws0 : va_W) (hT : Ty G (SC tt) ad ws0) (a1 : Int32) (l1 : 2 ≤ a1.toInt) (u1 : a1.toInt ≤ 2) (hTp : Tp T ws0) : Mq l yX5_atom cX5_atom 3 none 18 G Z [.ref (ad 77), .int a1] ws0 (PV G (SC tt) ad [2, 3, 16] ws0 (fun u => (aF 77 u = atomD T 4 (aF 77 ws0)))) := by
  refine Mq.start (by decide) (Nat.le_of_ble_eq_true rfl) ?_
  intro p e s m below meth c A ls C0 hZ h hl
  have hl : lv_has ls 3 [(0, .ref (ad 77)), (1, .int a1)] := hl
  have h : Wt G (SC tt) ad A s s.heap [] ws0 := ⟨h, hT⟩
  obtain ⟨args, hargs⟩ : ∃ z, z = ([.ref (ad 77), .int a1] : List Value).toArray := ⟨_, rfl⟩
  rw [← hargs] at C0 ⊢
  have C0 : Cx p s m args meth c RX5 cX5_atom 3 none := C0
  obtain ⟨Q, hQ⟩ : ∃ z, z = MQ below ((PV G (SC tt) ad [2, 3, 16] ws0 (fun u => (aF 77 u = atomD T 4 (aF 77 ws0)))) A) args s 0 0 A := ⟨_, rfl⟩
  rw [← hQ]
  refine lv_aload_n C0.1 C0.2.1 dX5_atom_0 rfl (lv_at hl 0 rfl) ?_
  refine tg_X5_kind C0 h kSC_77 q_374 dX5_atom_1 (fun v_1 e_2 e_3 e_4 => ?_)
  refine y_c1 (n := 2) C0 (by decide) dX5_atom_4 (fun v_5 e_6 => ?_)
  refine y_icmp_ne (tgt := 26) C0 dX5_atom_5 (by decide) (fun c_7 => ?_) (fun c_7 => ?_)
  · -- 5
    refine lv_aload_n C0.1 C0.2.1 dX5_atom_26 rfl (lv_at hl 0 rfl) ?_
    refine tg_X5_kind C0 h kSC_77 q_374 dX5_atom_27 (fun v_8 e_9 e_10 e_11 => ?_)
    have q_12 : v_8.toInt = v_1.toInt := congrArg Int32.toInt (e_9.symm.trans (Eq.trans rfl e_2))
    refine y_c2 (n := 40) C0 (by decide) dX5_atom_30 (fun v_13 e_14 => ?_)
    refine y_icmp_ne (tgt := 63) C0 dX5_atom_32 (by decide) (fun c_15 => ?_) (fun c_15 => ?_)
    · -- 32
      refine lv_aload_n C0.1 C0.2.1 dX5_atom_63 rfl (lv_at hl 0 rfl) ?_
      refine va_ldcS C0.1 C0.2.1 C0.2.2.2.1 (sr_12 hZ) dX5_atom_64 ?_
      refine y_ci h (y_rV (As := [.ref (Z.2.1 12)]) (rest := []) C0 hZ h (c_X5_isWordS l G Z ad _ h.2 12 (by decide) hTp) k_X5_isWord q_724 q_5 q_722 kSC_77 rfl rfl rfl hl.1 rfl rfl (Nat.le_of_ble_eq_true rfl) dX5_atom_66 ⟨Nat.le_of_ble_eq_true rfl, Nat.le_of_ble_eq_true rfl⟩ ⟨Nat.le_of_ble_eq_true rfl, Nat.le_of_ble_eq_true rfl⟩) (fun r_19 H locs ws_16 h u_17 p_18 => ?_)
      obtain ⟨e_20, e_21, e_22⟩ := p_18
      refine y_if_eq (tgt := 78) C0 dX5_atom_69 (by decide) (fun c_23 => ?_) (fun c_23 => ?_)
      · -- 69
        refine lv_aload_n C0.1 C0.2.1 dX5_atom_78 rfl (lv_at hl 0 rfl) ?_
        refine va_ldcS C0.1 C0.2.1 C0.2.2.2.1 (sr_13 hZ) dX5_atom_79 ?_
        refine y_ci h (y_rV (As := [.ref (Z.2.1 13)]) (rest := []) C0 hZ h (c_X5_isWordS l G Z ad _ h.2 13 (by decide) ((Tp.fr (M := []) hTp u_17 kSC_78 (by decide)))) k_X5_isWord q_724 q_5 q_722 kSC_77 rfl rfl rfl hl.1 rfl rfl (Nat.le_of_ble_eq_true rfl) dX5_atom_81 ⟨Nat.le_of_ble_eq_true rfl, Nat.le_of_ble_eq_true rfl⟩ ⟨Nat.le_of_ble_eq_true rfl, Nat.le_of_ble_eq_true rfl⟩) (fun r_27 H locs ws_24 h u_25 p_26 => ?_)
        obtain ⟨e_28, e_29, e_30⟩ := p_26
        refine y_if_eq (tgt := 93) C0 dX5_atom_84 (by decide) (fun c_31 => ?_) (fun c_31 => ?_)
        · -- 84
          refine lv_aload_n C0.1 C0.2.1 dX5_atom_93 rfl (lv_at hl 0 rfl) ?_
          refine va_ldcS C0.1 C0.2.1 C0.2.2.2.1 (sr_14 hZ) dX5_atom_94 ?_
          refine y_ci h (y_rV (As := [.ref (Z.2.1 14)]) (rest := []) C0 hZ h (c_X5_isWordS l G Z ad _ h.2 14 (by decide) ((Tp.fr (M := []) hTp (Fr.tr u_17 u_25) kSC_78 (by decide)))) k_X5_isWord q_724 q_5 q_722 kSC_77 rfl rfl rfl hl.1 rfl rfl (Nat.le_of_ble_eq_true rfl) dX5_atom_96 ⟨Nat.le_of_ble_eq_true rfl, Nat.le_of_ble_eq_true rfl⟩ ⟨Nat.le_of_ble_eq_true rfl, Nat.le_of_ble_eq_true rfl⟩) (fun r_35 H locs ws_32 h u_33 p_34 => ?_)
          obtain ⟨e_36, e_37, e_38⟩ := p_34
          refine y_if_eq (tgt := 108) C0 dX5_atom_99 (by decide) (fun c_39 => ?_) (fun c_39 => ?_)
          · -- 99
            refine lv_aload_n C0.1 C0.2.1 dX5_atom_108 rfl (lv_at hl 0 rfl) ?_
            refine va_ldcS C0.1 C0.2.1 C0.2.2.2.1 (sr_15 hZ) dX5_atom_109 ?_
            refine y_ci h (y_rV (As := [.ref (Z.2.1 15)]) (rest := []) C0 hZ h (c_X5_isWordS l G Z ad _ h.2 15 (by decide) ((Tp.fr (M := []) hTp (Fr.tr (Fr.tr u_17 u_25) u_33) kSC_78 (by decide)))) k_X5_isWord q_724 q_5 q_722 kSC_77 rfl rfl rfl hl.1 rfl rfl (Nat.le_of_ble_eq_true rfl) dX5_atom_111 ⟨Nat.le_of_ble_eq_true rfl, Nat.le_of_ble_eq_true rfl⟩ ⟨Nat.le_of_ble_eq_true rfl, Nat.le_of_ble_eq_true rfl⟩) (fun r_43 H locs ws_40 h u_41 p_42 => ?_)
            obtain ⟨e_44, e_45, e_46⟩ := p_42
            refine y_if_eq (tgt := 123) C0 dX5_atom_114 (by decide) (fun c_47 => ?_) (fun c_47 => ?_)
            · -- 114
              refine lv_aload_n C0.1 C0.2.1 dX5_atom_123 rfl (lv_at hl 0 rfl) ?_
              refine va_ldcS C0.1 C0.2.1 C0.2.2.2.1 (sr_16 hZ) dX5_atom_124 ?_
              refine y_ci h (y_rV (As := [.ref (Z.2.1 16)]) (rest := []) C0 hZ h (c_X5_isWordS l G Z ad _ h.2 16 (by decide) ((Tp.fr (M := []) hTp (Fr.tr (Fr.tr (Fr.tr u_17 u_25) u_33) u_41) kSC_78 (by decide)))) k_X5_isWord q_724 q_5 q_722 kSC_77 rfl rfl rfl hl.1 rfl rfl (Nat.le_of_ble_eq_true rfl) dX5_atom_126 ⟨Nat.le_of_ble_eq_true rfl, Nat.le_of_ble_eq_true rfl⟩ ⟨Nat.le_of_ble_eq_true rfl, Nat.le_of_ble_eq_true rfl⟩) (fun r_51 H locs ws_48 h u_49 p_50 => ?_)
              obtain ⟨e_52, e_53, e_54⟩ := p_50
              refine y_if_eq (tgt := 138) C0 dX5_atom_129 (by decide) (fun c_55 => ?_) (fun c_55 => ?_)
              · -- 129
                refine lv_aload_n C0.1 C0.2.1 dX5_atom_138 rfl (lv_at hl 0 rfl) ?_
                refine va_ldcS C0.1 C0.2.1 C0.2.2.2.1 (sr_17 hZ) dX5_atom_139 ?_
                refine y_ci h (y_rV (As := [.ref (Z.2.1 17)]) (rest := []) C0 hZ h (c_X5_isWordS l G Z ad _ h.2 17 (by decide) ((Tp.fr (M := []) hTp (Fr.tr (Fr.tr (Fr.tr (Fr.tr u_17 u_25) u_33) u_41) u_49) kSC_78 (by decide)))) k_X5_isWord q_724 q_5 q_722 kSC_77 rfl rfl rfl hl.1 rfl rfl (Nat.le_of_ble_eq_true rfl) dX5_atom_141 ⟨Nat.le_of_ble_eq_true rfl, Nat.le_of_ble_eq_true rfl⟩ ⟨Nat.le_of_ble_eq_true rfl, Nat.le_of_ble_eq_true rfl⟩) (fun r_59 H locs ws_56 h u_57 p_58 => ?_)
                obtain ⟨e_60, e_61, e_62⟩ := p_58
                refine y_if_eq (tgt := 153) C0 dX5_atom_144 (by decide) (fun c_63 => ?_) (fun c_63 => ?_)
                · -- 144
                  refine y_c1 (n := (-1)) C0 (by decide) dX5_atom_153 (fun v_64 e_65 => ?_)
                  refine lv_istore_n (lv' := [(2, .int v_64), (0, .ref (ad 77)), (1, .int a1)]) C0.1 C0.2.1 dX5_atom_154 rfl hl (by decide) rfl (fun ls hl => ?_)
                  refine lv_iload_n C0.1 C0.2.1 dX5_atom_155 rfl (lv_at hl 0 rfl) ?_
                  refine y_if_ge (tgt := 165) C0 dX5_atom_156 (by decide) (fun c_66 => ((o62_42 e_65 c_66)).elim) (fun c_66 => ?_)
                  refine lv_aload_n C0.1 C0.2.1 dX5_atom_159 rfl (lv_at hl 1 rfl) ?_
                  refine y_c1 (n := 2) C0 (by decide) dX5_atom_160 (fun v_67 e_68 => ?_)
                  refine y_cv h (y_rV (As := [.int v_67]) (rest := []) C0 hZ h (c_X5_failS l G Z ad _ h.2 v_67) k_X5_fail q_628 q_3 q_626 kSC_77 rfl rfl rfl hl.1 rfl rfl (Nat.le_of_ble_eq_true rfl) dX5_atom_161 ⟨Nat.le_of_ble_eq_true rfl, Nat.le_of_ble_eq_true rfl⟩ ⟨Nat.le_of_ble_eq_true rfl, Nat.le_of_ble_eq_true rfl⟩) (fun H locs ws_69 h u_70 p_71 => ?_)
                  have e_72 := p_71
                  have hv_73 : (aF 77 ws0) 4 = v_1.toInt := (aF_at (by decide) e_2)
                  have hv_74 : (aF 77 ws0) 4 = v_8.toInt := (aF_at (by decide) e_9)
                  have hq_75 := e_22
                  have hs_76 : aF 77 ws_16 = (aF 77 ws0) := (aF_fr u_17 kSC_77 (by decide))
                  have hq_77 := e_30
                  rw [hs_76] at hq_77
                  have hs_78 : aF 77 ws_24 = (aF 77 ws0) := (aF_fr u_25 kSC_77 (by decide)).trans hs_76
                  have hq_79 := e_38
                  rw [hs_78] at hq_79
                  have hs_80 : aF 77 ws_32 = (aF 77 ws0) := (aF_fr u_33 kSC_77 (by decide)).trans hs_78
                  have hq_81 := e_46
                  rw [hs_80] at hq_81
                  have hs_82 : aF 77 ws_40 = (aF 77 ws0) := (aF_fr u_41 kSC_77 (by decide)).trans hs_80
                  have hq_83 := e_54
                  rw [hs_82] at hq_83
                  have hs_84 : aF 77 ws_48 = (aF 77 ws0) := (aF_fr u_49 kSC_77 (by decide)).trans hs_82
                  have hq_85 := e_62
                  rw [hs_84] at hq_85
                  have hs_86 : aF 77 ws_56 = (aF 77 ws0) := (aF_fr u_57 kSC_77 (by decide)).trans hs_84
                  have hs_87 : aF 77 ws_69 = (failS 2 (aF 77 ws0)) := e_72.trans ((congrArg (fun s => failS v_67.toInt s) hs_86).trans (by rw [(o62_1 e_68)]))
                  have hz_88 : (failS 2 (aF 77 ws0)) = atomD T 4 (aF 77 ws0) := by rw [atomD_4]; unfold atomF; (repeat' split) <;> first | rfl | (exfalso; omega)
                  rw [hQ]
                  exact y_vret C0 h (Fr.tr (Fr.tr (Fr.tr (Fr.tr (Fr.tr (Fr.tr (Fr.mono u_17 (by decide)) (Fr.mono u_25 (by decide))) (Fr.mono u_33 (by decide))) (Fr.mono u_41 (by decide))) (Fr.mono u_49 (by decide))) (Fr.mono u_57 (by decide))) (Fr.mono u_70 (by decide))) (Eq.trans hs_87 hz_88) dX5_atom_164
                · -- 144
                  refine y_c3 (n := 1005) C0 (by decide) dX5_atom_147 (fun v_89 e_90 => ?_)
                  refine lv_goto (tgt := 154) C0.1 C0.2.1 dX5_atom_150 (by decide) ?_
                  refine lv_istore_n (lv' := [(2, .int v_89), (0, .ref (ad 77)), (1, .int a1)]) C0.1 C0.2.1 dX5_atom_154 rfl hl (by decide) rfl (fun ls hl => ?_)
                  refine lv_iload_n C0.1 C0.2.1 dX5_atom_155 rfl (lv_at hl 0 rfl) ?_
                  refine y_if_ge (tgt := 165) C0 dX5_atom_156 (by decide) (fun c_91 => ?_) (fun c_91 => ((o62_43 e_90 c_91)).elim)
                  refine lv_aload_n C0.1 C0.2.1 dX5_atom_165 rfl (lv_at hl 1 rfl) ?_
                  refine tg_X5_law C0 h kSC_77 q_380 dX5_atom_166 (fun i_92 hi_92 => ?_)
                  refine lv_iload_n C0.1 C0.2.1 dX5_atom_169 rfl (lv_at hl 0 rfl) ?_
                  refine y_cv h (y_rV (As := [.int v_89]) (rest := []) C0 hZ h (c_X4_add l G Z ad _ h.2 i_92 hi_92 v_89) k_X4_add q_827 q_828 q_826 hi_92 rfl rfl rfl hl.1 rfl rfl (Nat.le_of_ble_eq_true rfl) dX5_atom_170 ⟨Nat.le_of_ble_eq_true rfl, Nat.le_of_ble_eq_true rfl⟩ ⟨Nat.le_of_ble_eq_true rfl, Nat.le_of_ble_eq_true rfl⟩) (fun H locs ws_93 h u_94 p_95 => ?_)
                  refine lv_aload_n C0.1 C0.2.1 dX5_atom_173 rfl (lv_at hl 1 rfl) ?_
                  refine y_cv h (y_rV (As := []) (rest := []) C0 hZ h (c_X5_advanceS l G Z ad _ h.2 ((Tp.fr (M := [2, 3]) hTp (Fr.tr (Fr.tr (Fr.tr (Fr.tr (Fr.tr (Fr.tr (Fr.mono u_17 (by decide)) (Fr.mono u_25 (by decide))) (Fr.mono u_33 (by decide))) (Fr.mono u_41 (by decide))) (Fr.mono u_49 (by decide))) (Fr.mono u_57 (by decide))) u_94) kSC_78 (by decide)))) k_X5_advance q_616 q_0 q_614 kSC_77 rfl rfl rfl hl.1 rfl rfl (Nat.le_of_ble_eq_true rfl) dX5_atom_174 ⟨Nat.le_of_ble_eq_true rfl, Nat.le_of_ble_eq_true rfl⟩ ⟨Nat.le_of_ble_eq_true rfl, Nat.le_of_ble_eq_true rfl⟩) (fun H locs ws_96 h u_97 p_98 => ?_)
                  have e_99 := p_98
                  have hv_100 : (aF 77 ws0) 4 = v_1.toInt := (aF_at (by decide) e_2)
                  have hv_101 : (aF 77 ws0) 4 = v_8.toInt := (aF_at (by decide) e_9)
                  have hq_102 := e_22
                  have hs_103 : aF 77 ws_16 = (aF 77 ws0) := (aF_fr u_17 kSC_77 (by decide))
                  have hq_104 := e_30
                  rw [hs_103] at hq_104
                  have hs_105 : aF 77 ws_24 = (aF 77 ws0) := (aF_fr u_25 kSC_77 (by decide)).trans hs_103
                  have hq_106 := e_38
                  rw [hs_105] at hq_106
                  have hs_107 : aF 77 ws_32 = (aF 77 ws0) := (aF_fr u_33 kSC_77 (by decide)).trans hs_105
                  have hq_108 := e_46
                  rw [hs_107] at hq_108
                  have hs_109 : aF 77 ws_40 = (aF 77 ws0) := (aF_fr u_41 kSC_77 (by decide)).trans hs_107
                  have hq_110 := e_54
                  rw [hs_109] at hq_110
                  have hs_111 : aF 77 ws_48 = (aF 77 ws0) := (aF_fr u_49 kSC_77 (by decide)).trans hs_109
                  have hq_112 := e_62
                  rw [hs_111] at hq_112
                  have hs_113 : aF 77 ws_56 = (aF 77 ws0) := (aF_fr u_57 kSC_77 (by decide)).trans hs_111
                  have hs_114 : aF 77 ws_93 = (aF 77 ws0) := (aF_fr u_94 kSC_77 (by decide)).trans hs_113
                  have hs_115 : aF 77 ws_96 = (advS T (aF 77 ws0)) := e_99.trans (congrArg (fun s => advS T s) hs_114)
                  have hz_116 : (advS T (aF 77 ws0)) = atomD T 4 (aF 77 ws0) := by rw [atomD_4]; unfold atomF; (repeat' split) <;> first | rfl | (exfalso; omega)
                  rw [hQ]
                  exact y_vret C0 h (Fr.tr (Fr.tr (Fr.tr (Fr.tr (Fr.tr (Fr.tr (Fr.tr (Fr.mono u_17 (by decide)) (Fr.mono u_25 (by decide))) (Fr.mono u_33 (by decide))) (Fr.mono u_41 (by decide))) (Fr.mono u_49 (by decide))) (Fr.mono u_57 (by decide))) (Fr.mono u_94 (by decide))) (Fr.mono u_97 (by decide))) (Eq.trans hs_115 hz_116) dX5_atom_177
              · -- 129
                refine y_c3 (n := 1004) C0 (by decide) dX5_atom_132 (fun v_117 e_118 => ?_)
                refine lv_goto (tgt := 154) C0.1 C0.2.1 dX5_atom_135 (by decide) ?_
                refine lv_istore_n (lv' := [(2, .int v_117), (0, .ref (ad 77)), (1, .int a1)]) C0.1 C0.2.1 dX5_atom_154 rfl hl (by decide) rfl (fun ls hl => ?_)
                refine lv_iload_n C0.1 C0.2.1 dX5_atom_155 rfl (lv_at hl 0 rfl) ?_
                refine y_if_ge (tgt := 165) C0 dX5_atom_156 (by decide) (fun c_119 => ?_) (fun c_119 => ((o62_44 e_118 c_119)).elim)
                refine lv_aload_n C0.1 C0.2.1 dX5_atom_165 rfl (lv_at hl 1 rfl) ?_
                refine tg_X5_law C0 h kSC_77 q_380 dX5_atom_166 (fun i_120 hi_120 => ?_)
                refine lv_iload_n C0.1 C0.2.1 dX5_atom_169 rfl (lv_at hl 0 rfl) ?_
                refine y_cv h (y_rV (As := [.int v_117]) (rest := []) C0 hZ h (c_X4_add l G Z ad _ h.2 i_120 hi_120 v_117) k_X4_add q_827 q_828 q_826 hi_120 rfl rfl rfl hl.1 rfl rfl (Nat.le_of_ble_eq_true rfl) dX5_atom_170 ⟨Nat.le_of_ble_eq_true rfl, Nat.le_of_ble_eq_true rfl⟩ ⟨Nat.le_of_ble_eq_true rfl, Nat.le_of_ble_eq_true rfl⟩) (fun H locs ws_121 h u_122 p_123 => ?_)
                refine lv_aload_n C0.1 C0.2.1 dX5_atom_173 rfl (lv_at hl 1 rfl) ?_
                refine y_cv h (y_rV (As := []) (rest := []) C0 hZ h (c_X5_advanceS l G Z ad _ h.2 ((Tp.fr (M := [2, 3]) hTp (Fr.tr (Fr.tr (Fr.tr (Fr.tr (Fr.tr (Fr.mono u_17 (by decide)) (Fr.mono u_25 (by decide))) (Fr.mono u_33 (by decide))) (Fr.mono u_41 (by decide))) (Fr.mono u_49 (by decide))) u_122) kSC_78 (by decide)))) k_X5_advance q_616 q_0 q_614 kSC_77 rfl rfl rfl hl.1 rfl rfl (Nat.le_of_ble_eq_true rfl) dX5_atom_174 ⟨Nat.le_of_ble_eq_true rfl, Nat.le_of_ble_eq_true rfl⟩ ⟨Nat.le_of_ble_eq_true rfl, Nat.le_of_ble_eq_true rfl⟩) (fun H locs ws_124 h u_125 p_126 => ?_)
                have e_127 := p_126
                have hv_128 : (aF 77 ws0) 4 = v_1.toInt := (aF_at (by decide) e_2)
                have hv_129 : (aF 77 ws0) 4 = v_8.toInt := (aF_at (by decide) e_9)
                have hq_130 := e_22
                have hs_131 : aF 77 ws_16 = (aF 77 ws0) := (aF_fr u_17 kSC_77 (by decide))
                have hq_132 := e_30
                rw [hs_131] at hq_132
                have hs_133 : aF 77 ws_24 = (aF 77 ws0) := (aF_fr u_25 kSC_77 (by decide)).trans hs_131
                have hq_134 := e_38
                rw [hs_133] at hq_134
                have hs_135 : aF 77 ws_32 = (aF 77 ws0) := (aF_fr u_33 kSC_77 (by decide)).trans hs_133
                have hq_136 := e_46
                rw [hs_135] at hq_136
                have hs_137 : aF 77 ws_40 = (aF 77 ws0) := (aF_fr u_41 kSC_77 (by decide)).trans hs_135
                have hq_138 := e_54
                rw [hs_137] at hq_138
                have hs_139 : aF 77 ws_48 = (aF 77 ws0) := (aF_fr u_49 kSC_77 (by decide)).trans hs_137
                have hs_140 : aF 77 ws_121 = (aF 77 ws0) := (aF_fr u_122 kSC_77 (by decide)).trans hs_139
                have hs_141 : aF 77 ws_124 = (advS T (aF 77 ws0)) := e_127.trans (congrArg (fun s => advS T s) hs_140)
                have hz_142 : (advS T (aF 77 ws0)) = atomD T 4 (aF 77 ws0) := by rw [atomD_4]; unfold atomF; (repeat' split) <;> first | rfl | (exfalso; omega)
                rw [hQ]
                exact y_vret C0 h (Fr.tr (Fr.tr (Fr.tr (Fr.tr (Fr.tr (Fr.tr (Fr.mono u_17 (by decide)) (Fr.mono u_25 (by decide))) (Fr.mono u_33 (by decide))) (Fr.mono u_41 (by decide))) (Fr.mono u_49 (by decide))) (Fr.mono u_122 (by decide))) (Fr.mono u_125 (by decide))) (Eq.trans hs_141 hz_142) dX5_atom_177
            · -- 114
              refine y_c3 (n := 1003) C0 (by decide) dX5_atom_117 (fun v_143 e_144 => ?_)
              refine lv_goto (tgt := 154) C0.1 C0.2.1 dX5_atom_120 (by decide) ?_
              refine lv_istore_n (lv' := [(2, .int v_143), (0, .ref (ad 77)), (1, .int a1)]) C0.1 C0.2.1 dX5_atom_154 rfl hl (by decide) rfl (fun ls hl => ?_)
              refine lv_iload_n C0.1 C0.2.1 dX5_atom_155 rfl (lv_at hl 0 rfl) ?_
              refine y_if_ge (tgt := 165) C0 dX5_atom_156 (by decide) (fun c_145 => ?_) (fun c_145 => ((o62_45 e_144 c_145)).elim)
              refine lv_aload_n C0.1 C0.2.1 dX5_atom_165 rfl (lv_at hl 1 rfl) ?_
              refine tg_X5_law C0 h kSC_77 q_380 dX5_atom_166 (fun i_146 hi_146 => ?_)
              refine lv_iload_n C0.1 C0.2.1 dX5_atom_169 rfl (lv_at hl 0 rfl) ?_
              refine y_cv h (y_rV (As := [.int v_143]) (rest := []) C0 hZ h (c_X4_add l G Z ad _ h.2 i_146 hi_146 v_143) k_X4_add q_827 q_828 q_826 hi_146 rfl rfl rfl hl.1 rfl rfl (Nat.le_of_ble_eq_true rfl) dX5_atom_170 ⟨Nat.le_of_ble_eq_true rfl, Nat.le_of_ble_eq_true rfl⟩ ⟨Nat.le_of_ble_eq_true rfl, Nat.le_of_ble_eq_true rfl⟩) (fun H locs ws_147 h u_148 p_149 => ?_)
              refine lv_aload_n C0.1 C0.2.1 dX5_atom_173 rfl (lv_at hl 1 rfl) ?_
              refine y_cv h (y_rV (As := []) (rest := []) C0 hZ h (c_X5_advanceS l G Z ad _ h.2 ((Tp.fr (M := [2, 3]) hTp (Fr.tr (Fr.tr (Fr.tr (Fr.tr (Fr.mono u_17 (by decide)) (Fr.mono u_25 (by decide))) (Fr.mono u_33 (by decide))) (Fr.mono u_41 (by decide))) u_148) kSC_78 (by decide)))) k_X5_advance q_616 q_0 q_614 kSC_77 rfl rfl rfl hl.1 rfl rfl (Nat.le_of_ble_eq_true rfl) dX5_atom_174 ⟨Nat.le_of_ble_eq_true rfl, Nat.le_of_ble_eq_true rfl⟩ ⟨Nat.le_of_ble_eq_true rfl, Nat.le_of_ble_eq_true rfl⟩) (fun H locs ws_150 h u_151 p_152 => ?_)
              have e_153 := p_152
              have hv_154 : (aF 77 ws0) 4 = v_1.toInt := (aF_at (by decide) e_2)
              have hv_155 : (aF 77 ws0) 4 = v_8.toInt := (aF_at (by decide) e_9)
              have hq_156 := e_22
              have hs_157 : aF 77 ws_16 = (aF 77 ws0) := (aF_fr u_17 kSC_77 (by decide))
              have hq_158 := e_30
              rw [hs_157] at hq_158
              have hs_159 : aF 77 ws_24 = (aF 77 ws0) := (aF_fr u_25 kSC_77 (by decide)).trans hs_157
              have hq_160 := e_38
              rw [hs_159] at hq_160
              have hs_161 : aF 77 ws_32 = (aF 77 ws0) := (aF_fr u_33 kSC_77 (by decide)).trans hs_159
              have hq_162 := e_46
              rw [hs_161] at hq_162
              have hs_163 : aF 77 ws_40 = (aF 77 ws0) := (aF_fr u_41 kSC_77 (by decide)).trans hs_161
              have hs_164 : aF 77 ws_147 = (aF 77 ws0) := (aF_fr u_148 kSC_77 (by decide)).trans hs_163
              have hs_165 : aF 77 ws_150 = (advS T (aF 77 ws0)) := e_153.trans (congrArg (fun s => advS T s) hs_164)
              have hz_166 : (advS T (aF 77 ws0)) = atomD T 4 (aF 77 ws0) := by rw [atomD_4]; unfold atomF; (repeat' split) <;> first | rfl | (exfalso; omega)
              rw [hQ]
              exact y_vret C0 h (Fr.tr (Fr.tr (Fr.tr (Fr.tr (Fr.tr (Fr.mono u_17 (by decide)) (Fr.mono u_25 (by decide))) (Fr.mono u_33 (by decide))) (Fr.mono u_41 (by decide))) (Fr.mono u_148 (by decide))) (Fr.mono u_151 (by decide))) (Eq.trans hs_165 hz_166) dX5_atom_177
          · -- 99
            refine y_c3 (n := 1002) C0 (by decide) dX5_atom_102 (fun v_167 e_168 => ?_)
            refine lv_goto (tgt := 154) C0.1 C0.2.1 dX5_atom_105 (by decide) ?_
            refine lv_istore_n (lv' := [(2, .int v_167), (0, .ref (ad 77)), (1, .int a1)]) C0.1 C0.2.1 dX5_atom_154 rfl hl (by decide) rfl (fun ls hl => ?_)
            refine lv_iload_n C0.1 C0.2.1 dX5_atom_155 rfl (lv_at hl 0 rfl) ?_
            refine y_if_ge (tgt := 165) C0 dX5_atom_156 (by decide) (fun c_169 => ?_) (fun c_169 => ((o62_46 e_168 c_169)).elim)
            refine lv_aload_n C0.1 C0.2.1 dX5_atom_165 rfl (lv_at hl 1 rfl) ?_
            refine tg_X5_law C0 h kSC_77 q_380 dX5_atom_166 (fun i_170 hi_170 => ?_)
            refine lv_iload_n C0.1 C0.2.1 dX5_atom_169 rfl (lv_at hl 0 rfl) ?_
            refine y_cv h (y_rV (As := [.int v_167]) (rest := []) C0 hZ h (c_X4_add l G Z ad _ h.2 i_170 hi_170 v_167) k_X4_add q_827 q_828 q_826 hi_170 rfl rfl rfl hl.1 rfl rfl (Nat.le_of_ble_eq_true rfl) dX5_atom_170 ⟨Nat.le_of_ble_eq_true rfl, Nat.le_of_ble_eq_true rfl⟩ ⟨Nat.le_of_ble_eq_true rfl, Nat.le_of_ble_eq_true rfl⟩) (fun H locs ws_171 h u_172 p_173 => ?_)
            refine lv_aload_n C0.1 C0.2.1 dX5_atom_173 rfl (lv_at hl 1 rfl) ?_
            refine y_cv h (y_rV (As := []) (rest := []) C0 hZ h (c_X5_advanceS l G Z ad _ h.2 ((Tp.fr (M := [2, 3]) hTp (Fr.tr (Fr.tr (Fr.tr (Fr.mono u_17 (by decide)) (Fr.mono u_25 (by decide))) (Fr.mono u_33 (by decide))) u_172) kSC_78 (by decide)))) k_X5_advance q_616 q_0 q_614 kSC_77 rfl rfl rfl hl.1 rfl rfl (Nat.le_of_ble_eq_true rfl) dX5_atom_174 ⟨Nat.le_of_ble_eq_true rfl, Nat.le_of_ble_eq_true rfl⟩ ⟨Nat.le_of_ble_eq_true rfl, Nat.le_of_ble_eq_true rfl⟩) (fun H locs ws_174 h u_175 p_176 => ?_)
            have e_177 := p_176
            have hv_178 : (aF 77 ws0) 4 = v_1.toInt := (aF_at (by decide) e_2)
            have hv_179 : (aF 77 ws0) 4 = v_8.toInt := (aF_at (by decide) e_9)
            have hq_180 := e_22
            have hs_181 : aF 77 ws_16 = (aF 77 ws0) := (aF_fr u_17 kSC_77 (by decide))
            have hq_182 := e_30
            rw [hs_181] at hq_182
            have hs_183 : aF 77 ws_24 = (aF 77 ws0) := (aF_fr u_25 kSC_77 (by decide)).trans hs_181
            have hq_184 := e_38
            rw [hs_183] at hq_184
            have hs_185 : aF 77 ws_32 = (aF 77 ws0) := (aF_fr u_33 kSC_77 (by decide)).trans hs_183
            have hs_186 : aF 77 ws_171 = (aF 77 ws0) := (aF_fr u_172 kSC_77 (by decide)).trans hs_185
            have hs_187 : aF 77 ws_174 = (advS T (aF 77 ws0)) := e_177.trans (congrArg (fun s => advS T s) hs_186)
            have hz_188 : (advS T (aF 77 ws0)) = atomD T 4 (aF 77 ws0) := by rw [atomD_4]; unfold atomF; (repeat' split) <;> first | rfl | (exfalso; omega)
            rw [hQ]
            exact y_vret C0 h (Fr.tr (Fr.tr (Fr.tr (Fr.tr (Fr.mono u_17 (by decide)) (Fr.mono u_25 (by decide))) (Fr.mono u_33 (by decide))) (Fr.mono u_172 (by decide))) (Fr.mono u_175 (by decide))) (Eq.trans hs_187 hz_188) dX5_atom_177
        · -- 84
          refine y_c3 (n := 1001) C0 (by decide) dX5_atom_87 (fun v_189 e_190 => ?_)
          refine lv_goto (tgt := 154) C0.1 C0.2.1 dX5_atom_90 (by decide) ?_
          refine lv_istore_n (lv' := [(2, .int v_189), (0, .ref (ad 77)), (1, .int a1)]) C0.1 C0.2.1 dX5_atom_154 rfl hl (by decide) rfl (fun ls hl => ?_)
          refine lv_iload_n C0.1 C0.2.1 dX5_atom_155 rfl (lv_at hl 0 rfl) ?_
          refine y_if_ge (tgt := 165) C0 dX5_atom_156 (by decide) (fun c_191 => ?_) (fun c_191 => ((o62_47 e_190 c_191)).elim)
          refine lv_aload_n C0.1 C0.2.1 dX5_atom_165 rfl (lv_at hl 1 rfl) ?_
          refine tg_X5_law C0 h kSC_77 q_380 dX5_atom_166 (fun i_192 hi_192 => ?_)
          refine lv_iload_n C0.1 C0.2.1 dX5_atom_169 rfl (lv_at hl 0 rfl) ?_
          refine y_cv h (y_rV (As := [.int v_189]) (rest := []) C0 hZ h (c_X4_add l G Z ad _ h.2 i_192 hi_192 v_189) k_X4_add q_827 q_828 q_826 hi_192 rfl rfl rfl hl.1 rfl rfl (Nat.le_of_ble_eq_true rfl) dX5_atom_170 ⟨Nat.le_of_ble_eq_true rfl, Nat.le_of_ble_eq_true rfl⟩ ⟨Nat.le_of_ble_eq_true rfl, Nat.le_of_ble_eq_true rfl⟩) (fun H locs ws_193 h u_194 p_195 => ?_)
          refine lv_aload_n C0.1 C0.2.1 dX5_atom_173 rfl (lv_at hl 1 rfl) ?_
          refine y_cv h (y_rV (As := []) (rest := []) C0 hZ h (c_X5_advanceS l G Z ad _ h.2 ((Tp.fr (M := [2, 3]) hTp (Fr.tr (Fr.tr (Fr.mono u_17 (by decide)) (Fr.mono u_25 (by decide))) u_194) kSC_78 (by decide)))) k_X5_advance q_616 q_0 q_614 kSC_77 rfl rfl rfl hl.1 rfl rfl (Nat.le_of_ble_eq_true rfl) dX5_atom_174 ⟨Nat.le_of_ble_eq_true rfl, Nat.le_of_ble_eq_true rfl⟩ ⟨Nat.le_of_ble_eq_true rfl, Nat.le_of_ble_eq_true rfl⟩) (fun H locs ws_196 h u_197 p_198 => ?_)
          have e_199 := p_198
          have hv_200 : (aF 77 ws0) 4 = v_1.toInt := (aF_at (by decide) e_2)
          have hv_201 : (aF 77 ws0) 4 = v_8.toInt := (aF_at (by decide) e_9)
          have hq_202 := e_22
          have hs_203 : aF 77 ws_16 = (aF 77 ws0) := (aF_fr u_17 kSC_77 (by decide))
          have hq_204 := e_30
          rw [hs_203] at hq_204
          have hs_205 : aF 77 ws_24 = (aF 77 ws0) := (aF_fr u_25 kSC_77 (by decide)).trans hs_203
          have hs_206 : aF 77 ws_193 = (aF 77 ws0) := (aF_fr u_194 kSC_77 (by decide)).trans hs_205
          have hs_207 : aF 77 ws_196 = (advS T (aF 77 ws0)) := e_199.trans (congrArg (fun s => advS T s) hs_206)
          have hz_208 : (advS T (aF 77 ws0)) = atomD T 4 (aF 77 ws0) := by rw [atomD_4]; unfold atomF; (repeat' split) <;> first | rfl | (exfalso; omega)
          rw [hQ]
          exact y_vret C0 h (Fr.tr (Fr.tr (Fr.tr (Fr.mono u_17 (by decide)) (Fr.mono u_25 (by decide))) (Fr.mono u_194 (by decide))) (Fr.mono u_197 (by decide))) (Eq.trans hs_207 hz_208) dX5_atom_177
      · -- 69
        refine y_c3 (n := 1000) C0 (by decide) dX5_atom_72 (fun v_209 e_210 => ?_)
        refine lv_goto (tgt := 154) C0.1 C0.2.1 dX5_atom_75 (by decide) ?_
        refine lv_istore_n (lv' := [(2, .int v_209), (0, .ref (ad 77)), (1, .int a1)]) C0.1 C0.2.1 dX5_atom_154 rfl hl (by decide) rfl (fun ls hl => ?_)
        refine lv_iload_n C0.1 C0.2.1 dX5_atom_155 rfl (lv_at hl 0 rfl) ?_
        refine y_if_ge (tgt := 165) C0 dX5_atom_156 (by decide) (fun c_211 => ?_) (fun c_211 => ((o62_48 e_210 c_211)).elim)
        refine lv_aload_n C0.1 C0.2.1 dX5_atom_165 rfl (lv_at hl 1 rfl) ?_
        refine tg_X5_law C0 h kSC_77 q_380 dX5_atom_166 (fun i_212 hi_212 => ?_)
        refine lv_iload_n C0.1 C0.2.1 dX5_atom_169 rfl (lv_at hl 0 rfl) ?_
        refine y_cv h (y_rV (As := [.int v_209]) (rest := []) C0 hZ h (c_X4_add l G Z ad _ h.2 i_212 hi_212 v_209) k_X4_add q_827 q_828 q_826 hi_212 rfl rfl rfl hl.1 rfl rfl (Nat.le_of_ble_eq_true rfl) dX5_atom_170 ⟨Nat.le_of_ble_eq_true rfl, Nat.le_of_ble_eq_true rfl⟩ ⟨Nat.le_of_ble_eq_true rfl, Nat.le_of_ble_eq_true rfl⟩) (fun H locs ws_213 h u_214 p_215 => ?_)
        refine lv_aload_n C0.1 C0.2.1 dX5_atom_173 rfl (lv_at hl 1 rfl) ?_
        refine y_cv h (y_rV (As := []) (rest := []) C0 hZ h (c_X5_advanceS l G Z ad _ h.2 ((Tp.fr (M := [2, 3]) hTp (Fr.tr (Fr.mono u_17 (by decide)) u_214) kSC_78 (by decide)))) k_X5_advance q_616 q_0 q_614 kSC_77 rfl rfl rfl hl.1 rfl rfl (Nat.le_of_ble_eq_true rfl) dX5_atom_174 ⟨Nat.le_of_ble_eq_true rfl, Nat.le_of_ble_eq_true rfl⟩ ⟨Nat.le_of_ble_eq_true rfl, Nat.le_of_ble_eq_true rfl⟩) (fun H locs ws_216 h u_217 p_218 => ?_)
        have e_219 := p_218
        have hv_220 : (aF 77 ws0) 4 = v_1.toInt := (aF_at (by decide) e_2)
        have hv_221 : (aF 77 ws0) 4 = v_8.toInt := (aF_at (by decide) e_9)
        have hq_222 := e_22
        have hs_223 : aF 77 ws_16 = (aF 77 ws0) := (aF_fr u_17 kSC_77 (by decide))
        have hs_224 : aF 77 ws_213 = (aF 77 ws0) := (aF_fr u_214 kSC_77 (by decide)).trans hs_223
        have hs_225 : aF 77 ws_216 = (advS T (aF 77 ws0)) := e_219.trans (congrArg (fun s => advS T s) hs_224)
        have hz_226 : (advS T (aF 77 ws0)) = atomD T 4 (aF 77 ws0) := by rw [atomD_4]; unfold atomF; (repeat' split) <;> first | rfl | (exfalso; omega)
        rw [hQ]
        exact y_vret C0 h (Fr.tr (Fr.tr (Fr.mono u_17 (by decide)) (Fr.mono u_214 (by decide))) (Fr.mono u_217 (by decide))) (Eq.trans hs_225 hz_226) dX5_atom_177
    · -- 32
      refine lv_aload_n C0.1 C0.2.1 dX5_atom_35 rfl (lv_at hl 0 rfl) ?_
      refine lv_iload_n C0.1 C0.2.1 dX5_atom_36 rfl (lv_at hl 1 rfl) ?_
      refine y_ci h (y_rV (As := [.int a1]) (rest := []) C0 hZ h (c_X5_tooDeep_2S l G Z ad _ h.2 a1 (o62_9 l1 u1) (o62_97 l1 u1)) k_X5_tooDeep q_832 q_18 q_830 kSC_77 rfl rfl rfl hl.1 rfl rfl (Nat.le_of_ble_eq_true rfl) dX5_atom_37 ⟨Nat.le_of_ble_eq_true rfl, Nat.le_of_ble_eq_true rfl⟩ ⟨Nat.le_of_ble_eq_true rfl, Nat.le_of_ble_eq_true rfl⟩) (fun r_230 H locs ws_227 h u_228 p_229 => ?_)
      obtain ⟨e_231, e_232, e_233⟩ := p_229
      refine y_if_ne (tgt := 177) C0 dX5_atom_40 (by decide) (fun c_234 => ((o62_71 e_231 e_232 c_234)).elim) (fun c_234 => ?_)
      refine lv_aload_n C0.1 C0.2.1 dX5_atom_43 rfl (lv_at hl 0 rfl) ?_
      refine y_cv h (y_rV (As := []) (rest := []) C0 hZ h (c_X5_advanceS l G Z ad _ h.2 ((Tp.fr (M := []) hTp u_228 kSC_78 (by decide)))) k_X5_advance q_616 q_0 q_614 kSC_77 rfl rfl rfl hl.1 rfl rfl (Nat.le_of_ble_eq_true rfl) dX5_atom_44 ⟨Nat.le_of_ble_eq_true rfl, Nat.le_of_ble_eq_true rfl⟩ ⟨Nat.le_of_ble_eq_true rfl, Nat.le_of_ble_eq_true rfl⟩) (fun H locs ws_235 h u_236 p_237 => ?_)
      have e_238 := p_237
      refine lv_aload_n C0.1 C0.2.1 dX5_atom_47 rfl (lv_at hl 0 rfl) ?_
      refine lv_iload_n C0.1 C0.2.1 dX5_atom_48 rfl (lv_at hl 1 rfl) ?_
      refine y_c1 (n := 1) C0 (by decide) dX5_atom_49 (fun v_239 e_240 => ?_)
      refine y_add C0 (o62_98 l1 u1 e_240 (le_min a1) (le_max a1) (le_min v_239) (le_max v_239)) (o62_99 l1 u1 e_240 (le_min a1) (le_max a1) (le_min v_239) (le_max v_239)) dX5_atom_50 (fun v_241 e_242 => ?_)
      refine y_cv h (y_rV (As := [.int v_241]) (rest := []) C0 hZ h (c_X5_sum_3S l G Z ad _ h.2 v_241 (o62_100 l1 u1 e_240 e_242) (o62_101 l1 u1 e_240 e_242) ((Tp.fr (M := [16]) hTp (Fr.tr (Fr.mono u_228 (by decide)) u_236) kSC_78 (by decide)))) k_X5_sum q_816 q_15 q_814 kSC_77 rfl rfl rfl hl.1 rfl rfl (Nat.le_of_ble_eq_true rfl) dX5_atom_51 ⟨Nat.le_of_ble_eq_true rfl, Nat.le_of_ble_eq_true rfl⟩ ⟨Nat.le_of_ble_eq_true rfl, Nat.le_of_ble_eq_true rfl⟩) (fun H locs ws_243 h u_244 p_245 => ?_)
      have e_246 := p_245
      refine lv_aload_n C0.1 C0.2.1 dX5_atom_54 rfl (lv_at hl 0 rfl) ?_
      refine y_c2 (n := 41) C0 (by decide) dX5_atom_55 (fun v_247 e_248 => ?_)
      refine y_cv h (y_rV (As := [.int v_247]) (rest := []) C0 hZ h (c_X5_signS l G Z ad _ h.2 v_247 (o62_76 e_248) (o62_77 e_248) ((Tp.fr (M := [2, 3, 16]) hTp (Fr.tr (Fr.tr (Fr.mono u_228 (by decide)) (Fr.mono u_236 (by decide))) u_244) kSC_78 (by decide)))) k_X5_sign q_812 q_14 q_810 kSC_77 rfl rfl rfl hl.1 rfl rfl (Nat.le_of_ble_eq_true rfl) dX5_atom_57 ⟨Nat.le_of_ble_eq_true rfl, Nat.le_of_ble_eq_true rfl⟩ ⟨Nat.le_of_ble_eq_true rfl, Nat.le_of_ble_eq_true rfl⟩) (fun H locs ws_249 h u_250 p_251 => ?_)
      have e_252 := p_251
      refine lv_goto (tgt := 177) C0.1 C0.2.1 dX5_atom_60 (by decide) ?_
      have hv_253 : (aF 77 ws0) 4 = v_1.toInt := (aF_at (by decide) e_2)
      have hv_254 : (aF 77 ws0) 4 = v_8.toInt := (aF_at (by decide) e_9)
      have hs_255 : aF 77 ws_227 = ((fun s => s) (aF 77 ws0)) := e_233
      have hs_256 : aF 77 ws_235 = (advS T ((fun s => s) (aF 77 ws0))) := e_238.trans (congrArg (fun s => advS T s) hs_255)
      have hs_257 : aF 77 ws_243 = (sumL T (atomD T 3) (advS T ((fun s => s) (aF 77 ws0)))) := e_246.trans (congrArg (fun s => sumL T (atomD T 3) s) hs_256)
      have hs_258 : aF 77 ws_249 = (signS T 41 (sumL T (atomD T 3) (advS T ((fun s => s) (aF 77 ws0))))) := e_252.trans ((congrArg (fun s => signS T v_247.toInt s) hs_257).trans (by rw [(o62_78 e_248)]))
      have hz_259 : (signS T 41 (sumL T (atomD T 3) (advS T ((fun s => s) (aF 77 ws0))))) = atomD T 4 (aF 77 ws0) := by rw [atomD_4]; unfold atomF; (repeat' split) <;> first | rfl | (exfalso; omega)
      rw [hQ]
      exact y_vret C0 h (Fr.tr (Fr.tr (Fr.tr (Fr.mono u_228 (by decide)) (Fr.mono u_236 (by decide))) u_244) (Fr.mono u_250 (by decide))) (Eq.trans hs_258 hz_259) dX5_atom_177
  · -- 5
    refine lv_aload_n C0.1 C0.2.1 dX5_atom_8 rfl (lv_at hl 0 rfl) ?_
    refine tg_X5_law C0 h kSC_77 q_380 dX5_atom_9 (fun i_260 hi_260 => ?_)
    refine lv_aload_n C0.1 C0.2.1 dX5_atom_12 rfl (lv_at hl 0 rfl) ?_
    refine tg_X5_number C0 h kSC_77 q_377 dX5_atom_13 (fun v_261 e_262 e_263 e_264 => ?_)
    refine y_cv h (y_rV (As := [.int v_261]) (rest := []) C0 hZ h (c_X4_add l G Z ad _ h.2 i_260 hi_260 v_261) k_X4_add q_827 q_828 q_826 hi_260 rfl rfl rfl hl.1 rfl rfl (Nat.le_of_ble_eq_true rfl) dX5_atom_16 ⟨Nat.le_of_ble_eq_true rfl, Nat.le_of_ble_eq_true rfl⟩ ⟨Nat.le_of_ble_eq_true rfl, Nat.le_of_ble_eq_true rfl⟩) (fun H locs ws_265 h u_266 p_267 => ?_)
    refine lv_aload_n C0.1 C0.2.1 dX5_atom_19 rfl (lv_at hl 0 rfl) ?_
    refine y_cv h (y_rV (As := []) (rest := []) C0 hZ h (c_X5_advanceS l G Z ad _ h.2 ((Tp.fr (M := [2, 3]) hTp u_266 kSC_78 (by decide)))) k_X5_advance q_616 q_0 q_614 kSC_77 rfl rfl rfl hl.1 rfl rfl (Nat.le_of_ble_eq_true rfl) dX5_atom_20 ⟨Nat.le_of_ble_eq_true rfl, Nat.le_of_ble_eq_true rfl⟩ ⟨Nat.le_of_ble_eq_true rfl, Nat.le_of_ble_eq_true rfl⟩) (fun H locs ws_268 h u_269 p_270 => ?_)
    have e_271 := p_270
    refine lv_goto (tgt := 177) C0.1 C0.2.1 dX5_atom_23 (by decide) ?_
    have hv_272 : (aF 77 ws0) 4 = v_1.toInt := (aF_at (by decide) e_2)
    have hv_273 : (aF 77 ws0) 7 = v_261.toInt := (aF_at (by decide) e_262)
    have hs_274 : aF 77 ws_265 = (aF 77 ws0) := (aF_fr u_266 kSC_77 (by decide))
    have hs_275 : aF 77 ws_268 = (advS T (aF 77 ws0)) := e_271.trans (congrArg (fun s => advS T s) hs_274)
    have hz_276 : (advS T (aF 77 ws0)) = atomD T 4 (aF 77 ws0) := by rw [atomD_4]; unfold atomF; (repeat' split) <;> first | rfl | (exfalso; omega)
    rw [hQ]
    exact y_vret C0 h (Fr.tr (Fr.mono u_266 (by decide)) (Fr.mono u_269 (by decide))) (Eq.trans hs_275 hz_276) dX5_atom_177
set_option maxHeartbeats 4000000 in
set_option maxRecDepth 100000 in
theorem c_X5_term_2S {T : Nat → Int} (l : Launch) (G : GG) (Z : RZ) (ad : Nat → Nat) (ws0 : va_W) (hT : Ty G (SC tt) ad ws0) (a1 : Int32) (l1 : 2 ≤ a1.toInt) (u1 : a1.toInt ≤ 2) (hTp : Tp T ws0) : Mq l yX5_term cX5_term 3 none 19 G Z [.ref (ad 77), .int a1] ws0 (PV G (SC tt) ad [2, 3, 16] ws0 (fun u => (aF 77 u = termL T (atomD T 4) (aF 77 ws0)))) := by
  refine Mq.start (by decide) (Nat.le_of_ble_eq_true rfl) ?_
  intro p e s m below meth c A ls C0 hZ h hl
  have hl : lv_has ls 3 [(0, .ref (ad 77)), (1, .int a1)] := hl
  have h : Wt G (SC tt) ad A s s.heap [] ws0 := ⟨h, hT⟩
  obtain ⟨args, hargs⟩ : ∃ z, z = ([.ref (ad 77), .int a1] : List Value).toArray := ⟨_, rfl⟩
  rw [← hargs] at C0 ⊢
  have C0 : Cx p s m args meth c RX5 cX5_term 3 none := C0
  obtain ⟨Q, hQ⟩ : ∃ z, z = MQ below ((PV G (SC tt) ad [2, 3, 16] ws0 (fun u => (aF 77 u = termL T (atomD T 4) (aF 77 ws0)))) A) args s 0 0 A := ⟨_, rfl⟩
  rw [← hQ]
  refine lv_aload_n C0.1 C0.2.1 dX5_term_0 rfl (lv_at hl 0 rfl) ?_
  refine lv_iload_n C0.1 C0.2.1 dX5_term_1 rfl (lv_at hl 1 rfl) ?_
  refine y_cv h (y_rV (As := [.int a1]) (rest := []) C0 hZ h (c_X5_atom_2S l G Z ad _ h.2 a1 (o62_9 l1 u1) (o62_97 l1 u1) hTp) k_X5_atom q_824 q_17 q_822 kSC_77 rfl rfl rfl hl.1 rfl rfl (Nat.le_of_ble_eq_true rfl) dX5_term_2 ⟨Nat.le_of_ble_eq_true rfl, Nat.le_of_ble_eq_true rfl⟩ ⟨Nat.le_of_ble_eq_true rfl, Nat.le_of_ble_eq_true rfl⟩) (fun H locs ws_1 h u_2 p_3 => ?_)
  have e_4 := p_3
  refine y_c1 (n := 0) C0 (by decide) dX5_term_5 (fun v_5 e_6 => ?_)
  refine lv_istore_n (lv' := [(2, .int v_5), (0, .ref (ad 77)), (1, .int a1)]) C0.1 C0.2.1 dX5_term_6 rfl hl (by decide) rfl (fun ls hl => ?_)
  have lp_10 : ∀ (n_12 : Nat) (x2_7 : Int32) (H : Heap) (locs : List Loc) (ls : Array Slot) (ws_8 : va_W), 900 - x2_7.toInt < (n_12 : Int) → 0 ≤ x2_7.toInt → x2_7.toInt ≤ 900 → (lpS (fun s => s 4 = 42) (fun s => atomD T 4 (advS T s)) (900 - x2_7.toInt).toNat (aF 77 ws_8) = termL T (atomD T 4) (aF 77 ws0)) → Wt G (SC tt) ad A s H locs ws_8 → Fr (SC tt) [2, 3, 16] ws_1 ws_8 → lv_has ls 3 [(2, .int x2_7), (0, .ref (ad 77)), (1, .int a1)] → W p l e (rmd 19 0 0) s m args below meth c H locs 0 0 Q (F0 m 7 ls []) := by
    intro n_12
    induction n_12 with
    | zero => intro x2_7 H locs ls ws_8 hn_13 b_14 b_15 hSp h hF_9 hl; exact ((o62_52 b_14 b_15 hn_13)).elim
    | succ n_12 ih_11 =>
      intro x2_7 H locs ls ws_8 hn_13 b_14 b_15 hSp h hF_9 hl
      refine lv_iload_n C0.1 C0.2.1 dX5_term_7 rfl (lv_at hl 0 rfl) ?_
      refine y_c3 (n := 900) C0 (by decide) dX5_term_8 (fun v_16 e_17 => ?_)
      refine y_icmp_ge (tgt := 48) C0 dX5_term_11 (by decide) (fun c_18 => ?_) (fun c_18 => ?_)
      · -- 11
        have hz_19 : (aF 77 ws_8) = lpS (fun s => s 4 = 42) (fun s => atomD T 4 (advS T s)) (900 - x2_7.toInt).toNat (aF 77 ws_8) := by first | (exfalso; omega) | exact (lp_0 (by omega)).symm | exact (lp_e (by omega)).symm
        rw [hQ]
        exact y_vret C0 h (Fr.tr u_2 hF_9) (Eq.trans rfl (Eq.trans hz_19 hSp)) dX5_term_48
      · -- 11
        refine lv_aload_n C0.1 C0.2.1 dX5_term_14 rfl (lv_at hl 1 rfl) ?_
        refine tg_X5_kind C0 h kSC_77 q_374 dX5_term_15 (fun v_20 e_21 e_22 e_23 => ?_)
        refine y_c2 (n := 42) C0 (by decide) dX5_term_18 (fun v_24 e_25 => ?_)
        refine y_icmp_ne (tgt := 48) C0 dX5_term_20 (by decide) (fun c_26 => ?_) (fun c_26 => ?_)
        · -- 20
          have hv_27 : (aF 77 ws_8) 4 = v_20.toInt := (aF_at (by decide) e_21)
          have hz_28 : (aF 77 ws_8) = lpS (fun s => s 4 = 42) (fun s => atomD T 4 (advS T s)) (900 - x2_7.toInt).toNat (aF 77 ws_8) := by first | (exfalso; omega) | exact (lp_0 (by omega)).symm | exact (lp_e (by omega)).symm
          rw [hQ]
          exact y_vret C0 h (Fr.tr u_2 hF_9) (Eq.trans rfl (Eq.trans hz_28 hSp)) dX5_term_48
        · -- 20
          refine lv_aload_n C0.1 C0.2.1 dX5_term_23 rfl (lv_at hl 1 rfl) ?_
          refine y_cv h (y_rV (As := []) (rest := []) C0 hZ h (c_X5_advanceS l G Z ad _ h.2 ((Tp.fr (M := [2, 3, 16]) hTp (Fr.tr u_2 hF_9) kSC_78 (by decide)))) k_X5_advance q_616 q_0 q_614 kSC_77 rfl rfl rfl hl.1 rfl rfl (Nat.le_of_ble_eq_true rfl) dX5_term_24 ⟨Nat.le_of_ble_eq_true rfl, Nat.le_of_ble_eq_true rfl⟩ ⟨Nat.le_of_ble_eq_true rfl, Nat.le_of_ble_eq_true rfl⟩) (fun H locs ws_29 h u_30 p_31 => ?_)
          have e_32 := p_31
          refine lv_aload_n C0.1 C0.2.1 dX5_term_27 rfl (lv_at hl 1 rfl) ?_
          refine lv_iload_n C0.1 C0.2.1 dX5_term_28 rfl (lv_at hl 2 rfl) ?_
          refine y_cv h (y_rV (As := [.int a1]) (rest := []) C0 hZ h (c_X5_atom_2S l G Z ad _ h.2 a1 (o62_9 l1 u1) (o62_97 l1 u1) ((Tp.fr (M := [2, 3, 16]) hTp (Fr.tr (Fr.tr u_2 hF_9) (Fr.mono u_30 (by decide))) kSC_78 (by decide)))) k_X5_atom q_824 q_17 q_822 kSC_77 rfl rfl rfl hl.1 rfl rfl (Nat.le_of_ble_eq_true rfl) dX5_term_29 ⟨Nat.le_of_ble_eq_true rfl, Nat.le_of_ble_eq_true rfl⟩ ⟨Nat.le_of_ble_eq_true rfl, Nat.le_of_ble_eq_true rfl⟩) (fun H locs ws_33 h u_34 p_35 => ?_)
          have e_36 := p_35
          refine lv_aload_n C0.1 C0.2.1 dX5_term_32 rfl (lv_at hl 1 rfl) ?_
          refine tg_X5_law C0 h kSC_77 q_380 dX5_term_33 (fun i_37 hi_37 => ?_)
          refine y_c3 (n := 2002) C0 (by decide) dX5_term_36 (fun v_38 e_39 => ?_)
          refine y_cv h (y_rV (As := [.int v_38]) (rest := []) C0 hZ h (c_X4_add l G Z ad _ h.2 i_37 hi_37 v_38) k_X4_add q_827 q_828 q_826 hi_37 rfl rfl rfl hl.1 rfl rfl (Nat.le_of_ble_eq_true rfl) dX5_term_39 ⟨Nat.le_of_ble_eq_true rfl, Nat.le_of_ble_eq_true rfl⟩ ⟨Nat.le_of_ble_eq_true rfl, Nat.le_of_ble_eq_true rfl⟩) (fun H locs ws_40 h u_41 p_42 => ?_)
          refine y_inc (kp := 0) (n := 1) (fun v_43 => [(2, .int v_43), (0, .ref (ad 77)), (1, .int a1)]) C0 hl rfl (by decide) (by decide) (fun _ => rfl) (o62_53 b_14 b_15 hn_13 e_17 c_18 (le_min x2_7) (le_max x2_7) (le_min v_16) (le_max v_16)) (o62_54 b_14 b_15 hn_13 e_17 c_18 (le_min x2_7) (le_max x2_7) (le_min v_16) (le_max v_16)) dX5_term_42 (fun v_43 ls e_44 hl => ?_)
          refine lv_goto (tgt := 7) C0.1 C0.2.1 dX5_term_45 (by decide) ?_
          have hv_45 : (aF 77 ws_8) 4 = v_20.toInt := (aF_at (by decide) e_21)
          have hs_46 : aF 77 ws_29 = (advS T (aF 77 ws_8)) := e_32
          have hs_47 : aF 77 ws_33 = (atomD T 4 (advS T (aF 77 ws_8))) := e_36.trans (congrArg (fun s => atomD T 4 s) hs_46)
          have hs_48 : aF 77 ws_40 = (atomD T 4 (advS T (aF 77 ws_8))) := (aF_fr u_41 kSC_77 (by decide)).trans hs_47
          exact ih_11 v_43 _ _ _ _ (o62_55 b_14 b_15 hn_13 e_17 c_18 e_44) (o62_56 b_14 b_15 hn_13 e_17 c_18 e_44) (o62_57 b_14 b_15 hn_13 e_17 c_18 e_44) ((by rw [hs_48]; exact (lp_s (by omega) (by omega) (by omega) (by omega)).trans hSp)) h (Fr.tr (Fr.tr (Fr.tr hF_9 (Fr.mono u_30 (by decide))) u_34) (Fr.mono u_41 (by decide))) (lv_sub hl [0, 1, 2] rfl)
  have hs_49 : aF 77 ws_1 = (atomD T 4 (aF 77 ws0)) := e_4
  exact lp_10 ((900 - v_5.toInt + 1).toNat) v_5 _ _ _ _ (o62_58 e_6) (o62_59 e_6) (o62_60 e_6) ((by rw [show (900 - v_5.toInt).toNat = 900 by omega, hs_49]; rfl)) h Fr.rf (lv_sub hl [0, 1, 2] rfl)
set_option maxHeartbeats 4000000 in
set_option maxRecDepth 100000 in
theorem c_X5_sum_2S {T : Nat → Int} (l : Launch) (G : GG) (Z : RZ) (ad : Nat → Nat) (ws0 : va_W) (hT : Ty G (SC tt) ad ws0) (a1 : Int32) (l1 : 2 ≤ a1.toInt) (u1 : a1.toInt ≤ 2) (hTp : Tp T ws0) : Mq l yX5_sum cX5_sum 4 none 20 G Z [.ref (ad 77), .int a1] ws0 (PV G (SC tt) ad [2, 3, 16] ws0 (fun u => (aF 77 u = sumL T (atomD T 4) (aF 77 ws0)))) := by
  refine Mq.start (by decide) (Nat.le_of_ble_eq_true rfl) ?_
  intro p e s m below meth c A ls C0 hZ h hl
  have hl : lv_has ls 4 [(0, .ref (ad 77)), (1, .int a1)] := hl
  have h : Wt G (SC tt) ad A s s.heap [] ws0 := ⟨h, hT⟩
  obtain ⟨args, hargs⟩ : ∃ z, z = ([.ref (ad 77), .int a1] : List Value).toArray := ⟨_, rfl⟩
  rw [← hargs] at C0 ⊢
  have C0 : Cx p s m args meth c RX5 cX5_sum 4 none := C0
  obtain ⟨Q, hQ⟩ : ∃ z, z = MQ below ((PV G (SC tt) ad [2, 3, 16] ws0 (fun u => (aF 77 u = sumL T (atomD T 4) (aF 77 ws0)))) A) args s 0 0 A := ⟨_, rfl⟩
  rw [← hQ]
  refine lv_aload_n C0.1 C0.2.1 dX5_sum_0 rfl (lv_at hl 0 rfl) ?_
  refine lv_iload_n C0.1 C0.2.1 dX5_sum_1 rfl (lv_at hl 1 rfl) ?_
  refine y_cv h (y_rV (As := [.int a1]) (rest := []) C0 hZ h (c_X5_term_2S l G Z ad _ h.2 a1 (o62_9 l1 u1) (o62_97 l1 u1) hTp) k_X5_term q_820 q_16 q_818 kSC_77 rfl rfl rfl hl.1 rfl rfl (Nat.le_of_ble_eq_true rfl) dX5_sum_2 ⟨Nat.le_of_ble_eq_true rfl, Nat.le_of_ble_eq_true rfl⟩ ⟨Nat.le_of_ble_eq_true rfl, Nat.le_of_ble_eq_true rfl⟩) (fun H locs ws_1 h u_2 p_3 => ?_)
  have e_4 := p_3
  refine y_c1 (n := 0) C0 (by decide) dX5_sum_5 (fun v_5 e_6 => ?_)
  refine lv_istore_n (lv' := [(2, .int v_5), (0, .ref (ad 77)), (1, .int a1)]) C0.1 C0.2.1 dX5_sum_6 rfl hl (by decide) rfl (fun ls hl => ?_)
  have lp_10 : ∀ (n_12 : Nat) (x2_7 : Int32) (H : Heap) (locs : List Loc) (ls : Array Slot) (ws_8 : va_W), 900 - x2_7.toInt < (n_12 : Int) → 0 ≤ x2_7.toInt → x2_7.toInt ≤ 900 → (lpS (fun s => s 4 = 43 ∨ s 4 = 45) (fun s => termL T (atomD T 4) (advS T s)) (900 - x2_7.toInt).toNat (aF 77 ws_8) = sumL T (atomD T 4) (aF 77 ws0)) → Wt G (SC tt) ad A s H locs ws_8 → Fr (SC tt) [2, 3, 16] ws_1 ws_8 → lv_has ls 4 [(2, .int x2_7), (0, .ref (ad 77)), (1, .int a1)] → W p l e (rmd 20 0 0) s m args below meth c H locs 0 0 Q (F0 m 7 ls []) := by
    intro n_12
    induction n_12 with
    | zero => intro x2_7 H locs ls ws_8 hn_13 b_14 b_15 hSp h hF_9 hl; exact ((o62_52 b_14 b_15 hn_13)).elim
    | succ n_12 ih_11 =>
      intro x2_7 H locs ls ws_8 hn_13 b_14 b_15 hSp h hF_9 hl
      refine lv_iload_n C0.1 C0.2.1 dX5_sum_7 rfl (lv_at hl 0 rfl) ?_
      refine y_c3 (n := 900) C0 (by decide) dX5_sum_8 (fun v_16 e_17 => ?_)
      refine y_icmp_ge (tgt := 74) C0 dX5_sum_11 (by decide) (fun c_18 => ?_) (fun c_18 => ?_)
      · -- 11
        have hz_19 : (aF 77 ws_8) = lpS (fun s => s 4 = 43 ∨ s 4 = 45) (fun s => termL T (atomD T 4) (advS T s)) (900 - x2_7.toInt).toNat (aF 77 ws_8) := by first | (exfalso; omega) | exact (lp_0 (by omega)).symm | exact (lp_e (by omega)).symm
        rw [hQ]
        exact y_vret C0 h (Fr.tr u_2 hF_9) (Eq.trans rfl (Eq.trans hz_19 hSp)) dX5_sum_74
      · -- 11
        refine lv_aload_n C0.1 C0.2.1 dX5_sum_14 rfl (lv_at hl 1 rfl) ?_
        refine tg_X5_kind C0 h kSC_77 q_374 dX5_sum_15 (fun v_20 e_21 e_22 e_23 => ?_)
        refine y_c2 (n := 43) C0 (by decide) dX5_sum_18 (fun v_24 e_25 => ?_)
        refine y_icmp_eq (tgt := 32) C0 dX5_sum_20 (by decide) (fun c_26 => ?_) (fun c_26 => ?_)
        · -- 20
          refine lv_aload_n C0.1 C0.2.1 dX5_sum_32 rfl (lv_at hl 1 rfl) ?_
          refine tg_X5_kind C0 h kSC_77 q_374 dX5_sum_33 (fun v_27 e_28 e_29 e_30 => ?_)
          have q_31 : v_27.toInt = v_20.toInt := congrArg Int32.toInt (e_28.symm.trans (Eq.trans rfl e_21))
          refine y_c2 (n := 43) C0 (by decide) dX5_sum_36 (fun v_32 e_33 => ?_)
          refine y_icmp_ne (tgt := 47) C0 dX5_sum_38 (by decide) (fun c_34 => ((o62_61 e_25 c_26 q_31 e_33 c_34)).elim) (fun c_34 => ?_)
          refine y_c3 (n := 2000) C0 (by decide) dX5_sum_41 (fun v_35 e_36 => ?_)
          refine lv_goto (tgt := 50) C0.1 C0.2.1 dX5_sum_44 (by decide) ?_
          refine lv_istore_n (lv' := [(3, .int v_35), (2, .int x2_7), (0, .ref (ad 77)), (1, .int a1)]) C0.1 C0.2.1 dX5_sum_50 rfl hl (by decide) rfl (fun ls hl => ?_)
          refine lv_aload_n C0.1 C0.2.1 dX5_sum_51 rfl (lv_at hl 2 rfl) ?_
          refine y_cv h (y_rV (As := []) (rest := []) C0 hZ h (c_X5_advanceS l G Z ad _ h.2 ((Tp.fr (M := [2, 3, 16]) hTp (Fr.tr u_2 hF_9) kSC_78 (by decide)))) k_X5_advance q_616 q_0 q_614 kSC_77 rfl rfl rfl hl.1 rfl rfl (Nat.le_of_ble_eq_true rfl) dX5_sum_52 ⟨Nat.le_of_ble_eq_true rfl, Nat.le_of_ble_eq_true rfl⟩ ⟨Nat.le_of_ble_eq_true rfl, Nat.le_of_ble_eq_true rfl⟩) (fun H locs ws_37 h u_38 p_39 => ?_)
          have e_40 := p_39
          refine lv_aload_n C0.1 C0.2.1 dX5_sum_55 rfl (lv_at hl 2 rfl) ?_
          refine lv_iload_n C0.1 C0.2.1 dX5_sum_56 rfl (lv_at hl 3 rfl) ?_
          refine y_cv h (y_rV (As := [.int a1]) (rest := []) C0 hZ h (c_X5_term_2S l G Z ad _ h.2 a1 (o62_9 l1 u1) (o62_97 l1 u1) ((Tp.fr (M := [2, 3, 16]) hTp (Fr.tr (Fr.tr u_2 hF_9) (Fr.mono u_38 (by decide))) kSC_78 (by decide)))) k_X5_term q_820 q_16 q_818 kSC_77 rfl rfl rfl hl.1 rfl rfl (Nat.le_of_ble_eq_true rfl) dX5_sum_57 ⟨Nat.le_of_ble_eq_true rfl, Nat.le_of_ble_eq_true rfl⟩ ⟨Nat.le_of_ble_eq_true rfl, Nat.le_of_ble_eq_true rfl⟩) (fun H locs ws_41 h u_42 p_43 => ?_)
          have e_44 := p_43
          refine lv_aload_n C0.1 C0.2.1 dX5_sum_60 rfl (lv_at hl 2 rfl) ?_
          refine tg_X5_law C0 h kSC_77 q_380 dX5_sum_61 (fun i_45 hi_45 => ?_)
          refine lv_iload_n C0.1 C0.2.1 dX5_sum_64 rfl (lv_at hl 0 rfl) ?_
          refine y_cv h (y_rV (As := [.int v_35]) (rest := []) C0 hZ h (c_X4_add l G Z ad _ h.2 i_45 hi_45 v_35) k_X4_add q_827 q_828 q_826 hi_45 rfl rfl rfl hl.1 rfl rfl (Nat.le_of_ble_eq_true rfl) dX5_sum_65 ⟨Nat.le_of_ble_eq_true rfl, Nat.le_of_ble_eq_true rfl⟩ ⟨Nat.le_of_ble_eq_true rfl, Nat.le_of_ble_eq_true rfl⟩) (fun H locs ws_46 h u_47 p_48 => ?_)
          refine y_inc (kp := 1) (n := 1) (fun v_49 => [(2, .int v_49), (3, .int v_35), (0, .ref (ad 77)), (1, .int a1)]) C0 hl rfl (by decide) (by decide) (fun _ => rfl) (o62_53 b_14 b_15 hn_13 e_17 c_18 (le_min x2_7) (le_max x2_7) (le_min v_16) (le_max v_16)) (o62_54 b_14 b_15 hn_13 e_17 c_18 (le_min x2_7) (le_max x2_7) (le_min v_16) (le_max v_16)) dX5_sum_68 (fun v_49 ls e_50 hl => ?_)
          refine lv_goto (tgt := 7) C0.1 C0.2.1 dX5_sum_71 (by decide) ?_
          have hv_51 : (aF 77 ws_8) 4 = v_20.toInt := (aF_at (by decide) e_21)
          have hv_52 : (aF 77 ws_8) 4 = v_27.toInt := (aF_at (by decide) e_28)
          have hs_53 : aF 77 ws_37 = (advS T (aF 77 ws_8)) := e_40
          have hs_54 : aF 77 ws_41 = (termL T (atomD T 4) (advS T (aF 77 ws_8))) := e_44.trans (congrArg (fun s => termL T (atomD T 4) s) hs_53)
          have hs_55 : aF 77 ws_46 = (termL T (atomD T 4) (advS T (aF 77 ws_8))) := (aF_fr u_47 kSC_77 (by decide)).trans hs_54
          exact ih_11 v_49 _ _ _ _ (o62_55 b_14 b_15 hn_13 e_17 c_18 e_50) (o62_56 b_14 b_15 hn_13 e_17 c_18 e_50) (o62_57 b_14 b_15 hn_13 e_17 c_18 e_50) ((by rw [hs_55]; exact (lp_s (by omega) (by omega) (by omega) (by omega)).trans hSp)) h (Fr.tr (Fr.tr (Fr.tr hF_9 (Fr.mono u_38 (by decide))) u_42) (Fr.mono u_47 (by decide))) (lv_sub hl [0, 2, 3] rfl)
        · -- 20
          refine lv_aload_n C0.1 C0.2.1 dX5_sum_23 rfl (lv_at hl 1 rfl) ?_
          refine tg_X5_kind C0 h kSC_77 q_374 dX5_sum_24 (fun v_56 e_57 e_58 e_59 => ?_)
          have q_60 : v_56.toInt = v_20.toInt := congrArg Int32.toInt (e_57.symm.trans (Eq.trans rfl e_21))
          refine y_c2 (n := 45) C0 (by decide) dX5_sum_27 (fun v_61 e_62 => ?_)
          refine y_icmp_ne (tgt := 74) C0 dX5_sum_29 (by decide) (fun c_63 => ?_) (fun c_63 => ?_)
          · -- 29
            have hv_64 : (aF 77 ws_8) 4 = v_20.toInt := (aF_at (by decide) e_21)
            have hv_65 : (aF 77 ws_8) 4 = v_56.toInt := (aF_at (by decide) e_57)
            have hz_66 : (aF 77 ws_8) = lpS (fun s => s 4 = 43 ∨ s 4 = 45) (fun s => termL T (atomD T 4) (advS T s)) (900 - x2_7.toInt).toNat (aF 77 ws_8) := by first | (exfalso; omega) | exact (lp_0 (by omega)).symm | exact (lp_e (by omega)).symm
            rw [hQ]
            exact y_vret C0 h (Fr.tr u_2 hF_9) (Eq.trans rfl (Eq.trans hz_66 hSp)) dX5_sum_74
          · -- 29
            refine lv_aload_n C0.1 C0.2.1 dX5_sum_32 rfl (lv_at hl 1 rfl) ?_
            refine tg_X5_kind C0 h kSC_77 q_374 dX5_sum_33 (fun v_67 e_68 e_69 e_70 => ?_)
            have q_71 : v_67.toInt = v_20.toInt := congrArg Int32.toInt (e_68.symm.trans (Eq.trans rfl e_21))
            refine y_c2 (n := 43) C0 (by decide) dX5_sum_36 (fun v_72 e_73 => ?_)
            refine y_icmp_ne (tgt := 47) C0 dX5_sum_38 (by decide) (fun c_74 => ?_) (fun c_74 => ((o62_62 e_25 c_26 q_60 e_62 c_63 q_71 e_73 c_74)).elim)
            refine y_c3 (n := 2001) C0 (by decide) dX5_sum_47 (fun v_75 e_76 => ?_)
            refine lv_istore_n (lv' := [(3, .int v_75), (2, .int x2_7), (0, .ref (ad 77)), (1, .int a1)]) C0.1 C0.2.1 dX5_sum_50 rfl hl (by decide) rfl (fun ls hl => ?_)
            refine lv_aload_n C0.1 C0.2.1 dX5_sum_51 rfl (lv_at hl 2 rfl) ?_
            refine y_cv h (y_rV (As := []) (rest := []) C0 hZ h (c_X5_advanceS l G Z ad _ h.2 ((Tp.fr (M := [2, 3, 16]) hTp (Fr.tr u_2 hF_9) kSC_78 (by decide)))) k_X5_advance q_616 q_0 q_614 kSC_77 rfl rfl rfl hl.1 rfl rfl (Nat.le_of_ble_eq_true rfl) dX5_sum_52 ⟨Nat.le_of_ble_eq_true rfl, Nat.le_of_ble_eq_true rfl⟩ ⟨Nat.le_of_ble_eq_true rfl, Nat.le_of_ble_eq_true rfl⟩) (fun H locs ws_77 h u_78 p_79 => ?_)
            have e_80 := p_79
            refine lv_aload_n C0.1 C0.2.1 dX5_sum_55 rfl (lv_at hl 2 rfl) ?_
            refine lv_iload_n C0.1 C0.2.1 dX5_sum_56 rfl (lv_at hl 3 rfl) ?_
            refine y_cv h (y_rV (As := [.int a1]) (rest := []) C0 hZ h (c_X5_term_2S l G Z ad _ h.2 a1 (o62_9 l1 u1) (o62_97 l1 u1) ((Tp.fr (M := [2, 3, 16]) hTp (Fr.tr (Fr.tr u_2 hF_9) (Fr.mono u_78 (by decide))) kSC_78 (by decide)))) k_X5_term q_820 q_16 q_818 kSC_77 rfl rfl rfl hl.1 rfl rfl (Nat.le_of_ble_eq_true rfl) dX5_sum_57 ⟨Nat.le_of_ble_eq_true rfl, Nat.le_of_ble_eq_true rfl⟩ ⟨Nat.le_of_ble_eq_true rfl, Nat.le_of_ble_eq_true rfl⟩) (fun H locs ws_81 h u_82 p_83 => ?_)
            have e_84 := p_83
            refine lv_aload_n C0.1 C0.2.1 dX5_sum_60 rfl (lv_at hl 2 rfl) ?_
            refine tg_X5_law C0 h kSC_77 q_380 dX5_sum_61 (fun i_85 hi_85 => ?_)
            refine lv_iload_n C0.1 C0.2.1 dX5_sum_64 rfl (lv_at hl 0 rfl) ?_
            refine y_cv h (y_rV (As := [.int v_75]) (rest := []) C0 hZ h (c_X4_add l G Z ad _ h.2 i_85 hi_85 v_75) k_X4_add q_827 q_828 q_826 hi_85 rfl rfl rfl hl.1 rfl rfl (Nat.le_of_ble_eq_true rfl) dX5_sum_65 ⟨Nat.le_of_ble_eq_true rfl, Nat.le_of_ble_eq_true rfl⟩ ⟨Nat.le_of_ble_eq_true rfl, Nat.le_of_ble_eq_true rfl⟩) (fun H locs ws_86 h u_87 p_88 => ?_)
            refine y_inc (kp := 1) (n := 1) (fun v_89 => [(2, .int v_89), (3, .int v_75), (0, .ref (ad 77)), (1, .int a1)]) C0 hl rfl (by decide) (by decide) (fun _ => rfl) (o62_53 b_14 b_15 hn_13 e_17 c_18 (le_min x2_7) (le_max x2_7) (le_min v_16) (le_max v_16)) (o62_54 b_14 b_15 hn_13 e_17 c_18 (le_min x2_7) (le_max x2_7) (le_min v_16) (le_max v_16)) dX5_sum_68 (fun v_89 ls e_90 hl => ?_)
            refine lv_goto (tgt := 7) C0.1 C0.2.1 dX5_sum_71 (by decide) ?_
            have hv_91 : (aF 77 ws_8) 4 = v_20.toInt := (aF_at (by decide) e_21)
            have hv_92 : (aF 77 ws_8) 4 = v_56.toInt := (aF_at (by decide) e_57)
            have hv_93 : (aF 77 ws_8) 4 = v_67.toInt := (aF_at (by decide) e_68)
            have hs_94 : aF 77 ws_77 = (advS T (aF 77 ws_8)) := e_80
            have hs_95 : aF 77 ws_81 = (termL T (atomD T 4) (advS T (aF 77 ws_8))) := e_84.trans (congrArg (fun s => termL T (atomD T 4) s) hs_94)
            have hs_96 : aF 77 ws_86 = (termL T (atomD T 4) (advS T (aF 77 ws_8))) := (aF_fr u_87 kSC_77 (by decide)).trans hs_95
            exact ih_11 v_89 _ _ _ _ (o62_55 b_14 b_15 hn_13 e_17 c_18 e_90) (o62_56 b_14 b_15 hn_13 e_17 c_18 e_90) (o62_57 b_14 b_15 hn_13 e_17 c_18 e_90) ((by rw [hs_96]; exact (lp_s (by omega) (by omega) (by omega) (by omega)).trans hSp)) h (Fr.tr (Fr.tr (Fr.tr hF_9 (Fr.mono u_78 (by decide))) u_82) (Fr.mono u_87 (by decide))) (lv_sub hl [0, 2, 3] rfl)
  have hs_97 : aF 77 ws_1 = (termL T (atomD T 4) (aF 77 ws0)) := e_4
  exact lp_10 ((900 - v_5.toInt + 1).toNat) v_5 _ _ _ _ (o62_58 e_6) (o62_59 e_6) (o62_60 e_6) ((by rw [show (900 - v_5.toInt).toNat = 900 by omega, hs_97]; rfl)) h Fr.rf (lv_sub hl [0, 1, 2] rfl)
set_option maxHeartbeats 4000000 in
set_option maxRecDepth 100000 in
theorem c_X5_unit_2S {T : Nat → Int} (l : Launch) (G : GG) (Z : RZ) (ad : Nat → Nat) (ws0 : va_W) (hT : Ty G (SC tt) ad ws0) (a1 : Int32) (l1 : 2 ≤ a1.toInt) (u1 : a1.toInt ≤ 2) (hTp : Tp T ws0) : Mq l yX5_unit cX5_unit 3 none 21 G Z [.ref (ad 77), .int a1] ws0 (PV G (SC tt) ad [2, 3, 16] ws0 (fun u => (aF 77 u = unitD T 4 (aF 77 ws0)))) := by
  refine Mq.start (by decide) (Nat.le_of_ble_eq_true rfl) ?_
  intro p e s m below meth c A ls C0 hZ h hl
  have hl : lv_has ls 3 [(0, .ref (ad 77)), (1, .int a1)] := hl
  have h : Wt G (SC tt) ad A s s.heap [] ws0 := ⟨h, hT⟩
  obtain ⟨args, hargs⟩ : ∃ z, z = ([.ref (ad 77), .int a1] : List Value).toArray := ⟨_, rfl⟩
  rw [← hargs] at C0 ⊢
  have C0 : Cx p s m args meth c RX5 cX5_unit 3 none := C0
  obtain ⟨Q, hQ⟩ : ∃ z, z = MQ below ((PV G (SC tt) ad [2, 3, 16] ws0 (fun u => (aF 77 u = unitD T 4 (aF 77 ws0)))) A) args s 0 0 A := ⟨_, rfl⟩
  rw [← hQ]
  refine lv_aload_n C0.1 C0.2.1 dX5_unit_0 rfl (lv_at hl 0 rfl) ?_
  refine va_ldcS C0.1 C0.2.1 C0.2.2.2.1 (sr_19 hZ) dX5_unit_1 ?_
  refine y_ci h (y_rV (As := [.ref (Z.2.1 19)]) (rest := []) C0 hZ h (c_X5_isWordS l G Z ad _ h.2 19 (by decide) hTp) k_X5_isWord q_724 q_5 q_722 kSC_77 rfl rfl rfl hl.1 rfl rfl (Nat.le_of_ble_eq_true rfl) dX5_unit_3 ⟨Nat.le_of_ble_eq_true rfl, Nat.le_of_ble_eq_true rfl⟩ ⟨Nat.le_of_ble_eq_true rfl, Nat.le_of_ble_eq_true rfl⟩) (fun r_4 H locs ws_1 h u_2 p_3 => ?_)
  obtain ⟨e_5, e_6, e_7⟩ := p_3
  refine y_if_eq (tgt := 49) C0 dX5_unit_6 (by decide) (fun c_8 => ?_) (fun c_8 => ?_)
  · -- 6
    refine lv_aload_n C0.1 C0.2.1 dX5_unit_49 rfl (lv_at hl 0 rfl) ?_
    refine tg_X5_kind C0 h kSC_77 q_374 dX5_unit_50 (fun v_9 e_10 e_11 e_12 => ?_)
    refine y_c2 (n := 91) C0 (by decide) dX5_unit_53 (fun v_13 e_14 => ?_)
    refine y_icmp_ne (tgt := 86) C0 dX5_unit_55 (by decide) (fun c_15 => ?_) (fun c_15 => ?_)
    · -- 55
      refine lv_aload_n C0.1 C0.2.1 dX5_unit_86 rfl (lv_at hl 0 rfl) ?_
      refine lv_iload_n C0.1 C0.2.1 dX5_unit_87 rfl (lv_at hl 1 rfl) ?_
      refine y_cv h (y_rV (As := [.int a1]) (rest := []) C0 hZ h (c_X5_sum_2S l G Z ad _ h.2 a1 (o62_9 l1 u1) (o62_97 l1 u1) ((Tp.fr (M := []) hTp u_2 kSC_78 (by decide)))) k_X5_sum q_816 q_15 q_814 kSC_77 rfl rfl rfl hl.1 rfl rfl (Nat.le_of_ble_eq_true rfl) dX5_unit_88 ⟨Nat.le_of_ble_eq_true rfl, Nat.le_of_ble_eq_true rfl⟩ ⟨Nat.le_of_ble_eq_true rfl, Nat.le_of_ble_eq_true rfl⟩) (fun H locs ws_16 h u_17 p_18 => ?_)
      have e_19 := p_18
      refine lv_aload_n C0.1 C0.2.1 dX5_unit_91 rfl (lv_at hl 0 rfl) ?_
      refine tg_X5_kind C0 h kSC_77 q_374 dX5_unit_92 (fun v_20 e_21 e_22 e_23 => ?_)
      refine y_c2 (n := 61) C0 (by decide) dX5_unit_95 (fun v_24 e_25 => ?_)
      refine y_icmp_ne (tgt := 106) C0 dX5_unit_97 (by decide) (fun c_26 => ?_) (fun c_26 => ?_)
      · -- 97
        refine lv_aload_n C0.1 C0.2.1 dX5_unit_106 rfl (lv_at hl 0 rfl) ?_
        refine tg_X5_kind C0 h kSC_77 q_374 dX5_unit_107 (fun v_27 e_28 e_29 e_30 => ?_)
        have q_31 : v_27.toInt = v_20.toInt := congrArg Int32.toInt (e_28.symm.trans (Eq.trans rfl e_21))
        refine y_c2 (n := 60) C0 (by decide) dX5_unit_110 (fun v_32 e_33 => ?_)
        refine y_icmp_ne (tgt := 121) C0 dX5_unit_112 (by decide) (fun c_34 => ?_) (fun c_34 => ?_)
        · -- 112
          refine lv_aload_n C0.1 C0.2.1 dX5_unit_121 rfl (lv_at hl 0 rfl) ?_
          refine tg_X5_kind C0 h kSC_77 q_374 dX5_unit_122 (fun v_35 e_36 e_37 e_38 => ?_)
          have q_39 : v_35.toInt = v_20.toInt := congrArg Int32.toInt (e_36.symm.trans (Eq.trans rfl e_21))
          refine y_c2 (n := 62) C0 (by decide) dX5_unit_125 (fun v_40 e_41 => ?_)
          refine y_icmp_ne (tgt := 136) C0 dX5_unit_127 (by decide) (fun c_42 => ?_) (fun c_42 => ?_)
          · -- 127
            refine y_c1 (n := (-1)) C0 (by decide) dX5_unit_136 (fun v_43 e_44 => ?_)
            refine lv_istore_n (lv' := [(2, .int v_43), (0, .ref (ad 77)), (1, .int a1)]) C0.1 C0.2.1 dX5_unit_137 rfl hl (by decide) rfl (fun ls hl => ?_)
            refine lv_iload_n C0.1 C0.2.1 dX5_unit_138 rfl (lv_at hl 0 rfl) ?_
            refine y_if_ge (tgt := 148) C0 dX5_unit_139 (by decide) (fun c_45 => ((o62_42 e_44 c_45)).elim) (fun c_45 => ?_)
            refine lv_aload_n C0.1 C0.2.1 dX5_unit_142 rfl (lv_at hl 1 rfl) ?_
            refine y_c1 (n := 2) C0 (by decide) dX5_unit_143 (fun v_46 e_47 => ?_)
            refine y_cv h (y_rV (As := [.int v_46]) (rest := []) C0 hZ h (c_X5_failS l G Z ad _ h.2 v_46) k_X5_fail q_628 q_3 q_626 kSC_77 rfl rfl rfl hl.1 rfl rfl (Nat.le_of_ble_eq_true rfl) dX5_unit_144 ⟨Nat.le_of_ble_eq_true rfl, Nat.le_of_ble_eq_true rfl⟩ ⟨Nat.le_of_ble_eq_true rfl, Nat.le_of_ble_eq_true rfl⟩) (fun H locs ws_48 h u_49 p_50 => ?_)
            have e_51 := p_50
            have hq_52 := e_7
            have hs_53 : aF 77 ws_1 = (aF 77 ws0) := (aF_fr u_2 kSC_77 (by decide))
            have hv_54 : (aF 77 ws0) 4 = v_9.toInt := (congrFun hs_53 4).symm.trans (aF_at (by decide) e_10)
            have hs_55 : aF 77 ws_16 = (sumL T (atomD T 4) (aF 77 ws0)) := e_19.trans (congrArg (fun s => sumL T (atomD T 4) s) hs_53)
            have hv_56 : (sumL T (atomD T 4) (aF 77 ws0)) 4 = v_20.toInt := (congrFun hs_55 4).symm.trans (aF_at (by decide) e_21)
            have hv_57 : (sumL T (atomD T 4) (aF 77 ws0)) 4 = v_27.toInt := (congrFun hs_55 4).symm.trans (aF_at (by decide) e_28)
            have hv_58 : (sumL T (atomD T 4) (aF 77 ws0)) 4 = v_35.toInt := (congrFun hs_55 4).symm.trans (aF_at (by decide) e_36)
            have hs_59 : aF 77 ws_48 = (failS 2 (sumL T (atomD T 4) (aF 77 ws0))) := e_51.trans ((congrArg (fun s => failS v_46.toInt s) hs_55).trans (by rw [(o62_1 e_47)]))
            have hz_60 : (failS 2 (sumL T (atomD T 4) (aF 77 ws0))) = unitD T 4 (aF 77 ws0) := by rw [unitD_4]; unfold unitF; (repeat' split) <;> first | rfl | (exfalso; omega)
            rw [hQ]
            exact y_vret C0 h (Fr.tr (Fr.tr (Fr.mono u_2 (by decide)) u_17) (Fr.mono u_49 (by decide))) (Eq.trans hs_59 hz_60) dX5_unit_147
          · -- 127
            refine y_c3 (n := 2005) C0 (by decide) dX5_unit_130 (fun v_61 e_62 => ?_)
            refine lv_goto (tgt := 137) C0.1 C0.2.1 dX5_unit_133 (by decide) ?_
            refine lv_istore_n (lv' := [(2, .int v_61), (0, .ref (ad 77)), (1, .int a1)]) C0.1 C0.2.1 dX5_unit_137 rfl hl (by decide) rfl (fun ls hl => ?_)
            refine lv_iload_n C0.1 C0.2.1 dX5_unit_138 rfl (lv_at hl 0 rfl) ?_
            refine y_if_ge (tgt := 148) C0 dX5_unit_139 (by decide) (fun c_63 => ?_) (fun c_63 => ((o62_63 e_62 c_63)).elim)
            refine lv_aload_n C0.1 C0.2.1 dX5_unit_148 rfl (lv_at hl 1 rfl) ?_
            refine y_cv h (y_rV (As := []) (rest := []) C0 hZ h (c_X5_advanceS l G Z ad _ h.2 ((Tp.fr (M := [2, 3, 16]) hTp (Fr.tr (Fr.mono u_2 (by decide)) u_17) kSC_78 (by decide)))) k_X5_advance q_616 q_0 q_614 kSC_77 rfl rfl rfl hl.1 rfl rfl (Nat.le_of_ble_eq_true rfl) dX5_unit_149 ⟨Nat.le_of_ble_eq_true rfl, Nat.le_of_ble_eq_true rfl⟩ ⟨Nat.le_of_ble_eq_true rfl, Nat.le_of_ble_eq_true rfl⟩) (fun H locs ws_64 h u_65 p_66 => ?_)
            have e_67 := p_66
            refine lv_aload_n C0.1 C0.2.1 dX5_unit_152 rfl (lv_at hl 1 rfl) ?_
            refine lv_iload_n C0.1 C0.2.1 dX5_unit_153 rfl (lv_at hl 2 rfl) ?_
            refine y_cv h (y_rV (As := [.int a1]) (rest := []) C0 hZ h (c_X5_sum_2S l G Z ad _ h.2 a1 (o62_9 l1 u1) (o62_97 l1 u1) ((Tp.fr (M := [2, 3, 16]) hTp (Fr.tr (Fr.tr (Fr.mono u_2 (by decide)) u_17) (Fr.mono u_65 (by decide))) kSC_78 (by decide)))) k_X5_sum q_816 q_15 q_814 kSC_77 rfl rfl rfl hl.1 rfl rfl (Nat.le_of_ble_eq_true rfl) dX5_unit_154 ⟨Nat.le_of_ble_eq_true rfl, Nat.le_of_ble_eq_true rfl⟩ ⟨Nat.le_of_ble_eq_true rfl, Nat.le_of_ble_eq_true rfl⟩) (fun H locs ws_68 h u_69 p_70 => ?_)
            have e_71 := p_70
            refine lv_aload_n C0.1 C0.2.1 dX5_unit_157 rfl (lv_at hl 1 rfl) ?_
            refine tg_X5_law C0 h kSC_77 q_380 dX5_unit_158 (fun i_72 hi_72 => ?_)
            refine lv_iload_n C0.1 C0.2.1 dX5_unit_161 rfl (lv_at hl 0 rfl) ?_
            refine y_cv h (y_rV (As := [.int v_61]) (rest := []) C0 hZ h (c_X4_add l G Z ad _ h.2 i_72 hi_72 v_61) k_X4_add q_827 q_828 q_826 hi_72 rfl rfl rfl hl.1 rfl rfl (Nat.le_of_ble_eq_true rfl) dX5_unit_162 ⟨Nat.le_of_ble_eq_true rfl, Nat.le_of_ble_eq_true rfl⟩ ⟨Nat.le_of_ble_eq_true rfl, Nat.le_of_ble_eq_true rfl⟩) (fun H locs ws_73 h u_74 p_75 => ?_)
            have hq_76 := e_7
            have hs_77 : aF 77 ws_1 = (aF 77 ws0) := (aF_fr u_2 kSC_77 (by decide))
            have hv_78 : (aF 77 ws0) 4 = v_9.toInt := (congrFun hs_77 4).symm.trans (aF_at (by decide) e_10)
            have hs_79 : aF 77 ws_16 = (sumL T (atomD T 4) (aF 77 ws0)) := e_19.trans (congrArg (fun s => sumL T (atomD T 4) s) hs_77)
            have hv_80 : (sumL T (atomD T 4) (aF 77 ws0)) 4 = v_20.toInt := (congrFun hs_79 4).symm.trans (aF_at (by decide) e_21)
            have hv_81 : (sumL T (atomD T 4) (aF 77 ws0)) 4 = v_27.toInt := (congrFun hs_79 4).symm.trans (aF_at (by decide) e_28)
            have hv_82 : (sumL T (atomD T 4) (aF 77 ws0)) 4 = v_35.toInt := (congrFun hs_79 4).symm.trans (aF_at (by decide) e_36)
            have hs_83 : aF 77 ws_64 = (advS T (sumL T (atomD T 4) (aF 77 ws0))) := e_67.trans (congrArg (fun s => advS T s) hs_79)
            have hs_84 : aF 77 ws_68 = (sumL T (atomD T 4) (advS T (sumL T (atomD T 4) (aF 77 ws0)))) := e_71.trans (congrArg (fun s => sumL T (atomD T 4) s) hs_83)
            have hs_85 : aF 77 ws_73 = (sumL T (atomD T 4) (advS T (sumL T (atomD T 4) (aF 77 ws0)))) := (aF_fr u_74 kSC_77 (by decide)).trans hs_84
            have hz_86 : (sumL T (atomD T 4) (advS T (sumL T (atomD T 4) (aF 77 ws0)))) = unitD T 4 (aF 77 ws0) := by rw [unitD_4]; unfold unitF; (repeat' split) <;> first | rfl | (exfalso; omega)
            rw [hQ]
            exact y_vret C0 h (Fr.tr (Fr.tr (Fr.tr (Fr.tr (Fr.mono u_2 (by decide)) u_17) (Fr.mono u_65 (by decide))) u_69) (Fr.mono u_74 (by decide))) (Eq.trans hs_85 hz_86) dX5_unit_165
        · -- 112
          refine y_c3 (n := 2004) C0 (by decide) dX5_unit_115 (fun v_87 e_88 => ?_)
          refine lv_goto (tgt := 137) C0.1 C0.2.1 dX5_unit_118 (by decide) ?_
          refine lv_istore_n (lv' := [(2, .int v_87), (0, .ref (ad 77)), (1, .int a1)]) C0.1 C0.2.1 dX5_unit_137 rfl hl (by decide) rfl (fun ls hl => ?_)
          refine lv_iload_n C0.1 C0.2.1 dX5_unit_138 rfl (lv_at hl 0 rfl) ?_
          refine y_if_ge (tgt := 148) C0 dX5_unit_139 (by decide) (fun c_89 => ?_) (fun c_89 => ((o62_64 e_88 c_89)).elim)
          refine lv_aload_n C0.1 C0.2.1 dX5_unit_148 rfl (lv_at hl 1 rfl) ?_
          refine y_cv h (y_rV (As := []) (rest := []) C0 hZ h (c_X5_advanceS l G Z ad _ h.2 ((Tp.fr (M := [2, 3, 16]) hTp (Fr.tr (Fr.mono u_2 (by decide)) u_17) kSC_78 (by decide)))) k_X5_advance q_616 q_0 q_614 kSC_77 rfl rfl rfl hl.1 rfl rfl (Nat.le_of_ble_eq_true rfl) dX5_unit_149 ⟨Nat.le_of_ble_eq_true rfl, Nat.le_of_ble_eq_true rfl⟩ ⟨Nat.le_of_ble_eq_true rfl, Nat.le_of_ble_eq_true rfl⟩) (fun H locs ws_90 h u_91 p_92 => ?_)
          have e_93 := p_92
          refine lv_aload_n C0.1 C0.2.1 dX5_unit_152 rfl (lv_at hl 1 rfl) ?_
          refine lv_iload_n C0.1 C0.2.1 dX5_unit_153 rfl (lv_at hl 2 rfl) ?_
          refine y_cv h (y_rV (As := [.int a1]) (rest := []) C0 hZ h (c_X5_sum_2S l G Z ad _ h.2 a1 (o62_9 l1 u1) (o62_97 l1 u1) ((Tp.fr (M := [2, 3, 16]) hTp (Fr.tr (Fr.tr (Fr.mono u_2 (by decide)) u_17) (Fr.mono u_91 (by decide))) kSC_78 (by decide)))) k_X5_sum q_816 q_15 q_814 kSC_77 rfl rfl rfl hl.1 rfl rfl (Nat.le_of_ble_eq_true rfl) dX5_unit_154 ⟨Nat.le_of_ble_eq_true rfl, Nat.le_of_ble_eq_true rfl⟩ ⟨Nat.le_of_ble_eq_true rfl, Nat.le_of_ble_eq_true rfl⟩) (fun H locs ws_94 h u_95 p_96 => ?_)
          have e_97 := p_96
          refine lv_aload_n C0.1 C0.2.1 dX5_unit_157 rfl (lv_at hl 1 rfl) ?_
          refine tg_X5_law C0 h kSC_77 q_380 dX5_unit_158 (fun i_98 hi_98 => ?_)
          refine lv_iload_n C0.1 C0.2.1 dX5_unit_161 rfl (lv_at hl 0 rfl) ?_
          refine y_cv h (y_rV (As := [.int v_87]) (rest := []) C0 hZ h (c_X4_add l G Z ad _ h.2 i_98 hi_98 v_87) k_X4_add q_827 q_828 q_826 hi_98 rfl rfl rfl hl.1 rfl rfl (Nat.le_of_ble_eq_true rfl) dX5_unit_162 ⟨Nat.le_of_ble_eq_true rfl, Nat.le_of_ble_eq_true rfl⟩ ⟨Nat.le_of_ble_eq_true rfl, Nat.le_of_ble_eq_true rfl⟩) (fun H locs ws_99 h u_100 p_101 => ?_)
          have hq_102 := e_7
          have hs_103 : aF 77 ws_1 = (aF 77 ws0) := (aF_fr u_2 kSC_77 (by decide))
          have hv_104 : (aF 77 ws0) 4 = v_9.toInt := (congrFun hs_103 4).symm.trans (aF_at (by decide) e_10)
          have hs_105 : aF 77 ws_16 = (sumL T (atomD T 4) (aF 77 ws0)) := e_19.trans (congrArg (fun s => sumL T (atomD T 4) s) hs_103)
          have hv_106 : (sumL T (atomD T 4) (aF 77 ws0)) 4 = v_20.toInt := (congrFun hs_105 4).symm.trans (aF_at (by decide) e_21)
          have hv_107 : (sumL T (atomD T 4) (aF 77 ws0)) 4 = v_27.toInt := (congrFun hs_105 4).symm.trans (aF_at (by decide) e_28)
          have hs_108 : aF 77 ws_90 = (advS T (sumL T (atomD T 4) (aF 77 ws0))) := e_93.trans (congrArg (fun s => advS T s) hs_105)
          have hs_109 : aF 77 ws_94 = (sumL T (atomD T 4) (advS T (sumL T (atomD T 4) (aF 77 ws0)))) := e_97.trans (congrArg (fun s => sumL T (atomD T 4) s) hs_108)
          have hs_110 : aF 77 ws_99 = (sumL T (atomD T 4) (advS T (sumL T (atomD T 4) (aF 77 ws0)))) := (aF_fr u_100 kSC_77 (by decide)).trans hs_109
          have hz_111 : (sumL T (atomD T 4) (advS T (sumL T (atomD T 4) (aF 77 ws0)))) = unitD T 4 (aF 77 ws0) := by rw [unitD_4]; unfold unitF; (repeat' split) <;> first | rfl | (exfalso; omega)
          rw [hQ]
          exact y_vret C0 h (Fr.tr (Fr.tr (Fr.tr (Fr.tr (Fr.mono u_2 (by decide)) u_17) (Fr.mono u_91 (by decide))) u_95) (Fr.mono u_100 (by decide))) (Eq.trans hs_110 hz_111) dX5_unit_165
      · -- 97
        refine y_c3 (n := 2003) C0 (by decide) dX5_unit_100 (fun v_112 e_113 => ?_)
        refine lv_goto (tgt := 137) C0.1 C0.2.1 dX5_unit_103 (by decide) ?_
        refine lv_istore_n (lv' := [(2, .int v_112), (0, .ref (ad 77)), (1, .int a1)]) C0.1 C0.2.1 dX5_unit_137 rfl hl (by decide) rfl (fun ls hl => ?_)
        refine lv_iload_n C0.1 C0.2.1 dX5_unit_138 rfl (lv_at hl 0 rfl) ?_
        refine y_if_ge (tgt := 148) C0 dX5_unit_139 (by decide) (fun c_114 => ?_) (fun c_114 => ((o62_65 e_113 c_114)).elim)
        refine lv_aload_n C0.1 C0.2.1 dX5_unit_148 rfl (lv_at hl 1 rfl) ?_
        refine y_cv h (y_rV (As := []) (rest := []) C0 hZ h (c_X5_advanceS l G Z ad _ h.2 ((Tp.fr (M := [2, 3, 16]) hTp (Fr.tr (Fr.mono u_2 (by decide)) u_17) kSC_78 (by decide)))) k_X5_advance q_616 q_0 q_614 kSC_77 rfl rfl rfl hl.1 rfl rfl (Nat.le_of_ble_eq_true rfl) dX5_unit_149 ⟨Nat.le_of_ble_eq_true rfl, Nat.le_of_ble_eq_true rfl⟩ ⟨Nat.le_of_ble_eq_true rfl, Nat.le_of_ble_eq_true rfl⟩) (fun H locs ws_115 h u_116 p_117 => ?_)
        have e_118 := p_117
        refine lv_aload_n C0.1 C0.2.1 dX5_unit_152 rfl (lv_at hl 1 rfl) ?_
        refine lv_iload_n C0.1 C0.2.1 dX5_unit_153 rfl (lv_at hl 2 rfl) ?_
        refine y_cv h (y_rV (As := [.int a1]) (rest := []) C0 hZ h (c_X5_sum_2S l G Z ad _ h.2 a1 (o62_9 l1 u1) (o62_97 l1 u1) ((Tp.fr (M := [2, 3, 16]) hTp (Fr.tr (Fr.tr (Fr.mono u_2 (by decide)) u_17) (Fr.mono u_116 (by decide))) kSC_78 (by decide)))) k_X5_sum q_816 q_15 q_814 kSC_77 rfl rfl rfl hl.1 rfl rfl (Nat.le_of_ble_eq_true rfl) dX5_unit_154 ⟨Nat.le_of_ble_eq_true rfl, Nat.le_of_ble_eq_true rfl⟩ ⟨Nat.le_of_ble_eq_true rfl, Nat.le_of_ble_eq_true rfl⟩) (fun H locs ws_119 h u_120 p_121 => ?_)
        have e_122 := p_121
        refine lv_aload_n C0.1 C0.2.1 dX5_unit_157 rfl (lv_at hl 1 rfl) ?_
        refine tg_X5_law C0 h kSC_77 q_380 dX5_unit_158 (fun i_123 hi_123 => ?_)
        refine lv_iload_n C0.1 C0.2.1 dX5_unit_161 rfl (lv_at hl 0 rfl) ?_
        refine y_cv h (y_rV (As := [.int v_112]) (rest := []) C0 hZ h (c_X4_add l G Z ad _ h.2 i_123 hi_123 v_112) k_X4_add q_827 q_828 q_826 hi_123 rfl rfl rfl hl.1 rfl rfl (Nat.le_of_ble_eq_true rfl) dX5_unit_162 ⟨Nat.le_of_ble_eq_true rfl, Nat.le_of_ble_eq_true rfl⟩ ⟨Nat.le_of_ble_eq_true rfl, Nat.le_of_ble_eq_true rfl⟩) (fun H locs ws_124 h u_125 p_126 => ?_)
        have hq_127 := e_7
        have hs_128 : aF 77 ws_1 = (aF 77 ws0) := (aF_fr u_2 kSC_77 (by decide))
        have hv_129 : (aF 77 ws0) 4 = v_9.toInt := (congrFun hs_128 4).symm.trans (aF_at (by decide) e_10)
        have hs_130 : aF 77 ws_16 = (sumL T (atomD T 4) (aF 77 ws0)) := e_19.trans (congrArg (fun s => sumL T (atomD T 4) s) hs_128)
        have hv_131 : (sumL T (atomD T 4) (aF 77 ws0)) 4 = v_20.toInt := (congrFun hs_130 4).symm.trans (aF_at (by decide) e_21)
        have hs_132 : aF 77 ws_115 = (advS T (sumL T (atomD T 4) (aF 77 ws0))) := e_118.trans (congrArg (fun s => advS T s) hs_130)
        have hs_133 : aF 77 ws_119 = (sumL T (atomD T 4) (advS T (sumL T (atomD T 4) (aF 77 ws0)))) := e_122.trans (congrArg (fun s => sumL T (atomD T 4) s) hs_132)
        have hs_134 : aF 77 ws_124 = (sumL T (atomD T 4) (advS T (sumL T (atomD T 4) (aF 77 ws0)))) := (aF_fr u_125 kSC_77 (by decide)).trans hs_133
        have hz_135 : (sumL T (atomD T 4) (advS T (sumL T (atomD T 4) (aF 77 ws0)))) = unitD T 4 (aF 77 ws0) := by rw [unitD_4]; unfold unitF; (repeat' split) <;> first | rfl | (exfalso; omega)
        rw [hQ]
        exact y_vret C0 h (Fr.tr (Fr.tr (Fr.tr (Fr.tr (Fr.mono u_2 (by decide)) u_17) (Fr.mono u_116 (by decide))) u_120) (Fr.mono u_125 (by decide))) (Eq.trans hs_134 hz_135) dX5_unit_165
    · -- 55
      refine lv_aload_n C0.1 C0.2.1 dX5_unit_58 rfl (lv_at hl 0 rfl) ?_
      refine lv_iload_n C0.1 C0.2.1 dX5_unit_59 rfl (lv_at hl 1 rfl) ?_
      refine y_ci h (y_rV (As := [.int a1]) (rest := []) C0 hZ h (c_X5_tooDeep_2S l G Z ad _ h.2 a1 (o62_9 l1 u1) (o62_97 l1 u1)) k_X5_tooDeep q_832 q_18 q_830 kSC_77 rfl rfl rfl hl.1 rfl rfl (Nat.le_of_ble_eq_true rfl) dX5_unit_60 ⟨Nat.le_of_ble_eq_true rfl, Nat.le_of_ble_eq_true rfl⟩ ⟨Nat.le_of_ble_eq_true rfl, Nat.le_of_ble_eq_true rfl⟩) (fun r_139 H locs ws_136 h u_137 p_138 => ?_)
      obtain ⟨e_140, e_141, e_142⟩ := p_138
      refine y_if_ne (tgt := 165) C0 dX5_unit_63 (by decide) (fun c_143 => ((o62_71 e_140 e_141 c_143)).elim) (fun c_143 => ?_)
      refine lv_aload_n C0.1 C0.2.1 dX5_unit_66 rfl (lv_at hl 0 rfl) ?_
      refine y_cv h (y_rV (As := []) (rest := []) C0 hZ h (c_X5_advanceS l G Z ad _ h.2 ((Tp.fr (M := []) hTp (Fr.tr u_2 u_137) kSC_78 (by decide)))) k_X5_advance q_616 q_0 q_614 kSC_77 rfl rfl rfl hl.1 rfl rfl (Nat.le_of_ble_eq_true rfl) dX5_unit_67 ⟨Nat.le_of_ble_eq_true rfl, Nat.le_of_ble_eq_true rfl⟩ ⟨Nat.le_of_ble_eq_true rfl, Nat.le_of_ble_eq_true rfl⟩) (fun H locs ws_144 h u_145 p_146 => ?_)
      have e_147 := p_146
      refine lv_aload_n C0.1 C0.2.1 dX5_unit_70 rfl (lv_at hl 0 rfl) ?_
      refine lv_iload_n C0.1 C0.2.1 dX5_unit_71 rfl (lv_at hl 1 rfl) ?_
      refine y_c1 (n := 1) C0 (by decide) dX5_unit_72 (fun v_148 e_149 => ?_)
      refine y_add C0 (o62_98 l1 u1 e_149 (le_min a1) (le_max a1) (le_min v_148) (le_max v_148)) (o62_99 l1 u1 e_149 (le_min a1) (le_max a1) (le_min v_148) (le_max v_148)) dX5_unit_73 (fun v_150 e_151 => ?_)
      refine y_cv h (y_rV (As := [.int v_150]) (rest := []) C0 hZ h (c_X5_truth_3S l G Z ad _ h.2 v_150 (o62_100 l1 u1 e_149 e_151) (o62_101 l1 u1 e_149 e_151) ((Tp.fr (M := [16]) hTp (Fr.tr (Fr.tr (Fr.mono u_2 (by decide)) (Fr.mono u_137 (by decide))) u_145) kSC_78 (by decide)))) k_X5_truth q_843 q_19 q_841 kSC_77 rfl rfl rfl hl.1 rfl rfl (Nat.le_of_ble_eq_true rfl) dX5_unit_74 ⟨Nat.le_of_ble_eq_true rfl, Nat.le_of_ble_eq_true rfl⟩ ⟨Nat.le_of_ble_eq_true rfl, Nat.le_of_ble_eq_true rfl⟩) (fun H locs ws_152 h u_153 p_154 => ?_)
      have e_155 := p_154
      refine lv_aload_n C0.1 C0.2.1 dX5_unit_77 rfl (lv_at hl 0 rfl) ?_
      refine y_c2 (n := 93) C0 (by decide) dX5_unit_78 (fun v_156 e_157 => ?_)
      refine y_cv h (y_rV (As := [.int v_156]) (rest := []) C0 hZ h (c_X5_signS l G Z ad _ h.2 v_156 (o62_79 e_157) (o62_80 e_157) ((Tp.fr (M := [2, 3, 16]) hTp (Fr.tr (Fr.tr (Fr.tr (Fr.mono u_2 (by decide)) (Fr.mono u_137 (by decide))) (Fr.mono u_145 (by decide))) u_153) kSC_78 (by decide)))) k_X5_sign q_812 q_14 q_810 kSC_77 rfl rfl rfl hl.1 rfl rfl (Nat.le_of_ble_eq_true rfl) dX5_unit_80 ⟨Nat.le_of_ble_eq_true rfl, Nat.le_of_ble_eq_true rfl⟩ ⟨Nat.le_of_ble_eq_true rfl, Nat.le_of_ble_eq_true rfl⟩) (fun H locs ws_158 h u_159 p_160 => ?_)
      have e_161 := p_160
      refine lv_goto (tgt := 165) C0.1 C0.2.1 dX5_unit_83 (by decide) ?_
      have hq_162 := e_7
      have hs_163 : aF 77 ws_1 = (aF 77 ws0) := (aF_fr u_2 kSC_77 (by decide))
      have hv_164 : (aF 77 ws0) 4 = v_9.toInt := (congrFun hs_163 4).symm.trans (aF_at (by decide) e_10)
      have hs_165 : aF 77 ws_136 = ((fun s => s) (aF 77 ws0)) := e_142.trans (congrArg (fun s => (fun s => s) s) hs_163)
      have hs_166 : aF 77 ws_144 = (advS T ((fun s => s) (aF 77 ws0))) := e_147.trans (congrArg (fun s => advS T s) hs_165)
      have hs_167 : aF 77 ws_152 = (truthL T (unitD T 3) (advS T ((fun s => s) (aF 77 ws0)))) := e_155.trans (congrArg (fun s => truthL T (unitD T 3) s) hs_166)
      have hs_168 : aF 77 ws_158 = (signS T 93 (truthL T (unitD T 3) (advS T ((fun s => s) (aF 77 ws0))))) := e_161.trans ((congrArg (fun s => signS T v_156.toInt s) hs_167).trans (by rw [(o62_81 e_157)]))
      have hz_169 : (signS T 93 (truthL T (unitD T 3) (advS T ((fun s => s) (aF 77 ws0))))) = unitD T 4 (aF 77 ws0) := by rw [unitD_4]; unfold unitF; (repeat' split) <;> first | rfl | (exfalso; omega)
      rw [hQ]
      exact y_vret C0 h (Fr.tr (Fr.tr (Fr.tr (Fr.tr (Fr.mono u_2 (by decide)) (Fr.mono u_137 (by decide))) (Fr.mono u_145 (by decide))) u_153) (Fr.mono u_159 (by decide))) (Eq.trans hs_168 hz_169) dX5_unit_165
  · -- 6
    refine lv_aload_n C0.1 C0.2.1 dX5_unit_9 rfl (lv_at hl 0 rfl) ?_
    refine lv_iload_n C0.1 C0.2.1 dX5_unit_10 rfl (lv_at hl 1 rfl) ?_
    refine y_ci h (y_rV (As := [.int a1]) (rest := []) C0 hZ h (c_X5_tooDeep_2S l G Z ad _ h.2 a1 (o62_9 l1 u1) (o62_97 l1 u1)) k_X5_tooDeep q_832 q_18 q_830 kSC_77 rfl rfl rfl hl.1 rfl rfl (Nat.le_of_ble_eq_true rfl) dX5_unit_11 ⟨Nat.le_of_ble_eq_true rfl, Nat.le_of_ble_eq_true rfl⟩ ⟨Nat.le_of_ble_eq_true rfl, Nat.le_of_ble_eq_true rfl⟩) (fun r_173 H locs ws_170 h u_171 p_172 => ?_)
    obtain ⟨e_174, e_175, e_176⟩ := p_172
    refine y_if_ne (tgt := 165) C0 dX5_unit_14 (by decide) (fun c_177 => ((o62_71 e_174 e_175 c_177)).elim) (fun c_177 => ?_)
    refine lv_aload_n C0.1 C0.2.1 dX5_unit_17 rfl (lv_at hl 0 rfl) ?_
    refine y_cv h (y_rV (As := []) (rest := []) C0 hZ h (c_X5_advanceS l G Z ad _ h.2 ((Tp.fr (M := []) hTp (Fr.tr u_2 u_171) kSC_78 (by decide)))) k_X5_advance q_616 q_0 q_614 kSC_77 rfl rfl rfl hl.1 rfl rfl (Nat.le_of_ble_eq_true rfl) dX5_unit_18 ⟨Nat.le_of_ble_eq_true rfl, Nat.le_of_ble_eq_true rfl⟩ ⟨Nat.le_of_ble_eq_true rfl, Nat.le_of_ble_eq_true rfl⟩) (fun H locs ws_178 h u_179 p_180 => ?_)
    have e_181 := p_180
    refine lv_aload_n C0.1 C0.2.1 dX5_unit_21 rfl (lv_at hl 0 rfl) ?_
    refine lv_iload_n C0.1 C0.2.1 dX5_unit_22 rfl (lv_at hl 1 rfl) ?_
    refine y_c1 (n := 1) C0 (by decide) dX5_unit_23 (fun v_182 e_183 => ?_)
    refine y_add C0 (o62_98 l1 u1 e_183 (le_min a1) (le_max a1) (le_min v_182) (le_max v_182)) (o62_99 l1 u1 e_183 (le_min a1) (le_max a1) (le_min v_182) (le_max v_182)) dX5_unit_24 (fun v_184 e_185 => ?_)
    refine y_cv h (y_rV (As := [.int v_184]) (rest := []) C0 hZ h (c_X5_unit_3S l G Z ad _ h.2 v_184 (o62_100 l1 u1 e_183 e_185) (o62_101 l1 u1 e_183 e_185) ((Tp.fr (M := [16]) hTp (Fr.tr (Fr.tr (Fr.mono u_2 (by decide)) (Fr.mono u_171 (by decide))) u_179) kSC_78 (by decide)))) k_X5_unit q_851 q_21 q_849 kSC_77 rfl rfl rfl hl.1 rfl rfl (Nat.le_of_ble_eq_true rfl) dX5_unit_25 ⟨Nat.le_of_ble_eq_true rfl, Nat.le_of_ble_eq_true rfl⟩ ⟨Nat.le_of_ble_eq_true rfl, Nat.le_of_ble_eq_true rfl⟩) (fun H locs ws_186 h u_187 p_188 => ?_)
    have e_189 := p_188
    refine lv_aload_n C0.1 C0.2.1 dX5_unit_28 rfl (lv_at hl 0 rfl) ?_
    refine tg_X5_law C0 h kSC_77 q_380 dX5_unit_29 (fun i_190 hi_190 => ?_)
    refine y_c1 (n := 0) C0 (by decide) dX5_unit_32 (fun v_191 e_192 => ?_)
    refine y_cv h (y_rV (As := [.int v_191]) (rest := []) C0 hZ h (c_X4_add l G Z ad _ h.2 i_190 hi_190 v_191) k_X4_add q_827 q_828 q_826 hi_190 rfl rfl rfl hl.1 rfl rfl (Nat.le_of_ble_eq_true rfl) dX5_unit_33 ⟨Nat.le_of_ble_eq_true rfl, Nat.le_of_ble_eq_true rfl⟩ ⟨Nat.le_of_ble_eq_true rfl, Nat.le_of_ble_eq_true rfl⟩) (fun H locs ws_193 h u_194 p_195 => ?_)
    refine lv_aload_n C0.1 C0.2.1 dX5_unit_36 rfl (lv_at hl 0 rfl) ?_
    refine tg_X5_law C0 h kSC_77 q_380 dX5_unit_37 (fun i_196 hi_196 => ?_)
    refine y_c3 (n := 2003) C0 (by decide) dX5_unit_40 (fun v_197 e_198 => ?_)
    refine y_cv h (y_rV (As := [.int v_197]) (rest := []) C0 hZ h (c_X4_add l G Z ad _ h.2 i_196 hi_196 v_197) k_X4_add q_827 q_828 q_826 hi_196 rfl rfl rfl hl.1 rfl rfl (Nat.le_of_ble_eq_true rfl) dX5_unit_43 ⟨Nat.le_of_ble_eq_true rfl, Nat.le_of_ble_eq_true rfl⟩ ⟨Nat.le_of_ble_eq_true rfl, Nat.le_of_ble_eq_true rfl⟩) (fun H locs ws_199 h u_200 p_201 => ?_)
    refine lv_goto (tgt := 165) C0.1 C0.2.1 dX5_unit_46 (by decide) ?_
    have hq_202 := e_7
    have hs_203 : aF 77 ws_1 = (aF 77 ws0) := (aF_fr u_2 kSC_77 (by decide))
    have hs_204 : aF 77 ws_170 = ((fun s => s) (aF 77 ws0)) := e_176.trans (congrArg (fun s => (fun s => s) s) hs_203)
    have hs_205 : aF 77 ws_178 = (advS T ((fun s => s) (aF 77 ws0))) := e_181.trans (congrArg (fun s => advS T s) hs_204)
    have hs_206 : aF 77 ws_186 = (unitD T 3 (advS T ((fun s => s) (aF 77 ws0)))) := e_189.trans (congrArg (fun s => unitD T 3 s) hs_205)
    have hs_207 : aF 77 ws_193 = (unitD T 3 (advS T ((fun s => s) (aF 77 ws0)))) := (aF_fr u_194 kSC_77 (by decide)).trans hs_206
    have hs_208 : aF 77 ws_199 = (unitD T 3 (advS T ((fun s => s) (aF 77 ws0)))) := (aF_fr u_200 kSC_77 (by decide)).trans hs_207
    have hz_209 : (unitD T 3 (advS T ((fun s => s) (aF 77 ws0)))) = unitD T 4 (aF 77 ws0) := by rw [unitD_4]; unfold unitF; (repeat' split) <;> first | rfl | (exfalso; omega)
    rw [hQ]
    exact y_vret C0 h (Fr.tr (Fr.tr (Fr.tr (Fr.tr (Fr.tr (Fr.mono u_2 (by decide)) (Fr.mono u_171 (by decide))) (Fr.mono u_179 (by decide))) u_187) (Fr.mono u_194 (by decide))) (Fr.mono u_200 (by decide))) (Eq.trans hs_208 hz_209) dX5_unit_165
set_option maxHeartbeats 4000000 in
set_option maxRecDepth 100000 in
theorem c_X5_both_2S {T : Nat → Int} (l : Launch) (G : GG) (Z : RZ) (ad : Nat → Nat) (ws0 : va_W) (hT : Ty G (SC tt) ad ws0) (a1 : Int32) (l1 : 2 ≤ a1.toInt) (u1 : a1.toInt ≤ 2) (hTp : Tp T ws0) : Mq l yX5_both cX5_both 3 none 22 G Z [.ref (ad 77), .int a1] ws0 (PV G (SC tt) ad [2, 3, 16] ws0 (fun u => (aF 77 u = bothL T (unitD T 4) (aF 77 ws0)))) := by
  refine Mq.start (by decide) (Nat.le_of_ble_eq_true rfl) ?_
  intro p e s m below meth c A ls C0 hZ h hl
  have hl : lv_has ls 3 [(0, .ref (ad 77)), (1, .int a1)] := hl
  have h : Wt G (SC tt) ad A s s.heap [] ws0 := ⟨h, hT⟩
  obtain ⟨args, hargs⟩ : ∃ z, z = ([.ref (ad 77), .int a1] : List Value).toArray := ⟨_, rfl⟩
  rw [← hargs] at C0 ⊢
  have C0 : Cx p s m args meth c RX5 cX5_both 3 none := C0
  obtain ⟨Q, hQ⟩ : ∃ z, z = MQ below ((PV G (SC tt) ad [2, 3, 16] ws0 (fun u => (aF 77 u = bothL T (unitD T 4) (aF 77 ws0)))) A) args s 0 0 A := ⟨_, rfl⟩
  rw [← hQ]
  refine lv_aload_n C0.1 C0.2.1 dX5_both_0 rfl (lv_at hl 0 rfl) ?_
  refine lv_iload_n C0.1 C0.2.1 dX5_both_1 rfl (lv_at hl 1 rfl) ?_
  refine y_cv h (y_rV (As := [.int a1]) (rest := []) C0 hZ h (c_X5_unit_2S l G Z ad _ h.2 a1 (o62_9 l1 u1) (o62_97 l1 u1) hTp) k_X5_unit q_851 q_21 q_849 kSC_77 rfl rfl rfl hl.1 rfl rfl (Nat.le_of_ble_eq_true rfl) dX5_both_2 ⟨Nat.le_of_ble_eq_true rfl, Nat.le_of_ble_eq_true rfl⟩ ⟨Nat.le_of_ble_eq_true rfl, Nat.le_of_ble_eq_true rfl⟩) (fun H locs ws_1 h u_2 p_3 => ?_)
  have e_4 := p_3
  refine y_c1 (n := 0) C0 (by decide) dX5_both_5 (fun v_5 e_6 => ?_)
  refine lv_istore_n (lv' := [(2, .int v_5), (0, .ref (ad 77)), (1, .int a1)]) C0.1 C0.2.1 dX5_both_6 rfl hl (by decide) rfl (fun ls hl => ?_)
  have lp_10 : ∀ (n_12 : Nat) (x2_7 : Int32) (H : Heap) (locs : List Loc) (ls : Array Slot) (ws_8 : va_W), 900 - x2_7.toInt < (n_12 : Int) → 0 ≤ x2_7.toInt → x2_7.toInt ≤ 900 → (lpS (fun s => wI T 20 s = 1) (fun s => unitD T 4 (advS T s)) (900 - x2_7.toInt).toNat (aF 77 ws_8) = bothL T (unitD T 4) (aF 77 ws0)) → Wt G (SC tt) ad A s H locs ws_8 → Fr (SC tt) [2, 3, 16] ws_1 ws_8 → lv_has ls 3 [(2, .int x2_7), (0, .ref (ad 77)), (1, .int a1)] → W p l e (rmd 22 0 0) s m args below meth c H locs 0 0 Q (F0 m 7 ls []) := by
    intro n_12
    induction n_12 with
    | zero => intro x2_7 H locs ls ws_8 hn_13 b_14 b_15 hSp h hF_9 hl; exact ((o62_52 b_14 b_15 hn_13)).elim
    | succ n_12 ih_11 =>
      intro x2_7 H locs ls ws_8 hn_13 b_14 b_15 hSp h hF_9 hl
      refine lv_iload_n C0.1 C0.2.1 dX5_both_7 rfl (lv_at hl 0 rfl) ?_
      refine y_c3 (n := 900) C0 (by decide) dX5_both_8 (fun v_16 e_17 => ?_)
      refine y_icmp_ge (tgt := 48) C0 dX5_both_11 (by decide) (fun c_18 => ?_) (fun c_18 => ?_)
      · -- 11
        have hz_19 : (aF 77 ws_8) = lpS (fun s => wI T 20 s = 1) (fun s => unitD T 4 (advS T s)) (900 - x2_7.toInt).toNat (aF 77 ws_8) := by first | (exfalso; omega) | exact (lp_0 (by omega)).symm | exact (lp_e (by omega)).symm
        rw [hQ]
        exact y_vret C0 h (Fr.tr u_2 hF_9) (Eq.trans rfl (Eq.trans hz_19 hSp)) dX5_both_48
      · -- 11
        refine lv_aload_n C0.1 C0.2.1 dX5_both_14 rfl (lv_at hl 1 rfl) ?_
        refine va_ldcS C0.1 C0.2.1 C0.2.2.2.1 (sr_20 hZ) dX5_both_15 ?_
        refine y_ci h (y_rV (As := [.ref (Z.2.1 20)]) (rest := []) C0 hZ h (c_X5_isWordS l G Z ad _ h.2 20 (by decide) ((Tp.fr (M := [2, 3, 16]) hTp (Fr.tr u_2 hF_9) kSC_78 (by decide)))) k_X5_isWord q_724 q_5 q_722 kSC_77 rfl rfl rfl hl.1 rfl rfl (Nat.le_of_ble_eq_true rfl) dX5_both_17 ⟨Nat.le_of_ble_eq_true rfl, Nat.le_of_ble_eq_true rfl⟩ ⟨Nat.le_of_ble_eq_true rfl, Nat.le_of_ble_eq_true rfl⟩) (fun r_23 H locs ws_20 h u_21 p_22 => ?_)
        obtain ⟨e_24, e_25, e_26⟩ := p_22
        refine y_if_eq (tgt := 48) C0 dX5_both_20 (by decide) (fun c_27 => ?_) (fun c_27 => ?_)
        · -- 20
          have hq_28 := e_26
          have hs_29 : aF 77 ws_20 = (aF 77 ws_8) := (aF_fr u_21 kSC_77 (by decide))
          have hz_30 : (aF 77 ws_8) = lpS (fun s => wI T 20 s = 1) (fun s => unitD T 4 (advS T s)) (900 - x2_7.toInt).toNat (aF 77 ws_8) := by first | (exfalso; omega) | exact (lp_0 (by omega)).symm | exact (lp_e (by omega)).symm
          rw [hQ]
          exact y_vret C0 h (Fr.tr (Fr.tr u_2 hF_9) (Fr.mono u_21 (by decide))) (Eq.trans hs_29 (Eq.trans hz_30 hSp)) dX5_both_48
        · -- 20
          refine lv_aload_n C0.1 C0.2.1 dX5_both_23 rfl (lv_at hl 1 rfl) ?_
          refine y_cv h (y_rV (As := []) (rest := []) C0 hZ h (c_X5_advanceS l G Z ad _ h.2 ((Tp.fr (M := [2, 3, 16]) hTp (Fr.tr (Fr.tr u_2 hF_9) (Fr.mono u_21 (by decide))) kSC_78 (by decide)))) k_X5_advance q_616 q_0 q_614 kSC_77 rfl rfl rfl hl.1 rfl rfl (Nat.le_of_ble_eq_true rfl) dX5_both_24 ⟨Nat.le_of_ble_eq_true rfl, Nat.le_of_ble_eq_true rfl⟩ ⟨Nat.le_of_ble_eq_true rfl, Nat.le_of_ble_eq_true rfl⟩) (fun H locs ws_31 h u_32 p_33 => ?_)
          have e_34 := p_33
          refine lv_aload_n C0.1 C0.2.1 dX5_both_27 rfl (lv_at hl 1 rfl) ?_
          refine lv_iload_n C0.1 C0.2.1 dX5_both_28 rfl (lv_at hl 2 rfl) ?_
          refine y_cv h (y_rV (As := [.int a1]) (rest := []) C0 hZ h (c_X5_unit_2S l G Z ad _ h.2 a1 (o62_9 l1 u1) (o62_97 l1 u1) ((Tp.fr (M := [2, 3, 16]) hTp (Fr.tr (Fr.tr (Fr.tr u_2 hF_9) (Fr.mono u_21 (by decide))) (Fr.mono u_32 (by decide))) kSC_78 (by decide)))) k_X5_unit q_851 q_21 q_849 kSC_77 rfl rfl rfl hl.1 rfl rfl (Nat.le_of_ble_eq_true rfl) dX5_both_29 ⟨Nat.le_of_ble_eq_true rfl, Nat.le_of_ble_eq_true rfl⟩ ⟨Nat.le_of_ble_eq_true rfl, Nat.le_of_ble_eq_true rfl⟩) (fun H locs ws_35 h u_36 p_37 => ?_)
          have e_38 := p_37
          refine lv_aload_n C0.1 C0.2.1 dX5_both_32 rfl (lv_at hl 1 rfl) ?_
          refine tg_X5_law C0 h kSC_77 q_380 dX5_both_33 (fun i_39 hi_39 => ?_)
          refine y_c3 (n := 2006) C0 (by decide) dX5_both_36 (fun v_40 e_41 => ?_)
          refine y_cv h (y_rV (As := [.int v_40]) (rest := []) C0 hZ h (c_X4_add l G Z ad _ h.2 i_39 hi_39 v_40) k_X4_add q_827 q_828 q_826 hi_39 rfl rfl rfl hl.1 rfl rfl (Nat.le_of_ble_eq_true rfl) dX5_both_39 ⟨Nat.le_of_ble_eq_true rfl, Nat.le_of_ble_eq_true rfl⟩ ⟨Nat.le_of_ble_eq_true rfl, Nat.le_of_ble_eq_true rfl⟩) (fun H locs ws_42 h u_43 p_44 => ?_)
          refine y_inc (kp := 0) (n := 1) (fun v_45 => [(2, .int v_45), (0, .ref (ad 77)), (1, .int a1)]) C0 hl rfl (by decide) (by decide) (fun _ => rfl) (o62_53 b_14 b_15 hn_13 e_17 c_18 (le_min x2_7) (le_max x2_7) (le_min v_16) (le_max v_16)) (o62_54 b_14 b_15 hn_13 e_17 c_18 (le_min x2_7) (le_max x2_7) (le_min v_16) (le_max v_16)) dX5_both_42 (fun v_45 ls e_46 hl => ?_)
          refine lv_goto (tgt := 7) C0.1 C0.2.1 dX5_both_45 (by decide) ?_
          have hq_47 := e_26
          have hs_48 : aF 77 ws_20 = (aF 77 ws_8) := (aF_fr u_21 kSC_77 (by decide))
          have hs_49 : aF 77 ws_31 = (advS T (aF 77 ws_8)) := e_34.trans (congrArg (fun s => advS T s) hs_48)
          have hs_50 : aF 77 ws_35 = (unitD T 4 (advS T (aF 77 ws_8))) := e_38.trans (congrArg (fun s => unitD T 4 s) hs_49)
          have hs_51 : aF 77 ws_42 = (unitD T 4 (advS T (aF 77 ws_8))) := (aF_fr u_43 kSC_77 (by decide)).trans hs_50
          exact ih_11 v_45 _ _ _ _ (o62_55 b_14 b_15 hn_13 e_17 c_18 e_46) (o62_56 b_14 b_15 hn_13 e_17 c_18 e_46) (o62_57 b_14 b_15 hn_13 e_17 c_18 e_46) ((by rw [hs_51]; exact (lp_s (by omega) (by omega) (by omega) (by omega)).trans hSp)) h (Fr.tr (Fr.tr (Fr.tr (Fr.tr hF_9 (Fr.mono u_21 (by decide))) (Fr.mono u_32 (by decide))) u_36) (Fr.mono u_43 (by decide))) (lv_sub hl [0, 1, 2] rfl)
  have hs_52 : aF 77 ws_1 = (unitD T 4 (aF 77 ws0)) := e_4
  exact lp_10 ((900 - v_5.toInt + 1).toNat) v_5 _ _ _ _ (o62_58 e_6) (o62_59 e_6) (o62_60 e_6) ((by rw [show (900 - v_5.toInt).toNat = 900 by omega, hs_52]; rfl)) h Fr.rf (lv_sub hl [0, 1, 2] rfl)
set_option maxHeartbeats 4000000 in
set_option maxRecDepth 100000 in
theorem c_X5_truth_2S {T : Nat → Int} (l : Launch) (G : GG) (Z : RZ) (ad : Nat → Nat) (ws0 : va_W) (hT : Ty G (SC tt) ad ws0) (a1 : Int32) (l1 : 2 ≤ a1.toInt) (u1 : a1.toInt ≤ 2) (hTp : Tp T ws0) : Mq l yX5_truth cX5_truth 3 none 23 G Z [.ref (ad 77), .int a1] ws0 (PV G (SC tt) ad [2, 3, 16] ws0 (fun u => (aF 77 u = truthL T (unitD T 4) (aF 77 ws0)))) := by
  refine Mq.start (by decide) (Nat.le_of_ble_eq_true rfl) ?_
  intro p e s m below meth c A ls C0 hZ h hl
  have hl : lv_has ls 3 [(0, .ref (ad 77)), (1, .int a1)] := hl
  have h : Wt G (SC tt) ad A s s.heap [] ws0 := ⟨h, hT⟩
  obtain ⟨args, hargs⟩ : ∃ z, z = ([.ref (ad 77), .int a1] : List Value).toArray := ⟨_, rfl⟩
  rw [← hargs] at C0 ⊢
  have C0 : Cx p s m args meth c RX5 cX5_truth 3 none := C0
  obtain ⟨Q, hQ⟩ : ∃ z, z = MQ below ((PV G (SC tt) ad [2, 3, 16] ws0 (fun u => (aF 77 u = truthL T (unitD T 4) (aF 77 ws0)))) A) args s 0 0 A := ⟨_, rfl⟩
  rw [← hQ]
  refine lv_aload_n C0.1 C0.2.1 dX5_truth_0 rfl (lv_at hl 0 rfl) ?_
  refine lv_iload_n C0.1 C0.2.1 dX5_truth_1 rfl (lv_at hl 1 rfl) ?_
  refine y_cv h (y_rV (As := [.int a1]) (rest := []) C0 hZ h (c_X5_both_2S l G Z ad _ h.2 a1 (o62_9 l1 u1) (o62_97 l1 u1) hTp) k_X5_both q_847 q_20 q_845 kSC_77 rfl rfl rfl hl.1 rfl rfl (Nat.le_of_ble_eq_true rfl) dX5_truth_2 ⟨Nat.le_of_ble_eq_true rfl, Nat.le_of_ble_eq_true rfl⟩ ⟨Nat.le_of_ble_eq_true rfl, Nat.le_of_ble_eq_true rfl⟩) (fun H locs ws_1 h u_2 p_3 => ?_)
  have e_4 := p_3
  refine y_c1 (n := 0) C0 (by decide) dX5_truth_5 (fun v_5 e_6 => ?_)
  refine lv_istore_n (lv' := [(2, .int v_5), (0, .ref (ad 77)), (1, .int a1)]) C0.1 C0.2.1 dX5_truth_6 rfl hl (by decide) rfl (fun ls hl => ?_)
  have lp_10 : ∀ (n_12 : Nat) (x2_7 : Int32) (H : Heap) (locs : List Loc) (ls : Array Slot) (ws_8 : va_W), 900 - x2_7.toInt < (n_12 : Int) → 0 ≤ x2_7.toInt → x2_7.toInt ≤ 900 → (lpS (fun s => wI T 21 s = 1) (fun s => bothL T (unitD T 4) (advS T s)) (900 - x2_7.toInt).toNat (aF 77 ws_8) = truthL T (unitD T 4) (aF 77 ws0)) → Wt G (SC tt) ad A s H locs ws_8 → Fr (SC tt) [2, 3, 16] ws_1 ws_8 → lv_has ls 3 [(2, .int x2_7), (0, .ref (ad 77)), (1, .int a1)] → W p l e (rmd 23 0 0) s m args below meth c H locs 0 0 Q (F0 m 7 ls []) := by
    intro n_12
    induction n_12 with
    | zero => intro x2_7 H locs ls ws_8 hn_13 b_14 b_15 hSp h hF_9 hl; exact ((o62_52 b_14 b_15 hn_13)).elim
    | succ n_12 ih_11 =>
      intro x2_7 H locs ls ws_8 hn_13 b_14 b_15 hSp h hF_9 hl
      refine lv_iload_n C0.1 C0.2.1 dX5_truth_7 rfl (lv_at hl 0 rfl) ?_
      refine y_c3 (n := 900) C0 (by decide) dX5_truth_8 (fun v_16 e_17 => ?_)
      refine y_icmp_ge (tgt := 48) C0 dX5_truth_11 (by decide) (fun c_18 => ?_) (fun c_18 => ?_)
      · -- 11
        have hz_19 : (aF 77 ws_8) = lpS (fun s => wI T 21 s = 1) (fun s => bothL T (unitD T 4) (advS T s)) (900 - x2_7.toInt).toNat (aF 77 ws_8) := by first | (exfalso; omega) | exact (lp_0 (by omega)).symm | exact (lp_e (by omega)).symm
        rw [hQ]
        exact y_vret C0 h (Fr.tr u_2 hF_9) (Eq.trans rfl (Eq.trans hz_19 hSp)) dX5_truth_48
      · -- 11
        refine lv_aload_n C0.1 C0.2.1 dX5_truth_14 rfl (lv_at hl 1 rfl) ?_
        refine va_ldcS C0.1 C0.2.1 C0.2.2.2.1 (sr_21 hZ) dX5_truth_15 ?_
        refine y_ci h (y_rV (As := [.ref (Z.2.1 21)]) (rest := []) C0 hZ h (c_X5_isWordS l G Z ad _ h.2 21 (by decide) ((Tp.fr (M := [2, 3, 16]) hTp (Fr.tr u_2 hF_9) kSC_78 (by decide)))) k_X5_isWord q_724 q_5 q_722 kSC_77 rfl rfl rfl hl.1 rfl rfl (Nat.le_of_ble_eq_true rfl) dX5_truth_17 ⟨Nat.le_of_ble_eq_true rfl, Nat.le_of_ble_eq_true rfl⟩ ⟨Nat.le_of_ble_eq_true rfl, Nat.le_of_ble_eq_true rfl⟩) (fun r_23 H locs ws_20 h u_21 p_22 => ?_)
        obtain ⟨e_24, e_25, e_26⟩ := p_22
        refine y_if_eq (tgt := 48) C0 dX5_truth_20 (by decide) (fun c_27 => ?_) (fun c_27 => ?_)
        · -- 20
          have hq_28 := e_26
          have hs_29 : aF 77 ws_20 = (aF 77 ws_8) := (aF_fr u_21 kSC_77 (by decide))
          have hz_30 : (aF 77 ws_8) = lpS (fun s => wI T 21 s = 1) (fun s => bothL T (unitD T 4) (advS T s)) (900 - x2_7.toInt).toNat (aF 77 ws_8) := by first | (exfalso; omega) | exact (lp_0 (by omega)).symm | exact (lp_e (by omega)).symm
          rw [hQ]
          exact y_vret C0 h (Fr.tr (Fr.tr u_2 hF_9) (Fr.mono u_21 (by decide))) (Eq.trans hs_29 (Eq.trans hz_30 hSp)) dX5_truth_48
        · -- 20
          refine lv_aload_n C0.1 C0.2.1 dX5_truth_23 rfl (lv_at hl 1 rfl) ?_
          refine y_cv h (y_rV (As := []) (rest := []) C0 hZ h (c_X5_advanceS l G Z ad _ h.2 ((Tp.fr (M := [2, 3, 16]) hTp (Fr.tr (Fr.tr u_2 hF_9) (Fr.mono u_21 (by decide))) kSC_78 (by decide)))) k_X5_advance q_616 q_0 q_614 kSC_77 rfl rfl rfl hl.1 rfl rfl (Nat.le_of_ble_eq_true rfl) dX5_truth_24 ⟨Nat.le_of_ble_eq_true rfl, Nat.le_of_ble_eq_true rfl⟩ ⟨Nat.le_of_ble_eq_true rfl, Nat.le_of_ble_eq_true rfl⟩) (fun H locs ws_31 h u_32 p_33 => ?_)
          have e_34 := p_33
          refine lv_aload_n C0.1 C0.2.1 dX5_truth_27 rfl (lv_at hl 1 rfl) ?_
          refine lv_iload_n C0.1 C0.2.1 dX5_truth_28 rfl (lv_at hl 2 rfl) ?_
          refine y_cv h (y_rV (As := [.int a1]) (rest := []) C0 hZ h (c_X5_both_2S l G Z ad _ h.2 a1 (o62_9 l1 u1) (o62_97 l1 u1) ((Tp.fr (M := [2, 3, 16]) hTp (Fr.tr (Fr.tr (Fr.tr u_2 hF_9) (Fr.mono u_21 (by decide))) (Fr.mono u_32 (by decide))) kSC_78 (by decide)))) k_X5_both q_847 q_20 q_845 kSC_77 rfl rfl rfl hl.1 rfl rfl (Nat.le_of_ble_eq_true rfl) dX5_truth_29 ⟨Nat.le_of_ble_eq_true rfl, Nat.le_of_ble_eq_true rfl⟩ ⟨Nat.le_of_ble_eq_true rfl, Nat.le_of_ble_eq_true rfl⟩) (fun H locs ws_35 h u_36 p_37 => ?_)
          have e_38 := p_37
          refine lv_aload_n C0.1 C0.2.1 dX5_truth_32 rfl (lv_at hl 1 rfl) ?_
          refine tg_X5_law C0 h kSC_77 q_380 dX5_truth_33 (fun i_39 hi_39 => ?_)
          refine y_c3 (n := 2007) C0 (by decide) dX5_truth_36 (fun v_40 e_41 => ?_)
          refine y_cv h (y_rV (As := [.int v_40]) (rest := []) C0 hZ h (c_X4_add l G Z ad _ h.2 i_39 hi_39 v_40) k_X4_add q_827 q_828 q_826 hi_39 rfl rfl rfl hl.1 rfl rfl (Nat.le_of_ble_eq_true rfl) dX5_truth_39 ⟨Nat.le_of_ble_eq_true rfl, Nat.le_of_ble_eq_true rfl⟩ ⟨Nat.le_of_ble_eq_true rfl, Nat.le_of_ble_eq_true rfl⟩) (fun H locs ws_42 h u_43 p_44 => ?_)
          refine y_inc (kp := 0) (n := 1) (fun v_45 => [(2, .int v_45), (0, .ref (ad 77)), (1, .int a1)]) C0 hl rfl (by decide) (by decide) (fun _ => rfl) (o62_53 b_14 b_15 hn_13 e_17 c_18 (le_min x2_7) (le_max x2_7) (le_min v_16) (le_max v_16)) (o62_54 b_14 b_15 hn_13 e_17 c_18 (le_min x2_7) (le_max x2_7) (le_min v_16) (le_max v_16)) dX5_truth_42 (fun v_45 ls e_46 hl => ?_)
          refine lv_goto (tgt := 7) C0.1 C0.2.1 dX5_truth_45 (by decide) ?_
          have hq_47 := e_26
          have hs_48 : aF 77 ws_20 = (aF 77 ws_8) := (aF_fr u_21 kSC_77 (by decide))
          have hs_49 : aF 77 ws_31 = (advS T (aF 77 ws_8)) := e_34.trans (congrArg (fun s => advS T s) hs_48)
          have hs_50 : aF 77 ws_35 = (bothL T (unitD T 4) (advS T (aF 77 ws_8))) := e_38.trans (congrArg (fun s => bothL T (unitD T 4) s) hs_49)
          have hs_51 : aF 77 ws_42 = (bothL T (unitD T 4) (advS T (aF 77 ws_8))) := (aF_fr u_43 kSC_77 (by decide)).trans hs_50
          exact ih_11 v_45 _ _ _ _ (o62_55 b_14 b_15 hn_13 e_17 c_18 e_46) (o62_56 b_14 b_15 hn_13 e_17 c_18 e_46) (o62_57 b_14 b_15 hn_13 e_17 c_18 e_46) ((by rw [hs_51]; exact (lp_s (by omega) (by omega) (by omega) (by omega)).trans hSp)) h (Fr.tr (Fr.tr (Fr.tr (Fr.tr hF_9 (Fr.mono u_21 (by decide))) (Fr.mono u_32 (by decide))) u_36) (Fr.mono u_43 (by decide))) (lv_sub hl [0, 1, 2] rfl)
  have hs_52 : aF 77 ws_1 = (bothL T (unitD T 4) (aF 77 ws0)) := e_4
  exact lp_10 ((900 - v_5.toInt + 1).toNat) v_5 _ _ _ _ (o62_58 e_6) (o62_59 e_6) (o62_60 e_6) ((by rw [show (900 - v_5.toInt).toNat = 900 by omega, hs_52]; rfl)) h Fr.rf (lv_sub hl [0, 1, 2] rfl)
set_option maxHeartbeats 4000000 in
set_option maxRecDepth 100000 in
theorem c_X5_tooDeep_1S (l : Launch) (G : GG) (Z : RZ) (ad : Nat → Nat) (ws0 : va_W) (hT : Ty G (SC tt) ad ws0) (a1 : Int32) (l1 : 1 ≤ a1.toInt) (u1 : a1.toInt ≤ 1) : Mq l yX5_tooDeep cX5_tooDeep 2 (some .boolean) 1 G Z [.ref (ad 77), .int a1] ws0 (PI G (SC tt) ad [] ws0 (fun r u => (0 ≤ r.toInt) ∧ (r.toInt ≤ 0) ∧ (aF 77 u = (fun s => s) (aF 77 ws0)))) := by
  refine Mq.start (by decide) (Nat.le_of_ble_eq_true rfl) ?_
  intro p e s m below meth c A ls C0 hZ h hl
  have hl : lv_has ls 2 [(0, .ref (ad 77)), (1, .int a1)] := hl
  have h : Wt G (SC tt) ad A s s.heap [] ws0 := ⟨h, hT⟩
  obtain ⟨args, hargs⟩ : ∃ z, z = ([.ref (ad 77), .int a1] : List Value).toArray := ⟨_, rfl⟩
  rw [← hargs] at C0 ⊢
  have C0 : Cx p s m args meth c RX5 cX5_tooDeep 2 (some .boolean) := C0
  obtain ⟨Q, hQ⟩ : ∃ z, z = MQ below ((PI G (SC tt) ad [] ws0 (fun r u => (0 ≤ r.toInt) ∧ (r.toInt ≤ 0) ∧ (aF 77 u = (fun s => s) (aF 77 ws0)))) A) args s 0 0 A := ⟨_, rfl⟩
  rw [← hQ]
  refine lv_iload_n C0.1 C0.2.1 dX5_tooDeep_0 rfl (lv_at hl 1 rfl) ?_
  refine y_c2 (n := 6) C0 (by decide) dX5_tooDeep_1 (fun v_1 e_2 => ?_)
  refine y_icmp_lt (tgt := 13) C0 dX5_tooDeep_3 (by decide) (fun c_3 => ?_) (fun c_3 => ((o62_102 l1 u1 e_2 c_3)).elim)
  refine y_c1 (n := 0) C0 (by decide) dX5_tooDeep_13 (fun v_4 e_5 => ?_)
  have hz_6 : (aF 77 ws0) = (fun s => s) (aF 77 ws0) := by rfl
  rw [hQ]
  exact y_zret C0 h (o62_59 e_5) (o62_68 e_5) Fr.rf ⟨(o62_59 e_5), (o62_67 e_5), (Eq.trans rfl hz_6)⟩ dX5_tooDeep_14
set_option maxHeartbeats 4000000 in
set_option maxRecDepth 100000 in
theorem c_X5_atom_1S {T : Nat → Int} (l : Launch) (G : GG) (Z : RZ) (ad : Nat → Nat) (ws0 : va_W) (hT : Ty G (SC tt) ad ws0) (a1 : Int32) (l1 : 1 ≤ a1.toInt) (u1 : a1.toInt ≤ 1) (hTp : Tp T ws0) : Mq l yX5_atom cX5_atom 3 none 21 G Z [.ref (ad 77), .int a1] ws0 (PV G (SC tt) ad [2, 3, 16] ws0 (fun u => (aF 77 u = atomD T 5 (aF 77 ws0)))) := by
  refine Mq.start (by decide) (Nat.le_of_ble_eq_true rfl) ?_
  intro p e s m below meth c A ls C0 hZ h hl
  have hl : lv_has ls 3 [(0, .ref (ad 77)), (1, .int a1)] := hl
  have h : Wt G (SC tt) ad A s s.heap [] ws0 := ⟨h, hT⟩
  obtain ⟨args, hargs⟩ : ∃ z, z = ([.ref (ad 77), .int a1] : List Value).toArray := ⟨_, rfl⟩
  rw [← hargs] at C0 ⊢
  have C0 : Cx p s m args meth c RX5 cX5_atom 3 none := C0
  obtain ⟨Q, hQ⟩ : ∃ z, z = MQ below ((PV G (SC tt) ad [2, 3, 16] ws0 (fun u => (aF 77 u = atomD T 5 (aF 77 ws0)))) A) args s 0 0 A := ⟨_, rfl⟩
  rw [← hQ]
  refine lv_aload_n C0.1 C0.2.1 dX5_atom_0 rfl (lv_at hl 0 rfl) ?_
  refine tg_X5_kind C0 h kSC_77 q_374 dX5_atom_1 (fun v_1 e_2 e_3 e_4 => ?_)
  refine y_c1 (n := 2) C0 (by decide) dX5_atom_4 (fun v_5 e_6 => ?_)
  refine y_icmp_ne (tgt := 26) C0 dX5_atom_5 (by decide) (fun c_7 => ?_) (fun c_7 => ?_)
  · -- 5
    refine lv_aload_n C0.1 C0.2.1 dX5_atom_26 rfl (lv_at hl 0 rfl) ?_
    refine tg_X5_kind C0 h kSC_77 q_374 dX5_atom_27 (fun v_8 e_9 e_10 e_11 => ?_)
    have q_12 : v_8.toInt = v_1.toInt := congrArg Int32.toInt (e_9.symm.trans (Eq.trans rfl e_2))
    refine y_c2 (n := 40) C0 (by decide) dX5_atom_30 (fun v_13 e_14 => ?_)
    refine y_icmp_ne (tgt := 63) C0 dX5_atom_32 (by decide) (fun c_15 => ?_) (fun c_15 => ?_)
    · -- 32
      refine lv_aload_n C0.1 C0.2.1 dX5_atom_63 rfl (lv_at hl 0 rfl) ?_
      refine va_ldcS C0.1 C0.2.1 C0.2.2.2.1 (sr_12 hZ) dX5_atom_64 ?_
      refine y_ci h (y_rV (As := [.ref (Z.2.1 12)]) (rest := []) C0 hZ h (c_X5_isWordS l G Z ad _ h.2 12 (by decide) hTp) k_X5_isWord q_724 q_5 q_722 kSC_77 rfl rfl rfl hl.1 rfl rfl (Nat.le_of_ble_eq_true rfl) dX5_atom_66 ⟨Nat.le_of_ble_eq_true rfl, Nat.le_of_ble_eq_true rfl⟩ ⟨Nat.le_of_ble_eq_true rfl, Nat.le_of_ble_eq_true rfl⟩) (fun r_19 H locs ws_16 h u_17 p_18 => ?_)
      obtain ⟨e_20, e_21, e_22⟩ := p_18
      refine y_if_eq (tgt := 78) C0 dX5_atom_69 (by decide) (fun c_23 => ?_) (fun c_23 => ?_)
      · -- 69
        refine lv_aload_n C0.1 C0.2.1 dX5_atom_78 rfl (lv_at hl 0 rfl) ?_
        refine va_ldcS C0.1 C0.2.1 C0.2.2.2.1 (sr_13 hZ) dX5_atom_79 ?_
        refine y_ci h (y_rV (As := [.ref (Z.2.1 13)]) (rest := []) C0 hZ h (c_X5_isWordS l G Z ad _ h.2 13 (by decide) ((Tp.fr (M := []) hTp u_17 kSC_78 (by decide)))) k_X5_isWord q_724 q_5 q_722 kSC_77 rfl rfl rfl hl.1 rfl rfl (Nat.le_of_ble_eq_true rfl) dX5_atom_81 ⟨Nat.le_of_ble_eq_true rfl, Nat.le_of_ble_eq_true rfl⟩ ⟨Nat.le_of_ble_eq_true rfl, Nat.le_of_ble_eq_true rfl⟩) (fun r_27 H locs ws_24 h u_25 p_26 => ?_)
        obtain ⟨e_28, e_29, e_30⟩ := p_26
        refine y_if_eq (tgt := 93) C0 dX5_atom_84 (by decide) (fun c_31 => ?_) (fun c_31 => ?_)
        · -- 84
          refine lv_aload_n C0.1 C0.2.1 dX5_atom_93 rfl (lv_at hl 0 rfl) ?_
          refine va_ldcS C0.1 C0.2.1 C0.2.2.2.1 (sr_14 hZ) dX5_atom_94 ?_
          refine y_ci h (y_rV (As := [.ref (Z.2.1 14)]) (rest := []) C0 hZ h (c_X5_isWordS l G Z ad _ h.2 14 (by decide) ((Tp.fr (M := []) hTp (Fr.tr u_17 u_25) kSC_78 (by decide)))) k_X5_isWord q_724 q_5 q_722 kSC_77 rfl rfl rfl hl.1 rfl rfl (Nat.le_of_ble_eq_true rfl) dX5_atom_96 ⟨Nat.le_of_ble_eq_true rfl, Nat.le_of_ble_eq_true rfl⟩ ⟨Nat.le_of_ble_eq_true rfl, Nat.le_of_ble_eq_true rfl⟩) (fun r_35 H locs ws_32 h u_33 p_34 => ?_)
          obtain ⟨e_36, e_37, e_38⟩ := p_34
          refine y_if_eq (tgt := 108) C0 dX5_atom_99 (by decide) (fun c_39 => ?_) (fun c_39 => ?_)
          · -- 99
            refine lv_aload_n C0.1 C0.2.1 dX5_atom_108 rfl (lv_at hl 0 rfl) ?_
            refine va_ldcS C0.1 C0.2.1 C0.2.2.2.1 (sr_15 hZ) dX5_atom_109 ?_
            refine y_ci h (y_rV (As := [.ref (Z.2.1 15)]) (rest := []) C0 hZ h (c_X5_isWordS l G Z ad _ h.2 15 (by decide) ((Tp.fr (M := []) hTp (Fr.tr (Fr.tr u_17 u_25) u_33) kSC_78 (by decide)))) k_X5_isWord q_724 q_5 q_722 kSC_77 rfl rfl rfl hl.1 rfl rfl (Nat.le_of_ble_eq_true rfl) dX5_atom_111 ⟨Nat.le_of_ble_eq_true rfl, Nat.le_of_ble_eq_true rfl⟩ ⟨Nat.le_of_ble_eq_true rfl, Nat.le_of_ble_eq_true rfl⟩) (fun r_43 H locs ws_40 h u_41 p_42 => ?_)
            obtain ⟨e_44, e_45, e_46⟩ := p_42
            refine y_if_eq (tgt := 123) C0 dX5_atom_114 (by decide) (fun c_47 => ?_) (fun c_47 => ?_)
            · -- 114
              refine lv_aload_n C0.1 C0.2.1 dX5_atom_123 rfl (lv_at hl 0 rfl) ?_
              refine va_ldcS C0.1 C0.2.1 C0.2.2.2.1 (sr_16 hZ) dX5_atom_124 ?_
              refine y_ci h (y_rV (As := [.ref (Z.2.1 16)]) (rest := []) C0 hZ h (c_X5_isWordS l G Z ad _ h.2 16 (by decide) ((Tp.fr (M := []) hTp (Fr.tr (Fr.tr (Fr.tr u_17 u_25) u_33) u_41) kSC_78 (by decide)))) k_X5_isWord q_724 q_5 q_722 kSC_77 rfl rfl rfl hl.1 rfl rfl (Nat.le_of_ble_eq_true rfl) dX5_atom_126 ⟨Nat.le_of_ble_eq_true rfl, Nat.le_of_ble_eq_true rfl⟩ ⟨Nat.le_of_ble_eq_true rfl, Nat.le_of_ble_eq_true rfl⟩) (fun r_51 H locs ws_48 h u_49 p_50 => ?_)
              obtain ⟨e_52, e_53, e_54⟩ := p_50
              refine y_if_eq (tgt := 138) C0 dX5_atom_129 (by decide) (fun c_55 => ?_) (fun c_55 => ?_)
              · -- 129
                refine lv_aload_n C0.1 C0.2.1 dX5_atom_138 rfl (lv_at hl 0 rfl) ?_
                refine va_ldcS C0.1 C0.2.1 C0.2.2.2.1 (sr_17 hZ) dX5_atom_139 ?_
                refine y_ci h (y_rV (As := [.ref (Z.2.1 17)]) (rest := []) C0 hZ h (c_X5_isWordS l G Z ad _ h.2 17 (by decide) ((Tp.fr (M := []) hTp (Fr.tr (Fr.tr (Fr.tr (Fr.tr u_17 u_25) u_33) u_41) u_49) kSC_78 (by decide)))) k_X5_isWord q_724 q_5 q_722 kSC_77 rfl rfl rfl hl.1 rfl rfl (Nat.le_of_ble_eq_true rfl) dX5_atom_141 ⟨Nat.le_of_ble_eq_true rfl, Nat.le_of_ble_eq_true rfl⟩ ⟨Nat.le_of_ble_eq_true rfl, Nat.le_of_ble_eq_true rfl⟩) (fun r_59 H locs ws_56 h u_57 p_58 => ?_)
                obtain ⟨e_60, e_61, e_62⟩ := p_58
                refine y_if_eq (tgt := 153) C0 dX5_atom_144 (by decide) (fun c_63 => ?_) (fun c_63 => ?_)
                · -- 144
                  refine y_c1 (n := (-1)) C0 (by decide) dX5_atom_153 (fun v_64 e_65 => ?_)
                  refine lv_istore_n (lv' := [(2, .int v_64), (0, .ref (ad 77)), (1, .int a1)]) C0.1 C0.2.1 dX5_atom_154 rfl hl (by decide) rfl (fun ls hl => ?_)
                  refine lv_iload_n C0.1 C0.2.1 dX5_atom_155 rfl (lv_at hl 0 rfl) ?_
                  refine y_if_ge (tgt := 165) C0 dX5_atom_156 (by decide) (fun c_66 => ((o62_42 e_65 c_66)).elim) (fun c_66 => ?_)
                  refine lv_aload_n C0.1 C0.2.1 dX5_atom_159 rfl (lv_at hl 1 rfl) ?_
                  refine y_c1 (n := 2) C0 (by decide) dX5_atom_160 (fun v_67 e_68 => ?_)
                  refine y_cv h (y_rV (As := [.int v_67]) (rest := []) C0 hZ h (c_X5_failS l G Z ad _ h.2 v_67) k_X5_fail q_628 q_3 q_626 kSC_77 rfl rfl rfl hl.1 rfl rfl (Nat.le_of_ble_eq_true rfl) dX5_atom_161 ⟨Nat.le_of_ble_eq_true rfl, Nat.le_of_ble_eq_true rfl⟩ ⟨Nat.le_of_ble_eq_true rfl, Nat.le_of_ble_eq_true rfl⟩) (fun H locs ws_69 h u_70 p_71 => ?_)
                  have e_72 := p_71
                  have hv_73 : (aF 77 ws0) 4 = v_1.toInt := (aF_at (by decide) e_2)
                  have hv_74 : (aF 77 ws0) 4 = v_8.toInt := (aF_at (by decide) e_9)
                  have hq_75 := e_22
                  have hs_76 : aF 77 ws_16 = (aF 77 ws0) := (aF_fr u_17 kSC_77 (by decide))
                  have hq_77 := e_30
                  rw [hs_76] at hq_77
                  have hs_78 : aF 77 ws_24 = (aF 77 ws0) := (aF_fr u_25 kSC_77 (by decide)).trans hs_76
                  have hq_79 := e_38
                  rw [hs_78] at hq_79
                  have hs_80 : aF 77 ws_32 = (aF 77 ws0) := (aF_fr u_33 kSC_77 (by decide)).trans hs_78
                  have hq_81 := e_46
                  rw [hs_80] at hq_81
                  have hs_82 : aF 77 ws_40 = (aF 77 ws0) := (aF_fr u_41 kSC_77 (by decide)).trans hs_80
                  have hq_83 := e_54
                  rw [hs_82] at hq_83
                  have hs_84 : aF 77 ws_48 = (aF 77 ws0) := (aF_fr u_49 kSC_77 (by decide)).trans hs_82
                  have hq_85 := e_62
                  rw [hs_84] at hq_85
                  have hs_86 : aF 77 ws_56 = (aF 77 ws0) := (aF_fr u_57 kSC_77 (by decide)).trans hs_84
                  have hs_87 : aF 77 ws_69 = (failS 2 (aF 77 ws0)) := e_72.trans ((congrArg (fun s => failS v_67.toInt s) hs_86).trans (by rw [(o62_1 e_68)]))
                  have hz_88 : (failS 2 (aF 77 ws0)) = atomD T 5 (aF 77 ws0) := by rw [atomD_5]; unfold atomF; (repeat' split) <;> first | rfl | (exfalso; omega)
                  rw [hQ]
                  exact y_vret C0 h (Fr.tr (Fr.tr (Fr.tr (Fr.tr (Fr.tr (Fr.tr (Fr.mono u_17 (by decide)) (Fr.mono u_25 (by decide))) (Fr.mono u_33 (by decide))) (Fr.mono u_41 (by decide))) (Fr.mono u_49 (by decide))) (Fr.mono u_57 (by decide))) (Fr.mono u_70 (by decide))) (Eq.trans hs_87 hz_88) dX5_atom_164
                · -- 144
                  refine y_c3 (n := 1005) C0 (by decide) dX5_atom_147 (fun v_89 e_90 => ?_)
                  refine lv_goto (tgt := 154) C0.1 C0.2.1 dX5_atom_150 (by decide) ?_
                  refine lv_istore_n (lv' := [(2, .int v_89), (0, .ref (ad 77)), (1, .int a1)]) C0.1 C0.2.1 dX5_atom_154 rfl hl (by decide) rfl (fun ls hl => ?_)
                  refine lv_iload_n C0.1 C0.2.1 dX5_atom_155 rfl (lv_at hl 0 rfl) ?_
                  refine y_if_ge (tgt := 165) C0 dX5_atom_156 (by decide) (fun c_91 => ?_) (fun c_91 => ((o62_43 e_90 c_91)).elim)
                  refine lv_aload_n C0.1 C0.2.1 dX5_atom_165 rfl (lv_at hl 1 rfl) ?_
                  refine tg_X5_law C0 h kSC_77 q_380 dX5_atom_166 (fun i_92 hi_92 => ?_)
                  refine lv_iload_n C0.1 C0.2.1 dX5_atom_169 rfl (lv_at hl 0 rfl) ?_
                  refine y_cv h (y_rV (As := [.int v_89]) (rest := []) C0 hZ h (c_X4_add l G Z ad _ h.2 i_92 hi_92 v_89) k_X4_add q_827 q_828 q_826 hi_92 rfl rfl rfl hl.1 rfl rfl (Nat.le_of_ble_eq_true rfl) dX5_atom_170 ⟨Nat.le_of_ble_eq_true rfl, Nat.le_of_ble_eq_true rfl⟩ ⟨Nat.le_of_ble_eq_true rfl, Nat.le_of_ble_eq_true rfl⟩) (fun H locs ws_93 h u_94 p_95 => ?_)
                  refine lv_aload_n C0.1 C0.2.1 dX5_atom_173 rfl (lv_at hl 1 rfl) ?_
                  refine y_cv h (y_rV (As := []) (rest := []) C0 hZ h (c_X5_advanceS l G Z ad _ h.2 ((Tp.fr (M := [2, 3]) hTp (Fr.tr (Fr.tr (Fr.tr (Fr.tr (Fr.tr (Fr.tr (Fr.mono u_17 (by decide)) (Fr.mono u_25 (by decide))) (Fr.mono u_33 (by decide))) (Fr.mono u_41 (by decide))) (Fr.mono u_49 (by decide))) (Fr.mono u_57 (by decide))) u_94) kSC_78 (by decide)))) k_X5_advance q_616 q_0 q_614 kSC_77 rfl rfl rfl hl.1 rfl rfl (Nat.le_of_ble_eq_true rfl) dX5_atom_174 ⟨Nat.le_of_ble_eq_true rfl, Nat.le_of_ble_eq_true rfl⟩ ⟨Nat.le_of_ble_eq_true rfl, Nat.le_of_ble_eq_true rfl⟩) (fun H locs ws_96 h u_97 p_98 => ?_)
                  have e_99 := p_98
                  have hv_100 : (aF 77 ws0) 4 = v_1.toInt := (aF_at (by decide) e_2)
                  have hv_101 : (aF 77 ws0) 4 = v_8.toInt := (aF_at (by decide) e_9)
                  have hq_102 := e_22
                  have hs_103 : aF 77 ws_16 = (aF 77 ws0) := (aF_fr u_17 kSC_77 (by decide))
                  have hq_104 := e_30
                  rw [hs_103] at hq_104
                  have hs_105 : aF 77 ws_24 = (aF 77 ws0) := (aF_fr u_25 kSC_77 (by decide)).trans hs_103
                  have hq_106 := e_38
                  rw [hs_105] at hq_106
                  have hs_107 : aF 77 ws_32 = (aF 77 ws0) := (aF_fr u_33 kSC_77 (by decide)).trans hs_105
                  have hq_108 := e_46
                  rw [hs_107] at hq_108
                  have hs_109 : aF 77 ws_40 = (aF 77 ws0) := (aF_fr u_41 kSC_77 (by decide)).trans hs_107
                  have hq_110 := e_54
                  rw [hs_109] at hq_110
                  have hs_111 : aF 77 ws_48 = (aF 77 ws0) := (aF_fr u_49 kSC_77 (by decide)).trans hs_109
                  have hq_112 := e_62
                  rw [hs_111] at hq_112
                  have hs_113 : aF 77 ws_56 = (aF 77 ws0) := (aF_fr u_57 kSC_77 (by decide)).trans hs_111
                  have hs_114 : aF 77 ws_93 = (aF 77 ws0) := (aF_fr u_94 kSC_77 (by decide)).trans hs_113
                  have hs_115 : aF 77 ws_96 = (advS T (aF 77 ws0)) := e_99.trans (congrArg (fun s => advS T s) hs_114)
                  have hz_116 : (advS T (aF 77 ws0)) = atomD T 5 (aF 77 ws0) := by rw [atomD_5]; unfold atomF; (repeat' split) <;> first | rfl | (exfalso; omega)
                  rw [hQ]
                  exact y_vret C0 h (Fr.tr (Fr.tr (Fr.tr (Fr.tr (Fr.tr (Fr.tr (Fr.tr (Fr.mono u_17 (by decide)) (Fr.mono u_25 (by decide))) (Fr.mono u_33 (by decide))) (Fr.mono u_41 (by decide))) (Fr.mono u_49 (by decide))) (Fr.mono u_57 (by decide))) (Fr.mono u_94 (by decide))) (Fr.mono u_97 (by decide))) (Eq.trans hs_115 hz_116) dX5_atom_177
              · -- 129
                refine y_c3 (n := 1004) C0 (by decide) dX5_atom_132 (fun v_117 e_118 => ?_)
                refine lv_goto (tgt := 154) C0.1 C0.2.1 dX5_atom_135 (by decide) ?_
                refine lv_istore_n (lv' := [(2, .int v_117), (0, .ref (ad 77)), (1, .int a1)]) C0.1 C0.2.1 dX5_atom_154 rfl hl (by decide) rfl (fun ls hl => ?_)
                refine lv_iload_n C0.1 C0.2.1 dX5_atom_155 rfl (lv_at hl 0 rfl) ?_
                refine y_if_ge (tgt := 165) C0 dX5_atom_156 (by decide) (fun c_119 => ?_) (fun c_119 => ((o62_44 e_118 c_119)).elim)
                refine lv_aload_n C0.1 C0.2.1 dX5_atom_165 rfl (lv_at hl 1 rfl) ?_
                refine tg_X5_law C0 h kSC_77 q_380 dX5_atom_166 (fun i_120 hi_120 => ?_)
                refine lv_iload_n C0.1 C0.2.1 dX5_atom_169 rfl (lv_at hl 0 rfl) ?_
                refine y_cv h (y_rV (As := [.int v_117]) (rest := []) C0 hZ h (c_X4_add l G Z ad _ h.2 i_120 hi_120 v_117) k_X4_add q_827 q_828 q_826 hi_120 rfl rfl rfl hl.1 rfl rfl (Nat.le_of_ble_eq_true rfl) dX5_atom_170 ⟨Nat.le_of_ble_eq_true rfl, Nat.le_of_ble_eq_true rfl⟩ ⟨Nat.le_of_ble_eq_true rfl, Nat.le_of_ble_eq_true rfl⟩) (fun H locs ws_121 h u_122 p_123 => ?_)
                refine lv_aload_n C0.1 C0.2.1 dX5_atom_173 rfl (lv_at hl 1 rfl) ?_
                refine y_cv h (y_rV (As := []) (rest := []) C0 hZ h (c_X5_advanceS l G Z ad _ h.2 ((Tp.fr (M := [2, 3]) hTp (Fr.tr (Fr.tr (Fr.tr (Fr.tr (Fr.tr (Fr.mono u_17 (by decide)) (Fr.mono u_25 (by decide))) (Fr.mono u_33 (by decide))) (Fr.mono u_41 (by decide))) (Fr.mono u_49 (by decide))) u_122) kSC_78 (by decide)))) k_X5_advance q_616 q_0 q_614 kSC_77 rfl rfl rfl hl.1 rfl rfl (Nat.le_of_ble_eq_true rfl) dX5_atom_174 ⟨Nat.le_of_ble_eq_true rfl, Nat.le_of_ble_eq_true rfl⟩ ⟨Nat.le_of_ble_eq_true rfl, Nat.le_of_ble_eq_true rfl⟩) (fun H locs ws_124 h u_125 p_126 => ?_)
                have e_127 := p_126
                have hv_128 : (aF 77 ws0) 4 = v_1.toInt := (aF_at (by decide) e_2)
                have hv_129 : (aF 77 ws0) 4 = v_8.toInt := (aF_at (by decide) e_9)
                have hq_130 := e_22
                have hs_131 : aF 77 ws_16 = (aF 77 ws0) := (aF_fr u_17 kSC_77 (by decide))
                have hq_132 := e_30
                rw [hs_131] at hq_132
                have hs_133 : aF 77 ws_24 = (aF 77 ws0) := (aF_fr u_25 kSC_77 (by decide)).trans hs_131
                have hq_134 := e_38
                rw [hs_133] at hq_134
                have hs_135 : aF 77 ws_32 = (aF 77 ws0) := (aF_fr u_33 kSC_77 (by decide)).trans hs_133
                have hq_136 := e_46
                rw [hs_135] at hq_136
                have hs_137 : aF 77 ws_40 = (aF 77 ws0) := (aF_fr u_41 kSC_77 (by decide)).trans hs_135
                have hq_138 := e_54
                rw [hs_137] at hq_138
                have hs_139 : aF 77 ws_48 = (aF 77 ws0) := (aF_fr u_49 kSC_77 (by decide)).trans hs_137
                have hs_140 : aF 77 ws_121 = (aF 77 ws0) := (aF_fr u_122 kSC_77 (by decide)).trans hs_139
                have hs_141 : aF 77 ws_124 = (advS T (aF 77 ws0)) := e_127.trans (congrArg (fun s => advS T s) hs_140)
                have hz_142 : (advS T (aF 77 ws0)) = atomD T 5 (aF 77 ws0) := by rw [atomD_5]; unfold atomF; (repeat' split) <;> first | rfl | (exfalso; omega)
                rw [hQ]
                exact y_vret C0 h (Fr.tr (Fr.tr (Fr.tr (Fr.tr (Fr.tr (Fr.tr (Fr.mono u_17 (by decide)) (Fr.mono u_25 (by decide))) (Fr.mono u_33 (by decide))) (Fr.mono u_41 (by decide))) (Fr.mono u_49 (by decide))) (Fr.mono u_122 (by decide))) (Fr.mono u_125 (by decide))) (Eq.trans hs_141 hz_142) dX5_atom_177
            · -- 114
              refine y_c3 (n := 1003) C0 (by decide) dX5_atom_117 (fun v_143 e_144 => ?_)
              refine lv_goto (tgt := 154) C0.1 C0.2.1 dX5_atom_120 (by decide) ?_
              refine lv_istore_n (lv' := [(2, .int v_143), (0, .ref (ad 77)), (1, .int a1)]) C0.1 C0.2.1 dX5_atom_154 rfl hl (by decide) rfl (fun ls hl => ?_)
              refine lv_iload_n C0.1 C0.2.1 dX5_atom_155 rfl (lv_at hl 0 rfl) ?_
              refine y_if_ge (tgt := 165) C0 dX5_atom_156 (by decide) (fun c_145 => ?_) (fun c_145 => ((o62_45 e_144 c_145)).elim)
              refine lv_aload_n C0.1 C0.2.1 dX5_atom_165 rfl (lv_at hl 1 rfl) ?_
              refine tg_X5_law C0 h kSC_77 q_380 dX5_atom_166 (fun i_146 hi_146 => ?_)
              refine lv_iload_n C0.1 C0.2.1 dX5_atom_169 rfl (lv_at hl 0 rfl) ?_
              refine y_cv h (y_rV (As := [.int v_143]) (rest := []) C0 hZ h (c_X4_add l G Z ad _ h.2 i_146 hi_146 v_143) k_X4_add q_827 q_828 q_826 hi_146 rfl rfl rfl hl.1 rfl rfl (Nat.le_of_ble_eq_true rfl) dX5_atom_170 ⟨Nat.le_of_ble_eq_true rfl, Nat.le_of_ble_eq_true rfl⟩ ⟨Nat.le_of_ble_eq_true rfl, Nat.le_of_ble_eq_true rfl⟩) (fun H locs ws_147 h u_148 p_149 => ?_)
              refine lv_aload_n C0.1 C0.2.1 dX5_atom_173 rfl (lv_at hl 1 rfl) ?_
              refine y_cv h (y_rV (As := []) (rest := []) C0 hZ h (c_X5_advanceS l G Z ad _ h.2 ((Tp.fr (M := [2, 3]) hTp (Fr.tr (Fr.tr (Fr.tr (Fr.tr (Fr.mono u_17 (by decide)) (Fr.mono u_25 (by decide))) (Fr.mono u_33 (by decide))) (Fr.mono u_41 (by decide))) u_148) kSC_78 (by decide)))) k_X5_advance q_616 q_0 q_614 kSC_77 rfl rfl rfl hl.1 rfl rfl (Nat.le_of_ble_eq_true rfl) dX5_atom_174 ⟨Nat.le_of_ble_eq_true rfl, Nat.le_of_ble_eq_true rfl⟩ ⟨Nat.le_of_ble_eq_true rfl, Nat.le_of_ble_eq_true rfl⟩) (fun H locs ws_150 h u_151 p_152 => ?_)
              have e_153 := p_152
              have hv_154 : (aF 77 ws0) 4 = v_1.toInt := (aF_at (by decide) e_2)
              have hv_155 : (aF 77 ws0) 4 = v_8.toInt := (aF_at (by decide) e_9)
              have hq_156 := e_22
              have hs_157 : aF 77 ws_16 = (aF 77 ws0) := (aF_fr u_17 kSC_77 (by decide))
              have hq_158 := e_30
              rw [hs_157] at hq_158
              have hs_159 : aF 77 ws_24 = (aF 77 ws0) := (aF_fr u_25 kSC_77 (by decide)).trans hs_157
              have hq_160 := e_38
              rw [hs_159] at hq_160
              have hs_161 : aF 77 ws_32 = (aF 77 ws0) := (aF_fr u_33 kSC_77 (by decide)).trans hs_159
              have hq_162 := e_46
              rw [hs_161] at hq_162
              have hs_163 : aF 77 ws_40 = (aF 77 ws0) := (aF_fr u_41 kSC_77 (by decide)).trans hs_161
              have hs_164 : aF 77 ws_147 = (aF 77 ws0) := (aF_fr u_148 kSC_77 (by decide)).trans hs_163
              have hs_165 : aF 77 ws_150 = (advS T (aF 77 ws0)) := e_153.trans (congrArg (fun s => advS T s) hs_164)
              have hz_166 : (advS T (aF 77 ws0)) = atomD T 5 (aF 77 ws0) := by rw [atomD_5]; unfold atomF; (repeat' split) <;> first | rfl | (exfalso; omega)
              rw [hQ]
              exact y_vret C0 h (Fr.tr (Fr.tr (Fr.tr (Fr.tr (Fr.tr (Fr.mono u_17 (by decide)) (Fr.mono u_25 (by decide))) (Fr.mono u_33 (by decide))) (Fr.mono u_41 (by decide))) (Fr.mono u_148 (by decide))) (Fr.mono u_151 (by decide))) (Eq.trans hs_165 hz_166) dX5_atom_177
          · -- 99
            refine y_c3 (n := 1002) C0 (by decide) dX5_atom_102 (fun v_167 e_168 => ?_)
            refine lv_goto (tgt := 154) C0.1 C0.2.1 dX5_atom_105 (by decide) ?_
            refine lv_istore_n (lv' := [(2, .int v_167), (0, .ref (ad 77)), (1, .int a1)]) C0.1 C0.2.1 dX5_atom_154 rfl hl (by decide) rfl (fun ls hl => ?_)
            refine lv_iload_n C0.1 C0.2.1 dX5_atom_155 rfl (lv_at hl 0 rfl) ?_
            refine y_if_ge (tgt := 165) C0 dX5_atom_156 (by decide) (fun c_169 => ?_) (fun c_169 => ((o62_46 e_168 c_169)).elim)
            refine lv_aload_n C0.1 C0.2.1 dX5_atom_165 rfl (lv_at hl 1 rfl) ?_
            refine tg_X5_law C0 h kSC_77 q_380 dX5_atom_166 (fun i_170 hi_170 => ?_)
            refine lv_iload_n C0.1 C0.2.1 dX5_atom_169 rfl (lv_at hl 0 rfl) ?_
            refine y_cv h (y_rV (As := [.int v_167]) (rest := []) C0 hZ h (c_X4_add l G Z ad _ h.2 i_170 hi_170 v_167) k_X4_add q_827 q_828 q_826 hi_170 rfl rfl rfl hl.1 rfl rfl (Nat.le_of_ble_eq_true rfl) dX5_atom_170 ⟨Nat.le_of_ble_eq_true rfl, Nat.le_of_ble_eq_true rfl⟩ ⟨Nat.le_of_ble_eq_true rfl, Nat.le_of_ble_eq_true rfl⟩) (fun H locs ws_171 h u_172 p_173 => ?_)
            refine lv_aload_n C0.1 C0.2.1 dX5_atom_173 rfl (lv_at hl 1 rfl) ?_
            refine y_cv h (y_rV (As := []) (rest := []) C0 hZ h (c_X5_advanceS l G Z ad _ h.2 ((Tp.fr (M := [2, 3]) hTp (Fr.tr (Fr.tr (Fr.tr (Fr.mono u_17 (by decide)) (Fr.mono u_25 (by decide))) (Fr.mono u_33 (by decide))) u_172) kSC_78 (by decide)))) k_X5_advance q_616 q_0 q_614 kSC_77 rfl rfl rfl hl.1 rfl rfl (Nat.le_of_ble_eq_true rfl) dX5_atom_174 ⟨Nat.le_of_ble_eq_true rfl, Nat.le_of_ble_eq_true rfl⟩ ⟨Nat.le_of_ble_eq_true rfl, Nat.le_of_ble_eq_true rfl⟩) (fun H locs ws_174 h u_175 p_176 => ?_)
            have e_177 := p_176
            have hv_178 : (aF 77 ws0) 4 = v_1.toInt := (aF_at (by decide) e_2)
            have hv_179 : (aF 77 ws0) 4 = v_8.toInt := (aF_at (by decide) e_9)
            have hq_180 := e_22
            have hs_181 : aF 77 ws_16 = (aF 77 ws0) := (aF_fr u_17 kSC_77 (by decide))
            have hq_182 := e_30
            rw [hs_181] at hq_182
            have hs_183 : aF 77 ws_24 = (aF 77 ws0) := (aF_fr u_25 kSC_77 (by decide)).trans hs_181
            have hq_184 := e_38
            rw [hs_183] at hq_184
            have hs_185 : aF 77 ws_32 = (aF 77 ws0) := (aF_fr u_33 kSC_77 (by decide)).trans hs_183
            have hs_186 : aF 77 ws_171 = (aF 77 ws0) := (aF_fr u_172 kSC_77 (by decide)).trans hs_185
            have hs_187 : aF 77 ws_174 = (advS T (aF 77 ws0)) := e_177.trans (congrArg (fun s => advS T s) hs_186)
            have hz_188 : (advS T (aF 77 ws0)) = atomD T 5 (aF 77 ws0) := by rw [atomD_5]; unfold atomF; (repeat' split) <;> first | rfl | (exfalso; omega)
            rw [hQ]
            exact y_vret C0 h (Fr.tr (Fr.tr (Fr.tr (Fr.tr (Fr.mono u_17 (by decide)) (Fr.mono u_25 (by decide))) (Fr.mono u_33 (by decide))) (Fr.mono u_172 (by decide))) (Fr.mono u_175 (by decide))) (Eq.trans hs_187 hz_188) dX5_atom_177
        · -- 84
          refine y_c3 (n := 1001) C0 (by decide) dX5_atom_87 (fun v_189 e_190 => ?_)
          refine lv_goto (tgt := 154) C0.1 C0.2.1 dX5_atom_90 (by decide) ?_
          refine lv_istore_n (lv' := [(2, .int v_189), (0, .ref (ad 77)), (1, .int a1)]) C0.1 C0.2.1 dX5_atom_154 rfl hl (by decide) rfl (fun ls hl => ?_)
          refine lv_iload_n C0.1 C0.2.1 dX5_atom_155 rfl (lv_at hl 0 rfl) ?_
          refine y_if_ge (tgt := 165) C0 dX5_atom_156 (by decide) (fun c_191 => ?_) (fun c_191 => ((o62_47 e_190 c_191)).elim)
          refine lv_aload_n C0.1 C0.2.1 dX5_atom_165 rfl (lv_at hl 1 rfl) ?_
          refine tg_X5_law C0 h kSC_77 q_380 dX5_atom_166 (fun i_192 hi_192 => ?_)
          refine lv_iload_n C0.1 C0.2.1 dX5_atom_169 rfl (lv_at hl 0 rfl) ?_
          refine y_cv h (y_rV (As := [.int v_189]) (rest := []) C0 hZ h (c_X4_add l G Z ad _ h.2 i_192 hi_192 v_189) k_X4_add q_827 q_828 q_826 hi_192 rfl rfl rfl hl.1 rfl rfl (Nat.le_of_ble_eq_true rfl) dX5_atom_170 ⟨Nat.le_of_ble_eq_true rfl, Nat.le_of_ble_eq_true rfl⟩ ⟨Nat.le_of_ble_eq_true rfl, Nat.le_of_ble_eq_true rfl⟩) (fun H locs ws_193 h u_194 p_195 => ?_)
          refine lv_aload_n C0.1 C0.2.1 dX5_atom_173 rfl (lv_at hl 1 rfl) ?_
          refine y_cv h (y_rV (As := []) (rest := []) C0 hZ h (c_X5_advanceS l G Z ad _ h.2 ((Tp.fr (M := [2, 3]) hTp (Fr.tr (Fr.tr (Fr.mono u_17 (by decide)) (Fr.mono u_25 (by decide))) u_194) kSC_78 (by decide)))) k_X5_advance q_616 q_0 q_614 kSC_77 rfl rfl rfl hl.1 rfl rfl (Nat.le_of_ble_eq_true rfl) dX5_atom_174 ⟨Nat.le_of_ble_eq_true rfl, Nat.le_of_ble_eq_true rfl⟩ ⟨Nat.le_of_ble_eq_true rfl, Nat.le_of_ble_eq_true rfl⟩) (fun H locs ws_196 h u_197 p_198 => ?_)
          have e_199 := p_198
          have hv_200 : (aF 77 ws0) 4 = v_1.toInt := (aF_at (by decide) e_2)
          have hv_201 : (aF 77 ws0) 4 = v_8.toInt := (aF_at (by decide) e_9)
          have hq_202 := e_22
          have hs_203 : aF 77 ws_16 = (aF 77 ws0) := (aF_fr u_17 kSC_77 (by decide))
          have hq_204 := e_30
          rw [hs_203] at hq_204
          have hs_205 : aF 77 ws_24 = (aF 77 ws0) := (aF_fr u_25 kSC_77 (by decide)).trans hs_203
          have hs_206 : aF 77 ws_193 = (aF 77 ws0) := (aF_fr u_194 kSC_77 (by decide)).trans hs_205
          have hs_207 : aF 77 ws_196 = (advS T (aF 77 ws0)) := e_199.trans (congrArg (fun s => advS T s) hs_206)
          have hz_208 : (advS T (aF 77 ws0)) = atomD T 5 (aF 77 ws0) := by rw [atomD_5]; unfold atomF; (repeat' split) <;> first | rfl | (exfalso; omega)
          rw [hQ]
          exact y_vret C0 h (Fr.tr (Fr.tr (Fr.tr (Fr.mono u_17 (by decide)) (Fr.mono u_25 (by decide))) (Fr.mono u_194 (by decide))) (Fr.mono u_197 (by decide))) (Eq.trans hs_207 hz_208) dX5_atom_177
      · -- 69
        refine y_c3 (n := 1000) C0 (by decide) dX5_atom_72 (fun v_209 e_210 => ?_)
        refine lv_goto (tgt := 154) C0.1 C0.2.1 dX5_atom_75 (by decide) ?_
        refine lv_istore_n (lv' := [(2, .int v_209), (0, .ref (ad 77)), (1, .int a1)]) C0.1 C0.2.1 dX5_atom_154 rfl hl (by decide) rfl (fun ls hl => ?_)
        refine lv_iload_n C0.1 C0.2.1 dX5_atom_155 rfl (lv_at hl 0 rfl) ?_
        refine y_if_ge (tgt := 165) C0 dX5_atom_156 (by decide) (fun c_211 => ?_) (fun c_211 => ((o62_48 e_210 c_211)).elim)
        refine lv_aload_n C0.1 C0.2.1 dX5_atom_165 rfl (lv_at hl 1 rfl) ?_
        refine tg_X5_law C0 h kSC_77 q_380 dX5_atom_166 (fun i_212 hi_212 => ?_)
        refine lv_iload_n C0.1 C0.2.1 dX5_atom_169 rfl (lv_at hl 0 rfl) ?_
        refine y_cv h (y_rV (As := [.int v_209]) (rest := []) C0 hZ h (c_X4_add l G Z ad _ h.2 i_212 hi_212 v_209) k_X4_add q_827 q_828 q_826 hi_212 rfl rfl rfl hl.1 rfl rfl (Nat.le_of_ble_eq_true rfl) dX5_atom_170 ⟨Nat.le_of_ble_eq_true rfl, Nat.le_of_ble_eq_true rfl⟩ ⟨Nat.le_of_ble_eq_true rfl, Nat.le_of_ble_eq_true rfl⟩) (fun H locs ws_213 h u_214 p_215 => ?_)
        refine lv_aload_n C0.1 C0.2.1 dX5_atom_173 rfl (lv_at hl 1 rfl) ?_
        refine y_cv h (y_rV (As := []) (rest := []) C0 hZ h (c_X5_advanceS l G Z ad _ h.2 ((Tp.fr (M := [2, 3]) hTp (Fr.tr (Fr.mono u_17 (by decide)) u_214) kSC_78 (by decide)))) k_X5_advance q_616 q_0 q_614 kSC_77 rfl rfl rfl hl.1 rfl rfl (Nat.le_of_ble_eq_true rfl) dX5_atom_174 ⟨Nat.le_of_ble_eq_true rfl, Nat.le_of_ble_eq_true rfl⟩ ⟨Nat.le_of_ble_eq_true rfl, Nat.le_of_ble_eq_true rfl⟩) (fun H locs ws_216 h u_217 p_218 => ?_)
        have e_219 := p_218
        have hv_220 : (aF 77 ws0) 4 = v_1.toInt := (aF_at (by decide) e_2)
        have hv_221 : (aF 77 ws0) 4 = v_8.toInt := (aF_at (by decide) e_9)
        have hq_222 := e_22
        have hs_223 : aF 77 ws_16 = (aF 77 ws0) := (aF_fr u_17 kSC_77 (by decide))
        have hs_224 : aF 77 ws_213 = (aF 77 ws0) := (aF_fr u_214 kSC_77 (by decide)).trans hs_223
        have hs_225 : aF 77 ws_216 = (advS T (aF 77 ws0)) := e_219.trans (congrArg (fun s => advS T s) hs_224)
        have hz_226 : (advS T (aF 77 ws0)) = atomD T 5 (aF 77 ws0) := by rw [atomD_5]; unfold atomF; (repeat' split) <;> first | rfl | (exfalso; omega)
        rw [hQ]
        exact y_vret C0 h (Fr.tr (Fr.tr (Fr.mono u_17 (by decide)) (Fr.mono u_214 (by decide))) (Fr.mono u_217 (by decide))) (Eq.trans hs_225 hz_226) dX5_atom_177
    · -- 32
      refine lv_aload_n C0.1 C0.2.1 dX5_atom_35 rfl (lv_at hl 0 rfl) ?_
      refine lv_iload_n C0.1 C0.2.1 dX5_atom_36 rfl (lv_at hl 1 rfl) ?_
      refine y_ci h (y_rV (As := [.int a1]) (rest := []) C0 hZ h (c_X5_tooDeep_1S l G Z ad _ h.2 a1 (o62_103 l1 u1) (o62_104 l1 u1)) k_X5_tooDeep q_832 q_18 q_830 kSC_77 rfl rfl rfl hl.1 rfl rfl (Nat.le_of_ble_eq_true rfl) dX5_atom_37 ⟨Nat.le_of_ble_eq_true rfl, Nat.le_of_ble_eq_true rfl⟩ ⟨Nat.le_of_ble_eq_true rfl, Nat.le_of_ble_eq_true rfl⟩) (fun r_230 H locs ws_227 h u_228 p_229 => ?_)
      obtain ⟨e_231, e_232, e_233⟩ := p_229
      refine y_if_ne (tgt := 177) C0 dX5_atom_40 (by decide) (fun c_234 => ((o62_71 e_231 e_232 c_234)).elim) (fun c_234 => ?_)
      refine lv_aload_n C0.1 C0.2.1 dX5_atom_43 rfl (lv_at hl 0 rfl) ?_
      refine y_cv h (y_rV (As := []) (rest := []) C0 hZ h (c_X5_advanceS l G Z ad _ h.2 ((Tp.fr (M := []) hTp u_228 kSC_78 (by decide)))) k_X5_advance q_616 q_0 q_614 kSC_77 rfl rfl rfl hl.1 rfl rfl (Nat.le_of_ble_eq_true rfl) dX5_atom_44 ⟨Nat.le_of_ble_eq_true rfl, Nat.le_of_ble_eq_true rfl⟩ ⟨Nat.le_of_ble_eq_true rfl, Nat.le_of_ble_eq_true rfl⟩) (fun H locs ws_235 h u_236 p_237 => ?_)
      have e_238 := p_237
      refine lv_aload_n C0.1 C0.2.1 dX5_atom_47 rfl (lv_at hl 0 rfl) ?_
      refine lv_iload_n C0.1 C0.2.1 dX5_atom_48 rfl (lv_at hl 1 rfl) ?_
      refine y_c1 (n := 1) C0 (by decide) dX5_atom_49 (fun v_239 e_240 => ?_)
      refine y_add C0 (o62_105 l1 u1 e_240 (le_min a1) (le_max a1) (le_min v_239) (le_max v_239)) (o62_106 l1 u1 e_240 (le_min a1) (le_max a1) (le_min v_239) (le_max v_239)) dX5_atom_50 (fun v_241 e_242 => ?_)
      refine y_cv h (y_rV (As := [.int v_241]) (rest := []) C0 hZ h (c_X5_sum_2S l G Z ad _ h.2 v_241 (o62_107 l1 u1 e_240 e_242) (o62_108 l1 u1 e_240 e_242) ((Tp.fr (M := [16]) hTp (Fr.tr (Fr.mono u_228 (by decide)) u_236) kSC_78 (by decide)))) k_X5_sum q_816 q_15 q_814 kSC_77 rfl rfl rfl hl.1 rfl rfl (Nat.le_of_ble_eq_true rfl) dX5_atom_51 ⟨Nat.le_of_ble_eq_true rfl, Nat.le_of_ble_eq_true rfl⟩ ⟨Nat.le_of_ble_eq_true rfl, Nat.le_of_ble_eq_true rfl⟩) (fun H locs ws_243 h u_244 p_245 => ?_)
      have e_246 := p_245
      refine lv_aload_n C0.1 C0.2.1 dX5_atom_54 rfl (lv_at hl 0 rfl) ?_
      refine y_c2 (n := 41) C0 (by decide) dX5_atom_55 (fun v_247 e_248 => ?_)
      refine y_cv h (y_rV (As := [.int v_247]) (rest := []) C0 hZ h (c_X5_signS l G Z ad _ h.2 v_247 (o62_76 e_248) (o62_77 e_248) ((Tp.fr (M := [2, 3, 16]) hTp (Fr.tr (Fr.tr (Fr.mono u_228 (by decide)) (Fr.mono u_236 (by decide))) u_244) kSC_78 (by decide)))) k_X5_sign q_812 q_14 q_810 kSC_77 rfl rfl rfl hl.1 rfl rfl (Nat.le_of_ble_eq_true rfl) dX5_atom_57 ⟨Nat.le_of_ble_eq_true rfl, Nat.le_of_ble_eq_true rfl⟩ ⟨Nat.le_of_ble_eq_true rfl, Nat.le_of_ble_eq_true rfl⟩) (fun H locs ws_249 h u_250 p_251 => ?_)
      have e_252 := p_251
      refine lv_goto (tgt := 177) C0.1 C0.2.1 dX5_atom_60 (by decide) ?_
      have hv_253 : (aF 77 ws0) 4 = v_1.toInt := (aF_at (by decide) e_2)
      have hv_254 : (aF 77 ws0) 4 = v_8.toInt := (aF_at (by decide) e_9)
      have hs_255 : aF 77 ws_227 = ((fun s => s) (aF 77 ws0)) := e_233
      have hs_256 : aF 77 ws_235 = (advS T ((fun s => s) (aF 77 ws0))) := e_238.trans (congrArg (fun s => advS T s) hs_255)
      have hs_257 : aF 77 ws_243 = (sumL T (atomD T 4) (advS T ((fun s => s) (aF 77 ws0)))) := e_246.trans (congrArg (fun s => sumL T (atomD T 4) s) hs_256)
      have hs_258 : aF 77 ws_249 = (signS T 41 (sumL T (atomD T 4) (advS T ((fun s => s) (aF 77 ws0))))) := e_252.trans ((congrArg (fun s => signS T v_247.toInt s) hs_257).trans (by rw [(o62_78 e_248)]))
      have hz_259 : (signS T 41 (sumL T (atomD T 4) (advS T ((fun s => s) (aF 77 ws0))))) = atomD T 5 (aF 77 ws0) := by rw [atomD_5]; unfold atomF; (repeat' split) <;> first | rfl | (exfalso; omega)
      rw [hQ]
      exact y_vret C0 h (Fr.tr (Fr.tr (Fr.tr (Fr.mono u_228 (by decide)) (Fr.mono u_236 (by decide))) u_244) (Fr.mono u_250 (by decide))) (Eq.trans hs_258 hz_259) dX5_atom_177
  · -- 5
    refine lv_aload_n C0.1 C0.2.1 dX5_atom_8 rfl (lv_at hl 0 rfl) ?_
    refine tg_X5_law C0 h kSC_77 q_380 dX5_atom_9 (fun i_260 hi_260 => ?_)
    refine lv_aload_n C0.1 C0.2.1 dX5_atom_12 rfl (lv_at hl 0 rfl) ?_
    refine tg_X5_number C0 h kSC_77 q_377 dX5_atom_13 (fun v_261 e_262 e_263 e_264 => ?_)
    refine y_cv h (y_rV (As := [.int v_261]) (rest := []) C0 hZ h (c_X4_add l G Z ad _ h.2 i_260 hi_260 v_261) k_X4_add q_827 q_828 q_826 hi_260 rfl rfl rfl hl.1 rfl rfl (Nat.le_of_ble_eq_true rfl) dX5_atom_16 ⟨Nat.le_of_ble_eq_true rfl, Nat.le_of_ble_eq_true rfl⟩ ⟨Nat.le_of_ble_eq_true rfl, Nat.le_of_ble_eq_true rfl⟩) (fun H locs ws_265 h u_266 p_267 => ?_)
    refine lv_aload_n C0.1 C0.2.1 dX5_atom_19 rfl (lv_at hl 0 rfl) ?_
    refine y_cv h (y_rV (As := []) (rest := []) C0 hZ h (c_X5_advanceS l G Z ad _ h.2 ((Tp.fr (M := [2, 3]) hTp u_266 kSC_78 (by decide)))) k_X5_advance q_616 q_0 q_614 kSC_77 rfl rfl rfl hl.1 rfl rfl (Nat.le_of_ble_eq_true rfl) dX5_atom_20 ⟨Nat.le_of_ble_eq_true rfl, Nat.le_of_ble_eq_true rfl⟩ ⟨Nat.le_of_ble_eq_true rfl, Nat.le_of_ble_eq_true rfl⟩) (fun H locs ws_268 h u_269 p_270 => ?_)
    have e_271 := p_270
    refine lv_goto (tgt := 177) C0.1 C0.2.1 dX5_atom_23 (by decide) ?_
    have hv_272 : (aF 77 ws0) 4 = v_1.toInt := (aF_at (by decide) e_2)
    have hv_273 : (aF 77 ws0) 7 = v_261.toInt := (aF_at (by decide) e_262)
    have hs_274 : aF 77 ws_265 = (aF 77 ws0) := (aF_fr u_266 kSC_77 (by decide))
    have hs_275 : aF 77 ws_268 = (advS T (aF 77 ws0)) := e_271.trans (congrArg (fun s => advS T s) hs_274)
    have hz_276 : (advS T (aF 77 ws0)) = atomD T 5 (aF 77 ws0) := by rw [atomD_5]; unfold atomF; (repeat' split) <;> first | rfl | (exfalso; omega)
    rw [hQ]
    exact y_vret C0 h (Fr.tr (Fr.mono u_266 (by decide)) (Fr.mono u_269 (by decide))) (Eq.trans hs_275 hz_276) dX5_atom_177
set_option maxHeartbeats 4000000 in
set_option maxRecDepth 100000 in
theorem c_X5_term_1S {T : Nat → Int} (l : Launch) (G : GG) (Z : RZ) (ad : Nat → Nat) (ws0 : va_W) (hT : Ty G (SC tt) ad ws0) (a1 : Int32) (l1 : 1 ≤ a1.toInt) (u1 : a1.toInt ≤ 1) (hTp : Tp T ws0) : Mq l yX5_term cX5_term 3 none 22 G Z [.ref (ad 77), .int a1] ws0 (PV G (SC tt) ad [2, 3, 16] ws0 (fun u => (aF 77 u = termL T (atomD T 5) (aF 77 ws0)))) := by
  refine Mq.start (by decide) (Nat.le_of_ble_eq_true rfl) ?_
  intro p e s m below meth c A ls C0 hZ h hl
  have hl : lv_has ls 3 [(0, .ref (ad 77)), (1, .int a1)] := hl
  have h : Wt G (SC tt) ad A s s.heap [] ws0 := ⟨h, hT⟩
  obtain ⟨args, hargs⟩ : ∃ z, z = ([.ref (ad 77), .int a1] : List Value).toArray := ⟨_, rfl⟩
  rw [← hargs] at C0 ⊢
  have C0 : Cx p s m args meth c RX5 cX5_term 3 none := C0
  obtain ⟨Q, hQ⟩ : ∃ z, z = MQ below ((PV G (SC tt) ad [2, 3, 16] ws0 (fun u => (aF 77 u = termL T (atomD T 5) (aF 77 ws0)))) A) args s 0 0 A := ⟨_, rfl⟩
  rw [← hQ]
  refine lv_aload_n C0.1 C0.2.1 dX5_term_0 rfl (lv_at hl 0 rfl) ?_
  refine lv_iload_n C0.1 C0.2.1 dX5_term_1 rfl (lv_at hl 1 rfl) ?_
  refine y_cv h (y_rV (As := [.int a1]) (rest := []) C0 hZ h (c_X5_atom_1S l G Z ad _ h.2 a1 (o62_103 l1 u1) (o62_104 l1 u1) hTp) k_X5_atom q_824 q_17 q_822 kSC_77 rfl rfl rfl hl.1 rfl rfl (Nat.le_of_ble_eq_true rfl) dX5_term_2 ⟨Nat.le_of_ble_eq_true rfl, Nat.le_of_ble_eq_true rfl⟩ ⟨Nat.le_of_ble_eq_true rfl, Nat.le_of_ble_eq_true rfl⟩) (fun H locs ws_1 h u_2 p_3 => ?_)
  have e_4 := p_3
  refine y_c1 (n := 0) C0 (by decide) dX5_term_5 (fun v_5 e_6 => ?_)
  refine lv_istore_n (lv' := [(2, .int v_5), (0, .ref (ad 77)), (1, .int a1)]) C0.1 C0.2.1 dX5_term_6 rfl hl (by decide) rfl (fun ls hl => ?_)
  have lp_10 : ∀ (n_12 : Nat) (x2_7 : Int32) (H : Heap) (locs : List Loc) (ls : Array Slot) (ws_8 : va_W), 900 - x2_7.toInt < (n_12 : Int) → 0 ≤ x2_7.toInt → x2_7.toInt ≤ 900 → (lpS (fun s => s 4 = 42) (fun s => atomD T 5 (advS T s)) (900 - x2_7.toInt).toNat (aF 77 ws_8) = termL T (atomD T 5) (aF 77 ws0)) → Wt G (SC tt) ad A s H locs ws_8 → Fr (SC tt) [2, 3, 16] ws_1 ws_8 → lv_has ls 3 [(2, .int x2_7), (0, .ref (ad 77)), (1, .int a1)] → W p l e (rmd 22 0 0) s m args below meth c H locs 0 0 Q (F0 m 7 ls []) := by
    intro n_12
    induction n_12 with
    | zero => intro x2_7 H locs ls ws_8 hn_13 b_14 b_15 hSp h hF_9 hl; exact ((o62_52 b_14 b_15 hn_13)).elim
    | succ n_12 ih_11 =>
      intro x2_7 H locs ls ws_8 hn_13 b_14 b_15 hSp h hF_9 hl
      refine lv_iload_n C0.1 C0.2.1 dX5_term_7 rfl (lv_at hl 0 rfl) ?_
      refine y_c3 (n := 900) C0 (by decide) dX5_term_8 (fun v_16 e_17 => ?_)
      refine y_icmp_ge (tgt := 48) C0 dX5_term_11 (by decide) (fun c_18 => ?_) (fun c_18 => ?_)
      · -- 11
        have hz_19 : (aF 77 ws_8) = lpS (fun s => s 4 = 42) (fun s => atomD T 5 (advS T s)) (900 - x2_7.toInt).toNat (aF 77 ws_8) := by first | (exfalso; omega) | exact (lp_0 (by omega)).symm | exact (lp_e (by omega)).symm
        rw [hQ]
        exact y_vret C0 h (Fr.tr u_2 hF_9) (Eq.trans rfl (Eq.trans hz_19 hSp)) dX5_term_48
      · -- 11
        refine lv_aload_n C0.1 C0.2.1 dX5_term_14 rfl (lv_at hl 1 rfl) ?_
        refine tg_X5_kind C0 h kSC_77 q_374 dX5_term_15 (fun v_20 e_21 e_22 e_23 => ?_)
        refine y_c2 (n := 42) C0 (by decide) dX5_term_18 (fun v_24 e_25 => ?_)
        refine y_icmp_ne (tgt := 48) C0 dX5_term_20 (by decide) (fun c_26 => ?_) (fun c_26 => ?_)
        · -- 20
          have hv_27 : (aF 77 ws_8) 4 = v_20.toInt := (aF_at (by decide) e_21)
          have hz_28 : (aF 77 ws_8) = lpS (fun s => s 4 = 42) (fun s => atomD T 5 (advS T s)) (900 - x2_7.toInt).toNat (aF 77 ws_8) := by first | (exfalso; omega) | exact (lp_0 (by omega)).symm | exact (lp_e (by omega)).symm
          rw [hQ]
          exact y_vret C0 h (Fr.tr u_2 hF_9) (Eq.trans rfl (Eq.trans hz_28 hSp)) dX5_term_48
        · -- 20
          refine lv_aload_n C0.1 C0.2.1 dX5_term_23 rfl (lv_at hl 1 rfl) ?_
          refine y_cv h (y_rV (As := []) (rest := []) C0 hZ h (c_X5_advanceS l G Z ad _ h.2 ((Tp.fr (M := [2, 3, 16]) hTp (Fr.tr u_2 hF_9) kSC_78 (by decide)))) k_X5_advance q_616 q_0 q_614 kSC_77 rfl rfl rfl hl.1 rfl rfl (Nat.le_of_ble_eq_true rfl) dX5_term_24 ⟨Nat.le_of_ble_eq_true rfl, Nat.le_of_ble_eq_true rfl⟩ ⟨Nat.le_of_ble_eq_true rfl, Nat.le_of_ble_eq_true rfl⟩) (fun H locs ws_29 h u_30 p_31 => ?_)
          have e_32 := p_31
          refine lv_aload_n C0.1 C0.2.1 dX5_term_27 rfl (lv_at hl 1 rfl) ?_
          refine lv_iload_n C0.1 C0.2.1 dX5_term_28 rfl (lv_at hl 2 rfl) ?_
          refine y_cv h (y_rV (As := [.int a1]) (rest := []) C0 hZ h (c_X5_atom_1S l G Z ad _ h.2 a1 (o62_103 l1 u1) (o62_104 l1 u1) ((Tp.fr (M := [2, 3, 16]) hTp (Fr.tr (Fr.tr u_2 hF_9) (Fr.mono u_30 (by decide))) kSC_78 (by decide)))) k_X5_atom q_824 q_17 q_822 kSC_77 rfl rfl rfl hl.1 rfl rfl (Nat.le_of_ble_eq_true rfl) dX5_term_29 ⟨Nat.le_of_ble_eq_true rfl, Nat.le_of_ble_eq_true rfl⟩ ⟨Nat.le_of_ble_eq_true rfl, Nat.le_of_ble_eq_true rfl⟩) (fun H locs ws_33 h u_34 p_35 => ?_)
          have e_36 := p_35
          refine lv_aload_n C0.1 C0.2.1 dX5_term_32 rfl (lv_at hl 1 rfl) ?_
          refine tg_X5_law C0 h kSC_77 q_380 dX5_term_33 (fun i_37 hi_37 => ?_)
          refine y_c3 (n := 2002) C0 (by decide) dX5_term_36 (fun v_38 e_39 => ?_)
          refine y_cv h (y_rV (As := [.int v_38]) (rest := []) C0 hZ h (c_X4_add l G Z ad _ h.2 i_37 hi_37 v_38) k_X4_add q_827 q_828 q_826 hi_37 rfl rfl rfl hl.1 rfl rfl (Nat.le_of_ble_eq_true rfl) dX5_term_39 ⟨Nat.le_of_ble_eq_true rfl, Nat.le_of_ble_eq_true rfl⟩ ⟨Nat.le_of_ble_eq_true rfl, Nat.le_of_ble_eq_true rfl⟩) (fun H locs ws_40 h u_41 p_42 => ?_)
          refine y_inc (kp := 0) (n := 1) (fun v_43 => [(2, .int v_43), (0, .ref (ad 77)), (1, .int a1)]) C0 hl rfl (by decide) (by decide) (fun _ => rfl) (o62_53 b_14 b_15 hn_13 e_17 c_18 (le_min x2_7) (le_max x2_7) (le_min v_16) (le_max v_16)) (o62_54 b_14 b_15 hn_13 e_17 c_18 (le_min x2_7) (le_max x2_7) (le_min v_16) (le_max v_16)) dX5_term_42 (fun v_43 ls e_44 hl => ?_)
          refine lv_goto (tgt := 7) C0.1 C0.2.1 dX5_term_45 (by decide) ?_
          have hv_45 : (aF 77 ws_8) 4 = v_20.toInt := (aF_at (by decide) e_21)
          have hs_46 : aF 77 ws_29 = (advS T (aF 77 ws_8)) := e_32
          have hs_47 : aF 77 ws_33 = (atomD T 5 (advS T (aF 77 ws_8))) := e_36.trans (congrArg (fun s => atomD T 5 s) hs_46)
          have hs_48 : aF 77 ws_40 = (atomD T 5 (advS T (aF 77 ws_8))) := (aF_fr u_41 kSC_77 (by decide)).trans hs_47
          exact ih_11 v_43 _ _ _ _ (o62_55 b_14 b_15 hn_13 e_17 c_18 e_44) (o62_56 b_14 b_15 hn_13 e_17 c_18 e_44) (o62_57 b_14 b_15 hn_13 e_17 c_18 e_44) ((by rw [hs_48]; exact (lp_s (by omega) (by omega) (by omega) (by omega)).trans hSp)) h (Fr.tr (Fr.tr (Fr.tr hF_9 (Fr.mono u_30 (by decide))) u_34) (Fr.mono u_41 (by decide))) (lv_sub hl [0, 1, 2] rfl)
  have hs_49 : aF 77 ws_1 = (atomD T 5 (aF 77 ws0)) := e_4
  exact lp_10 ((900 - v_5.toInt + 1).toNat) v_5 _ _ _ _ (o62_58 e_6) (o62_59 e_6) (o62_60 e_6) ((by rw [show (900 - v_5.toInt).toNat = 900 by omega, hs_49]; rfl)) h Fr.rf (lv_sub hl [0, 1, 2] rfl)
set_option maxHeartbeats 4000000 in
set_option maxRecDepth 100000 in
theorem c_X5_sum_1S {T : Nat → Int} (l : Launch) (G : GG) (Z : RZ) (ad : Nat → Nat) (ws0 : va_W) (hT : Ty G (SC tt) ad ws0) (a1 : Int32) (l1 : 1 ≤ a1.toInt) (u1 : a1.toInt ≤ 1) (hTp : Tp T ws0) : Mq l yX5_sum cX5_sum 4 none 23 G Z [.ref (ad 77), .int a1] ws0 (PV G (SC tt) ad [2, 3, 16] ws0 (fun u => (aF 77 u = sumL T (atomD T 5) (aF 77 ws0)))) := by
  refine Mq.start (by decide) (Nat.le_of_ble_eq_true rfl) ?_
  intro p e s m below meth c A ls C0 hZ h hl
  have hl : lv_has ls 4 [(0, .ref (ad 77)), (1, .int a1)] := hl
  have h : Wt G (SC tt) ad A s s.heap [] ws0 := ⟨h, hT⟩
  obtain ⟨args, hargs⟩ : ∃ z, z = ([.ref (ad 77), .int a1] : List Value).toArray := ⟨_, rfl⟩
  rw [← hargs] at C0 ⊢
  have C0 : Cx p s m args meth c RX5 cX5_sum 4 none := C0
  obtain ⟨Q, hQ⟩ : ∃ z, z = MQ below ((PV G (SC tt) ad [2, 3, 16] ws0 (fun u => (aF 77 u = sumL T (atomD T 5) (aF 77 ws0)))) A) args s 0 0 A := ⟨_, rfl⟩
  rw [← hQ]
  refine lv_aload_n C0.1 C0.2.1 dX5_sum_0 rfl (lv_at hl 0 rfl) ?_
  refine lv_iload_n C0.1 C0.2.1 dX5_sum_1 rfl (lv_at hl 1 rfl) ?_
  refine y_cv h (y_rV (As := [.int a1]) (rest := []) C0 hZ h (c_X5_term_1S l G Z ad _ h.2 a1 (o62_103 l1 u1) (o62_104 l1 u1) hTp) k_X5_term q_820 q_16 q_818 kSC_77 rfl rfl rfl hl.1 rfl rfl (Nat.le_of_ble_eq_true rfl) dX5_sum_2 ⟨Nat.le_of_ble_eq_true rfl, Nat.le_of_ble_eq_true rfl⟩ ⟨Nat.le_of_ble_eq_true rfl, Nat.le_of_ble_eq_true rfl⟩) (fun H locs ws_1 h u_2 p_3 => ?_)
  have e_4 := p_3
  refine y_c1 (n := 0) C0 (by decide) dX5_sum_5 (fun v_5 e_6 => ?_)
  refine lv_istore_n (lv' := [(2, .int v_5), (0, .ref (ad 77)), (1, .int a1)]) C0.1 C0.2.1 dX5_sum_6 rfl hl (by decide) rfl (fun ls hl => ?_)
  have lp_10 : ∀ (n_12 : Nat) (x2_7 : Int32) (H : Heap) (locs : List Loc) (ls : Array Slot) (ws_8 : va_W), 900 - x2_7.toInt < (n_12 : Int) → 0 ≤ x2_7.toInt → x2_7.toInt ≤ 900 → (lpS (fun s => s 4 = 43 ∨ s 4 = 45) (fun s => termL T (atomD T 5) (advS T s)) (900 - x2_7.toInt).toNat (aF 77 ws_8) = sumL T (atomD T 5) (aF 77 ws0)) → Wt G (SC tt) ad A s H locs ws_8 → Fr (SC tt) [2, 3, 16] ws_1 ws_8 → lv_has ls 4 [(2, .int x2_7), (0, .ref (ad 77)), (1, .int a1)] → W p l e (rmd 23 0 0) s m args below meth c H locs 0 0 Q (F0 m 7 ls []) := by
    intro n_12
    induction n_12 with
    | zero => intro x2_7 H locs ls ws_8 hn_13 b_14 b_15 hSp h hF_9 hl; exact ((o62_52 b_14 b_15 hn_13)).elim
    | succ n_12 ih_11 =>
      intro x2_7 H locs ls ws_8 hn_13 b_14 b_15 hSp h hF_9 hl
      refine lv_iload_n C0.1 C0.2.1 dX5_sum_7 rfl (lv_at hl 0 rfl) ?_
      refine y_c3 (n := 900) C0 (by decide) dX5_sum_8 (fun v_16 e_17 => ?_)
      refine y_icmp_ge (tgt := 74) C0 dX5_sum_11 (by decide) (fun c_18 => ?_) (fun c_18 => ?_)
      · -- 11
        have hz_19 : (aF 77 ws_8) = lpS (fun s => s 4 = 43 ∨ s 4 = 45) (fun s => termL T (atomD T 5) (advS T s)) (900 - x2_7.toInt).toNat (aF 77 ws_8) := by first | (exfalso; omega) | exact (lp_0 (by omega)).symm | exact (lp_e (by omega)).symm
        rw [hQ]
        exact y_vret C0 h (Fr.tr u_2 hF_9) (Eq.trans rfl (Eq.trans hz_19 hSp)) dX5_sum_74
      · -- 11
        refine lv_aload_n C0.1 C0.2.1 dX5_sum_14 rfl (lv_at hl 1 rfl) ?_
        refine tg_X5_kind C0 h kSC_77 q_374 dX5_sum_15 (fun v_20 e_21 e_22 e_23 => ?_)
        refine y_c2 (n := 43) C0 (by decide) dX5_sum_18 (fun v_24 e_25 => ?_)
        refine y_icmp_eq (tgt := 32) C0 dX5_sum_20 (by decide) (fun c_26 => ?_) (fun c_26 => ?_)
        · -- 20
          refine lv_aload_n C0.1 C0.2.1 dX5_sum_32 rfl (lv_at hl 1 rfl) ?_
          refine tg_X5_kind C0 h kSC_77 q_374 dX5_sum_33 (fun v_27 e_28 e_29 e_30 => ?_)
          have q_31 : v_27.toInt = v_20.toInt := congrArg Int32.toInt (e_28.symm.trans (Eq.trans rfl e_21))
          refine y_c2 (n := 43) C0 (by decide) dX5_sum_36 (fun v_32 e_33 => ?_)
          refine y_icmp_ne (tgt := 47) C0 dX5_sum_38 (by decide) (fun c_34 => ((o62_61 e_25 c_26 q_31 e_33 c_34)).elim) (fun c_34 => ?_)
          refine y_c3 (n := 2000) C0 (by decide) dX5_sum_41 (fun v_35 e_36 => ?_)
          refine lv_goto (tgt := 50) C0.1 C0.2.1 dX5_sum_44 (by decide) ?_
          refine lv_istore_n (lv' := [(3, .int v_35), (2, .int x2_7), (0, .ref (ad 77)), (1, .int a1)]) C0.1 C0.2.1 dX5_sum_50 rfl hl (by decide) rfl (fun ls hl => ?_)
          refine lv_aload_n C0.1 C0.2.1 dX5_sum_51 rfl (lv_at hl 2 rfl) ?_
          refine y_cv h (y_rV (As := []) (rest := []) C0 hZ h (c_X5_advanceS l G Z ad _ h.2 ((Tp.fr (M := [2, 3, 16]) hTp (Fr.tr u_2 hF_9) kSC_78 (by decide)))) k_X5_advance q_616 q_0 q_614 kSC_77 rfl rfl rfl hl.1 rfl rfl (Nat.le_of_ble_eq_true rfl) dX5_sum_52 ⟨Nat.le_of_ble_eq_true rfl, Nat.le_of_ble_eq_true rfl⟩ ⟨Nat.le_of_ble_eq_true rfl, Nat.le_of_ble_eq_true rfl⟩) (fun H locs ws_37 h u_38 p_39 => ?_)
          have e_40 := p_39
          refine lv_aload_n C0.1 C0.2.1 dX5_sum_55 rfl (lv_at hl 2 rfl) ?_
          refine lv_iload_n C0.1 C0.2.1 dX5_sum_56 rfl (lv_at hl 3 rfl) ?_
          refine y_cv h (y_rV (As := [.int a1]) (rest := []) C0 hZ h (c_X5_term_1S l G Z ad _ h.2 a1 (o62_103 l1 u1) (o62_104 l1 u1) ((Tp.fr (M := [2, 3, 16]) hTp (Fr.tr (Fr.tr u_2 hF_9) (Fr.mono u_38 (by decide))) kSC_78 (by decide)))) k_X5_term q_820 q_16 q_818 kSC_77 rfl rfl rfl hl.1 rfl rfl (Nat.le_of_ble_eq_true rfl) dX5_sum_57 ⟨Nat.le_of_ble_eq_true rfl, Nat.le_of_ble_eq_true rfl⟩ ⟨Nat.le_of_ble_eq_true rfl, Nat.le_of_ble_eq_true rfl⟩) (fun H locs ws_41 h u_42 p_43 => ?_)
          have e_44 := p_43
          refine lv_aload_n C0.1 C0.2.1 dX5_sum_60 rfl (lv_at hl 2 rfl) ?_
          refine tg_X5_law C0 h kSC_77 q_380 dX5_sum_61 (fun i_45 hi_45 => ?_)
          refine lv_iload_n C0.1 C0.2.1 dX5_sum_64 rfl (lv_at hl 0 rfl) ?_
          refine y_cv h (y_rV (As := [.int v_35]) (rest := []) C0 hZ h (c_X4_add l G Z ad _ h.2 i_45 hi_45 v_35) k_X4_add q_827 q_828 q_826 hi_45 rfl rfl rfl hl.1 rfl rfl (Nat.le_of_ble_eq_true rfl) dX5_sum_65 ⟨Nat.le_of_ble_eq_true rfl, Nat.le_of_ble_eq_true rfl⟩ ⟨Nat.le_of_ble_eq_true rfl, Nat.le_of_ble_eq_true rfl⟩) (fun H locs ws_46 h u_47 p_48 => ?_)
          refine y_inc (kp := 1) (n := 1) (fun v_49 => [(2, .int v_49), (3, .int v_35), (0, .ref (ad 77)), (1, .int a1)]) C0 hl rfl (by decide) (by decide) (fun _ => rfl) (o62_53 b_14 b_15 hn_13 e_17 c_18 (le_min x2_7) (le_max x2_7) (le_min v_16) (le_max v_16)) (o62_54 b_14 b_15 hn_13 e_17 c_18 (le_min x2_7) (le_max x2_7) (le_min v_16) (le_max v_16)) dX5_sum_68 (fun v_49 ls e_50 hl => ?_)
          refine lv_goto (tgt := 7) C0.1 C0.2.1 dX5_sum_71 (by decide) ?_
          have hv_51 : (aF 77 ws_8) 4 = v_20.toInt := (aF_at (by decide) e_21)
          have hv_52 : (aF 77 ws_8) 4 = v_27.toInt := (aF_at (by decide) e_28)
          have hs_53 : aF 77 ws_37 = (advS T (aF 77 ws_8)) := e_40
          have hs_54 : aF 77 ws_41 = (termL T (atomD T 5) (advS T (aF 77 ws_8))) := e_44.trans (congrArg (fun s => termL T (atomD T 5) s) hs_53)
          have hs_55 : aF 77 ws_46 = (termL T (atomD T 5) (advS T (aF 77 ws_8))) := (aF_fr u_47 kSC_77 (by decide)).trans hs_54
          exact ih_11 v_49 _ _ _ _ (o62_55 b_14 b_15 hn_13 e_17 c_18 e_50) (o62_56 b_14 b_15 hn_13 e_17 c_18 e_50) (o62_57 b_14 b_15 hn_13 e_17 c_18 e_50) ((by rw [hs_55]; exact (lp_s (by omega) (by omega) (by omega) (by omega)).trans hSp)) h (Fr.tr (Fr.tr (Fr.tr hF_9 (Fr.mono u_38 (by decide))) u_42) (Fr.mono u_47 (by decide))) (lv_sub hl [0, 2, 3] rfl)
        · -- 20
          refine lv_aload_n C0.1 C0.2.1 dX5_sum_23 rfl (lv_at hl 1 rfl) ?_
          refine tg_X5_kind C0 h kSC_77 q_374 dX5_sum_24 (fun v_56 e_57 e_58 e_59 => ?_)
          have q_60 : v_56.toInt = v_20.toInt := congrArg Int32.toInt (e_57.symm.trans (Eq.trans rfl e_21))
          refine y_c2 (n := 45) C0 (by decide) dX5_sum_27 (fun v_61 e_62 => ?_)
          refine y_icmp_ne (tgt := 74) C0 dX5_sum_29 (by decide) (fun c_63 => ?_) (fun c_63 => ?_)
          · -- 29
            have hv_64 : (aF 77 ws_8) 4 = v_20.toInt := (aF_at (by decide) e_21)
            have hv_65 : (aF 77 ws_8) 4 = v_56.toInt := (aF_at (by decide) e_57)
            have hz_66 : (aF 77 ws_8) = lpS (fun s => s 4 = 43 ∨ s 4 = 45) (fun s => termL T (atomD T 5) (advS T s)) (900 - x2_7.toInt).toNat (aF 77 ws_8) := by first | (exfalso; omega) | exact (lp_0 (by omega)).symm | exact (lp_e (by omega)).symm
            rw [hQ]
            exact y_vret C0 h (Fr.tr u_2 hF_9) (Eq.trans rfl (Eq.trans hz_66 hSp)) dX5_sum_74
          · -- 29
            refine lv_aload_n C0.1 C0.2.1 dX5_sum_32 rfl (lv_at hl 1 rfl) ?_
            refine tg_X5_kind C0 h kSC_77 q_374 dX5_sum_33 (fun v_67 e_68 e_69 e_70 => ?_)
            have q_71 : v_67.toInt = v_20.toInt := congrArg Int32.toInt (e_68.symm.trans (Eq.trans rfl e_21))
            refine y_c2 (n := 43) C0 (by decide) dX5_sum_36 (fun v_72 e_73 => ?_)
            refine y_icmp_ne (tgt := 47) C0 dX5_sum_38 (by decide) (fun c_74 => ?_) (fun c_74 => ((o62_62 e_25 c_26 q_60 e_62 c_63 q_71 e_73 c_74)).elim)
            refine y_c3 (n := 2001) C0 (by decide) dX5_sum_47 (fun v_75 e_76 => ?_)
            refine lv_istore_n (lv' := [(3, .int v_75), (2, .int x2_7), (0, .ref (ad 77)), (1, .int a1)]) C0.1 C0.2.1 dX5_sum_50 rfl hl (by decide) rfl (fun ls hl => ?_)
            refine lv_aload_n C0.1 C0.2.1 dX5_sum_51 rfl (lv_at hl 2 rfl) ?_
            refine y_cv h (y_rV (As := []) (rest := []) C0 hZ h (c_X5_advanceS l G Z ad _ h.2 ((Tp.fr (M := [2, 3, 16]) hTp (Fr.tr u_2 hF_9) kSC_78 (by decide)))) k_X5_advance q_616 q_0 q_614 kSC_77 rfl rfl rfl hl.1 rfl rfl (Nat.le_of_ble_eq_true rfl) dX5_sum_52 ⟨Nat.le_of_ble_eq_true rfl, Nat.le_of_ble_eq_true rfl⟩ ⟨Nat.le_of_ble_eq_true rfl, Nat.le_of_ble_eq_true rfl⟩) (fun H locs ws_77 h u_78 p_79 => ?_)
            have e_80 := p_79
            refine lv_aload_n C0.1 C0.2.1 dX5_sum_55 rfl (lv_at hl 2 rfl) ?_
            refine lv_iload_n C0.1 C0.2.1 dX5_sum_56 rfl (lv_at hl 3 rfl) ?_
            refine y_cv h (y_rV (As := [.int a1]) (rest := []) C0 hZ h (c_X5_term_1S l G Z ad _ h.2 a1 (o62_103 l1 u1) (o62_104 l1 u1) ((Tp.fr (M := [2, 3, 16]) hTp (Fr.tr (Fr.tr u_2 hF_9) (Fr.mono u_78 (by decide))) kSC_78 (by decide)))) k_X5_term q_820 q_16 q_818 kSC_77 rfl rfl rfl hl.1 rfl rfl (Nat.le_of_ble_eq_true rfl) dX5_sum_57 ⟨Nat.le_of_ble_eq_true rfl, Nat.le_of_ble_eq_true rfl⟩ ⟨Nat.le_of_ble_eq_true rfl, Nat.le_of_ble_eq_true rfl⟩) (fun H locs ws_81 h u_82 p_83 => ?_)
            have e_84 := p_83
            refine lv_aload_n C0.1 C0.2.1 dX5_sum_60 rfl (lv_at hl 2 rfl) ?_
            refine tg_X5_law C0 h kSC_77 q_380 dX5_sum_61 (fun i_85 hi_85 => ?_)
            refine lv_iload_n C0.1 C0.2.1 dX5_sum_64 rfl (lv_at hl 0 rfl) ?_
            refine y_cv h (y_rV (As := [.int v_75]) (rest := []) C0 hZ h (c_X4_add l G Z ad _ h.2 i_85 hi_85 v_75) k_X4_add q_827 q_828 q_826 hi_85 rfl rfl rfl hl.1 rfl rfl (Nat.le_of_ble_eq_true rfl) dX5_sum_65 ⟨Nat.le_of_ble_eq_true rfl, Nat.le_of_ble_eq_true rfl⟩ ⟨Nat.le_of_ble_eq_true rfl, Nat.le_of_ble_eq_true rfl⟩) (fun H locs ws_86 h u_87 p_88 => ?_)
            refine y_inc (kp := 1) (n := 1) (fun v_89 => [(2, .int v_89), (3, .int v_75), (0, .ref (ad 77)), (1, .int a1)]) C0 hl rfl (by decide) (by decide) (fun _ => rfl) (o62_53 b_14 b_15 hn_13 e_17 c_18 (le_min x2_7) (le_max x2_7) (le_min v_16) (le_max v_16)) (o62_54 b_14 b_15 hn_13 e_17 c_18 (le_min x2_7) (le_max x2_7) (le_min v_16) (le_max v_16)) dX5_sum_68 (fun v_89 ls e_90 hl => ?_)
            refine lv_goto (tgt := 7) C0.1 C0.2.1 dX5_sum_71 (by decide) ?_
            have hv_91 : (aF 77 ws_8) 4 = v_20.toInt := (aF_at (by decide) e_21)
            have hv_92 : (aF 77 ws_8) 4 = v_56.toInt := (aF_at (by decide) e_57)
            have hv_93 : (aF 77 ws_8) 4 = v_67.toInt := (aF_at (by decide) e_68)
            have hs_94 : aF 77 ws_77 = (advS T (aF 77 ws_8)) := e_80
            have hs_95 : aF 77 ws_81 = (termL T (atomD T 5) (advS T (aF 77 ws_8))) := e_84.trans (congrArg (fun s => termL T (atomD T 5) s) hs_94)
            have hs_96 : aF 77 ws_86 = (termL T (atomD T 5) (advS T (aF 77 ws_8))) := (aF_fr u_87 kSC_77 (by decide)).trans hs_95
            exact ih_11 v_89 _ _ _ _ (o62_55 b_14 b_15 hn_13 e_17 c_18 e_90) (o62_56 b_14 b_15 hn_13 e_17 c_18 e_90) (o62_57 b_14 b_15 hn_13 e_17 c_18 e_90) ((by rw [hs_96]; exact (lp_s (by omega) (by omega) (by omega) (by omega)).trans hSp)) h (Fr.tr (Fr.tr (Fr.tr hF_9 (Fr.mono u_78 (by decide))) u_82) (Fr.mono u_87 (by decide))) (lv_sub hl [0, 2, 3] rfl)
  have hs_97 : aF 77 ws_1 = (termL T (atomD T 5) (aF 77 ws0)) := e_4
  exact lp_10 ((900 - v_5.toInt + 1).toNat) v_5 _ _ _ _ (o62_58 e_6) (o62_59 e_6) (o62_60 e_6) ((by rw [show (900 - v_5.toInt).toNat = 900 by omega, hs_97]; rfl)) h Fr.rf (lv_sub hl [0, 1, 2] rfl)
set_option maxHeartbeats 4000000 in
set_option maxRecDepth 100000 in
theorem c_X5_unit_1S {T : Nat → Int} (l : Launch) (G : GG) (Z : RZ) (ad : Nat → Nat) (ws0 : va_W) (hT : Ty G (SC tt) ad ws0) (a1 : Int32) (l1 : 1 ≤ a1.toInt) (u1 : a1.toInt ≤ 1) (hTp : Tp T ws0) : Mq l yX5_unit cX5_unit 3 none 24 G Z [.ref (ad 77), .int a1] ws0 (PV G (SC tt) ad [2, 3, 16] ws0 (fun u => (aF 77 u = unitD T 5 (aF 77 ws0)))) := by
  refine Mq.start (by decide) (Nat.le_of_ble_eq_true rfl) ?_
  intro p e s m below meth c A ls C0 hZ h hl
  have hl : lv_has ls 3 [(0, .ref (ad 77)), (1, .int a1)] := hl
  have h : Wt G (SC tt) ad A s s.heap [] ws0 := ⟨h, hT⟩
  obtain ⟨args, hargs⟩ : ∃ z, z = ([.ref (ad 77), .int a1] : List Value).toArray := ⟨_, rfl⟩
  rw [← hargs] at C0 ⊢
  have C0 : Cx p s m args meth c RX5 cX5_unit 3 none := C0
  obtain ⟨Q, hQ⟩ : ∃ z, z = MQ below ((PV G (SC tt) ad [2, 3, 16] ws0 (fun u => (aF 77 u = unitD T 5 (aF 77 ws0)))) A) args s 0 0 A := ⟨_, rfl⟩
  rw [← hQ]
  refine lv_aload_n C0.1 C0.2.1 dX5_unit_0 rfl (lv_at hl 0 rfl) ?_
  refine va_ldcS C0.1 C0.2.1 C0.2.2.2.1 (sr_19 hZ) dX5_unit_1 ?_
  refine y_ci h (y_rV (As := [.ref (Z.2.1 19)]) (rest := []) C0 hZ h (c_X5_isWordS l G Z ad _ h.2 19 (by decide) hTp) k_X5_isWord q_724 q_5 q_722 kSC_77 rfl rfl rfl hl.1 rfl rfl (Nat.le_of_ble_eq_true rfl) dX5_unit_3 ⟨Nat.le_of_ble_eq_true rfl, Nat.le_of_ble_eq_true rfl⟩ ⟨Nat.le_of_ble_eq_true rfl, Nat.le_of_ble_eq_true rfl⟩) (fun r_4 H locs ws_1 h u_2 p_3 => ?_)
  obtain ⟨e_5, e_6, e_7⟩ := p_3
  refine y_if_eq (tgt := 49) C0 dX5_unit_6 (by decide) (fun c_8 => ?_) (fun c_8 => ?_)
  · -- 6
    refine lv_aload_n C0.1 C0.2.1 dX5_unit_49 rfl (lv_at hl 0 rfl) ?_
    refine tg_X5_kind C0 h kSC_77 q_374 dX5_unit_50 (fun v_9 e_10 e_11 e_12 => ?_)
    refine y_c2 (n := 91) C0 (by decide) dX5_unit_53 (fun v_13 e_14 => ?_)
    refine y_icmp_ne (tgt := 86) C0 dX5_unit_55 (by decide) (fun c_15 => ?_) (fun c_15 => ?_)
    · -- 55
      refine lv_aload_n C0.1 C0.2.1 dX5_unit_86 rfl (lv_at hl 0 rfl) ?_
      refine lv_iload_n C0.1 C0.2.1 dX5_unit_87 rfl (lv_at hl 1 rfl) ?_
      refine y_cv h (y_rV (As := [.int a1]) (rest := []) C0 hZ h (c_X5_sum_1S l G Z ad _ h.2 a1 (o62_103 l1 u1) (o62_104 l1 u1) ((Tp.fr (M := []) hTp u_2 kSC_78 (by decide)))) k_X5_sum q_816 q_15 q_814 kSC_77 rfl rfl rfl hl.1 rfl rfl (Nat.le_of_ble_eq_true rfl) dX5_unit_88 ⟨Nat.le_of_ble_eq_true rfl, Nat.le_of_ble_eq_true rfl⟩ ⟨Nat.le_of_ble_eq_true rfl, Nat.le_of_ble_eq_true rfl⟩) (fun H locs ws_16 h u_17 p_18 => ?_)
      have e_19 := p_18
      refine lv_aload_n C0.1 C0.2.1 dX5_unit_91 rfl (lv_at hl 0 rfl) ?_
      refine tg_X5_kind C0 h kSC_77 q_374 dX5_unit_92 (fun v_20 e_21 e_22 e_23 => ?_)
      refine y_c2 (n := 61) C0 (by decide) dX5_unit_95 (fun v_24 e_25 => ?_)
      refine y_icmp_ne (tgt := 106) C0 dX5_unit_97 (by decide) (fun c_26 => ?_) (fun c_26 => ?_)
      · -- 97
        refine lv_aload_n C0.1 C0.2.1 dX5_unit_106 rfl (lv_at hl 0 rfl) ?_
        refine tg_X5_kind C0 h kSC_77 q_374 dX5_unit_107 (fun v_27 e_28 e_29 e_30 => ?_)
        have q_31 : v_27.toInt = v_20.toInt := congrArg Int32.toInt (e_28.symm.trans (Eq.trans rfl e_21))
        refine y_c2 (n := 60) C0 (by decide) dX5_unit_110 (fun v_32 e_33 => ?_)
        refine y_icmp_ne (tgt := 121) C0 dX5_unit_112 (by decide) (fun c_34 => ?_) (fun c_34 => ?_)
        · -- 112
          refine lv_aload_n C0.1 C0.2.1 dX5_unit_121 rfl (lv_at hl 0 rfl) ?_
          refine tg_X5_kind C0 h kSC_77 q_374 dX5_unit_122 (fun v_35 e_36 e_37 e_38 => ?_)
          have q_39 : v_35.toInt = v_20.toInt := congrArg Int32.toInt (e_36.symm.trans (Eq.trans rfl e_21))
          refine y_c2 (n := 62) C0 (by decide) dX5_unit_125 (fun v_40 e_41 => ?_)
          refine y_icmp_ne (tgt := 136) C0 dX5_unit_127 (by decide) (fun c_42 => ?_) (fun c_42 => ?_)
          · -- 127
            refine y_c1 (n := (-1)) C0 (by decide) dX5_unit_136 (fun v_43 e_44 => ?_)
            refine lv_istore_n (lv' := [(2, .int v_43), (0, .ref (ad 77)), (1, .int a1)]) C0.1 C0.2.1 dX5_unit_137 rfl hl (by decide) rfl (fun ls hl => ?_)
            refine lv_iload_n C0.1 C0.2.1 dX5_unit_138 rfl (lv_at hl 0 rfl) ?_
            refine y_if_ge (tgt := 148) C0 dX5_unit_139 (by decide) (fun c_45 => ((o62_42 e_44 c_45)).elim) (fun c_45 => ?_)
            refine lv_aload_n C0.1 C0.2.1 dX5_unit_142 rfl (lv_at hl 1 rfl) ?_
            refine y_c1 (n := 2) C0 (by decide) dX5_unit_143 (fun v_46 e_47 => ?_)
            refine y_cv h (y_rV (As := [.int v_46]) (rest := []) C0 hZ h (c_X5_failS l G Z ad _ h.2 v_46) k_X5_fail q_628 q_3 q_626 kSC_77 rfl rfl rfl hl.1 rfl rfl (Nat.le_of_ble_eq_true rfl) dX5_unit_144 ⟨Nat.le_of_ble_eq_true rfl, Nat.le_of_ble_eq_true rfl⟩ ⟨Nat.le_of_ble_eq_true rfl, Nat.le_of_ble_eq_true rfl⟩) (fun H locs ws_48 h u_49 p_50 => ?_)
            have e_51 := p_50
            have hq_52 := e_7
            have hs_53 : aF 77 ws_1 = (aF 77 ws0) := (aF_fr u_2 kSC_77 (by decide))
            have hv_54 : (aF 77 ws0) 4 = v_9.toInt := (congrFun hs_53 4).symm.trans (aF_at (by decide) e_10)
            have hs_55 : aF 77 ws_16 = (sumL T (atomD T 5) (aF 77 ws0)) := e_19.trans (congrArg (fun s => sumL T (atomD T 5) s) hs_53)
            have hv_56 : (sumL T (atomD T 5) (aF 77 ws0)) 4 = v_20.toInt := (congrFun hs_55 4).symm.trans (aF_at (by decide) e_21)
            have hv_57 : (sumL T (atomD T 5) (aF 77 ws0)) 4 = v_27.toInt := (congrFun hs_55 4).symm.trans (aF_at (by decide) e_28)
            have hv_58 : (sumL T (atomD T 5) (aF 77 ws0)) 4 = v_35.toInt := (congrFun hs_55 4).symm.trans (aF_at (by decide) e_36)
            have hs_59 : aF 77 ws_48 = (failS 2 (sumL T (atomD T 5) (aF 77 ws0))) := e_51.trans ((congrArg (fun s => failS v_46.toInt s) hs_55).trans (by rw [(o62_1 e_47)]))
            have hz_60 : (failS 2 (sumL T (atomD T 5) (aF 77 ws0))) = unitD T 5 (aF 77 ws0) := by rw [unitD_5]; unfold unitF; (repeat' split) <;> first | rfl | (exfalso; omega)
            rw [hQ]
            exact y_vret C0 h (Fr.tr (Fr.tr (Fr.mono u_2 (by decide)) u_17) (Fr.mono u_49 (by decide))) (Eq.trans hs_59 hz_60) dX5_unit_147
          · -- 127
            refine y_c3 (n := 2005) C0 (by decide) dX5_unit_130 (fun v_61 e_62 => ?_)
            refine lv_goto (tgt := 137) C0.1 C0.2.1 dX5_unit_133 (by decide) ?_
            refine lv_istore_n (lv' := [(2, .int v_61), (0, .ref (ad 77)), (1, .int a1)]) C0.1 C0.2.1 dX5_unit_137 rfl hl (by decide) rfl (fun ls hl => ?_)
            refine lv_iload_n C0.1 C0.2.1 dX5_unit_138 rfl (lv_at hl 0 rfl) ?_
            refine y_if_ge (tgt := 148) C0 dX5_unit_139 (by decide) (fun c_63 => ?_) (fun c_63 => ((o62_63 e_62 c_63)).elim)
            refine lv_aload_n C0.1 C0.2.1 dX5_unit_148 rfl (lv_at hl 1 rfl) ?_
            refine y_cv h (y_rV (As := []) (rest := []) C0 hZ h (c_X5_advanceS l G Z ad _ h.2 ((Tp.fr (M := [2, 3, 16]) hTp (Fr.tr (Fr.mono u_2 (by decide)) u_17) kSC_78 (by decide)))) k_X5_advance q_616 q_0 q_614 kSC_77 rfl rfl rfl hl.1 rfl rfl (Nat.le_of_ble_eq_true rfl) dX5_unit_149 ⟨Nat.le_of_ble_eq_true rfl, Nat.le_of_ble_eq_true rfl⟩ ⟨Nat.le_of_ble_eq_true rfl, Nat.le_of_ble_eq_true rfl⟩) (fun H locs ws_64 h u_65 p_66 => ?_)
            have e_67 := p_66
            refine lv_aload_n C0.1 C0.2.1 dX5_unit_152 rfl (lv_at hl 1 rfl) ?_
            refine lv_iload_n C0.1 C0.2.1 dX5_unit_153 rfl (lv_at hl 2 rfl) ?_
            refine y_cv h (y_rV (As := [.int a1]) (rest := []) C0 hZ h (c_X5_sum_1S l G Z ad _ h.2 a1 (o62_103 l1 u1) (o62_104 l1 u1) ((Tp.fr (M := [2, 3, 16]) hTp (Fr.tr (Fr.tr (Fr.mono u_2 (by decide)) u_17) (Fr.mono u_65 (by decide))) kSC_78 (by decide)))) k_X5_sum q_816 q_15 q_814 kSC_77 rfl rfl rfl hl.1 rfl rfl (Nat.le_of_ble_eq_true rfl) dX5_unit_154 ⟨Nat.le_of_ble_eq_true rfl, Nat.le_of_ble_eq_true rfl⟩ ⟨Nat.le_of_ble_eq_true rfl, Nat.le_of_ble_eq_true rfl⟩) (fun H locs ws_68 h u_69 p_70 => ?_)
            have e_71 := p_70
            refine lv_aload_n C0.1 C0.2.1 dX5_unit_157 rfl (lv_at hl 1 rfl) ?_
            refine tg_X5_law C0 h kSC_77 q_380 dX5_unit_158 (fun i_72 hi_72 => ?_)
            refine lv_iload_n C0.1 C0.2.1 dX5_unit_161 rfl (lv_at hl 0 rfl) ?_
            refine y_cv h (y_rV (As := [.int v_61]) (rest := []) C0 hZ h (c_X4_add l G Z ad _ h.2 i_72 hi_72 v_61) k_X4_add q_827 q_828 q_826 hi_72 rfl rfl rfl hl.1 rfl rfl (Nat.le_of_ble_eq_true rfl) dX5_unit_162 ⟨Nat.le_of_ble_eq_true rfl, Nat.le_of_ble_eq_true rfl⟩ ⟨Nat.le_of_ble_eq_true rfl, Nat.le_of_ble_eq_true rfl⟩) (fun H locs ws_73 h u_74 p_75 => ?_)
            have hq_76 := e_7
            have hs_77 : aF 77 ws_1 = (aF 77 ws0) := (aF_fr u_2 kSC_77 (by decide))
            have hv_78 : (aF 77 ws0) 4 = v_9.toInt := (congrFun hs_77 4).symm.trans (aF_at (by decide) e_10)
            have hs_79 : aF 77 ws_16 = (sumL T (atomD T 5) (aF 77 ws0)) := e_19.trans (congrArg (fun s => sumL T (atomD T 5) s) hs_77)
            have hv_80 : (sumL T (atomD T 5) (aF 77 ws0)) 4 = v_20.toInt := (congrFun hs_79 4).symm.trans (aF_at (by decide) e_21)
            have hv_81 : (sumL T (atomD T 5) (aF 77 ws0)) 4 = v_27.toInt := (congrFun hs_79 4).symm.trans (aF_at (by decide) e_28)
            have hv_82 : (sumL T (atomD T 5) (aF 77 ws0)) 4 = v_35.toInt := (congrFun hs_79 4).symm.trans (aF_at (by decide) e_36)
            have hs_83 : aF 77 ws_64 = (advS T (sumL T (atomD T 5) (aF 77 ws0))) := e_67.trans (congrArg (fun s => advS T s) hs_79)
            have hs_84 : aF 77 ws_68 = (sumL T (atomD T 5) (advS T (sumL T (atomD T 5) (aF 77 ws0)))) := e_71.trans (congrArg (fun s => sumL T (atomD T 5) s) hs_83)
            have hs_85 : aF 77 ws_73 = (sumL T (atomD T 5) (advS T (sumL T (atomD T 5) (aF 77 ws0)))) := (aF_fr u_74 kSC_77 (by decide)).trans hs_84
            have hz_86 : (sumL T (atomD T 5) (advS T (sumL T (atomD T 5) (aF 77 ws0)))) = unitD T 5 (aF 77 ws0) := by rw [unitD_5]; unfold unitF; (repeat' split) <;> first | rfl | (exfalso; omega)
            rw [hQ]
            exact y_vret C0 h (Fr.tr (Fr.tr (Fr.tr (Fr.tr (Fr.mono u_2 (by decide)) u_17) (Fr.mono u_65 (by decide))) u_69) (Fr.mono u_74 (by decide))) (Eq.trans hs_85 hz_86) dX5_unit_165
        · -- 112
          refine y_c3 (n := 2004) C0 (by decide) dX5_unit_115 (fun v_87 e_88 => ?_)
          refine lv_goto (tgt := 137) C0.1 C0.2.1 dX5_unit_118 (by decide) ?_
          refine lv_istore_n (lv' := [(2, .int v_87), (0, .ref (ad 77)), (1, .int a1)]) C0.1 C0.2.1 dX5_unit_137 rfl hl (by decide) rfl (fun ls hl => ?_)
          refine lv_iload_n C0.1 C0.2.1 dX5_unit_138 rfl (lv_at hl 0 rfl) ?_
          refine y_if_ge (tgt := 148) C0 dX5_unit_139 (by decide) (fun c_89 => ?_) (fun c_89 => ((o62_64 e_88 c_89)).elim)
          refine lv_aload_n C0.1 C0.2.1 dX5_unit_148 rfl (lv_at hl 1 rfl) ?_
          refine y_cv h (y_rV (As := []) (rest := []) C0 hZ h (c_X5_advanceS l G Z ad _ h.2 ((Tp.fr (M := [2, 3, 16]) hTp (Fr.tr (Fr.mono u_2 (by decide)) u_17) kSC_78 (by decide)))) k_X5_advance q_616 q_0 q_614 kSC_77 rfl rfl rfl hl.1 rfl rfl (Nat.le_of_ble_eq_true rfl) dX5_unit_149 ⟨Nat.le_of_ble_eq_true rfl, Nat.le_of_ble_eq_true rfl⟩ ⟨Nat.le_of_ble_eq_true rfl, Nat.le_of_ble_eq_true rfl⟩) (fun H locs ws_90 h u_91 p_92 => ?_)
          have e_93 := p_92
          refine lv_aload_n C0.1 C0.2.1 dX5_unit_152 rfl (lv_at hl 1 rfl) ?_
          refine lv_iload_n C0.1 C0.2.1 dX5_unit_153 rfl (lv_at hl 2 rfl) ?_
          refine y_cv h (y_rV (As := [.int a1]) (rest := []) C0 hZ h (c_X5_sum_1S l G Z ad _ h.2 a1 (o62_103 l1 u1) (o62_104 l1 u1) ((Tp.fr (M := [2, 3, 16]) hTp (Fr.tr (Fr.tr (Fr.mono u_2 (by decide)) u_17) (Fr.mono u_91 (by decide))) kSC_78 (by decide)))) k_X5_sum q_816 q_15 q_814 kSC_77 rfl rfl rfl hl.1 rfl rfl (Nat.le_of_ble_eq_true rfl) dX5_unit_154 ⟨Nat.le_of_ble_eq_true rfl, Nat.le_of_ble_eq_true rfl⟩ ⟨Nat.le_of_ble_eq_true rfl, Nat.le_of_ble_eq_true rfl⟩) (fun H locs ws_94 h u_95 p_96 => ?_)
          have e_97 := p_96
          refine lv_aload_n C0.1 C0.2.1 dX5_unit_157 rfl (lv_at hl 1 rfl) ?_
          refine tg_X5_law C0 h kSC_77 q_380 dX5_unit_158 (fun i_98 hi_98 => ?_)
          refine lv_iload_n C0.1 C0.2.1 dX5_unit_161 rfl (lv_at hl 0 rfl) ?_
          refine y_cv h (y_rV (As := [.int v_87]) (rest := []) C0 hZ h (c_X4_add l G Z ad _ h.2 i_98 hi_98 v_87) k_X4_add q_827 q_828 q_826 hi_98 rfl rfl rfl hl.1 rfl rfl (Nat.le_of_ble_eq_true rfl) dX5_unit_162 ⟨Nat.le_of_ble_eq_true rfl, Nat.le_of_ble_eq_true rfl⟩ ⟨Nat.le_of_ble_eq_true rfl, Nat.le_of_ble_eq_true rfl⟩) (fun H locs ws_99 h u_100 p_101 => ?_)
          have hq_102 := e_7
          have hs_103 : aF 77 ws_1 = (aF 77 ws0) := (aF_fr u_2 kSC_77 (by decide))
          have hv_104 : (aF 77 ws0) 4 = v_9.toInt := (congrFun hs_103 4).symm.trans (aF_at (by decide) e_10)
          have hs_105 : aF 77 ws_16 = (sumL T (atomD T 5) (aF 77 ws0)) := e_19.trans (congrArg (fun s => sumL T (atomD T 5) s) hs_103)
          have hv_106 : (sumL T (atomD T 5) (aF 77 ws0)) 4 = v_20.toInt := (congrFun hs_105 4).symm.trans (aF_at (by decide) e_21)
          have hv_107 : (sumL T (atomD T 5) (aF 77 ws0)) 4 = v_27.toInt := (congrFun hs_105 4).symm.trans (aF_at (by decide) e_28)
          have hs_108 : aF 77 ws_90 = (advS T (sumL T (atomD T 5) (aF 77 ws0))) := e_93.trans (congrArg (fun s => advS T s) hs_105)
          have hs_109 : aF 77 ws_94 = (sumL T (atomD T 5) (advS T (sumL T (atomD T 5) (aF 77 ws0)))) := e_97.trans (congrArg (fun s => sumL T (atomD T 5) s) hs_108)
          have hs_110 : aF 77 ws_99 = (sumL T (atomD T 5) (advS T (sumL T (atomD T 5) (aF 77 ws0)))) := (aF_fr u_100 kSC_77 (by decide)).trans hs_109
          have hz_111 : (sumL T (atomD T 5) (advS T (sumL T (atomD T 5) (aF 77 ws0)))) = unitD T 5 (aF 77 ws0) := by rw [unitD_5]; unfold unitF; (repeat' split) <;> first | rfl | (exfalso; omega)
          rw [hQ]
          exact y_vret C0 h (Fr.tr (Fr.tr (Fr.tr (Fr.tr (Fr.mono u_2 (by decide)) u_17) (Fr.mono u_91 (by decide))) u_95) (Fr.mono u_100 (by decide))) (Eq.trans hs_110 hz_111) dX5_unit_165
      · -- 97
        refine y_c3 (n := 2003) C0 (by decide) dX5_unit_100 (fun v_112 e_113 => ?_)
        refine lv_goto (tgt := 137) C0.1 C0.2.1 dX5_unit_103 (by decide) ?_
        refine lv_istore_n (lv' := [(2, .int v_112), (0, .ref (ad 77)), (1, .int a1)]) C0.1 C0.2.1 dX5_unit_137 rfl hl (by decide) rfl (fun ls hl => ?_)
        refine lv_iload_n C0.1 C0.2.1 dX5_unit_138 rfl (lv_at hl 0 rfl) ?_
        refine y_if_ge (tgt := 148) C0 dX5_unit_139 (by decide) (fun c_114 => ?_) (fun c_114 => ((o62_65 e_113 c_114)).elim)
        refine lv_aload_n C0.1 C0.2.1 dX5_unit_148 rfl (lv_at hl 1 rfl) ?_
        refine y_cv h (y_rV (As := []) (rest := []) C0 hZ h (c_X5_advanceS l G Z ad _ h.2 ((Tp.fr (M := [2, 3, 16]) hTp (Fr.tr (Fr.mono u_2 (by decide)) u_17) kSC_78 (by decide)))) k_X5_advance q_616 q_0 q_614 kSC_77 rfl rfl rfl hl.1 rfl rfl (Nat.le_of_ble_eq_true rfl) dX5_unit_149 ⟨Nat.le_of_ble_eq_true rfl, Nat.le_of_ble_eq_true rfl⟩ ⟨Nat.le_of_ble_eq_true rfl, Nat.le_of_ble_eq_true rfl⟩) (fun H locs ws_115 h u_116 p_117 => ?_)
        have e_118 := p_117
        refine lv_aload_n C0.1 C0.2.1 dX5_unit_152 rfl (lv_at hl 1 rfl) ?_
        refine lv_iload_n C0.1 C0.2.1 dX5_unit_153 rfl (lv_at hl 2 rfl) ?_
        refine y_cv h (y_rV (As := [.int a1]) (rest := []) C0 hZ h (c_X5_sum_1S l G Z ad _ h.2 a1 (o62_103 l1 u1) (o62_104 l1 u1) ((Tp.fr (M := [2, 3, 16]) hTp (Fr.tr (Fr.tr (Fr.mono u_2 (by decide)) u_17) (Fr.mono u_116 (by decide))) kSC_78 (by decide)))) k_X5_sum q_816 q_15 q_814 kSC_77 rfl rfl rfl hl.1 rfl rfl (Nat.le_of_ble_eq_true rfl) dX5_unit_154 ⟨Nat.le_of_ble_eq_true rfl, Nat.le_of_ble_eq_true rfl⟩ ⟨Nat.le_of_ble_eq_true rfl, Nat.le_of_ble_eq_true rfl⟩) (fun H locs ws_119 h u_120 p_121 => ?_)
        have e_122 := p_121
        refine lv_aload_n C0.1 C0.2.1 dX5_unit_157 rfl (lv_at hl 1 rfl) ?_
        refine tg_X5_law C0 h kSC_77 q_380 dX5_unit_158 (fun i_123 hi_123 => ?_)
        refine lv_iload_n C0.1 C0.2.1 dX5_unit_161 rfl (lv_at hl 0 rfl) ?_
        refine y_cv h (y_rV (As := [.int v_112]) (rest := []) C0 hZ h (c_X4_add l G Z ad _ h.2 i_123 hi_123 v_112) k_X4_add q_827 q_828 q_826 hi_123 rfl rfl rfl hl.1 rfl rfl (Nat.le_of_ble_eq_true rfl) dX5_unit_162 ⟨Nat.le_of_ble_eq_true rfl, Nat.le_of_ble_eq_true rfl⟩ ⟨Nat.le_of_ble_eq_true rfl, Nat.le_of_ble_eq_true rfl⟩) (fun H locs ws_124 h u_125 p_126 => ?_)
        have hq_127 := e_7
        have hs_128 : aF 77 ws_1 = (aF 77 ws0) := (aF_fr u_2 kSC_77 (by decide))
        have hv_129 : (aF 77 ws0) 4 = v_9.toInt := (congrFun hs_128 4).symm.trans (aF_at (by decide) e_10)
        have hs_130 : aF 77 ws_16 = (sumL T (atomD T 5) (aF 77 ws0)) := e_19.trans (congrArg (fun s => sumL T (atomD T 5) s) hs_128)
        have hv_131 : (sumL T (atomD T 5) (aF 77 ws0)) 4 = v_20.toInt := (congrFun hs_130 4).symm.trans (aF_at (by decide) e_21)
        have hs_132 : aF 77 ws_115 = (advS T (sumL T (atomD T 5) (aF 77 ws0))) := e_118.trans (congrArg (fun s => advS T s) hs_130)
        have hs_133 : aF 77 ws_119 = (sumL T (atomD T 5) (advS T (sumL T (atomD T 5) (aF 77 ws0)))) := e_122.trans (congrArg (fun s => sumL T (atomD T 5) s) hs_132)
        have hs_134 : aF 77 ws_124 = (sumL T (atomD T 5) (advS T (sumL T (atomD T 5) (aF 77 ws0)))) := (aF_fr u_125 kSC_77 (by decide)).trans hs_133
        have hz_135 : (sumL T (atomD T 5) (advS T (sumL T (atomD T 5) (aF 77 ws0)))) = unitD T 5 (aF 77 ws0) := by rw [unitD_5]; unfold unitF; (repeat' split) <;> first | rfl | (exfalso; omega)
        rw [hQ]
        exact y_vret C0 h (Fr.tr (Fr.tr (Fr.tr (Fr.tr (Fr.mono u_2 (by decide)) u_17) (Fr.mono u_116 (by decide))) u_120) (Fr.mono u_125 (by decide))) (Eq.trans hs_134 hz_135) dX5_unit_165
    · -- 55
      refine lv_aload_n C0.1 C0.2.1 dX5_unit_58 rfl (lv_at hl 0 rfl) ?_
      refine lv_iload_n C0.1 C0.2.1 dX5_unit_59 rfl (lv_at hl 1 rfl) ?_
      refine y_ci h (y_rV (As := [.int a1]) (rest := []) C0 hZ h (c_X5_tooDeep_1S l G Z ad _ h.2 a1 (o62_103 l1 u1) (o62_104 l1 u1)) k_X5_tooDeep q_832 q_18 q_830 kSC_77 rfl rfl rfl hl.1 rfl rfl (Nat.le_of_ble_eq_true rfl) dX5_unit_60 ⟨Nat.le_of_ble_eq_true rfl, Nat.le_of_ble_eq_true rfl⟩ ⟨Nat.le_of_ble_eq_true rfl, Nat.le_of_ble_eq_true rfl⟩) (fun r_139 H locs ws_136 h u_137 p_138 => ?_)
      obtain ⟨e_140, e_141, e_142⟩ := p_138
      refine y_if_ne (tgt := 165) C0 dX5_unit_63 (by decide) (fun c_143 => ((o62_71 e_140 e_141 c_143)).elim) (fun c_143 => ?_)
      refine lv_aload_n C0.1 C0.2.1 dX5_unit_66 rfl (lv_at hl 0 rfl) ?_
      refine y_cv h (y_rV (As := []) (rest := []) C0 hZ h (c_X5_advanceS l G Z ad _ h.2 ((Tp.fr (M := []) hTp (Fr.tr u_2 u_137) kSC_78 (by decide)))) k_X5_advance q_616 q_0 q_614 kSC_77 rfl rfl rfl hl.1 rfl rfl (Nat.le_of_ble_eq_true rfl) dX5_unit_67 ⟨Nat.le_of_ble_eq_true rfl, Nat.le_of_ble_eq_true rfl⟩ ⟨Nat.le_of_ble_eq_true rfl, Nat.le_of_ble_eq_true rfl⟩) (fun H locs ws_144 h u_145 p_146 => ?_)
      have e_147 := p_146
      refine lv_aload_n C0.1 C0.2.1 dX5_unit_70 rfl (lv_at hl 0 rfl) ?_
      refine lv_iload_n C0.1 C0.2.1 dX5_unit_71 rfl (lv_at hl 1 rfl) ?_
      refine y_c1 (n := 1) C0 (by decide) dX5_unit_72 (fun v_148 e_149 => ?_)
      refine y_add C0 (o62_105 l1 u1 e_149 (le_min a1) (le_max a1) (le_min v_148) (le_max v_148)) (o62_106 l1 u1 e_149 (le_min a1) (le_max a1) (le_min v_148) (le_max v_148)) dX5_unit_73 (fun v_150 e_151 => ?_)
      refine y_cv h (y_rV (As := [.int v_150]) (rest := []) C0 hZ h (c_X5_truth_2S l G Z ad _ h.2 v_150 (o62_107 l1 u1 e_149 e_151) (o62_108 l1 u1 e_149 e_151) ((Tp.fr (M := [16]) hTp (Fr.tr (Fr.tr (Fr.mono u_2 (by decide)) (Fr.mono u_137 (by decide))) u_145) kSC_78 (by decide)))) k_X5_truth q_843 q_19 q_841 kSC_77 rfl rfl rfl hl.1 rfl rfl (Nat.le_of_ble_eq_true rfl) dX5_unit_74 ⟨Nat.le_of_ble_eq_true rfl, Nat.le_of_ble_eq_true rfl⟩ ⟨Nat.le_of_ble_eq_true rfl, Nat.le_of_ble_eq_true rfl⟩) (fun H locs ws_152 h u_153 p_154 => ?_)
      have e_155 := p_154
      refine lv_aload_n C0.1 C0.2.1 dX5_unit_77 rfl (lv_at hl 0 rfl) ?_
      refine y_c2 (n := 93) C0 (by decide) dX5_unit_78 (fun v_156 e_157 => ?_)
      refine y_cv h (y_rV (As := [.int v_156]) (rest := []) C0 hZ h (c_X5_signS l G Z ad _ h.2 v_156 (o62_79 e_157) (o62_80 e_157) ((Tp.fr (M := [2, 3, 16]) hTp (Fr.tr (Fr.tr (Fr.tr (Fr.mono u_2 (by decide)) (Fr.mono u_137 (by decide))) (Fr.mono u_145 (by decide))) u_153) kSC_78 (by decide)))) k_X5_sign q_812 q_14 q_810 kSC_77 rfl rfl rfl hl.1 rfl rfl (Nat.le_of_ble_eq_true rfl) dX5_unit_80 ⟨Nat.le_of_ble_eq_true rfl, Nat.le_of_ble_eq_true rfl⟩ ⟨Nat.le_of_ble_eq_true rfl, Nat.le_of_ble_eq_true rfl⟩) (fun H locs ws_158 h u_159 p_160 => ?_)
      have e_161 := p_160
      refine lv_goto (tgt := 165) C0.1 C0.2.1 dX5_unit_83 (by decide) ?_
      have hq_162 := e_7
      have hs_163 : aF 77 ws_1 = (aF 77 ws0) := (aF_fr u_2 kSC_77 (by decide))
      have hv_164 : (aF 77 ws0) 4 = v_9.toInt := (congrFun hs_163 4).symm.trans (aF_at (by decide) e_10)
      have hs_165 : aF 77 ws_136 = ((fun s => s) (aF 77 ws0)) := e_142.trans (congrArg (fun s => (fun s => s) s) hs_163)
      have hs_166 : aF 77 ws_144 = (advS T ((fun s => s) (aF 77 ws0))) := e_147.trans (congrArg (fun s => advS T s) hs_165)
      have hs_167 : aF 77 ws_152 = (truthL T (unitD T 4) (advS T ((fun s => s) (aF 77 ws0)))) := e_155.trans (congrArg (fun s => truthL T (unitD T 4) s) hs_166)
      have hs_168 : aF 77 ws_158 = (signS T 93 (truthL T (unitD T 4) (advS T ((fun s => s) (aF 77 ws0))))) := e_161.trans ((congrArg (fun s => signS T v_156.toInt s) hs_167).trans (by rw [(o62_81 e_157)]))
      have hz_169 : (signS T 93 (truthL T (unitD T 4) (advS T ((fun s => s) (aF 77 ws0))))) = unitD T 5 (aF 77 ws0) := by rw [unitD_5]; unfold unitF; (repeat' split) <;> first | rfl | (exfalso; omega)
      rw [hQ]
      exact y_vret C0 h (Fr.tr (Fr.tr (Fr.tr (Fr.tr (Fr.mono u_2 (by decide)) (Fr.mono u_137 (by decide))) (Fr.mono u_145 (by decide))) u_153) (Fr.mono u_159 (by decide))) (Eq.trans hs_168 hz_169) dX5_unit_165
  · -- 6
    refine lv_aload_n C0.1 C0.2.1 dX5_unit_9 rfl (lv_at hl 0 rfl) ?_
    refine lv_iload_n C0.1 C0.2.1 dX5_unit_10 rfl (lv_at hl 1 rfl) ?_
    refine y_ci h (y_rV (As := [.int a1]) (rest := []) C0 hZ h (c_X5_tooDeep_1S l G Z ad _ h.2 a1 (o62_103 l1 u1) (o62_104 l1 u1)) k_X5_tooDeep q_832 q_18 q_830 kSC_77 rfl rfl rfl hl.1 rfl rfl (Nat.le_of_ble_eq_true rfl) dX5_unit_11 ⟨Nat.le_of_ble_eq_true rfl, Nat.le_of_ble_eq_true rfl⟩ ⟨Nat.le_of_ble_eq_true rfl, Nat.le_of_ble_eq_true rfl⟩) (fun r_173 H locs ws_170 h u_171 p_172 => ?_)
    obtain ⟨e_174, e_175, e_176⟩ := p_172
    refine y_if_ne (tgt := 165) C0 dX5_unit_14 (by decide) (fun c_177 => ((o62_71 e_174 e_175 c_177)).elim) (fun c_177 => ?_)
    refine lv_aload_n C0.1 C0.2.1 dX5_unit_17 rfl (lv_at hl 0 rfl) ?_
    refine y_cv h (y_rV (As := []) (rest := []) C0 hZ h (c_X5_advanceS l G Z ad _ h.2 ((Tp.fr (M := []) hTp (Fr.tr u_2 u_171) kSC_78 (by decide)))) k_X5_advance q_616 q_0 q_614 kSC_77 rfl rfl rfl hl.1 rfl rfl (Nat.le_of_ble_eq_true rfl) dX5_unit_18 ⟨Nat.le_of_ble_eq_true rfl, Nat.le_of_ble_eq_true rfl⟩ ⟨Nat.le_of_ble_eq_true rfl, Nat.le_of_ble_eq_true rfl⟩) (fun H locs ws_178 h u_179 p_180 => ?_)
    have e_181 := p_180
    refine lv_aload_n C0.1 C0.2.1 dX5_unit_21 rfl (lv_at hl 0 rfl) ?_
    refine lv_iload_n C0.1 C0.2.1 dX5_unit_22 rfl (lv_at hl 1 rfl) ?_
    refine y_c1 (n := 1) C0 (by decide) dX5_unit_23 (fun v_182 e_183 => ?_)
    refine y_add C0 (o62_105 l1 u1 e_183 (le_min a1) (le_max a1) (le_min v_182) (le_max v_182)) (o62_106 l1 u1 e_183 (le_min a1) (le_max a1) (le_min v_182) (le_max v_182)) dX5_unit_24 (fun v_184 e_185 => ?_)
    refine y_cv h (y_rV (As := [.int v_184]) (rest := []) C0 hZ h (c_X5_unit_2S l G Z ad _ h.2 v_184 (o62_107 l1 u1 e_183 e_185) (o62_108 l1 u1 e_183 e_185) ((Tp.fr (M := [16]) hTp (Fr.tr (Fr.tr (Fr.mono u_2 (by decide)) (Fr.mono u_171 (by decide))) u_179) kSC_78 (by decide)))) k_X5_unit q_851 q_21 q_849 kSC_77 rfl rfl rfl hl.1 rfl rfl (Nat.le_of_ble_eq_true rfl) dX5_unit_25 ⟨Nat.le_of_ble_eq_true rfl, Nat.le_of_ble_eq_true rfl⟩ ⟨Nat.le_of_ble_eq_true rfl, Nat.le_of_ble_eq_true rfl⟩) (fun H locs ws_186 h u_187 p_188 => ?_)
    have e_189 := p_188
    refine lv_aload_n C0.1 C0.2.1 dX5_unit_28 rfl (lv_at hl 0 rfl) ?_
    refine tg_X5_law C0 h kSC_77 q_380 dX5_unit_29 (fun i_190 hi_190 => ?_)
    refine y_c1 (n := 0) C0 (by decide) dX5_unit_32 (fun v_191 e_192 => ?_)
    refine y_cv h (y_rV (As := [.int v_191]) (rest := []) C0 hZ h (c_X4_add l G Z ad _ h.2 i_190 hi_190 v_191) k_X4_add q_827 q_828 q_826 hi_190 rfl rfl rfl hl.1 rfl rfl (Nat.le_of_ble_eq_true rfl) dX5_unit_33 ⟨Nat.le_of_ble_eq_true rfl, Nat.le_of_ble_eq_true rfl⟩ ⟨Nat.le_of_ble_eq_true rfl, Nat.le_of_ble_eq_true rfl⟩) (fun H locs ws_193 h u_194 p_195 => ?_)
    refine lv_aload_n C0.1 C0.2.1 dX5_unit_36 rfl (lv_at hl 0 rfl) ?_
    refine tg_X5_law C0 h kSC_77 q_380 dX5_unit_37 (fun i_196 hi_196 => ?_)
    refine y_c3 (n := 2003) C0 (by decide) dX5_unit_40 (fun v_197 e_198 => ?_)
    refine y_cv h (y_rV (As := [.int v_197]) (rest := []) C0 hZ h (c_X4_add l G Z ad _ h.2 i_196 hi_196 v_197) k_X4_add q_827 q_828 q_826 hi_196 rfl rfl rfl hl.1 rfl rfl (Nat.le_of_ble_eq_true rfl) dX5_unit_43 ⟨Nat.le_of_ble_eq_true rfl, Nat.le_of_ble_eq_true rfl⟩ ⟨Nat.le_of_ble_eq_true rfl, Nat.le_of_ble_eq_true rfl⟩) (fun H locs ws_199 h u_200 p_201 => ?_)
    refine lv_goto (tgt := 165) C0.1 C0.2.1 dX5_unit_46 (by decide) ?_
    have hq_202 := e_7
    have hs_203 : aF 77 ws_1 = (aF 77 ws0) := (aF_fr u_2 kSC_77 (by decide))
    have hs_204 : aF 77 ws_170 = ((fun s => s) (aF 77 ws0)) := e_176.trans (congrArg (fun s => (fun s => s) s) hs_203)
    have hs_205 : aF 77 ws_178 = (advS T ((fun s => s) (aF 77 ws0))) := e_181.trans (congrArg (fun s => advS T s) hs_204)
    have hs_206 : aF 77 ws_186 = (unitD T 4 (advS T ((fun s => s) (aF 77 ws0)))) := e_189.trans (congrArg (fun s => unitD T 4 s) hs_205)
    have hs_207 : aF 77 ws_193 = (unitD T 4 (advS T ((fun s => s) (aF 77 ws0)))) := (aF_fr u_194 kSC_77 (by decide)).trans hs_206
    have hs_208 : aF 77 ws_199 = (unitD T 4 (advS T ((fun s => s) (aF 77 ws0)))) := (aF_fr u_200 kSC_77 (by decide)).trans hs_207
    have hz_209 : (unitD T 4 (advS T ((fun s => s) (aF 77 ws0)))) = unitD T 5 (aF 77 ws0) := by rw [unitD_5]; unfold unitF; (repeat' split) <;> first | rfl | (exfalso; omega)
    rw [hQ]
    exact y_vret C0 h (Fr.tr (Fr.tr (Fr.tr (Fr.tr (Fr.tr (Fr.mono u_2 (by decide)) (Fr.mono u_171 (by decide))) (Fr.mono u_179 (by decide))) u_187) (Fr.mono u_194 (by decide))) (Fr.mono u_200 (by decide))) (Eq.trans hs_208 hz_209) dX5_unit_165
set_option maxHeartbeats 4000000 in
set_option maxRecDepth 100000 in
theorem c_X5_both_1S {T : Nat → Int} (l : Launch) (G : GG) (Z : RZ) (ad : Nat → Nat) (ws0 : va_W) (hT : Ty G (SC tt) ad ws0) (a1 : Int32) (l1 : 1 ≤ a1.toInt) (u1 : a1.toInt ≤ 1) (hTp : Tp T ws0) : Mq l yX5_both cX5_both 3 none 25 G Z [.ref (ad 77), .int a1] ws0 (PV G (SC tt) ad [2, 3, 16] ws0 (fun u => (aF 77 u = bothL T (unitD T 5) (aF 77 ws0)))) := by
  refine Mq.start (by decide) (Nat.le_of_ble_eq_true rfl) ?_
  intro p e s m below meth c A ls C0 hZ h hl
  have hl : lv_has ls 3 [(0, .ref (ad 77)), (1, .int a1)] := hl
  have h : Wt G (SC tt) ad A s s.heap [] ws0 := ⟨h, hT⟩
  obtain ⟨args, hargs⟩ : ∃ z, z = ([.ref (ad 77), .int a1] : List Value).toArray := ⟨_, rfl⟩
  rw [← hargs] at C0 ⊢
  have C0 : Cx p s m args meth c RX5 cX5_both 3 none := C0
  obtain ⟨Q, hQ⟩ : ∃ z, z = MQ below ((PV G (SC tt) ad [2, 3, 16] ws0 (fun u => (aF 77 u = bothL T (unitD T 5) (aF 77 ws0)))) A) args s 0 0 A := ⟨_, rfl⟩
  rw [← hQ]
  refine lv_aload_n C0.1 C0.2.1 dX5_both_0 rfl (lv_at hl 0 rfl) ?_
  refine lv_iload_n C0.1 C0.2.1 dX5_both_1 rfl (lv_at hl 1 rfl) ?_
  refine y_cv h (y_rV (As := [.int a1]) (rest := []) C0 hZ h (c_X5_unit_1S l G Z ad _ h.2 a1 (o62_103 l1 u1) (o62_104 l1 u1) hTp) k_X5_unit q_851 q_21 q_849 kSC_77 rfl rfl rfl hl.1 rfl rfl (Nat.le_of_ble_eq_true rfl) dX5_both_2 ⟨Nat.le_of_ble_eq_true rfl, Nat.le_of_ble_eq_true rfl⟩ ⟨Nat.le_of_ble_eq_true rfl, Nat.le_of_ble_eq_true rfl⟩) (fun H locs ws_1 h u_2 p_3 => ?_)
  have e_4 := p_3
  refine y_c1 (n := 0) C0 (by decide) dX5_both_5 (fun v_5 e_6 => ?_)
  refine lv_istore_n (lv' := [(2, .int v_5), (0, .ref (ad 77)), (1, .int a1)]) C0.1 C0.2.1 dX5_both_6 rfl hl (by decide) rfl (fun ls hl => ?_)
  have lp_10 : ∀ (n_12 : Nat) (x2_7 : Int32) (H : Heap) (locs : List Loc) (ls : Array Slot) (ws_8 : va_W), 900 - x2_7.toInt < (n_12 : Int) → 0 ≤ x2_7.toInt → x2_7.toInt ≤ 900 → (lpS (fun s => wI T 20 s = 1) (fun s => unitD T 5 (advS T s)) (900 - x2_7.toInt).toNat (aF 77 ws_8) = bothL T (unitD T 5) (aF 77 ws0)) → Wt G (SC tt) ad A s H locs ws_8 → Fr (SC tt) [2, 3, 16] ws_1 ws_8 → lv_has ls 3 [(2, .int x2_7), (0, .ref (ad 77)), (1, .int a1)] → W p l e (rmd 25 0 0) s m args below meth c H locs 0 0 Q (F0 m 7 ls []) := by
    intro n_12
    induction n_12 with
    | zero => intro x2_7 H locs ls ws_8 hn_13 b_14 b_15 hSp h hF_9 hl; exact ((o62_52 b_14 b_15 hn_13)).elim
    | succ n_12 ih_11 =>
      intro x2_7 H locs ls ws_8 hn_13 b_14 b_15 hSp h hF_9 hl
      refine lv_iload_n C0.1 C0.2.1 dX5_both_7 rfl (lv_at hl 0 rfl) ?_
      refine y_c3 (n := 900) C0 (by decide) dX5_both_8 (fun v_16 e_17 => ?_)
      refine y_icmp_ge (tgt := 48) C0 dX5_both_11 (by decide) (fun c_18 => ?_) (fun c_18 => ?_)
      · -- 11
        have hz_19 : (aF 77 ws_8) = lpS (fun s => wI T 20 s = 1) (fun s => unitD T 5 (advS T s)) (900 - x2_7.toInt).toNat (aF 77 ws_8) := by first | (exfalso; omega) | exact (lp_0 (by omega)).symm | exact (lp_e (by omega)).symm
        rw [hQ]
        exact y_vret C0 h (Fr.tr u_2 hF_9) (Eq.trans rfl (Eq.trans hz_19 hSp)) dX5_both_48
      · -- 11
        refine lv_aload_n C0.1 C0.2.1 dX5_both_14 rfl (lv_at hl 1 rfl) ?_
        refine va_ldcS C0.1 C0.2.1 C0.2.2.2.1 (sr_20 hZ) dX5_both_15 ?_
        refine y_ci h (y_rV (As := [.ref (Z.2.1 20)]) (rest := []) C0 hZ h (c_X5_isWordS l G Z ad _ h.2 20 (by decide) ((Tp.fr (M := [2, 3, 16]) hTp (Fr.tr u_2 hF_9) kSC_78 (by decide)))) k_X5_isWord q_724 q_5 q_722 kSC_77 rfl rfl rfl hl.1 rfl rfl (Nat.le_of_ble_eq_true rfl) dX5_both_17 ⟨Nat.le_of_ble_eq_true rfl, Nat.le_of_ble_eq_true rfl⟩ ⟨Nat.le_of_ble_eq_true rfl, Nat.le_of_ble_eq_true rfl⟩) (fun r_23 H locs ws_20 h u_21 p_22 => ?_)
        obtain ⟨e_24, e_25, e_26⟩ := p_22
        refine y_if_eq (tgt := 48) C0 dX5_both_20 (by decide) (fun c_27 => ?_) (fun c_27 => ?_)
        · -- 20
          have hq_28 := e_26
          have hs_29 : aF 77 ws_20 = (aF 77 ws_8) := (aF_fr u_21 kSC_77 (by decide))
          have hz_30 : (aF 77 ws_8) = lpS (fun s => wI T 20 s = 1) (fun s => unitD T 5 (advS T s)) (900 - x2_7.toInt).toNat (aF 77 ws_8) := by first | (exfalso; omega) | exact (lp_0 (by omega)).symm | exact (lp_e (by omega)).symm
          rw [hQ]
          exact y_vret C0 h (Fr.tr (Fr.tr u_2 hF_9) (Fr.mono u_21 (by decide))) (Eq.trans hs_29 (Eq.trans hz_30 hSp)) dX5_both_48
        · -- 20
          refine lv_aload_n C0.1 C0.2.1 dX5_both_23 rfl (lv_at hl 1 rfl) ?_
          refine y_cv h (y_rV (As := []) (rest := []) C0 hZ h (c_X5_advanceS l G Z ad _ h.2 ((Tp.fr (M := [2, 3, 16]) hTp (Fr.tr (Fr.tr u_2 hF_9) (Fr.mono u_21 (by decide))) kSC_78 (by decide)))) k_X5_advance q_616 q_0 q_614 kSC_77 rfl rfl rfl hl.1 rfl rfl (Nat.le_of_ble_eq_true rfl) dX5_both_24 ⟨Nat.le_of_ble_eq_true rfl, Nat.le_of_ble_eq_true rfl⟩ ⟨Nat.le_of_ble_eq_true rfl, Nat.le_of_ble_eq_true rfl⟩) (fun H locs ws_31 h u_32 p_33 => ?_)
          have e_34 := p_33
          refine lv_aload_n C0.1 C0.2.1 dX5_both_27 rfl (lv_at hl 1 rfl) ?_
          refine lv_iload_n C0.1 C0.2.1 dX5_both_28 rfl (lv_at hl 2 rfl) ?_
          refine y_cv h (y_rV (As := [.int a1]) (rest := []) C0 hZ h (c_X5_unit_1S l G Z ad _ h.2 a1 (o62_103 l1 u1) (o62_104 l1 u1) ((Tp.fr (M := [2, 3, 16]) hTp (Fr.tr (Fr.tr (Fr.tr u_2 hF_9) (Fr.mono u_21 (by decide))) (Fr.mono u_32 (by decide))) kSC_78 (by decide)))) k_X5_unit q_851 q_21 q_849 kSC_77 rfl rfl rfl hl.1 rfl rfl (Nat.le_of_ble_eq_true rfl) dX5_both_29 ⟨Nat.le_of_ble_eq_true rfl, Nat.le_of_ble_eq_true rfl⟩ ⟨Nat.le_of_ble_eq_true rfl, Nat.le_of_ble_eq_true rfl⟩) (fun H locs ws_35 h u_36 p_37 => ?_)
          have e_38 := p_37
          refine lv_aload_n C0.1 C0.2.1 dX5_both_32 rfl (lv_at hl 1 rfl) ?_
          refine tg_X5_law C0 h kSC_77 q_380 dX5_both_33 (fun i_39 hi_39 => ?_)
          refine y_c3 (n := 2006) C0 (by decide) dX5_both_36 (fun v_40 e_41 => ?_)
          refine y_cv h (y_rV (As := [.int v_40]) (rest := []) C0 hZ h (c_X4_add l G Z ad _ h.2 i_39 hi_39 v_40) k_X4_add q_827 q_828 q_826 hi_39 rfl rfl rfl hl.1 rfl rfl (Nat.le_of_ble_eq_true rfl) dX5_both_39 ⟨Nat.le_of_ble_eq_true rfl, Nat.le_of_ble_eq_true rfl⟩ ⟨Nat.le_of_ble_eq_true rfl, Nat.le_of_ble_eq_true rfl⟩) (fun H locs ws_42 h u_43 p_44 => ?_)
          refine y_inc (kp := 0) (n := 1) (fun v_45 => [(2, .int v_45), (0, .ref (ad 77)), (1, .int a1)]) C0 hl rfl (by decide) (by decide) (fun _ => rfl) (o62_53 b_14 b_15 hn_13 e_17 c_18 (le_min x2_7) (le_max x2_7) (le_min v_16) (le_max v_16)) (o62_54 b_14 b_15 hn_13 e_17 c_18 (le_min x2_7) (le_max x2_7) (le_min v_16) (le_max v_16)) dX5_both_42 (fun v_45 ls e_46 hl => ?_)
          refine lv_goto (tgt := 7) C0.1 C0.2.1 dX5_both_45 (by decide) ?_
          have hq_47 := e_26
          have hs_48 : aF 77 ws_20 = (aF 77 ws_8) := (aF_fr u_21 kSC_77 (by decide))
          have hs_49 : aF 77 ws_31 = (advS T (aF 77 ws_8)) := e_34.trans (congrArg (fun s => advS T s) hs_48)
          have hs_50 : aF 77 ws_35 = (unitD T 5 (advS T (aF 77 ws_8))) := e_38.trans (congrArg (fun s => unitD T 5 s) hs_49)
          have hs_51 : aF 77 ws_42 = (unitD T 5 (advS T (aF 77 ws_8))) := (aF_fr u_43 kSC_77 (by decide)).trans hs_50
          exact ih_11 v_45 _ _ _ _ (o62_55 b_14 b_15 hn_13 e_17 c_18 e_46) (o62_56 b_14 b_15 hn_13 e_17 c_18 e_46) (o62_57 b_14 b_15 hn_13 e_17 c_18 e_46) ((by rw [hs_51]; exact (lp_s (by omega) (by omega) (by omega) (by omega)).trans hSp)) h (Fr.tr (Fr.tr (Fr.tr (Fr.tr hF_9 (Fr.mono u_21 (by decide))) (Fr.mono u_32 (by decide))) u_36) (Fr.mono u_43 (by decide))) (lv_sub hl [0, 1, 2] rfl)
  have hs_52 : aF 77 ws_1 = (unitD T 5 (aF 77 ws0)) := e_4
  exact lp_10 ((900 - v_5.toInt + 1).toNat) v_5 _ _ _ _ (o62_58 e_6) (o62_59 e_6) (o62_60 e_6) ((by rw [show (900 - v_5.toInt).toNat = 900 by omega, hs_52]; rfl)) h Fr.rf (lv_sub hl [0, 1, 2] rfl)
set_option maxHeartbeats 4000000 in
set_option maxRecDepth 100000 in
theorem c_X5_truth_1S {T : Nat → Int} (l : Launch) (G : GG) (Z : RZ) (ad : Nat → Nat) (ws0 : va_W) (hT : Ty G (SC tt) ad ws0) (a1 : Int32) (l1 : 1 ≤ a1.toInt) (u1 : a1.toInt ≤ 1) (hTp : Tp T ws0) : Mq l yX5_truth cX5_truth 3 none 26 G Z [.ref (ad 77), .int a1] ws0 (PV G (SC tt) ad [2, 3, 16] ws0 (fun u => (aF 77 u = truthL T (unitD T 5) (aF 77 ws0)))) := by
  refine Mq.start (by decide) (Nat.le_of_ble_eq_true rfl) ?_
  intro p e s m below meth c A ls C0 hZ h hl
  have hl : lv_has ls 3 [(0, .ref (ad 77)), (1, .int a1)] := hl
  have h : Wt G (SC tt) ad A s s.heap [] ws0 := ⟨h, hT⟩
  obtain ⟨args, hargs⟩ : ∃ z, z = ([.ref (ad 77), .int a1] : List Value).toArray := ⟨_, rfl⟩
  rw [← hargs] at C0 ⊢
  have C0 : Cx p s m args meth c RX5 cX5_truth 3 none := C0
  obtain ⟨Q, hQ⟩ : ∃ z, z = MQ below ((PV G (SC tt) ad [2, 3, 16] ws0 (fun u => (aF 77 u = truthL T (unitD T 5) (aF 77 ws0)))) A) args s 0 0 A := ⟨_, rfl⟩
  rw [← hQ]
  refine lv_aload_n C0.1 C0.2.1 dX5_truth_0 rfl (lv_at hl 0 rfl) ?_
  refine lv_iload_n C0.1 C0.2.1 dX5_truth_1 rfl (lv_at hl 1 rfl) ?_
  refine y_cv h (y_rV (As := [.int a1]) (rest := []) C0 hZ h (c_X5_both_1S l G Z ad _ h.2 a1 (o62_103 l1 u1) (o62_104 l1 u1) hTp) k_X5_both q_847 q_20 q_845 kSC_77 rfl rfl rfl hl.1 rfl rfl (Nat.le_of_ble_eq_true rfl) dX5_truth_2 ⟨Nat.le_of_ble_eq_true rfl, Nat.le_of_ble_eq_true rfl⟩ ⟨Nat.le_of_ble_eq_true rfl, Nat.le_of_ble_eq_true rfl⟩) (fun H locs ws_1 h u_2 p_3 => ?_)
  have e_4 := p_3
  refine y_c1 (n := 0) C0 (by decide) dX5_truth_5 (fun v_5 e_6 => ?_)
  refine lv_istore_n (lv' := [(2, .int v_5), (0, .ref (ad 77)), (1, .int a1)]) C0.1 C0.2.1 dX5_truth_6 rfl hl (by decide) rfl (fun ls hl => ?_)
  have lp_10 : ∀ (n_12 : Nat) (x2_7 : Int32) (H : Heap) (locs : List Loc) (ls : Array Slot) (ws_8 : va_W), 900 - x2_7.toInt < (n_12 : Int) → 0 ≤ x2_7.toInt → x2_7.toInt ≤ 900 → (lpS (fun s => wI T 21 s = 1) (fun s => bothL T (unitD T 5) (advS T s)) (900 - x2_7.toInt).toNat (aF 77 ws_8) = truthL T (unitD T 5) (aF 77 ws0)) → Wt G (SC tt) ad A s H locs ws_8 → Fr (SC tt) [2, 3, 16] ws_1 ws_8 → lv_has ls 3 [(2, .int x2_7), (0, .ref (ad 77)), (1, .int a1)] → W p l e (rmd 26 0 0) s m args below meth c H locs 0 0 Q (F0 m 7 ls []) := by
    intro n_12
    induction n_12 with
    | zero => intro x2_7 H locs ls ws_8 hn_13 b_14 b_15 hSp h hF_9 hl; exact ((o62_52 b_14 b_15 hn_13)).elim
    | succ n_12 ih_11 =>
      intro x2_7 H locs ls ws_8 hn_13 b_14 b_15 hSp h hF_9 hl
      refine lv_iload_n C0.1 C0.2.1 dX5_truth_7 rfl (lv_at hl 0 rfl) ?_
      refine y_c3 (n := 900) C0 (by decide) dX5_truth_8 (fun v_16 e_17 => ?_)
      refine y_icmp_ge (tgt := 48) C0 dX5_truth_11 (by decide) (fun c_18 => ?_) (fun c_18 => ?_)
      · -- 11
        have hz_19 : (aF 77 ws_8) = lpS (fun s => wI T 21 s = 1) (fun s => bothL T (unitD T 5) (advS T s)) (900 - x2_7.toInt).toNat (aF 77 ws_8) := by first | (exfalso; omega) | exact (lp_0 (by omega)).symm | exact (lp_e (by omega)).symm
        rw [hQ]
        exact y_vret C0 h (Fr.tr u_2 hF_9) (Eq.trans rfl (Eq.trans hz_19 hSp)) dX5_truth_48
      · -- 11
        refine lv_aload_n C0.1 C0.2.1 dX5_truth_14 rfl (lv_at hl 1 rfl) ?_
        refine va_ldcS C0.1 C0.2.1 C0.2.2.2.1 (sr_21 hZ) dX5_truth_15 ?_
        refine y_ci h (y_rV (As := [.ref (Z.2.1 21)]) (rest := []) C0 hZ h (c_X5_isWordS l G Z ad _ h.2 21 (by decide) ((Tp.fr (M := [2, 3, 16]) hTp (Fr.tr u_2 hF_9) kSC_78 (by decide)))) k_X5_isWord q_724 q_5 q_722 kSC_77 rfl rfl rfl hl.1 rfl rfl (Nat.le_of_ble_eq_true rfl) dX5_truth_17 ⟨Nat.le_of_ble_eq_true rfl, Nat.le_of_ble_eq_true rfl⟩ ⟨Nat.le_of_ble_eq_true rfl, Nat.le_of_ble_eq_true rfl⟩) (fun r_23 H locs ws_20 h u_21 p_22 => ?_)
        obtain ⟨e_24, e_25, e_26⟩ := p_22
        refine y_if_eq (tgt := 48) C0 dX5_truth_20 (by decide) (fun c_27 => ?_) (fun c_27 => ?_)
        · -- 20
          have hq_28 := e_26
          have hs_29 : aF 77 ws_20 = (aF 77 ws_8) := (aF_fr u_21 kSC_77 (by decide))
          have hz_30 : (aF 77 ws_8) = lpS (fun s => wI T 21 s = 1) (fun s => bothL T (unitD T 5) (advS T s)) (900 - x2_7.toInt).toNat (aF 77 ws_8) := by first | (exfalso; omega) | exact (lp_0 (by omega)).symm | exact (lp_e (by omega)).symm
          rw [hQ]
          exact y_vret C0 h (Fr.tr (Fr.tr u_2 hF_9) (Fr.mono u_21 (by decide))) (Eq.trans hs_29 (Eq.trans hz_30 hSp)) dX5_truth_48
        · -- 20
          refine lv_aload_n C0.1 C0.2.1 dX5_truth_23 rfl (lv_at hl 1 rfl) ?_
          refine y_cv h (y_rV (As := []) (rest := []) C0 hZ h (c_X5_advanceS l G Z ad _ h.2 ((Tp.fr (M := [2, 3, 16]) hTp (Fr.tr (Fr.tr u_2 hF_9) (Fr.mono u_21 (by decide))) kSC_78 (by decide)))) k_X5_advance q_616 q_0 q_614 kSC_77 rfl rfl rfl hl.1 rfl rfl (Nat.le_of_ble_eq_true rfl) dX5_truth_24 ⟨Nat.le_of_ble_eq_true rfl, Nat.le_of_ble_eq_true rfl⟩ ⟨Nat.le_of_ble_eq_true rfl, Nat.le_of_ble_eq_true rfl⟩) (fun H locs ws_31 h u_32 p_33 => ?_)
          have e_34 := p_33
          refine lv_aload_n C0.1 C0.2.1 dX5_truth_27 rfl (lv_at hl 1 rfl) ?_
          refine lv_iload_n C0.1 C0.2.1 dX5_truth_28 rfl (lv_at hl 2 rfl) ?_
          refine y_cv h (y_rV (As := [.int a1]) (rest := []) C0 hZ h (c_X5_both_1S l G Z ad _ h.2 a1 (o62_103 l1 u1) (o62_104 l1 u1) ((Tp.fr (M := [2, 3, 16]) hTp (Fr.tr (Fr.tr (Fr.tr u_2 hF_9) (Fr.mono u_21 (by decide))) (Fr.mono u_32 (by decide))) kSC_78 (by decide)))) k_X5_both q_847 q_20 q_845 kSC_77 rfl rfl rfl hl.1 rfl rfl (Nat.le_of_ble_eq_true rfl) dX5_truth_29 ⟨Nat.le_of_ble_eq_true rfl, Nat.le_of_ble_eq_true rfl⟩ ⟨Nat.le_of_ble_eq_true rfl, Nat.le_of_ble_eq_true rfl⟩) (fun H locs ws_35 h u_36 p_37 => ?_)
          have e_38 := p_37
          refine lv_aload_n C0.1 C0.2.1 dX5_truth_32 rfl (lv_at hl 1 rfl) ?_
          refine tg_X5_law C0 h kSC_77 q_380 dX5_truth_33 (fun i_39 hi_39 => ?_)
          refine y_c3 (n := 2007) C0 (by decide) dX5_truth_36 (fun v_40 e_41 => ?_)
          refine y_cv h (y_rV (As := [.int v_40]) (rest := []) C0 hZ h (c_X4_add l G Z ad _ h.2 i_39 hi_39 v_40) k_X4_add q_827 q_828 q_826 hi_39 rfl rfl rfl hl.1 rfl rfl (Nat.le_of_ble_eq_true rfl) dX5_truth_39 ⟨Nat.le_of_ble_eq_true rfl, Nat.le_of_ble_eq_true rfl⟩ ⟨Nat.le_of_ble_eq_true rfl, Nat.le_of_ble_eq_true rfl⟩) (fun H locs ws_42 h u_43 p_44 => ?_)
          refine y_inc (kp := 0) (n := 1) (fun v_45 => [(2, .int v_45), (0, .ref (ad 77)), (1, .int a1)]) C0 hl rfl (by decide) (by decide) (fun _ => rfl) (o62_53 b_14 b_15 hn_13 e_17 c_18 (le_min x2_7) (le_max x2_7) (le_min v_16) (le_max v_16)) (o62_54 b_14 b_15 hn_13 e_17 c_18 (le_min x2_7) (le_max x2_7) (le_min v_16) (le_max v_16)) dX5_truth_42 (fun v_45 ls e_46 hl => ?_)
          refine lv_goto (tgt := 7) C0.1 C0.2.1 dX5_truth_45 (by decide) ?_
          have hq_47 := e_26
          have hs_48 : aF 77 ws_20 = (aF 77 ws_8) := (aF_fr u_21 kSC_77 (by decide))
          have hs_49 : aF 77 ws_31 = (advS T (aF 77 ws_8)) := e_34.trans (congrArg (fun s => advS T s) hs_48)
          have hs_50 : aF 77 ws_35 = (bothL T (unitD T 5) (advS T (aF 77 ws_8))) := e_38.trans (congrArg (fun s => bothL T (unitD T 5) s) hs_49)
          have hs_51 : aF 77 ws_42 = (bothL T (unitD T 5) (advS T (aF 77 ws_8))) := (aF_fr u_43 kSC_77 (by decide)).trans hs_50
          exact ih_11 v_45 _ _ _ _ (o62_55 b_14 b_15 hn_13 e_17 c_18 e_46) (o62_56 b_14 b_15 hn_13 e_17 c_18 e_46) (o62_57 b_14 b_15 hn_13 e_17 c_18 e_46) ((by rw [hs_51]; exact (lp_s (by omega) (by omega) (by omega) (by omega)).trans hSp)) h (Fr.tr (Fr.tr (Fr.tr (Fr.tr hF_9 (Fr.mono u_21 (by decide))) (Fr.mono u_32 (by decide))) u_36) (Fr.mono u_43 (by decide))) (lv_sub hl [0, 1, 2] rfl)
  have hs_52 : aF 77 ws_1 = (bothL T (unitD T 5) (aF 77 ws0)) := e_4
  exact lp_10 ((900 - v_5.toInt + 1).toNat) v_5 _ _ _ _ (o62_58 e_6) (o62_59 e_6) (o62_60 e_6) ((by rw [show (900 - v_5.toInt).toNat = 900 by omega, hs_52]; rfl)) h Fr.rf (lv_sub hl [0, 1, 2] rfl)
set_option maxHeartbeats 4000000 in
set_option maxRecDepth 100000 in
theorem c_X5_tooDeep_0S (l : Launch) (G : GG) (Z : RZ) (ad : Nat → Nat) (ws0 : va_W) (hT : Ty G (SC tt) ad ws0) (a1 : Int32) (l1 : 0 ≤ a1.toInt) (u1 : a1.toInt ≤ 0) : Mq l yX5_tooDeep cX5_tooDeep 2 (some .boolean) 1 G Z [.ref (ad 77), .int a1] ws0 (PI G (SC tt) ad [] ws0 (fun r u => (0 ≤ r.toInt) ∧ (r.toInt ≤ 0) ∧ (aF 77 u = (fun s => s) (aF 77 ws0)))) := by
  refine Mq.start (by decide) (Nat.le_of_ble_eq_true rfl) ?_
  intro p e s m below meth c A ls C0 hZ h hl
  have hl : lv_has ls 2 [(0, .ref (ad 77)), (1, .int a1)] := hl
  have h : Wt G (SC tt) ad A s s.heap [] ws0 := ⟨h, hT⟩
  obtain ⟨args, hargs⟩ : ∃ z, z = ([.ref (ad 77), .int a1] : List Value).toArray := ⟨_, rfl⟩
  rw [← hargs] at C0 ⊢
  have C0 : Cx p s m args meth c RX5 cX5_tooDeep 2 (some .boolean) := C0
  obtain ⟨Q, hQ⟩ : ∃ z, z = MQ below ((PI G (SC tt) ad [] ws0 (fun r u => (0 ≤ r.toInt) ∧ (r.toInt ≤ 0) ∧ (aF 77 u = (fun s => s) (aF 77 ws0)))) A) args s 0 0 A := ⟨_, rfl⟩
  rw [← hQ]
  refine lv_iload_n C0.1 C0.2.1 dX5_tooDeep_0 rfl (lv_at hl 1 rfl) ?_
  refine y_c2 (n := 6) C0 (by decide) dX5_tooDeep_1 (fun v_1 e_2 => ?_)
  refine y_icmp_lt (tgt := 13) C0 dX5_tooDeep_3 (by decide) (fun c_3 => ?_) (fun c_3 => ((o62_109 l1 u1 e_2 c_3)).elim)
  refine y_c1 (n := 0) C0 (by decide) dX5_tooDeep_13 (fun v_4 e_5 => ?_)
  have hz_6 : (aF 77 ws0) = (fun s => s) (aF 77 ws0) := by rfl
  rw [hQ]
  exact y_zret C0 h (o62_59 e_5) (o62_68 e_5) Fr.rf ⟨(o62_59 e_5), (o62_67 e_5), (Eq.trans rfl hz_6)⟩ dX5_tooDeep_14
set_option maxHeartbeats 4000000 in
set_option maxRecDepth 100000 in
theorem c_X5_atom_0S {T : Nat → Int} (l : Launch) (G : GG) (Z : RZ) (ad : Nat → Nat) (ws0 : va_W) (hT : Ty G (SC tt) ad ws0) (a1 : Int32) (l1 : 0 ≤ a1.toInt) (u1 : a1.toInt ≤ 0) (hTp : Tp T ws0) : Mq l yX5_atom cX5_atom 3 none 24 G Z [.ref (ad 77), .int a1] ws0 (PV G (SC tt) ad [2, 3, 16] ws0 (fun u => (aF 77 u = atomD T 6 (aF 77 ws0)))) := by
  refine Mq.start (by decide) (Nat.le_of_ble_eq_true rfl) ?_
  intro p e s m below meth c A ls C0 hZ h hl
  have hl : lv_has ls 3 [(0, .ref (ad 77)), (1, .int a1)] := hl
  have h : Wt G (SC tt) ad A s s.heap [] ws0 := ⟨h, hT⟩
  obtain ⟨args, hargs⟩ : ∃ z, z = ([.ref (ad 77), .int a1] : List Value).toArray := ⟨_, rfl⟩
  rw [← hargs] at C0 ⊢
  have C0 : Cx p s m args meth c RX5 cX5_atom 3 none := C0
  obtain ⟨Q, hQ⟩ : ∃ z, z = MQ below ((PV G (SC tt) ad [2, 3, 16] ws0 (fun u => (aF 77 u = atomD T 6 (aF 77 ws0)))) A) args s 0 0 A := ⟨_, rfl⟩
  rw [← hQ]
  refine lv_aload_n C0.1 C0.2.1 dX5_atom_0 rfl (lv_at hl 0 rfl) ?_
  refine tg_X5_kind C0 h kSC_77 q_374 dX5_atom_1 (fun v_1 e_2 e_3 e_4 => ?_)
  refine y_c1 (n := 2) C0 (by decide) dX5_atom_4 (fun v_5 e_6 => ?_)
  refine y_icmp_ne (tgt := 26) C0 dX5_atom_5 (by decide) (fun c_7 => ?_) (fun c_7 => ?_)
  · -- 5
    refine lv_aload_n C0.1 C0.2.1 dX5_atom_26 rfl (lv_at hl 0 rfl) ?_
    refine tg_X5_kind C0 h kSC_77 q_374 dX5_atom_27 (fun v_8 e_9 e_10 e_11 => ?_)
    have q_12 : v_8.toInt = v_1.toInt := congrArg Int32.toInt (e_9.symm.trans (Eq.trans rfl e_2))
    refine y_c2 (n := 40) C0 (by decide) dX5_atom_30 (fun v_13 e_14 => ?_)
    refine y_icmp_ne (tgt := 63) C0 dX5_atom_32 (by decide) (fun c_15 => ?_) (fun c_15 => ?_)
    · -- 32
      refine lv_aload_n C0.1 C0.2.1 dX5_atom_63 rfl (lv_at hl 0 rfl) ?_
      refine va_ldcS C0.1 C0.2.1 C0.2.2.2.1 (sr_12 hZ) dX5_atom_64 ?_
      refine y_ci h (y_rV (As := [.ref (Z.2.1 12)]) (rest := []) C0 hZ h (c_X5_isWordS l G Z ad _ h.2 12 (by decide) hTp) k_X5_isWord q_724 q_5 q_722 kSC_77 rfl rfl rfl hl.1 rfl rfl (Nat.le_of_ble_eq_true rfl) dX5_atom_66 ⟨Nat.le_of_ble_eq_true rfl, Nat.le_of_ble_eq_true rfl⟩ ⟨Nat.le_of_ble_eq_true rfl, Nat.le_of_ble_eq_true rfl⟩) (fun r_19 H locs ws_16 h u_17 p_18 => ?_)
      obtain ⟨e_20, e_21, e_22⟩ := p_18
      refine y_if_eq (tgt := 78) C0 dX5_atom_69 (by decide) (fun c_23 => ?_) (fun c_23 => ?_)
      · -- 69
        refine lv_aload_n C0.1 C0.2.1 dX5_atom_78 rfl (lv_at hl 0 rfl) ?_
        refine va_ldcS C0.1 C0.2.1 C0.2.2.2.1 (sr_13 hZ) dX5_atom_79 ?_
        refine y_ci h (y_rV (As := [.ref (Z.2.1 13)]) (rest := []) C0 hZ h (c_X5_isWordS l G Z ad _ h.2 13 (by decide) ((Tp.fr (M := []) hTp u_17 kSC_78 (by decide)))) k_X5_isWord q_724 q_5 q_722 kSC_77 rfl rfl rfl hl.1 rfl rfl (Nat.le_of_ble_eq_true rfl) dX5_atom_81 ⟨Nat.le_of_ble_eq_true rfl, Nat.le_of_ble_eq_true rfl⟩ ⟨Nat.le_of_ble_eq_true rfl, Nat.le_of_ble_eq_true rfl⟩) (fun r_27 H locs ws_24 h u_25 p_26 => ?_)
        obtain ⟨e_28, e_29, e_30⟩ := p_26
        refine y_if_eq (tgt := 93) C0 dX5_atom_84 (by decide) (fun c_31 => ?_) (fun c_31 => ?_)
        · -- 84
          refine lv_aload_n C0.1 C0.2.1 dX5_atom_93 rfl (lv_at hl 0 rfl) ?_
          refine va_ldcS C0.1 C0.2.1 C0.2.2.2.1 (sr_14 hZ) dX5_atom_94 ?_
          refine y_ci h (y_rV (As := [.ref (Z.2.1 14)]) (rest := []) C0 hZ h (c_X5_isWordS l G Z ad _ h.2 14 (by decide) ((Tp.fr (M := []) hTp (Fr.tr u_17 u_25) kSC_78 (by decide)))) k_X5_isWord q_724 q_5 q_722 kSC_77 rfl rfl rfl hl.1 rfl rfl (Nat.le_of_ble_eq_true rfl) dX5_atom_96 ⟨Nat.le_of_ble_eq_true rfl, Nat.le_of_ble_eq_true rfl⟩ ⟨Nat.le_of_ble_eq_true rfl, Nat.le_of_ble_eq_true rfl⟩) (fun r_35 H locs ws_32 h u_33 p_34 => ?_)
          obtain ⟨e_36, e_37, e_38⟩ := p_34
          refine y_if_eq (tgt := 108) C0 dX5_atom_99 (by decide) (fun c_39 => ?_) (fun c_39 => ?_)
          · -- 99
            refine lv_aload_n C0.1 C0.2.1 dX5_atom_108 rfl (lv_at hl 0 rfl) ?_
            refine va_ldcS C0.1 C0.2.1 C0.2.2.2.1 (sr_15 hZ) dX5_atom_109 ?_
            refine y_ci h (y_rV (As := [.ref (Z.2.1 15)]) (rest := []) C0 hZ h (c_X5_isWordS l G Z ad _ h.2 15 (by decide) ((Tp.fr (M := []) hTp (Fr.tr (Fr.tr u_17 u_25) u_33) kSC_78 (by decide)))) k_X5_isWord q_724 q_5 q_722 kSC_77 rfl rfl rfl hl.1 rfl rfl (Nat.le_of_ble_eq_true rfl) dX5_atom_111 ⟨Nat.le_of_ble_eq_true rfl, Nat.le_of_ble_eq_true rfl⟩ ⟨Nat.le_of_ble_eq_true rfl, Nat.le_of_ble_eq_true rfl⟩) (fun r_43 H locs ws_40 h u_41 p_42 => ?_)
            obtain ⟨e_44, e_45, e_46⟩ := p_42
            refine y_if_eq (tgt := 123) C0 dX5_atom_114 (by decide) (fun c_47 => ?_) (fun c_47 => ?_)
            · -- 114
              refine lv_aload_n C0.1 C0.2.1 dX5_atom_123 rfl (lv_at hl 0 rfl) ?_
              refine va_ldcS C0.1 C0.2.1 C0.2.2.2.1 (sr_16 hZ) dX5_atom_124 ?_
              refine y_ci h (y_rV (As := [.ref (Z.2.1 16)]) (rest := []) C0 hZ h (c_X5_isWordS l G Z ad _ h.2 16 (by decide) ((Tp.fr (M := []) hTp (Fr.tr (Fr.tr (Fr.tr u_17 u_25) u_33) u_41) kSC_78 (by decide)))) k_X5_isWord q_724 q_5 q_722 kSC_77 rfl rfl rfl hl.1 rfl rfl (Nat.le_of_ble_eq_true rfl) dX5_atom_126 ⟨Nat.le_of_ble_eq_true rfl, Nat.le_of_ble_eq_true rfl⟩ ⟨Nat.le_of_ble_eq_true rfl, Nat.le_of_ble_eq_true rfl⟩) (fun r_51 H locs ws_48 h u_49 p_50 => ?_)
              obtain ⟨e_52, e_53, e_54⟩ := p_50
              refine y_if_eq (tgt := 138) C0 dX5_atom_129 (by decide) (fun c_55 => ?_) (fun c_55 => ?_)
              · -- 129
                refine lv_aload_n C0.1 C0.2.1 dX5_atom_138 rfl (lv_at hl 0 rfl) ?_
                refine va_ldcS C0.1 C0.2.1 C0.2.2.2.1 (sr_17 hZ) dX5_atom_139 ?_
                refine y_ci h (y_rV (As := [.ref (Z.2.1 17)]) (rest := []) C0 hZ h (c_X5_isWordS l G Z ad _ h.2 17 (by decide) ((Tp.fr (M := []) hTp (Fr.tr (Fr.tr (Fr.tr (Fr.tr u_17 u_25) u_33) u_41) u_49) kSC_78 (by decide)))) k_X5_isWord q_724 q_5 q_722 kSC_77 rfl rfl rfl hl.1 rfl rfl (Nat.le_of_ble_eq_true rfl) dX5_atom_141 ⟨Nat.le_of_ble_eq_true rfl, Nat.le_of_ble_eq_true rfl⟩ ⟨Nat.le_of_ble_eq_true rfl, Nat.le_of_ble_eq_true rfl⟩) (fun r_59 H locs ws_56 h u_57 p_58 => ?_)
                obtain ⟨e_60, e_61, e_62⟩ := p_58
                refine y_if_eq (tgt := 153) C0 dX5_atom_144 (by decide) (fun c_63 => ?_) (fun c_63 => ?_)
                · -- 144
                  refine y_c1 (n := (-1)) C0 (by decide) dX5_atom_153 (fun v_64 e_65 => ?_)
                  refine lv_istore_n (lv' := [(2, .int v_64), (0, .ref (ad 77)), (1, .int a1)]) C0.1 C0.2.1 dX5_atom_154 rfl hl (by decide) rfl (fun ls hl => ?_)
                  refine lv_iload_n C0.1 C0.2.1 dX5_atom_155 rfl (lv_at hl 0 rfl) ?_
                  refine y_if_ge (tgt := 165) C0 dX5_atom_156 (by decide) (fun c_66 => ((o62_42 e_65 c_66)).elim) (fun c_66 => ?_)
                  refine lv_aload_n C0.1 C0.2.1 dX5_atom_159 rfl (lv_at hl 1 rfl) ?_
                  refine y_c1 (n := 2) C0 (by decide) dX5_atom_160 (fun v_67 e_68 => ?_)
                  refine y_cv h (y_rV (As := [.int v_67]) (rest := []) C0 hZ h (c_X5_failS l G Z ad _ h.2 v_67) k_X5_fail q_628 q_3 q_626 kSC_77 rfl rfl rfl hl.1 rfl rfl (Nat.le_of_ble_eq_true rfl) dX5_atom_161 ⟨Nat.le_of_ble_eq_true rfl, Nat.le_of_ble_eq_true rfl⟩ ⟨Nat.le_of_ble_eq_true rfl, Nat.le_of_ble_eq_true rfl⟩) (fun H locs ws_69 h u_70 p_71 => ?_)
                  have e_72 := p_71
                  have hv_73 : (aF 77 ws0) 4 = v_1.toInt := (aF_at (by decide) e_2)
                  have hv_74 : (aF 77 ws0) 4 = v_8.toInt := (aF_at (by decide) e_9)
                  have hq_75 := e_22
                  have hs_76 : aF 77 ws_16 = (aF 77 ws0) := (aF_fr u_17 kSC_77 (by decide))
                  have hq_77 := e_30
                  rw [hs_76] at hq_77
                  have hs_78 : aF 77 ws_24 = (aF 77 ws0) := (aF_fr u_25 kSC_77 (by decide)).trans hs_76
                  have hq_79 := e_38
                  rw [hs_78] at hq_79
                  have hs_80 : aF 77 ws_32 = (aF 77 ws0) := (aF_fr u_33 kSC_77 (by decide)).trans hs_78
                  have hq_81 := e_46
                  rw [hs_80] at hq_81
                  have hs_82 : aF 77 ws_40 = (aF 77 ws0) := (aF_fr u_41 kSC_77 (by decide)).trans hs_80
                  have hq_83 := e_54
                  rw [hs_82] at hq_83
                  have hs_84 : aF 77 ws_48 = (aF 77 ws0) := (aF_fr u_49 kSC_77 (by decide)).trans hs_82
                  have hq_85 := e_62
                  rw [hs_84] at hq_85
                  have hs_86 : aF 77 ws_56 = (aF 77 ws0) := (aF_fr u_57 kSC_77 (by decide)).trans hs_84
                  have hs_87 : aF 77 ws_69 = (failS 2 (aF 77 ws0)) := e_72.trans ((congrArg (fun s => failS v_67.toInt s) hs_86).trans (by rw [(o62_1 e_68)]))
                  have hz_88 : (failS 2 (aF 77 ws0)) = atomD T 6 (aF 77 ws0) := by rw [atomD_6]; unfold atomF; (repeat' split) <;> first | rfl | (exfalso; omega)
                  rw [hQ]
                  exact y_vret C0 h (Fr.tr (Fr.tr (Fr.tr (Fr.tr (Fr.tr (Fr.tr (Fr.mono u_17 (by decide)) (Fr.mono u_25 (by decide))) (Fr.mono u_33 (by decide))) (Fr.mono u_41 (by decide))) (Fr.mono u_49 (by decide))) (Fr.mono u_57 (by decide))) (Fr.mono u_70 (by decide))) (Eq.trans hs_87 hz_88) dX5_atom_164
                · -- 144
                  refine y_c3 (n := 1005) C0 (by decide) dX5_atom_147 (fun v_89 e_90 => ?_)
                  refine lv_goto (tgt := 154) C0.1 C0.2.1 dX5_atom_150 (by decide) ?_
                  refine lv_istore_n (lv' := [(2, .int v_89), (0, .ref (ad 77)), (1, .int a1)]) C0.1 C0.2.1 dX5_atom_154 rfl hl (by decide) rfl (fun ls hl => ?_)
                  refine lv_iload_n C0.1 C0.2.1 dX5_atom_155 rfl (lv_at hl 0 rfl) ?_
                  refine y_if_ge (tgt := 165) C0 dX5_atom_156 (by decide) (fun c_91 => ?_) (fun c_91 => ((o62_43 e_90 c_91)).elim)
                  refine lv_aload_n C0.1 C0.2.1 dX5_atom_165 rfl (lv_at hl 1 rfl) ?_
                  refine tg_X5_law C0 h kSC_77 q_380 dX5_atom_166 (fun i_92 hi_92 => ?_)
                  refine lv_iload_n C0.1 C0.2.1 dX5_atom_169 rfl (lv_at hl 0 rfl) ?_
                  refine y_cv h (y_rV (As := [.int v_89]) (rest := []) C0 hZ h (c_X4_add l G Z ad _ h.2 i_92 hi_92 v_89) k_X4_add q_827 q_828 q_826 hi_92 rfl rfl rfl hl.1 rfl rfl (Nat.le_of_ble_eq_true rfl) dX5_atom_170 ⟨Nat.le_of_ble_eq_true rfl, Nat.le_of_ble_eq_true rfl⟩ ⟨Nat.le_of_ble_eq_true rfl, Nat.le_of_ble_eq_true rfl⟩) (fun H locs ws_93 h u_94 p_95 => ?_)
                  refine lv_aload_n C0.1 C0.2.1 dX5_atom_173 rfl (lv_at hl 1 rfl) ?_
                  refine y_cv h (y_rV (As := []) (rest := []) C0 hZ h (c_X5_advanceS l G Z ad _ h.2 ((Tp.fr (M := [2, 3]) hTp (Fr.tr (Fr.tr (Fr.tr (Fr.tr (Fr.tr (Fr.tr (Fr.mono u_17 (by decide)) (Fr.mono u_25 (by decide))) (Fr.mono u_33 (by decide))) (Fr.mono u_41 (by decide))) (Fr.mono u_49 (by decide))) (Fr.mono u_57 (by decide))) u_94) kSC_78 (by decide)))) k_X5_advance q_616 q_0 q_614 kSC_77 rfl rfl rfl hl.1 rfl rfl (Nat.le_of_ble_eq_true rfl) dX5_atom_174 ⟨Nat.le_of_ble_eq_true rfl, Nat.le_of_ble_eq_true rfl⟩ ⟨Nat.le_of_ble_eq_true rfl, Nat.le_of_ble_eq_true rfl⟩) (fun H locs ws_96 h u_97 p_98 => ?_)
                  have e_99 := p_98
                  have hv_100 : (aF 77 ws0) 4 = v_1.toInt := (aF_at (by decide) e_2)
                  have hv_101 : (aF 77 ws0) 4 = v_8.toInt := (aF_at (by decide) e_9)
                  have hq_102 := e_22
                  have hs_103 : aF 77 ws_16 = (aF 77 ws0) := (aF_fr u_17 kSC_77 (by decide))
                  have hq_104 := e_30
                  rw [hs_103] at hq_104
                  have hs_105 : aF 77 ws_24 = (aF 77 ws0) := (aF_fr u_25 kSC_77 (by decide)).trans hs_103
                  have hq_106 := e_38
                  rw [hs_105] at hq_106
                  have hs_107 : aF 77 ws_32 = (aF 77 ws0) := (aF_fr u_33 kSC_77 (by decide)).trans hs_105
                  have hq_108 := e_46
                  rw [hs_107] at hq_108
                  have hs_109 : aF 77 ws_40 = (aF 77 ws0) := (aF_fr u_41 kSC_77 (by decide)).trans hs_107
                  have hq_110 := e_54
                  rw [hs_109] at hq_110
                  have hs_111 : aF 77 ws_48 = (aF 77 ws0) := (aF_fr u_49 kSC_77 (by decide)).trans hs_109
                  have hq_112 := e_62
                  rw [hs_111] at hq_112
                  have hs_113 : aF 77 ws_56 = (aF 77 ws0) := (aF_fr u_57 kSC_77 (by decide)).trans hs_111
                  have hs_114 : aF 77 ws_93 = (aF 77 ws0) := (aF_fr u_94 kSC_77 (by decide)).trans hs_113
                  have hs_115 : aF 77 ws_96 = (advS T (aF 77 ws0)) := e_99.trans (congrArg (fun s => advS T s) hs_114)
                  have hz_116 : (advS T (aF 77 ws0)) = atomD T 6 (aF 77 ws0) := by rw [atomD_6]; unfold atomF; (repeat' split) <;> first | rfl | (exfalso; omega)
                  rw [hQ]
                  exact y_vret C0 h (Fr.tr (Fr.tr (Fr.tr (Fr.tr (Fr.tr (Fr.tr (Fr.tr (Fr.mono u_17 (by decide)) (Fr.mono u_25 (by decide))) (Fr.mono u_33 (by decide))) (Fr.mono u_41 (by decide))) (Fr.mono u_49 (by decide))) (Fr.mono u_57 (by decide))) (Fr.mono u_94 (by decide))) (Fr.mono u_97 (by decide))) (Eq.trans hs_115 hz_116) dX5_atom_177
              · -- 129
                refine y_c3 (n := 1004) C0 (by decide) dX5_atom_132 (fun v_117 e_118 => ?_)
                refine lv_goto (tgt := 154) C0.1 C0.2.1 dX5_atom_135 (by decide) ?_
                refine lv_istore_n (lv' := [(2, .int v_117), (0, .ref (ad 77)), (1, .int a1)]) C0.1 C0.2.1 dX5_atom_154 rfl hl (by decide) rfl (fun ls hl => ?_)
                refine lv_iload_n C0.1 C0.2.1 dX5_atom_155 rfl (lv_at hl 0 rfl) ?_
                refine y_if_ge (tgt := 165) C0 dX5_atom_156 (by decide) (fun c_119 => ?_) (fun c_119 => ((o62_44 e_118 c_119)).elim)
                refine lv_aload_n C0.1 C0.2.1 dX5_atom_165 rfl (lv_at hl 1 rfl) ?_
                refine tg_X5_law C0 h kSC_77 q_380 dX5_atom_166 (fun i_120 hi_120 => ?_)
                refine lv_iload_n C0.1 C0.2.1 dX5_atom_169 rfl (lv_at hl 0 rfl) ?_
                refine y_cv h (y_rV (As := [.int v_117]) (rest := []) C0 hZ h (c_X4_add l G Z ad _ h.2 i_120 hi_120 v_117) k_X4_add q_827 q_828 q_826 hi_120 rfl rfl rfl hl.1 rfl rfl (Nat.le_of_ble_eq_true rfl) dX5_atom_170 ⟨Nat.le_of_ble_eq_true rfl, Nat.le_of_ble_eq_true rfl⟩ ⟨Nat.le_of_ble_eq_true rfl, Nat.le_of_ble_eq_true rfl⟩) (fun H locs ws_121 h u_122 p_123 => ?_)
                refine lv_aload_n C0.1 C0.2.1 dX5_atom_173 rfl (lv_at hl 1 rfl) ?_
                refine y_cv h (y_rV (As := []) (rest := []) C0 hZ h (c_X5_advanceS l G Z ad _ h.2 ((Tp.fr (M := [2, 3]) hTp (Fr.tr (Fr.tr (Fr.tr (Fr.tr (Fr.tr (Fr.mono u_17 (by decide)) (Fr.mono u_25 (by decide))) (Fr.mono u_33 (by decide))) (Fr.mono u_41 (by decide))) (Fr.mono u_49 (by decide))) u_122) kSC_78 (by decide)))) k_X5_advance q_616 q_0 q_614 kSC_77 rfl rfl rfl hl.1 rfl rfl (Nat.le_of_ble_eq_true rfl) dX5_atom_174 ⟨Nat.le_of_ble_eq_true rfl, Nat.le_of_ble_eq_true rfl⟩ ⟨Nat.le_of_ble_eq_true rfl, Nat.le_of_ble_eq_true rfl⟩) (fun H locs ws_124 h u_125 p_126 => ?_)
                have e_127 := p_126
                have hv_128 : (aF 77 ws0) 4 = v_1.toInt := (aF_at (by decide) e_2)
                have hv_129 : (aF 77 ws0) 4 = v_8.toInt := (aF_at (by decide) e_9)
                have hq_130 := e_22
                have hs_131 : aF 77 ws_16 = (aF 77 ws0) := (aF_fr u_17 kSC_77 (by decide))
                have hq_132 := e_30
                rw [hs_131] at hq_132
                have hs_133 : aF 77 ws_24 = (aF 77 ws0) := (aF_fr u_25 kSC_77 (by decide)).trans hs_131
                have hq_134 := e_38
                rw [hs_133] at hq_134
                have hs_135 : aF 77 ws_32 = (aF 77 ws0) := (aF_fr u_33 kSC_77 (by decide)).trans hs_133
                have hq_136 := e_46
                rw [hs_135] at hq_136
                have hs_137 : aF 77 ws_40 = (aF 77 ws0) := (aF_fr u_41 kSC_77 (by decide)).trans hs_135
                have hq_138 := e_54
                rw [hs_137] at hq_138
                have hs_139 : aF 77 ws_48 = (aF 77 ws0) := (aF_fr u_49 kSC_77 (by decide)).trans hs_137
                have hs_140 : aF 77 ws_121 = (aF 77 ws0) := (aF_fr u_122 kSC_77 (by decide)).trans hs_139
                have hs_141 : aF 77 ws_124 = (advS T (aF 77 ws0)) := e_127.trans (congrArg (fun s => advS T s) hs_140)
                have hz_142 : (advS T (aF 77 ws0)) = atomD T 6 (aF 77 ws0) := by rw [atomD_6]; unfold atomF; (repeat' split) <;> first | rfl | (exfalso; omega)
                rw [hQ]
                exact y_vret C0 h (Fr.tr (Fr.tr (Fr.tr (Fr.tr (Fr.tr (Fr.tr (Fr.mono u_17 (by decide)) (Fr.mono u_25 (by decide))) (Fr.mono u_33 (by decide))) (Fr.mono u_41 (by decide))) (Fr.mono u_49 (by decide))) (Fr.mono u_122 (by decide))) (Fr.mono u_125 (by decide))) (Eq.trans hs_141 hz_142) dX5_atom_177
            · -- 114
              refine y_c3 (n := 1003) C0 (by decide) dX5_atom_117 (fun v_143 e_144 => ?_)
              refine lv_goto (tgt := 154) C0.1 C0.2.1 dX5_atom_120 (by decide) ?_
              refine lv_istore_n (lv' := [(2, .int v_143), (0, .ref (ad 77)), (1, .int a1)]) C0.1 C0.2.1 dX5_atom_154 rfl hl (by decide) rfl (fun ls hl => ?_)
              refine lv_iload_n C0.1 C0.2.1 dX5_atom_155 rfl (lv_at hl 0 rfl) ?_
              refine y_if_ge (tgt := 165) C0 dX5_atom_156 (by decide) (fun c_145 => ?_) (fun c_145 => ((o62_45 e_144 c_145)).elim)
              refine lv_aload_n C0.1 C0.2.1 dX5_atom_165 rfl (lv_at hl 1 rfl) ?_
              refine tg_X5_law C0 h kSC_77 q_380 dX5_atom_166 (fun i_146 hi_146 => ?_)
              refine lv_iload_n C0.1 C0.2.1 dX5_atom_169 rfl (lv_at hl 0 rfl) ?_
              refine y_cv h (y_rV (As := [.int v_143]) (rest := []) C0 hZ h (c_X4_add l G Z ad _ h.2 i_146 hi_146 v_143) k_X4_add q_827 q_828 q_826 hi_146 rfl rfl rfl hl.1 rfl rfl (Nat.le_of_ble_eq_true rfl) dX5_atom_170 ⟨Nat.le_of_ble_eq_true rfl, Nat.le_of_ble_eq_true rfl⟩ ⟨Nat.le_of_ble_eq_true rfl, Nat.le_of_ble_eq_true rfl⟩) (fun H locs ws_147 h u_148 p_149 => ?_)
              refine lv_aload_n C0.1 C0.2.1 dX5_atom_173 rfl (lv_at hl 1 rfl) ?_
              refine y_cv h (y_rV (As := []) (rest := []) C0 hZ h (c_X5_advanceS l G Z ad _ h.2 ((Tp.fr (M := [2, 3]) hTp (Fr.tr (Fr.tr (Fr.tr (Fr.tr (Fr.mono u_17 (by decide)) (Fr.mono u_25 (by decide))) (Fr.mono u_33 (by decide))) (Fr.mono u_41 (by decide))) u_148) kSC_78 (by decide)))) k_X5_advance q_616 q_0 q_614 kSC_77 rfl rfl rfl hl.1 rfl rfl (Nat.le_of_ble_eq_true rfl) dX5_atom_174 ⟨Nat.le_of_ble_eq_true rfl, Nat.le_of_ble_eq_true rfl⟩ ⟨Nat.le_of_ble_eq_true rfl, Nat.le_of_ble_eq_true rfl⟩) (fun H locs ws_150 h u_151 p_152 => ?_)
              have e_153 := p_152
              have hv_154 : (aF 77 ws0) 4 = v_1.toInt := (aF_at (by decide) e_2)
              have hv_155 : (aF 77 ws0) 4 = v_8.toInt := (aF_at (by decide) e_9)
              have hq_156 := e_22
              have hs_157 : aF 77 ws_16 = (aF 77 ws0) := (aF_fr u_17 kSC_77 (by decide))
              have hq_158 := e_30
              rw [hs_157] at hq_158
              have hs_159 : aF 77 ws_24 = (aF 77 ws0) := (aF_fr u_25 kSC_77 (by decide)).trans hs_157
              have hq_160 := e_38
              rw [hs_159] at hq_160
              have hs_161 : aF 77 ws_32 = (aF 77 ws0) := (aF_fr u_33 kSC_77 (by decide)).trans hs_159
              have hq_162 := e_46
              rw [hs_161] at hq_162
              have hs_163 : aF 77 ws_40 = (aF 77 ws0) := (aF_fr u_41 kSC_77 (by decide)).trans hs_161
              have hs_164 : aF 77 ws_147 = (aF 77 ws0) := (aF_fr u_148 kSC_77 (by decide)).trans hs_163
              have hs_165 : aF 77 ws_150 = (advS T (aF 77 ws0)) := e_153.trans (congrArg (fun s => advS T s) hs_164)
              have hz_166 : (advS T (aF 77 ws0)) = atomD T 6 (aF 77 ws0) := by rw [atomD_6]; unfold atomF; (repeat' split) <;> first | rfl | (exfalso; omega)
              rw [hQ]
              exact y_vret C0 h (Fr.tr (Fr.tr (Fr.tr (Fr.tr (Fr.tr (Fr.mono u_17 (by decide)) (Fr.mono u_25 (by decide))) (Fr.mono u_33 (by decide))) (Fr.mono u_41 (by decide))) (Fr.mono u_148 (by decide))) (Fr.mono u_151 (by decide))) (Eq.trans hs_165 hz_166) dX5_atom_177
          · -- 99
            refine y_c3 (n := 1002) C0 (by decide) dX5_atom_102 (fun v_167 e_168 => ?_)
            refine lv_goto (tgt := 154) C0.1 C0.2.1 dX5_atom_105 (by decide) ?_
            refine lv_istore_n (lv' := [(2, .int v_167), (0, .ref (ad 77)), (1, .int a1)]) C0.1 C0.2.1 dX5_atom_154 rfl hl (by decide) rfl (fun ls hl => ?_)
            refine lv_iload_n C0.1 C0.2.1 dX5_atom_155 rfl (lv_at hl 0 rfl) ?_
            refine y_if_ge (tgt := 165) C0 dX5_atom_156 (by decide) (fun c_169 => ?_) (fun c_169 => ((o62_46 e_168 c_169)).elim)
            refine lv_aload_n C0.1 C0.2.1 dX5_atom_165 rfl (lv_at hl 1 rfl) ?_
            refine tg_X5_law C0 h kSC_77 q_380 dX5_atom_166 (fun i_170 hi_170 => ?_)
            refine lv_iload_n C0.1 C0.2.1 dX5_atom_169 rfl (lv_at hl 0 rfl) ?_
            refine y_cv h (y_rV (As := [.int v_167]) (rest := []) C0 hZ h (c_X4_add l G Z ad _ h.2 i_170 hi_170 v_167) k_X4_add q_827 q_828 q_826 hi_170 rfl rfl rfl hl.1 rfl rfl (Nat.le_of_ble_eq_true rfl) dX5_atom_170 ⟨Nat.le_of_ble_eq_true rfl, Nat.le_of_ble_eq_true rfl⟩ ⟨Nat.le_of_ble_eq_true rfl, Nat.le_of_ble_eq_true rfl⟩) (fun H locs ws_171 h u_172 p_173 => ?_)
            refine lv_aload_n C0.1 C0.2.1 dX5_atom_173 rfl (lv_at hl 1 rfl) ?_
            refine y_cv h (y_rV (As := []) (rest := []) C0 hZ h (c_X5_advanceS l G Z ad _ h.2 ((Tp.fr (M := [2, 3]) hTp (Fr.tr (Fr.tr (Fr.tr (Fr.mono u_17 (by decide)) (Fr.mono u_25 (by decide))) (Fr.mono u_33 (by decide))) u_172) kSC_78 (by decide)))) k_X5_advance q_616 q_0 q_614 kSC_77 rfl rfl rfl hl.1 rfl rfl (Nat.le_of_ble_eq_true rfl) dX5_atom_174 ⟨Nat.le_of_ble_eq_true rfl, Nat.le_of_ble_eq_true rfl⟩ ⟨Nat.le_of_ble_eq_true rfl, Nat.le_of_ble_eq_true rfl⟩) (fun H locs ws_174 h u_175 p_176 => ?_)
            have e_177 := p_176
            have hv_178 : (aF 77 ws0) 4 = v_1.toInt := (aF_at (by decide) e_2)
            have hv_179 : (aF 77 ws0) 4 = v_8.toInt := (aF_at (by decide) e_9)
            have hq_180 := e_22
            have hs_181 : aF 77 ws_16 = (aF 77 ws0) := (aF_fr u_17 kSC_77 (by decide))
            have hq_182 := e_30
            rw [hs_181] at hq_182
            have hs_183 : aF 77 ws_24 = (aF 77 ws0) := (aF_fr u_25 kSC_77 (by decide)).trans hs_181
            have hq_184 := e_38
            rw [hs_183] at hq_184
            have hs_185 : aF 77 ws_32 = (aF 77 ws0) := (aF_fr u_33 kSC_77 (by decide)).trans hs_183
            have hs_186 : aF 77 ws_171 = (aF 77 ws0) := (aF_fr u_172 kSC_77 (by decide)).trans hs_185
            have hs_187 : aF 77 ws_174 = (advS T (aF 77 ws0)) := e_177.trans (congrArg (fun s => advS T s) hs_186)
            have hz_188 : (advS T (aF 77 ws0)) = atomD T 6 (aF 77 ws0) := by rw [atomD_6]; unfold atomF; (repeat' split) <;> first | rfl | (exfalso; omega)
            rw [hQ]
            exact y_vret C0 h (Fr.tr (Fr.tr (Fr.tr (Fr.tr (Fr.mono u_17 (by decide)) (Fr.mono u_25 (by decide))) (Fr.mono u_33 (by decide))) (Fr.mono u_172 (by decide))) (Fr.mono u_175 (by decide))) (Eq.trans hs_187 hz_188) dX5_atom_177
        · -- 84
          refine y_c3 (n := 1001) C0 (by decide) dX5_atom_87 (fun v_189 e_190 => ?_)
          refine lv_goto (tgt := 154) C0.1 C0.2.1 dX5_atom_90 (by decide) ?_
          refine lv_istore_n (lv' := [(2, .int v_189), (0, .ref (ad 77)), (1, .int a1)]) C0.1 C0.2.1 dX5_atom_154 rfl hl (by decide) rfl (fun ls hl => ?_)
          refine lv_iload_n C0.1 C0.2.1 dX5_atom_155 rfl (lv_at hl 0 rfl) ?_
          refine y_if_ge (tgt := 165) C0 dX5_atom_156 (by decide) (fun c_191 => ?_) (fun c_191 => ((o62_47 e_190 c_191)).elim)
          refine lv_aload_n C0.1 C0.2.1 dX5_atom_165 rfl (lv_at hl 1 rfl) ?_
          refine tg_X5_law C0 h kSC_77 q_380 dX5_atom_166 (fun i_192 hi_192 => ?_)
          refine lv_iload_n C0.1 C0.2.1 dX5_atom_169 rfl (lv_at hl 0 rfl) ?_
          refine y_cv h (y_rV (As := [.int v_189]) (rest := []) C0 hZ h (c_X4_add l G Z ad _ h.2 i_192 hi_192 v_189) k_X4_add q_827 q_828 q_826 hi_192 rfl rfl rfl hl.1 rfl rfl (Nat.le_of_ble_eq_true rfl) dX5_atom_170 ⟨Nat.le_of_ble_eq_true rfl, Nat.le_of_ble_eq_true rfl⟩ ⟨Nat.le_of_ble_eq_true rfl, Nat.le_of_ble_eq_true rfl⟩) (fun H locs ws_193 h u_194 p_195 => ?_)
          refine lv_aload_n C0.1 C0.2.1 dX5_atom_173 rfl (lv_at hl 1 rfl) ?_
          refine y_cv h (y_rV (As := []) (rest := []) C0 hZ h (c_X5_advanceS l G Z ad _ h.2 ((Tp.fr (M := [2, 3]) hTp (Fr.tr (Fr.tr (Fr.mono u_17 (by decide)) (Fr.mono u_25 (by decide))) u_194) kSC_78 (by decide)))) k_X5_advance q_616 q_0 q_614 kSC_77 rfl rfl rfl hl.1 rfl rfl (Nat.le_of_ble_eq_true rfl) dX5_atom_174 ⟨Nat.le_of_ble_eq_true rfl, Nat.le_of_ble_eq_true rfl⟩ ⟨Nat.le_of_ble_eq_true rfl, Nat.le_of_ble_eq_true rfl⟩) (fun H locs ws_196 h u_197 p_198 => ?_)
          have e_199 := p_198
          have hv_200 : (aF 77 ws0) 4 = v_1.toInt := (aF_at (by decide) e_2)
          have hv_201 : (aF 77 ws0) 4 = v_8.toInt := (aF_at (by decide) e_9)
          have hq_202 := e_22
          have hs_203 : aF 77 ws_16 = (aF 77 ws0) := (aF_fr u_17 kSC_77 (by decide))
          have hq_204 := e_30
          rw [hs_203] at hq_204
          have hs_205 : aF 77 ws_24 = (aF 77 ws0) := (aF_fr u_25 kSC_77 (by decide)).trans hs_203
          have hs_206 : aF 77 ws_193 = (aF 77 ws0) := (aF_fr u_194 kSC_77 (by decide)).trans hs_205
          have hs_207 : aF 77 ws_196 = (advS T (aF 77 ws0)) := e_199.trans (congrArg (fun s => advS T s) hs_206)
          have hz_208 : (advS T (aF 77 ws0)) = atomD T 6 (aF 77 ws0) := by rw [atomD_6]; unfold atomF; (repeat' split) <;> first | rfl | (exfalso; omega)
          rw [hQ]
          exact y_vret C0 h (Fr.tr (Fr.tr (Fr.tr (Fr.mono u_17 (by decide)) (Fr.mono u_25 (by decide))) (Fr.mono u_194 (by decide))) (Fr.mono u_197 (by decide))) (Eq.trans hs_207 hz_208) dX5_atom_177
      · -- 69
        refine y_c3 (n := 1000) C0 (by decide) dX5_atom_72 (fun v_209 e_210 => ?_)
        refine lv_goto (tgt := 154) C0.1 C0.2.1 dX5_atom_75 (by decide) ?_
        refine lv_istore_n (lv' := [(2, .int v_209), (0, .ref (ad 77)), (1, .int a1)]) C0.1 C0.2.1 dX5_atom_154 rfl hl (by decide) rfl (fun ls hl => ?_)
        refine lv_iload_n C0.1 C0.2.1 dX5_atom_155 rfl (lv_at hl 0 rfl) ?_
        refine y_if_ge (tgt := 165) C0 dX5_atom_156 (by decide) (fun c_211 => ?_) (fun c_211 => ((o62_48 e_210 c_211)).elim)
        refine lv_aload_n C0.1 C0.2.1 dX5_atom_165 rfl (lv_at hl 1 rfl) ?_
        refine tg_X5_law C0 h kSC_77 q_380 dX5_atom_166 (fun i_212 hi_212 => ?_)
        refine lv_iload_n C0.1 C0.2.1 dX5_atom_169 rfl (lv_at hl 0 rfl) ?_
        refine y_cv h (y_rV (As := [.int v_209]) (rest := []) C0 hZ h (c_X4_add l G Z ad _ h.2 i_212 hi_212 v_209) k_X4_add q_827 q_828 q_826 hi_212 rfl rfl rfl hl.1 rfl rfl (Nat.le_of_ble_eq_true rfl) dX5_atom_170 ⟨Nat.le_of_ble_eq_true rfl, Nat.le_of_ble_eq_true rfl⟩ ⟨Nat.le_of_ble_eq_true rfl, Nat.le_of_ble_eq_true rfl⟩) (fun H locs ws_213 h u_214 p_215 => ?_)
        refine lv_aload_n C0.1 C0.2.1 dX5_atom_173 rfl (lv_at hl 1 rfl) ?_
        refine y_cv h (y_rV (As := []) (rest := []) C0 hZ h (c_X5_advanceS l G Z ad _ h.2 ((Tp.fr (M := [2, 3]) hTp (Fr.tr (Fr.mono u_17 (by decide)) u_214) kSC_78 (by decide)))) k_X5_advance q_616 q_0 q_614 kSC_77 rfl rfl rfl hl.1 rfl rfl (Nat.le_of_ble_eq_true rfl) dX5_atom_174 ⟨Nat.le_of_ble_eq_true rfl, Nat.le_of_ble_eq_true rfl⟩ ⟨Nat.le_of_ble_eq_true rfl, Nat.le_of_ble_eq_true rfl⟩) (fun H locs ws_216 h u_217 p_218 => ?_)
        have e_219 := p_218
        have hv_220 : (aF 77 ws0) 4 = v_1.toInt := (aF_at (by decide) e_2)
        have hv_221 : (aF 77 ws0) 4 = v_8.toInt := (aF_at (by decide) e_9)
        have hq_222 := e_22
        have hs_223 : aF 77 ws_16 = (aF 77 ws0) := (aF_fr u_17 kSC_77 (by decide))
        have hs_224 : aF 77 ws_213 = (aF 77 ws0) := (aF_fr u_214 kSC_77 (by decide)).trans hs_223
        have hs_225 : aF 77 ws_216 = (advS T (aF 77 ws0)) := e_219.trans (congrArg (fun s => advS T s) hs_224)
        have hz_226 : (advS T (aF 77 ws0)) = atomD T 6 (aF 77 ws0) := by rw [atomD_6]; unfold atomF; (repeat' split) <;> first | rfl | (exfalso; omega)
        rw [hQ]
        exact y_vret C0 h (Fr.tr (Fr.tr (Fr.mono u_17 (by decide)) (Fr.mono u_214 (by decide))) (Fr.mono u_217 (by decide))) (Eq.trans hs_225 hz_226) dX5_atom_177
    · -- 32
      refine lv_aload_n C0.1 C0.2.1 dX5_atom_35 rfl (lv_at hl 0 rfl) ?_
      refine lv_iload_n C0.1 C0.2.1 dX5_atom_36 rfl (lv_at hl 1 rfl) ?_
      refine y_ci h (y_rV (As := [.int a1]) (rest := []) C0 hZ h (c_X5_tooDeep_0S l G Z ad _ h.2 a1 (o62_17 l1 u1) (o62_110 l1 u1)) k_X5_tooDeep q_832 q_18 q_830 kSC_77 rfl rfl rfl hl.1 rfl rfl (Nat.le_of_ble_eq_true rfl) dX5_atom_37 ⟨Nat.le_of_ble_eq_true rfl, Nat.le_of_ble_eq_true rfl⟩ ⟨Nat.le_of_ble_eq_true rfl, Nat.le_of_ble_eq_true rfl⟩) (fun r_230 H locs ws_227 h u_228 p_229 => ?_)
      obtain ⟨e_231, e_232, e_233⟩ := p_229
      refine y_if_ne (tgt := 177) C0 dX5_atom_40 (by decide) (fun c_234 => ((o62_71 e_231 e_232 c_234)).elim) (fun c_234 => ?_)
      refine lv_aload_n C0.1 C0.2.1 dX5_atom_43 rfl (lv_at hl 0 rfl) ?_
      refine y_cv h (y_rV (As := []) (rest := []) C0 hZ h (c_X5_advanceS l G Z ad _ h.2 ((Tp.fr (M := []) hTp u_228 kSC_78 (by decide)))) k_X5_advance q_616 q_0 q_614 kSC_77 rfl rfl rfl hl.1 rfl rfl (Nat.le_of_ble_eq_true rfl) dX5_atom_44 ⟨Nat.le_of_ble_eq_true rfl, Nat.le_of_ble_eq_true rfl⟩ ⟨Nat.le_of_ble_eq_true rfl, Nat.le_of_ble_eq_true rfl⟩) (fun H locs ws_235 h u_236 p_237 => ?_)
      have e_238 := p_237
      refine lv_aload_n C0.1 C0.2.1 dX5_atom_47 rfl (lv_at hl 0 rfl) ?_
      refine lv_iload_n C0.1 C0.2.1 dX5_atom_48 rfl (lv_at hl 1 rfl) ?_
      refine y_c1 (n := 1) C0 (by decide) dX5_atom_49 (fun v_239 e_240 => ?_)
      refine y_add C0 (o62_111 l1 u1 e_240 (le_min a1) (le_max a1) (le_min v_239) (le_max v_239)) (o62_112 l1 u1 e_240 (le_min a1) (le_max a1) (le_min v_239) (le_max v_239)) dX5_atom_50 (fun v_241 e_242 => ?_)
      refine y_cv h (y_rV (As := [.int v_241]) (rest := []) C0 hZ h (c_X5_sum_1S l G Z ad _ h.2 v_241 (o62_113 l1 u1 e_240 e_242) (o62_114 l1 u1 e_240 e_242) ((Tp.fr (M := [16]) hTp (Fr.tr (Fr.mono u_228 (by decide)) u_236) kSC_78 (by decide)))) k_X5_sum q_816 q_15 q_814 kSC_77 rfl rfl rfl hl.1 rfl rfl (Nat.le_of_ble_eq_true rfl) dX5_atom_51 ⟨Nat.le_of_ble_eq_true rfl, Nat.le_of_ble_eq_true rfl⟩ ⟨Nat.le_of_ble_eq_true rfl, Nat.le_of_ble_eq_true rfl⟩) (fun H locs ws_243 h u_244 p_245 => ?_)
      have e_246 := p_245
      refine lv_aload_n C0.1 C0.2.1 dX5_atom_54 rfl (lv_at hl 0 rfl) ?_
      refine y_c2 (n := 41) C0 (by decide) dX5_atom_55 (fun v_247 e_248 => ?_)
      refine y_cv h (y_rV (As := [.int v_247]) (rest := []) C0 hZ h (c_X5_signS l G Z ad _ h.2 v_247 (o62_76 e_248) (o62_77 e_248) ((Tp.fr (M := [2, 3, 16]) hTp (Fr.tr (Fr.tr (Fr.mono u_228 (by decide)) (Fr.mono u_236 (by decide))) u_244) kSC_78 (by decide)))) k_X5_sign q_812 q_14 q_810 kSC_77 rfl rfl rfl hl.1 rfl rfl (Nat.le_of_ble_eq_true rfl) dX5_atom_57 ⟨Nat.le_of_ble_eq_true rfl, Nat.le_of_ble_eq_true rfl⟩ ⟨Nat.le_of_ble_eq_true rfl, Nat.le_of_ble_eq_true rfl⟩) (fun H locs ws_249 h u_250 p_251 => ?_)
      have e_252 := p_251
      refine lv_goto (tgt := 177) C0.1 C0.2.1 dX5_atom_60 (by decide) ?_
      have hv_253 : (aF 77 ws0) 4 = v_1.toInt := (aF_at (by decide) e_2)
      have hv_254 : (aF 77 ws0) 4 = v_8.toInt := (aF_at (by decide) e_9)
      have hs_255 : aF 77 ws_227 = ((fun s => s) (aF 77 ws0)) := e_233
      have hs_256 : aF 77 ws_235 = (advS T ((fun s => s) (aF 77 ws0))) := e_238.trans (congrArg (fun s => advS T s) hs_255)
      have hs_257 : aF 77 ws_243 = (sumL T (atomD T 5) (advS T ((fun s => s) (aF 77 ws0)))) := e_246.trans (congrArg (fun s => sumL T (atomD T 5) s) hs_256)
      have hs_258 : aF 77 ws_249 = (signS T 41 (sumL T (atomD T 5) (advS T ((fun s => s) (aF 77 ws0))))) := e_252.trans ((congrArg (fun s => signS T v_247.toInt s) hs_257).trans (by rw [(o62_78 e_248)]))
      have hz_259 : (signS T 41 (sumL T (atomD T 5) (advS T ((fun s => s) (aF 77 ws0))))) = atomD T 6 (aF 77 ws0) := by rw [atomD_6]; unfold atomF; (repeat' split) <;> first | rfl | (exfalso; omega)
      rw [hQ]
      exact y_vret C0 h (Fr.tr (Fr.tr (Fr.tr (Fr.mono u_228 (by decide)) (Fr.mono u_236 (by decide))) u_244) (Fr.mono u_250 (by decide))) (Eq.trans hs_258 hz_259) dX5_atom_177
  · -- 5
    refine lv_aload_n C0.1 C0.2.1 dX5_atom_8 rfl (lv_at hl 0 rfl) ?_
    refine tg_X5_law C0 h kSC_77 q_380 dX5_atom_9 (fun i_260 hi_260 => ?_)
    refine lv_aload_n C0.1 C0.2.1 dX5_atom_12 rfl (lv_at hl 0 rfl) ?_
    refine tg_X5_number C0 h kSC_77 q_377 dX5_atom_13 (fun v_261 e_262 e_263 e_264 => ?_)
    refine y_cv h (y_rV (As := [.int v_261]) (rest := []) C0 hZ h (c_X4_add l G Z ad _ h.2 i_260 hi_260 v_261) k_X4_add q_827 q_828 q_826 hi_260 rfl rfl rfl hl.1 rfl rfl (Nat.le_of_ble_eq_true rfl) dX5_atom_16 ⟨Nat.le_of_ble_eq_true rfl, Nat.le_of_ble_eq_true rfl⟩ ⟨Nat.le_of_ble_eq_true rfl, Nat.le_of_ble_eq_true rfl⟩) (fun H locs ws_265 h u_266 p_267 => ?_)
    refine lv_aload_n C0.1 C0.2.1 dX5_atom_19 rfl (lv_at hl 0 rfl) ?_
    refine y_cv h (y_rV (As := []) (rest := []) C0 hZ h (c_X5_advanceS l G Z ad _ h.2 ((Tp.fr (M := [2, 3]) hTp u_266 kSC_78 (by decide)))) k_X5_advance q_616 q_0 q_614 kSC_77 rfl rfl rfl hl.1 rfl rfl (Nat.le_of_ble_eq_true rfl) dX5_atom_20 ⟨Nat.le_of_ble_eq_true rfl, Nat.le_of_ble_eq_true rfl⟩ ⟨Nat.le_of_ble_eq_true rfl, Nat.le_of_ble_eq_true rfl⟩) (fun H locs ws_268 h u_269 p_270 => ?_)
    have e_271 := p_270
    refine lv_goto (tgt := 177) C0.1 C0.2.1 dX5_atom_23 (by decide) ?_
    have hv_272 : (aF 77 ws0) 4 = v_1.toInt := (aF_at (by decide) e_2)
    have hv_273 : (aF 77 ws0) 7 = v_261.toInt := (aF_at (by decide) e_262)
    have hs_274 : aF 77 ws_265 = (aF 77 ws0) := (aF_fr u_266 kSC_77 (by decide))
    have hs_275 : aF 77 ws_268 = (advS T (aF 77 ws0)) := e_271.trans (congrArg (fun s => advS T s) hs_274)
    have hz_276 : (advS T (aF 77 ws0)) = atomD T 6 (aF 77 ws0) := by rw [atomD_6]; unfold atomF; (repeat' split) <;> first | rfl | (exfalso; omega)
    rw [hQ]
    exact y_vret C0 h (Fr.tr (Fr.mono u_266 (by decide)) (Fr.mono u_269 (by decide))) (Eq.trans hs_275 hz_276) dX5_atom_177
set_option maxHeartbeats 4000000 in
set_option maxRecDepth 100000 in
theorem c_X5_term_0S {T : Nat → Int} (l : Launch) (G : GG) (Z : RZ) (ad : Nat → Nat) (ws0 : va_W) (hT : Ty G (SC tt) ad ws0) (a1 : Int32) (l1 : 0 ≤ a1.toInt) (u1 : a1.toInt ≤ 0) (hTp : Tp T ws0) : Mq l yX5_term cX5_term 3 none 25 G Z [.ref (ad 77), .int a1] ws0 (PV G (SC tt) ad [2, 3, 16] ws0 (fun u => (aF 77 u = termL T (atomD T 6) (aF 77 ws0)))) := by
  refine Mq.start (by decide) (Nat.le_of_ble_eq_true rfl) ?_
  intro p e s m below meth c A ls C0 hZ h hl
  have hl : lv_has ls 3 [(0, .ref (ad 77)), (1, .int a1)] := hl
  have h : Wt G (SC tt) ad A s s.heap [] ws0 := ⟨h, hT⟩
  obtain ⟨args, hargs⟩ : ∃ z, z = ([.ref (ad 77), .int a1] : List Value).toArray := ⟨_, rfl⟩
  rw [← hargs] at C0 ⊢
  have C0 : Cx p s m args meth c RX5 cX5_term 3 none := C0
  obtain ⟨Q, hQ⟩ : ∃ z, z = MQ below ((PV G (SC tt) ad [2, 3, 16] ws0 (fun u => (aF 77 u = termL T (atomD T 6) (aF 77 ws0)))) A) args s 0 0 A := ⟨_, rfl⟩
  rw [← hQ]
  refine lv_aload_n C0.1 C0.2.1 dX5_term_0 rfl (lv_at hl 0 rfl) ?_
  refine lv_iload_n C0.1 C0.2.1 dX5_term_1 rfl (lv_at hl 1 rfl) ?_
  refine y_cv h (y_rV (As := [.int a1]) (rest := []) C0 hZ h (c_X5_atom_0S l G Z ad _ h.2 a1 (o62_17 l1 u1) (o62_110 l1 u1) hTp) k_X5_atom q_824 q_17 q_822 kSC_77 rfl rfl rfl hl.1 rfl rfl (Nat.le_of_ble_eq_true rfl) dX5_term_2 ⟨Nat.le_of_ble_eq_true rfl, Nat.le_of_ble_eq_true rfl⟩ ⟨Nat.le_of_ble_eq_true rfl, Nat.le_of_ble_eq_true rfl⟩) (fun H locs ws_1 h u_2 p_3 => ?_)
  have e_4 := p_3
  refine y_c1 (n := 0) C0 (by decide) dX5_term_5 (fun v_5 e_6 => ?_)
  refine lv_istore_n (lv' := [(2, .int v_5), (0, .ref (ad 77)), (1, .int a1)]) C0.1 C0.2.1 dX5_term_6 rfl hl (by decide) rfl (fun ls hl => ?_)
  have lp_10 : ∀ (n_12 : Nat) (x2_7 : Int32) (H : Heap) (locs : List Loc) (ls : Array Slot) (ws_8 : va_W), 900 - x2_7.toInt < (n_12 : Int) → 0 ≤ x2_7.toInt → x2_7.toInt ≤ 900 → (lpS (fun s => s 4 = 42) (fun s => atomD T 6 (advS T s)) (900 - x2_7.toInt).toNat (aF 77 ws_8) = termL T (atomD T 6) (aF 77 ws0)) → Wt G (SC tt) ad A s H locs ws_8 → Fr (SC tt) [2, 3, 16] ws_1 ws_8 → lv_has ls 3 [(2, .int x2_7), (0, .ref (ad 77)), (1, .int a1)] → W p l e (rmd 25 0 0) s m args below meth c H locs 0 0 Q (F0 m 7 ls []) := by
    intro n_12
    induction n_12 with
    | zero => intro x2_7 H locs ls ws_8 hn_13 b_14 b_15 hSp h hF_9 hl; exact ((o62_52 b_14 b_15 hn_13)).elim
    | succ n_12 ih_11 =>
      intro x2_7 H locs ls ws_8 hn_13 b_14 b_15 hSp h hF_9 hl
      refine lv_iload_n C0.1 C0.2.1 dX5_term_7 rfl (lv_at hl 0 rfl) ?_
      refine y_c3 (n := 900) C0 (by decide) dX5_term_8 (fun v_16 e_17 => ?_)
      refine y_icmp_ge (tgt := 48) C0 dX5_term_11 (by decide) (fun c_18 => ?_) (fun c_18 => ?_)
      · -- 11
        have hz_19 : (aF 77 ws_8) = lpS (fun s => s 4 = 42) (fun s => atomD T 6 (advS T s)) (900 - x2_7.toInt).toNat (aF 77 ws_8) := by first | (exfalso; omega) | exact (lp_0 (by omega)).symm | exact (lp_e (by omega)).symm
        rw [hQ]
        exact y_vret C0 h (Fr.tr u_2 hF_9) (Eq.trans rfl (Eq.trans hz_19 hSp)) dX5_term_48
      · -- 11
        refine lv_aload_n C0.1 C0.2.1 dX5_term_14 rfl (lv_at hl 1 rfl) ?_
        refine tg_X5_kind C0 h kSC_77 q_374 dX5_term_15 (fun v_20 e_21 e_22 e_23 => ?_)
        refine y_c2 (n := 42) C0 (by decide) dX5_term_18 (fun v_24 e_25 => ?_)
        refine y_icmp_ne (tgt := 48) C0 dX5_term_20 (by decide) (fun c_26 => ?_) (fun c_26 => ?_)
        · -- 20
          have hv_27 : (aF 77 ws_8) 4 = v_20.toInt := (aF_at (by decide) e_21)
          have hz_28 : (aF 77 ws_8) = lpS (fun s => s 4 = 42) (fun s => atomD T 6 (advS T s)) (900 - x2_7.toInt).toNat (aF 77 ws_8) := by first | (exfalso; omega) | exact (lp_0 (by omega)).symm | exact (lp_e (by omega)).symm
          rw [hQ]
          exact y_vret C0 h (Fr.tr u_2 hF_9) (Eq.trans rfl (Eq.trans hz_28 hSp)) dX5_term_48
        · -- 20
          refine lv_aload_n C0.1 C0.2.1 dX5_term_23 rfl (lv_at hl 1 rfl) ?_
          refine y_cv h (y_rV (As := []) (rest := []) C0 hZ h (c_X5_advanceS l G Z ad _ h.2 ((Tp.fr (M := [2, 3, 16]) hTp (Fr.tr u_2 hF_9) kSC_78 (by decide)))) k_X5_advance q_616 q_0 q_614 kSC_77 rfl rfl rfl hl.1 rfl rfl (Nat.le_of_ble_eq_true rfl) dX5_term_24 ⟨Nat.le_of_ble_eq_true rfl, Nat.le_of_ble_eq_true rfl⟩ ⟨Nat.le_of_ble_eq_true rfl, Nat.le_of_ble_eq_true rfl⟩) (fun H locs ws_29 h u_30 p_31 => ?_)
          have e_32 := p_31
          refine lv_aload_n C0.1 C0.2.1 dX5_term_27 rfl (lv_at hl 1 rfl) ?_
          refine lv_iload_n C0.1 C0.2.1 dX5_term_28 rfl (lv_at hl 2 rfl) ?_
          refine y_cv h (y_rV (As := [.int a1]) (rest := []) C0 hZ h (c_X5_atom_0S l G Z ad _ h.2 a1 (o62_17 l1 u1) (o62_110 l1 u1) ((Tp.fr (M := [2, 3, 16]) hTp (Fr.tr (Fr.tr u_2 hF_9) (Fr.mono u_30 (by decide))) kSC_78 (by decide)))) k_X5_atom q_824 q_17 q_822 kSC_77 rfl rfl rfl hl.1 rfl rfl (Nat.le_of_ble_eq_true rfl) dX5_term_29 ⟨Nat.le_of_ble_eq_true rfl, Nat.le_of_ble_eq_true rfl⟩ ⟨Nat.le_of_ble_eq_true rfl, Nat.le_of_ble_eq_true rfl⟩) (fun H locs ws_33 h u_34 p_35 => ?_)
          have e_36 := p_35
          refine lv_aload_n C0.1 C0.2.1 dX5_term_32 rfl (lv_at hl 1 rfl) ?_
          refine tg_X5_law C0 h kSC_77 q_380 dX5_term_33 (fun i_37 hi_37 => ?_)
          refine y_c3 (n := 2002) C0 (by decide) dX5_term_36 (fun v_38 e_39 => ?_)
          refine y_cv h (y_rV (As := [.int v_38]) (rest := []) C0 hZ h (c_X4_add l G Z ad _ h.2 i_37 hi_37 v_38) k_X4_add q_827 q_828 q_826 hi_37 rfl rfl rfl hl.1 rfl rfl (Nat.le_of_ble_eq_true rfl) dX5_term_39 ⟨Nat.le_of_ble_eq_true rfl, Nat.le_of_ble_eq_true rfl⟩ ⟨Nat.le_of_ble_eq_true rfl, Nat.le_of_ble_eq_true rfl⟩) (fun H locs ws_40 h u_41 p_42 => ?_)
          refine y_inc (kp := 0) (n := 1) (fun v_43 => [(2, .int v_43), (0, .ref (ad 77)), (1, .int a1)]) C0 hl rfl (by decide) (by decide) (fun _ => rfl) (o62_53 b_14 b_15 hn_13 e_17 c_18 (le_min x2_7) (le_max x2_7) (le_min v_16) (le_max v_16)) (o62_54 b_14 b_15 hn_13 e_17 c_18 (le_min x2_7) (le_max x2_7) (le_min v_16) (le_max v_16)) dX5_term_42 (fun v_43 ls e_44 hl => ?_)
          refine lv_goto (tgt := 7) C0.1 C0.2.1 dX5_term_45 (by decide) ?_
          have hv_45 : (aF 77 ws_8) 4 = v_20.toInt := (aF_at (by decide) e_21)
          have hs_46 : aF 77 ws_29 = (advS T (aF 77 ws_8)) := e_32
          have hs_47 : aF 77 ws_33 = (atomD T 6 (advS T (aF 77 ws_8))) := e_36.trans (congrArg (fun s => atomD T 6 s) hs_46)
          have hs_48 : aF 77 ws_40 = (atomD T 6 (advS T (aF 77 ws_8))) := (aF_fr u_41 kSC_77 (by decide)).trans hs_47
          exact ih_11 v_43 _ _ _ _ (o62_55 b_14 b_15 hn_13 e_17 c_18 e_44) (o62_56 b_14 b_15 hn_13 e_17 c_18 e_44) (o62_57 b_14 b_15 hn_13 e_17 c_18 e_44) ((by rw [hs_48]; exact (lp_s (by omega) (by omega) (by omega) (by omega)).trans hSp)) h (Fr.tr (Fr.tr (Fr.tr hF_9 (Fr.mono u_30 (by decide))) u_34) (Fr.mono u_41 (by decide))) (lv_sub hl [0, 1, 2] rfl)
  have hs_49 : aF 77 ws_1 = (atomD T 6 (aF 77 ws0)) := e_4
  exact lp_10 ((900 - v_5.toInt + 1).toNat) v_5 _ _ _ _ (o62_58 e_6) (o62_59 e_6) (o62_60 e_6) ((by rw [show (900 - v_5.toInt).toNat = 900 by omega, hs_49]; rfl)) h Fr.rf (lv_sub hl [0, 1, 2] rfl)
set_option maxHeartbeats 4000000 in
set_option maxRecDepth 100000 in
theorem c_X5_sum_0S {T : Nat → Int} (l : Launch) (G : GG) (Z : RZ) (ad : Nat → Nat) (ws0 : va_W) (hT : Ty G (SC tt) ad ws0) (a1 : Int32) (l1 : 0 ≤ a1.toInt) (u1 : a1.toInt ≤ 0) (hTp : Tp T ws0) : Mq l yX5_sum cX5_sum 4 none 26 G Z [.ref (ad 77), .int a1] ws0 (PV G (SC tt) ad [2, 3, 16] ws0 (fun u => (aF 77 u = sumL T (atomD T 6) (aF 77 ws0)))) := by
  refine Mq.start (by decide) (Nat.le_of_ble_eq_true rfl) ?_
  intro p e s m below meth c A ls C0 hZ h hl
  have hl : lv_has ls 4 [(0, .ref (ad 77)), (1, .int a1)] := hl
  have h : Wt G (SC tt) ad A s s.heap [] ws0 := ⟨h, hT⟩
  obtain ⟨args, hargs⟩ : ∃ z, z = ([.ref (ad 77), .int a1] : List Value).toArray := ⟨_, rfl⟩
  rw [← hargs] at C0 ⊢
  have C0 : Cx p s m args meth c RX5 cX5_sum 4 none := C0
  obtain ⟨Q, hQ⟩ : ∃ z, z = MQ below ((PV G (SC tt) ad [2, 3, 16] ws0 (fun u => (aF 77 u = sumL T (atomD T 6) (aF 77 ws0)))) A) args s 0 0 A := ⟨_, rfl⟩
  rw [← hQ]
  refine lv_aload_n C0.1 C0.2.1 dX5_sum_0 rfl (lv_at hl 0 rfl) ?_
  refine lv_iload_n C0.1 C0.2.1 dX5_sum_1 rfl (lv_at hl 1 rfl) ?_
  refine y_cv h (y_rV (As := [.int a1]) (rest := []) C0 hZ h (c_X5_term_0S l G Z ad _ h.2 a1 (o62_17 l1 u1) (o62_110 l1 u1) hTp) k_X5_term q_820 q_16 q_818 kSC_77 rfl rfl rfl hl.1 rfl rfl (Nat.le_of_ble_eq_true rfl) dX5_sum_2 ⟨Nat.le_of_ble_eq_true rfl, Nat.le_of_ble_eq_true rfl⟩ ⟨Nat.le_of_ble_eq_true rfl, Nat.le_of_ble_eq_true rfl⟩) (fun H locs ws_1 h u_2 p_3 => ?_)
  have e_4 := p_3
  refine y_c1 (n := 0) C0 (by decide) dX5_sum_5 (fun v_5 e_6 => ?_)
  refine lv_istore_n (lv' := [(2, .int v_5), (0, .ref (ad 77)), (1, .int a1)]) C0.1 C0.2.1 dX5_sum_6 rfl hl (by decide) rfl (fun ls hl => ?_)
  have lp_10 : ∀ (n_12 : Nat) (x2_7 : Int32) (H : Heap) (locs : List Loc) (ls : Array Slot) (ws_8 : va_W), 900 - x2_7.toInt < (n_12 : Int) → 0 ≤ x2_7.toInt → x2_7.toInt ≤ 900 → (lpS (fun s => s 4 = 43 ∨ s 4 = 45) (fun s => termL T (atomD T 6) (advS T s)) (900 - x2_7.toInt).toNat (aF 77 ws_8) = sumL T (atomD T 6) (aF 77 ws0)) → Wt G (SC tt) ad A s H locs ws_8 → Fr (SC tt) [2, 3, 16] ws_1 ws_8 → lv_has ls 4 [(2, .int x2_7), (0, .ref (ad 77)), (1, .int a1)] → W p l e (rmd 26 0 0) s m args below meth c H locs 0 0 Q (F0 m 7 ls []) := by
    intro n_12
    induction n_12 with
    | zero => intro x2_7 H locs ls ws_8 hn_13 b_14 b_15 hSp h hF_9 hl; exact ((o62_52 b_14 b_15 hn_13)).elim
    | succ n_12 ih_11 =>
      intro x2_7 H locs ls ws_8 hn_13 b_14 b_15 hSp h hF_9 hl
      refine lv_iload_n C0.1 C0.2.1 dX5_sum_7 rfl (lv_at hl 0 rfl) ?_
      refine y_c3 (n := 900) C0 (by decide) dX5_sum_8 (fun v_16 e_17 => ?_)
      refine y_icmp_ge (tgt := 74) C0 dX5_sum_11 (by decide) (fun c_18 => ?_) (fun c_18 => ?_)
      · -- 11
        have hz_19 : (aF 77 ws_8) = lpS (fun s => s 4 = 43 ∨ s 4 = 45) (fun s => termL T (atomD T 6) (advS T s)) (900 - x2_7.toInt).toNat (aF 77 ws_8) := by first | (exfalso; omega) | exact (lp_0 (by omega)).symm | exact (lp_e (by omega)).symm
        rw [hQ]
        exact y_vret C0 h (Fr.tr u_2 hF_9) (Eq.trans rfl (Eq.trans hz_19 hSp)) dX5_sum_74
      · -- 11
        refine lv_aload_n C0.1 C0.2.1 dX5_sum_14 rfl (lv_at hl 1 rfl) ?_
        refine tg_X5_kind C0 h kSC_77 q_374 dX5_sum_15 (fun v_20 e_21 e_22 e_23 => ?_)
        refine y_c2 (n := 43) C0 (by decide) dX5_sum_18 (fun v_24 e_25 => ?_)
        refine y_icmp_eq (tgt := 32) C0 dX5_sum_20 (by decide) (fun c_26 => ?_) (fun c_26 => ?_)
        · -- 20
          refine lv_aload_n C0.1 C0.2.1 dX5_sum_32 rfl (lv_at hl 1 rfl) ?_
          refine tg_X5_kind C0 h kSC_77 q_374 dX5_sum_33 (fun v_27 e_28 e_29 e_30 => ?_)
          have q_31 : v_27.toInt = v_20.toInt := congrArg Int32.toInt (e_28.symm.trans (Eq.trans rfl e_21))
          refine y_c2 (n := 43) C0 (by decide) dX5_sum_36 (fun v_32 e_33 => ?_)
          refine y_icmp_ne (tgt := 47) C0 dX5_sum_38 (by decide) (fun c_34 => ((o62_61 e_25 c_26 q_31 e_33 c_34)).elim) (fun c_34 => ?_)
          refine y_c3 (n := 2000) C0 (by decide) dX5_sum_41 (fun v_35 e_36 => ?_)
          refine lv_goto (tgt := 50) C0.1 C0.2.1 dX5_sum_44 (by decide) ?_
          refine lv_istore_n (lv' := [(3, .int v_35), (2, .int x2_7), (0, .ref (ad 77)), (1, .int a1)]) C0.1 C0.2.1 dX5_sum_50 rfl hl (by decide) rfl (fun ls hl => ?_)
          refine lv_aload_n C0.1 C0.2.1 dX5_sum_51 rfl (lv_at hl 2 rfl) ?_
          refine y_cv h (y_rV (As := []) (rest := []) C0 hZ h (c_X5_advanceS l G Z ad _ h.2 ((Tp.fr (M := [2, 3, 16]) hTp (Fr.tr u_2 hF_9) kSC_78 (by decide)))) k_X5_advance q_616 q_0 q_614 kSC_77 rfl rfl rfl hl.1 rfl rfl (Nat.le_of_ble_eq_true rfl) dX5_sum_52 ⟨Nat.le_of_ble_eq_true rfl, Nat.le_of_ble_eq_true rfl⟩ ⟨Nat.le_of_ble_eq_true rfl, Nat.le_of_ble_eq_true rfl⟩) (fun H locs ws_37 h u_38 p_39 => ?_)
          have e_40 := p_39
          refine lv_aload_n C0.1 C0.2.1 dX5_sum_55 rfl (lv_at hl 2 rfl) ?_
          refine lv_iload_n C0.1 C0.2.1 dX5_sum_56 rfl (lv_at hl 3 rfl) ?_
          refine y_cv h (y_rV (As := [.int a1]) (rest := []) C0 hZ h (c_X5_term_0S l G Z ad _ h.2 a1 (o62_17 l1 u1) (o62_110 l1 u1) ((Tp.fr (M := [2, 3, 16]) hTp (Fr.tr (Fr.tr u_2 hF_9) (Fr.mono u_38 (by decide))) kSC_78 (by decide)))) k_X5_term q_820 q_16 q_818 kSC_77 rfl rfl rfl hl.1 rfl rfl (Nat.le_of_ble_eq_true rfl) dX5_sum_57 ⟨Nat.le_of_ble_eq_true rfl, Nat.le_of_ble_eq_true rfl⟩ ⟨Nat.le_of_ble_eq_true rfl, Nat.le_of_ble_eq_true rfl⟩) (fun H locs ws_41 h u_42 p_43 => ?_)
          have e_44 := p_43
          refine lv_aload_n C0.1 C0.2.1 dX5_sum_60 rfl (lv_at hl 2 rfl) ?_
          refine tg_X5_law C0 h kSC_77 q_380 dX5_sum_61 (fun i_45 hi_45 => ?_)
          refine lv_iload_n C0.1 C0.2.1 dX5_sum_64 rfl (lv_at hl 0 rfl) ?_
          refine y_cv h (y_rV (As := [.int v_35]) (rest := []) C0 hZ h (c_X4_add l G Z ad _ h.2 i_45 hi_45 v_35) k_X4_add q_827 q_828 q_826 hi_45 rfl rfl rfl hl.1 rfl rfl (Nat.le_of_ble_eq_true rfl) dX5_sum_65 ⟨Nat.le_of_ble_eq_true rfl, Nat.le_of_ble_eq_true rfl⟩ ⟨Nat.le_of_ble_eq_true rfl, Nat.le_of_ble_eq_true rfl⟩) (fun H locs ws_46 h u_47 p_48 => ?_)
          refine y_inc (kp := 1) (n := 1) (fun v_49 => [(2, .int v_49), (3, .int v_35), (0, .ref (ad 77)), (1, .int a1)]) C0 hl rfl (by decide) (by decide) (fun _ => rfl) (o62_53 b_14 b_15 hn_13 e_17 c_18 (le_min x2_7) (le_max x2_7) (le_min v_16) (le_max v_16)) (o62_54 b_14 b_15 hn_13 e_17 c_18 (le_min x2_7) (le_max x2_7) (le_min v_16) (le_max v_16)) dX5_sum_68 (fun v_49 ls e_50 hl => ?_)
          refine lv_goto (tgt := 7) C0.1 C0.2.1 dX5_sum_71 (by decide) ?_
          have hv_51 : (aF 77 ws_8) 4 = v_20.toInt := (aF_at (by decide) e_21)
          have hv_52 : (aF 77 ws_8) 4 = v_27.toInt := (aF_at (by decide) e_28)
          have hs_53 : aF 77 ws_37 = (advS T (aF 77 ws_8)) := e_40
          have hs_54 : aF 77 ws_41 = (termL T (atomD T 6) (advS T (aF 77 ws_8))) := e_44.trans (congrArg (fun s => termL T (atomD T 6) s) hs_53)
          have hs_55 : aF 77 ws_46 = (termL T (atomD T 6) (advS T (aF 77 ws_8))) := (aF_fr u_47 kSC_77 (by decide)).trans hs_54
          exact ih_11 v_49 _ _ _ _ (o62_55 b_14 b_15 hn_13 e_17 c_18 e_50) (o62_56 b_14 b_15 hn_13 e_17 c_18 e_50) (o62_57 b_14 b_15 hn_13 e_17 c_18 e_50) ((by rw [hs_55]; exact (lp_s (by omega) (by omega) (by omega) (by omega)).trans hSp)) h (Fr.tr (Fr.tr (Fr.tr hF_9 (Fr.mono u_38 (by decide))) u_42) (Fr.mono u_47 (by decide))) (lv_sub hl [0, 2, 3] rfl)
        · -- 20
          refine lv_aload_n C0.1 C0.2.1 dX5_sum_23 rfl (lv_at hl 1 rfl) ?_
          refine tg_X5_kind C0 h kSC_77 q_374 dX5_sum_24 (fun v_56 e_57 e_58 e_59 => ?_)
          have q_60 : v_56.toInt = v_20.toInt := congrArg Int32.toInt (e_57.symm.trans (Eq.trans rfl e_21))
          refine y_c2 (n := 45) C0 (by decide) dX5_sum_27 (fun v_61 e_62 => ?_)
          refine y_icmp_ne (tgt := 74) C0 dX5_sum_29 (by decide) (fun c_63 => ?_) (fun c_63 => ?_)
          · -- 29
            have hv_64 : (aF 77 ws_8) 4 = v_20.toInt := (aF_at (by decide) e_21)
            have hv_65 : (aF 77 ws_8) 4 = v_56.toInt := (aF_at (by decide) e_57)
            have hz_66 : (aF 77 ws_8) = lpS (fun s => s 4 = 43 ∨ s 4 = 45) (fun s => termL T (atomD T 6) (advS T s)) (900 - x2_7.toInt).toNat (aF 77 ws_8) := by first | (exfalso; omega) | exact (lp_0 (by omega)).symm | exact (lp_e (by omega)).symm
            rw [hQ]
            exact y_vret C0 h (Fr.tr u_2 hF_9) (Eq.trans rfl (Eq.trans hz_66 hSp)) dX5_sum_74
          · -- 29
            refine lv_aload_n C0.1 C0.2.1 dX5_sum_32 rfl (lv_at hl 1 rfl) ?_
            refine tg_X5_kind C0 h kSC_77 q_374 dX5_sum_33 (fun v_67 e_68 e_69 e_70 => ?_)
            have q_71 : v_67.toInt = v_20.toInt := congrArg Int32.toInt (e_68.symm.trans (Eq.trans rfl e_21))
            refine y_c2 (n := 43) C0 (by decide) dX5_sum_36 (fun v_72 e_73 => ?_)
            refine y_icmp_ne (tgt := 47) C0 dX5_sum_38 (by decide) (fun c_74 => ?_) (fun c_74 => ((o62_62 e_25 c_26 q_60 e_62 c_63 q_71 e_73 c_74)).elim)
            refine y_c3 (n := 2001) C0 (by decide) dX5_sum_47 (fun v_75 e_76 => ?_)
            refine lv_istore_n (lv' := [(3, .int v_75), (2, .int x2_7), (0, .ref (ad 77)), (1, .int a1)]) C0.1 C0.2.1 dX5_sum_50 rfl hl (by decide) rfl (fun ls hl => ?_)
            refine lv_aload_n C0.1 C0.2.1 dX5_sum_51 rfl (lv_at hl 2 rfl) ?_
            refine y_cv h (y_rV (As := []) (rest := []) C0 hZ h (c_X5_advanceS l G Z ad _ h.2 ((Tp.fr (M := [2, 3, 16]) hTp (Fr.tr u_2 hF_9) kSC_78 (by decide)))) k_X5_advance q_616 q_0 q_614 kSC_77 rfl rfl rfl hl.1 rfl rfl (Nat.le_of_ble_eq_true rfl) dX5_sum_52 ⟨Nat.le_of_ble_eq_true rfl, Nat.le_of_ble_eq_true rfl⟩ ⟨Nat.le_of_ble_eq_true rfl, Nat.le_of_ble_eq_true rfl⟩) (fun H locs ws_77 h u_78 p_79 => ?_)
            have e_80 := p_79
            refine lv_aload_n C0.1 C0.2.1 dX5_sum_55 rfl (lv_at hl 2 rfl) ?_
            refine lv_iload_n C0.1 C0.2.1 dX5_sum_56 rfl (lv_at hl 3 rfl) ?_
            refine y_cv h (y_rV (As := [.int a1]) (rest := []) C0 hZ h (c_X5_term_0S l G Z ad _ h.2 a1 (o62_17 l1 u1) (o62_110 l1 u1) ((Tp.fr (M := [2, 3, 16]) hTp (Fr.tr (Fr.tr u_2 hF_9) (Fr.mono u_78 (by decide))) kSC_78 (by decide)))) k_X5_term q_820 q_16 q_818 kSC_77 rfl rfl rfl hl.1 rfl rfl (Nat.le_of_ble_eq_true rfl) dX5_sum_57 ⟨Nat.le_of_ble_eq_true rfl, Nat.le_of_ble_eq_true rfl⟩ ⟨Nat.le_of_ble_eq_true rfl, Nat.le_of_ble_eq_true rfl⟩) (fun H locs ws_81 h u_82 p_83 => ?_)
            have e_84 := p_83
            refine lv_aload_n C0.1 C0.2.1 dX5_sum_60 rfl (lv_at hl 2 rfl) ?_
            refine tg_X5_law C0 h kSC_77 q_380 dX5_sum_61 (fun i_85 hi_85 => ?_)
            refine lv_iload_n C0.1 C0.2.1 dX5_sum_64 rfl (lv_at hl 0 rfl) ?_
            refine y_cv h (y_rV (As := [.int v_75]) (rest := []) C0 hZ h (c_X4_add l G Z ad _ h.2 i_85 hi_85 v_75) k_X4_add q_827 q_828 q_826 hi_85 rfl rfl rfl hl.1 rfl rfl (Nat.le_of_ble_eq_true rfl) dX5_sum_65 ⟨Nat.le_of_ble_eq_true rfl, Nat.le_of_ble_eq_true rfl⟩ ⟨Nat.le_of_ble_eq_true rfl, Nat.le_of_ble_eq_true rfl⟩) (fun H locs ws_86 h u_87 p_88 => ?_)
            refine y_inc (kp := 1) (n := 1) (fun v_89 => [(2, .int v_89), (3, .int v_75), (0, .ref (ad 77)), (1, .int a1)]) C0 hl rfl (by decide) (by decide) (fun _ => rfl) (o62_53 b_14 b_15 hn_13 e_17 c_18 (le_min x2_7) (le_max x2_7) (le_min v_16) (le_max v_16)) (o62_54 b_14 b_15 hn_13 e_17 c_18 (le_min x2_7) (le_max x2_7) (le_min v_16) (le_max v_16)) dX5_sum_68 (fun v_89 ls e_90 hl => ?_)
            refine lv_goto (tgt := 7) C0.1 C0.2.1 dX5_sum_71 (by decide) ?_
            have hv_91 : (aF 77 ws_8) 4 = v_20.toInt := (aF_at (by decide) e_21)
            have hv_92 : (aF 77 ws_8) 4 = v_56.toInt := (aF_at (by decide) e_57)
            have hv_93 : (aF 77 ws_8) 4 = v_67.toInt := (aF_at (by decide) e_68)
            have hs_94 : aF 77 ws_77 = (advS T (aF 77 ws_8)) := e_80
            have hs_95 : aF 77 ws_81 = (termL T (atomD T 6) (advS T (aF 77 ws_8))) := e_84.trans (congrArg (fun s => termL T (atomD T 6) s) hs_94)
            have hs_96 : aF 77 ws_86 = (termL T (atomD T 6) (advS T (aF 77 ws_8))) := (aF_fr u_87 kSC_77 (by decide)).trans hs_95
            exact ih_11 v_89 _ _ _ _ (o62_55 b_14 b_15 hn_13 e_17 c_18 e_90) (o62_56 b_14 b_15 hn_13 e_17 c_18 e_90) (o62_57 b_14 b_15 hn_13 e_17 c_18 e_90) ((by rw [hs_96]; exact (lp_s (by omega) (by omega) (by omega) (by omega)).trans hSp)) h (Fr.tr (Fr.tr (Fr.tr hF_9 (Fr.mono u_78 (by decide))) u_82) (Fr.mono u_87 (by decide))) (lv_sub hl [0, 2, 3] rfl)
  have hs_97 : aF 77 ws_1 = (termL T (atomD T 6) (aF 77 ws0)) := e_4
  exact lp_10 ((900 - v_5.toInt + 1).toNat) v_5 _ _ _ _ (o62_58 e_6) (o62_59 e_6) (o62_60 e_6) ((by rw [show (900 - v_5.toInt).toNat = 900 by omega, hs_97]; rfl)) h Fr.rf (lv_sub hl [0, 1, 2] rfl)
set_option maxHeartbeats 4000000 in
set_option maxRecDepth 100000 in
theorem c_X5_unit_0S {T : Nat → Int} (l : Launch) (G : GG) (Z : RZ) (ad : Nat → Nat) (ws0 : va_W) (hT : Ty G (SC tt) ad ws0) (a1 : Int32) (l1 : 0 ≤ a1.toInt) (u1 : a1.toInt ≤ 0) (hTp : Tp T ws0) : Mq l yX5_unit cX5_unit 3 none 27 G Z [.ref (ad 77), .int a1] ws0 (PV G (SC tt) ad [2, 3, 16] ws0 (fun u => (aF 77 u = unitD T 6 (aF 77 ws0)))) := by
  refine Mq.start (by decide) (Nat.le_of_ble_eq_true rfl) ?_
  intro p e s m below meth c A ls C0 hZ h hl
  have hl : lv_has ls 3 [(0, .ref (ad 77)), (1, .int a1)] := hl
  have h : Wt G (SC tt) ad A s s.heap [] ws0 := ⟨h, hT⟩
  obtain ⟨args, hargs⟩ : ∃ z, z = ([.ref (ad 77), .int a1] : List Value).toArray := ⟨_, rfl⟩
  rw [← hargs] at C0 ⊢
  have C0 : Cx p s m args meth c RX5 cX5_unit 3 none := C0
  obtain ⟨Q, hQ⟩ : ∃ z, z = MQ below ((PV G (SC tt) ad [2, 3, 16] ws0 (fun u => (aF 77 u = unitD T 6 (aF 77 ws0)))) A) args s 0 0 A := ⟨_, rfl⟩
  rw [← hQ]
  refine lv_aload_n C0.1 C0.2.1 dX5_unit_0 rfl (lv_at hl 0 rfl) ?_
  refine va_ldcS C0.1 C0.2.1 C0.2.2.2.1 (sr_19 hZ) dX5_unit_1 ?_
  refine y_ci h (y_rV (As := [.ref (Z.2.1 19)]) (rest := []) C0 hZ h (c_X5_isWordS l G Z ad _ h.2 19 (by decide) hTp) k_X5_isWord q_724 q_5 q_722 kSC_77 rfl rfl rfl hl.1 rfl rfl (Nat.le_of_ble_eq_true rfl) dX5_unit_3 ⟨Nat.le_of_ble_eq_true rfl, Nat.le_of_ble_eq_true rfl⟩ ⟨Nat.le_of_ble_eq_true rfl, Nat.le_of_ble_eq_true rfl⟩) (fun r_4 H locs ws_1 h u_2 p_3 => ?_)
  obtain ⟨e_5, e_6, e_7⟩ := p_3
  refine y_if_eq (tgt := 49) C0 dX5_unit_6 (by decide) (fun c_8 => ?_) (fun c_8 => ?_)
  · -- 6
    refine lv_aload_n C0.1 C0.2.1 dX5_unit_49 rfl (lv_at hl 0 rfl) ?_
    refine tg_X5_kind C0 h kSC_77 q_374 dX5_unit_50 (fun v_9 e_10 e_11 e_12 => ?_)
    refine y_c2 (n := 91) C0 (by decide) dX5_unit_53 (fun v_13 e_14 => ?_)
    refine y_icmp_ne (tgt := 86) C0 dX5_unit_55 (by decide) (fun c_15 => ?_) (fun c_15 => ?_)
    · -- 55
      refine lv_aload_n C0.1 C0.2.1 dX5_unit_86 rfl (lv_at hl 0 rfl) ?_
      refine lv_iload_n C0.1 C0.2.1 dX5_unit_87 rfl (lv_at hl 1 rfl) ?_
      refine y_cv h (y_rV (As := [.int a1]) (rest := []) C0 hZ h (c_X5_sum_0S l G Z ad _ h.2 a1 (o62_17 l1 u1) (o62_110 l1 u1) ((Tp.fr (M := []) hTp u_2 kSC_78 (by decide)))) k_X5_sum q_816 q_15 q_814 kSC_77 rfl rfl rfl hl.1 rfl rfl (Nat.le_of_ble_eq_true rfl) dX5_unit_88 ⟨Nat.le_of_ble_eq_true rfl, Nat.le_of_ble_eq_true rfl⟩ ⟨Nat.le_of_ble_eq_true rfl, Nat.le_of_ble_eq_true rfl⟩) (fun H locs ws_16 h u_17 p_18 => ?_)
      have e_19 := p_18
      refine lv_aload_n C0.1 C0.2.1 dX5_unit_91 rfl (lv_at hl 0 rfl) ?_
      refine tg_X5_kind C0 h kSC_77 q_374 dX5_unit_92 (fun v_20 e_21 e_22 e_23 => ?_)
      refine y_c2 (n := 61) C0 (by decide) dX5_unit_95 (fun v_24 e_25 => ?_)
      refine y_icmp_ne (tgt := 106) C0 dX5_unit_97 (by decide) (fun c_26 => ?_) (fun c_26 => ?_)
      · -- 97
        refine lv_aload_n C0.1 C0.2.1 dX5_unit_106 rfl (lv_at hl 0 rfl) ?_
        refine tg_X5_kind C0 h kSC_77 q_374 dX5_unit_107 (fun v_27 e_28 e_29 e_30 => ?_)
        have q_31 : v_27.toInt = v_20.toInt := congrArg Int32.toInt (e_28.symm.trans (Eq.trans rfl e_21))
        refine y_c2 (n := 60) C0 (by decide) dX5_unit_110 (fun v_32 e_33 => ?_)
        refine y_icmp_ne (tgt := 121) C0 dX5_unit_112 (by decide) (fun c_34 => ?_) (fun c_34 => ?_)
        · -- 112
          refine lv_aload_n C0.1 C0.2.1 dX5_unit_121 rfl (lv_at hl 0 rfl) ?_
          refine tg_X5_kind C0 h kSC_77 q_374 dX5_unit_122 (fun v_35 e_36 e_37 e_38 => ?_)
          have q_39 : v_35.toInt = v_20.toInt := congrArg Int32.toInt (e_36.symm.trans (Eq.trans rfl e_21))
          refine y_c2 (n := 62) C0 (by decide) dX5_unit_125 (fun v_40 e_41 => ?_)
          refine y_icmp_ne (tgt := 136) C0 dX5_unit_127 (by decide) (fun c_42 => ?_) (fun c_42 => ?_)
          · -- 127
            refine y_c1 (n := (-1)) C0 (by decide) dX5_unit_136 (fun v_43 e_44 => ?_)
            refine lv_istore_n (lv' := [(2, .int v_43), (0, .ref (ad 77)), (1, .int a1)]) C0.1 C0.2.1 dX5_unit_137 rfl hl (by decide) rfl (fun ls hl => ?_)
            refine lv_iload_n C0.1 C0.2.1 dX5_unit_138 rfl (lv_at hl 0 rfl) ?_
            refine y_if_ge (tgt := 148) C0 dX5_unit_139 (by decide) (fun c_45 => ((o62_42 e_44 c_45)).elim) (fun c_45 => ?_)
            refine lv_aload_n C0.1 C0.2.1 dX5_unit_142 rfl (lv_at hl 1 rfl) ?_
            refine y_c1 (n := 2) C0 (by decide) dX5_unit_143 (fun v_46 e_47 => ?_)
            refine y_cv h (y_rV (As := [.int v_46]) (rest := []) C0 hZ h (c_X5_failS l G Z ad _ h.2 v_46) k_X5_fail q_628 q_3 q_626 kSC_77 rfl rfl rfl hl.1 rfl rfl (Nat.le_of_ble_eq_true rfl) dX5_unit_144 ⟨Nat.le_of_ble_eq_true rfl, Nat.le_of_ble_eq_true rfl⟩ ⟨Nat.le_of_ble_eq_true rfl, Nat.le_of_ble_eq_true rfl⟩) (fun H locs ws_48 h u_49 p_50 => ?_)
            have e_51 := p_50
            have hq_52 := e_7
            have hs_53 : aF 77 ws_1 = (aF 77 ws0) := (aF_fr u_2 kSC_77 (by decide))
            have hv_54 : (aF 77 ws0) 4 = v_9.toInt := (congrFun hs_53 4).symm.trans (aF_at (by decide) e_10)
            have hs_55 : aF 77 ws_16 = (sumL T (atomD T 6) (aF 77 ws0)) := e_19.trans (congrArg (fun s => sumL T (atomD T 6) s) hs_53)
            have hv_56 : (sumL T (atomD T 6) (aF 77 ws0)) 4 = v_20.toInt := (congrFun hs_55 4).symm.trans (aF_at (by decide) e_21)
            have hv_57 : (sumL T (atomD T 6) (aF 77 ws0)) 4 = v_27.toInt := (congrFun hs_55 4).symm.trans (aF_at (by decide) e_28)
            have hv_58 : (sumL T (atomD T 6) (aF 77 ws0)) 4 = v_35.toInt := (congrFun hs_55 4).symm.trans (aF_at (by decide) e_36)
            have hs_59 : aF 77 ws_48 = (failS 2 (sumL T (atomD T 6) (aF 77 ws0))) := e_51.trans ((congrArg (fun s => failS v_46.toInt s) hs_55).trans (by rw [(o62_1 e_47)]))
            have hz_60 : (failS 2 (sumL T (atomD T 6) (aF 77 ws0))) = unitD T 6 (aF 77 ws0) := by rw [unitD_6]; unfold unitF; (repeat' split) <;> first | rfl | (exfalso; omega)
            rw [hQ]
            exact y_vret C0 h (Fr.tr (Fr.tr (Fr.mono u_2 (by decide)) u_17) (Fr.mono u_49 (by decide))) (Eq.trans hs_59 hz_60) dX5_unit_147
          · -- 127
            refine y_c3 (n := 2005) C0 (by decide) dX5_unit_130 (fun v_61 e_62 => ?_)
            refine lv_goto (tgt := 137) C0.1 C0.2.1 dX5_unit_133 (by decide) ?_
            refine lv_istore_n (lv' := [(2, .int v_61), (0, .ref (ad 77)), (1, .int a1)]) C0.1 C0.2.1 dX5_unit_137 rfl hl (by decide) rfl (fun ls hl => ?_)
            refine lv_iload_n C0.1 C0.2.1 dX5_unit_138 rfl (lv_at hl 0 rfl) ?_
            refine y_if_ge (tgt := 148) C0 dX5_unit_139 (by decide) (fun c_63 => ?_) (fun c_63 => ((o62_63 e_62 c_63)).elim)
            refine lv_aload_n C0.1 C0.2.1 dX5_unit_148 rfl (lv_at hl 1 rfl) ?_
            refine y_cv h (y_rV (As := []) (rest := []) C0 hZ h (c_X5_advanceS l G Z ad _ h.2 ((Tp.fr (M := [2, 3, 16]) hTp (Fr.tr (Fr.mono u_2 (by decide)) u_17) kSC_78 (by decide)))) k_X5_advance q_616 q_0 q_614 kSC_77 rfl rfl rfl hl.1 rfl rfl (Nat.le_of_ble_eq_true rfl) dX5_unit_149 ⟨Nat.le_of_ble_eq_true rfl, Nat.le_of_ble_eq_true rfl⟩ ⟨Nat.le_of_ble_eq_true rfl, Nat.le_of_ble_eq_true rfl⟩) (fun H locs ws_64 h u_65 p_66 => ?_)
            have e_67 := p_66
            refine lv_aload_n C0.1 C0.2.1 dX5_unit_152 rfl (lv_at hl 1 rfl) ?_
            refine lv_iload_n C0.1 C0.2.1 dX5_unit_153 rfl (lv_at hl 2 rfl) ?_
            refine y_cv h (y_rV (As := [.int a1]) (rest := []) C0 hZ h (c_X5_sum_0S l G Z ad _ h.2 a1 (o62_17 l1 u1) (o62_110 l1 u1) ((Tp.fr (M := [2, 3, 16]) hTp (Fr.tr (Fr.tr (Fr.mono u_2 (by decide)) u_17) (Fr.mono u_65 (by decide))) kSC_78 (by decide)))) k_X5_sum q_816 q_15 q_814 kSC_77 rfl rfl rfl hl.1 rfl rfl (Nat.le_of_ble_eq_true rfl) dX5_unit_154 ⟨Nat.le_of_ble_eq_true rfl, Nat.le_of_ble_eq_true rfl⟩ ⟨Nat.le_of_ble_eq_true rfl, Nat.le_of_ble_eq_true rfl⟩) (fun H locs ws_68 h u_69 p_70 => ?_)
            have e_71 := p_70
            refine lv_aload_n C0.1 C0.2.1 dX5_unit_157 rfl (lv_at hl 1 rfl) ?_
            refine tg_X5_law C0 h kSC_77 q_380 dX5_unit_158 (fun i_72 hi_72 => ?_)
            refine lv_iload_n C0.1 C0.2.1 dX5_unit_161 rfl (lv_at hl 0 rfl) ?_
            refine y_cv h (y_rV (As := [.int v_61]) (rest := []) C0 hZ h (c_X4_add l G Z ad _ h.2 i_72 hi_72 v_61) k_X4_add q_827 q_828 q_826 hi_72 rfl rfl rfl hl.1 rfl rfl (Nat.le_of_ble_eq_true rfl) dX5_unit_162 ⟨Nat.le_of_ble_eq_true rfl, Nat.le_of_ble_eq_true rfl⟩ ⟨Nat.le_of_ble_eq_true rfl, Nat.le_of_ble_eq_true rfl⟩) (fun H locs ws_73 h u_74 p_75 => ?_)
            have hq_76 := e_7
            have hs_77 : aF 77 ws_1 = (aF 77 ws0) := (aF_fr u_2 kSC_77 (by decide))
            have hv_78 : (aF 77 ws0) 4 = v_9.toInt := (congrFun hs_77 4).symm.trans (aF_at (by decide) e_10)
            have hs_79 : aF 77 ws_16 = (sumL T (atomD T 6) (aF 77 ws0)) := e_19.trans (congrArg (fun s => sumL T (atomD T 6) s) hs_77)
            have hv_80 : (sumL T (atomD T 6) (aF 77 ws0)) 4 = v_20.toInt := (congrFun hs_79 4).symm.trans (aF_at (by decide) e_21)
            have hv_81 : (sumL T (atomD T 6) (aF 77 ws0)) 4 = v_27.toInt := (congrFun hs_79 4).symm.trans (aF_at (by decide) e_28)
            have hv_82 : (sumL T (atomD T 6) (aF 77 ws0)) 4 = v_35.toInt := (congrFun hs_79 4).symm.trans (aF_at (by decide) e_36)
            have hs_83 : aF 77 ws_64 = (advS T (sumL T (atomD T 6) (aF 77 ws0))) := e_67.trans (congrArg (fun s => advS T s) hs_79)
            have hs_84 : aF 77 ws_68 = (sumL T (atomD T 6) (advS T (sumL T (atomD T 6) (aF 77 ws0)))) := e_71.trans (congrArg (fun s => sumL T (atomD T 6) s) hs_83)
            have hs_85 : aF 77 ws_73 = (sumL T (atomD T 6) (advS T (sumL T (atomD T 6) (aF 77 ws0)))) := (aF_fr u_74 kSC_77 (by decide)).trans hs_84
            have hz_86 : (sumL T (atomD T 6) (advS T (sumL T (atomD T 6) (aF 77 ws0)))) = unitD T 6 (aF 77 ws0) := by rw [unitD_6]; unfold unitF; (repeat' split) <;> first | rfl | (exfalso; omega)
            rw [hQ]
            exact y_vret C0 h (Fr.tr (Fr.tr (Fr.tr (Fr.tr (Fr.mono u_2 (by decide)) u_17) (Fr.mono u_65 (by decide))) u_69) (Fr.mono u_74 (by decide))) (Eq.trans hs_85 hz_86) dX5_unit_165
        · -- 112
          refine y_c3 (n := 2004) C0 (by decide) dX5_unit_115 (fun v_87 e_88 => ?_)
          refine lv_goto (tgt := 137) C0.1 C0.2.1 dX5_unit_118 (by decide) ?_
          refine lv_istore_n (lv' := [(2, .int v_87), (0, .ref (ad 77)), (1, .int a1)]) C0.1 C0.2.1 dX5_unit_137 rfl hl (by decide) rfl (fun ls hl => ?_)
          refine lv_iload_n C0.1 C0.2.1 dX5_unit_138 rfl (lv_at hl 0 rfl) ?_
          refine y_if_ge (tgt := 148) C0 dX5_unit_139 (by decide) (fun c_89 => ?_) (fun c_89 => ((o62_64 e_88 c_89)).elim)
          refine lv_aload_n C0.1 C0.2.1 dX5_unit_148 rfl (lv_at hl 1 rfl) ?_
          refine y_cv h (y_rV (As := []) (rest := []) C0 hZ h (c_X5_advanceS l G Z ad _ h.2 ((Tp.fr (M := [2, 3, 16]) hTp (Fr.tr (Fr.mono u_2 (by decide)) u_17) kSC_78 (by decide)))) k_X5_advance q_616 q_0 q_614 kSC_77 rfl rfl rfl hl.1 rfl rfl (Nat.le_of_ble_eq_true rfl) dX5_unit_149 ⟨Nat.le_of_ble_eq_true rfl, Nat.le_of_ble_eq_true rfl⟩ ⟨Nat.le_of_ble_eq_true rfl, Nat.le_of_ble_eq_true rfl⟩) (fun H locs ws_90 h u_91 p_92 => ?_)
          have e_93 := p_92
          refine lv_aload_n C0.1 C0.2.1 dX5_unit_152 rfl (lv_at hl 1 rfl) ?_
          refine lv_iload_n C0.1 C0.2.1 dX5_unit_153 rfl (lv_at hl 2 rfl) ?_
          refine y_cv h (y_rV (As := [.int a1]) (rest := []) C0 hZ h (c_X5_sum_0S l G Z ad _ h.2 a1 (o62_17 l1 u1) (o62_110 l1 u1) ((Tp.fr (M := [2, 3, 16]) hTp (Fr.tr (Fr.tr (Fr.mono u_2 (by decide)) u_17) (Fr.mono u_91 (by decide))) kSC_78 (by decide)))) k_X5_sum q_816 q_15 q_814 kSC_77 rfl rfl rfl hl.1 rfl rfl (Nat.le_of_ble_eq_true rfl) dX5_unit_154 ⟨Nat.le_of_ble_eq_true rfl, Nat.le_of_ble_eq_true rfl⟩ ⟨Nat.le_of_ble_eq_true rfl, Nat.le_of_ble_eq_true rfl⟩) (fun H locs ws_94 h u_95 p_96 => ?_)
          have e_97 := p_96
          refine lv_aload_n C0.1 C0.2.1 dX5_unit_157 rfl (lv_at hl 1 rfl) ?_
          refine tg_X5_law C0 h kSC_77 q_380 dX5_unit_158 (fun i_98 hi_98 => ?_)
          refine lv_iload_n C0.1 C0.2.1 dX5_unit_161 rfl (lv_at hl 0 rfl) ?_
          refine y_cv h (y_rV (As := [.int v_87]) (rest := []) C0 hZ h (c_X4_add l G Z ad _ h.2 i_98 hi_98 v_87) k_X4_add q_827 q_828 q_826 hi_98 rfl rfl rfl hl.1 rfl rfl (Nat.le_of_ble_eq_true rfl) dX5_unit_162 ⟨Nat.le_of_ble_eq_true rfl, Nat.le_of_ble_eq_true rfl⟩ ⟨Nat.le_of_ble_eq_true rfl, Nat.le_of_ble_eq_true rfl⟩) (fun H locs ws_99 h u_100 p_101 => ?_)
          have hq_102 := e_7
          have hs_103 : aF 77 ws_1 = (aF 77 ws0) := (aF_fr u_2 kSC_77 (by decide))
          have hv_104 : (aF 77 ws0) 4 = v_9.toInt := (congrFun hs_103 4).symm.trans (aF_at (by decide) e_10)
          have hs_105 : aF 77 ws_16 = (sumL T (atomD T 6) (aF 77 ws0)) := e_19.trans (congrArg (fun s => sumL T (atomD T 6) s) hs_103)
          have hv_106 : (sumL T (atomD T 6) (aF 77 ws0)) 4 = v_20.toInt := (congrFun hs_105 4).symm.trans (aF_at (by decide) e_21)
          have hv_107 : (sumL T (atomD T 6) (aF 77 ws0)) 4 = v_27.toInt := (congrFun hs_105 4).symm.trans (aF_at (by decide) e_28)
          have hs_108 : aF 77 ws_90 = (advS T (sumL T (atomD T 6) (aF 77 ws0))) := e_93.trans (congrArg (fun s => advS T s) hs_105)
          have hs_109 : aF 77 ws_94 = (sumL T (atomD T 6) (advS T (sumL T (atomD T 6) (aF 77 ws0)))) := e_97.trans (congrArg (fun s => sumL T (atomD T 6) s) hs_108)
          have hs_110 : aF 77 ws_99 = (sumL T (atomD T 6) (advS T (sumL T (atomD T 6) (aF 77 ws0)))) := (aF_fr u_100 kSC_77 (by decide)).trans hs_109
          have hz_111 : (sumL T (atomD T 6) (advS T (sumL T (atomD T 6) (aF 77 ws0)))) = unitD T 6 (aF 77 ws0) := by rw [unitD_6]; unfold unitF; (repeat' split) <;> first | rfl | (exfalso; omega)
          rw [hQ]
          exact y_vret C0 h (Fr.tr (Fr.tr (Fr.tr (Fr.tr (Fr.mono u_2 (by decide)) u_17) (Fr.mono u_91 (by decide))) u_95) (Fr.mono u_100 (by decide))) (Eq.trans hs_110 hz_111) dX5_unit_165
      · -- 97
        refine y_c3 (n := 2003) C0 (by decide) dX5_unit_100 (fun v_112 e_113 => ?_)
        refine lv_goto (tgt := 137) C0.1 C0.2.1 dX5_unit_103 (by decide) ?_
        refine lv_istore_n (lv' := [(2, .int v_112), (0, .ref (ad 77)), (1, .int a1)]) C0.1 C0.2.1 dX5_unit_137 rfl hl (by decide) rfl (fun ls hl => ?_)
        refine lv_iload_n C0.1 C0.2.1 dX5_unit_138 rfl (lv_at hl 0 rfl) ?_
        refine y_if_ge (tgt := 148) C0 dX5_unit_139 (by decide) (fun c_114 => ?_) (fun c_114 => ((o62_65 e_113 c_114)).elim)
        refine lv_aload_n C0.1 C0.2.1 dX5_unit_148 rfl (lv_at hl 1 rfl) ?_
        refine y_cv h (y_rV (As := []) (rest := []) C0 hZ h (c_X5_advanceS l G Z ad _ h.2 ((Tp.fr (M := [2, 3, 16]) hTp (Fr.tr (Fr.mono u_2 (by decide)) u_17) kSC_78 (by decide)))) k_X5_advance q_616 q_0 q_614 kSC_77 rfl rfl rfl hl.1 rfl rfl (Nat.le_of_ble_eq_true rfl) dX5_unit_149 ⟨Nat.le_of_ble_eq_true rfl, Nat.le_of_ble_eq_true rfl⟩ ⟨Nat.le_of_ble_eq_true rfl, Nat.le_of_ble_eq_true rfl⟩) (fun H locs ws_115 h u_116 p_117 => ?_)
        have e_118 := p_117
        refine lv_aload_n C0.1 C0.2.1 dX5_unit_152 rfl (lv_at hl 1 rfl) ?_
        refine lv_iload_n C0.1 C0.2.1 dX5_unit_153 rfl (lv_at hl 2 rfl) ?_
        refine y_cv h (y_rV (As := [.int a1]) (rest := []) C0 hZ h (c_X5_sum_0S l G Z ad _ h.2 a1 (o62_17 l1 u1) (o62_110 l1 u1) ((Tp.fr (M := [2, 3, 16]) hTp (Fr.tr (Fr.tr (Fr.mono u_2 (by decide)) u_17) (Fr.mono u_116 (by decide))) kSC_78 (by decide)))) k_X5_sum q_816 q_15 q_814 kSC_77 rfl rfl rfl hl.1 rfl rfl (Nat.le_of_ble_eq_true rfl) dX5_unit_154 ⟨Nat.le_of_ble_eq_true rfl, Nat.le_of_ble_eq_true rfl⟩ ⟨Nat.le_of_ble_eq_true rfl, Nat.le_of_ble_eq_true rfl⟩) (fun H locs ws_119 h u_120 p_121 => ?_)
        have e_122 := p_121
        refine lv_aload_n C0.1 C0.2.1 dX5_unit_157 rfl (lv_at hl 1 rfl) ?_
        refine tg_X5_law C0 h kSC_77 q_380 dX5_unit_158 (fun i_123 hi_123 => ?_)
        refine lv_iload_n C0.1 C0.2.1 dX5_unit_161 rfl (lv_at hl 0 rfl) ?_
        refine y_cv h (y_rV (As := [.int v_112]) (rest := []) C0 hZ h (c_X4_add l G Z ad _ h.2 i_123 hi_123 v_112) k_X4_add q_827 q_828 q_826 hi_123 rfl rfl rfl hl.1 rfl rfl (Nat.le_of_ble_eq_true rfl) dX5_unit_162 ⟨Nat.le_of_ble_eq_true rfl, Nat.le_of_ble_eq_true rfl⟩ ⟨Nat.le_of_ble_eq_true rfl, Nat.le_of_ble_eq_true rfl⟩) (fun H locs ws_124 h u_125 p_126 => ?_)
        have hq_127 := e_7
        have hs_128 : aF 77 ws_1 = (aF 77 ws0) := (aF_fr u_2 kSC_77 (by decide))
        have hv_129 : (aF 77 ws0) 4 = v_9.toInt := (congrFun hs_128 4).symm.trans (aF_at (by decide) e_10)
        have hs_130 : aF 77 ws_16 = (sumL T (atomD T 6) (aF 77 ws0)) := e_19.trans (congrArg (fun s => sumL T (atomD T 6) s) hs_128)
        have hv_131 : (sumL T (atomD T 6) (aF 77 ws0)) 4 = v_20.toInt := (congrFun hs_130 4).symm.trans (aF_at (by decide) e_21)
        have hs_132 : aF 77 ws_115 = (advS T (sumL T (atomD T 6) (aF 77 ws0))) := e_118.trans (congrArg (fun s => advS T s) hs_130)
        have hs_133 : aF 77 ws_119 = (sumL T (atomD T 6) (advS T (sumL T (atomD T 6) (aF 77 ws0)))) := e_122.trans (congrArg (fun s => sumL T (atomD T 6) s) hs_132)
        have hs_134 : aF 77 ws_124 = (sumL T (atomD T 6) (advS T (sumL T (atomD T 6) (aF 77 ws0)))) := (aF_fr u_125 kSC_77 (by decide)).trans hs_133
        have hz_135 : (sumL T (atomD T 6) (advS T (sumL T (atomD T 6) (aF 77 ws0)))) = unitD T 6 (aF 77 ws0) := by rw [unitD_6]; unfold unitF; (repeat' split) <;> first | rfl | (exfalso; omega)
        rw [hQ]
        exact y_vret C0 h (Fr.tr (Fr.tr (Fr.tr (Fr.tr (Fr.mono u_2 (by decide)) u_17) (Fr.mono u_116 (by decide))) u_120) (Fr.mono u_125 (by decide))) (Eq.trans hs_134 hz_135) dX5_unit_165
    · -- 55
      refine lv_aload_n C0.1 C0.2.1 dX5_unit_58 rfl (lv_at hl 0 rfl) ?_
      refine lv_iload_n C0.1 C0.2.1 dX5_unit_59 rfl (lv_at hl 1 rfl) ?_
      refine y_ci h (y_rV (As := [.int a1]) (rest := []) C0 hZ h (c_X5_tooDeep_0S l G Z ad _ h.2 a1 (o62_17 l1 u1) (o62_110 l1 u1)) k_X5_tooDeep q_832 q_18 q_830 kSC_77 rfl rfl rfl hl.1 rfl rfl (Nat.le_of_ble_eq_true rfl) dX5_unit_60 ⟨Nat.le_of_ble_eq_true rfl, Nat.le_of_ble_eq_true rfl⟩ ⟨Nat.le_of_ble_eq_true rfl, Nat.le_of_ble_eq_true rfl⟩) (fun r_139 H locs ws_136 h u_137 p_138 => ?_)
      obtain ⟨e_140, e_141, e_142⟩ := p_138
      refine y_if_ne (tgt := 165) C0 dX5_unit_63 (by decide) (fun c_143 => ((o62_71 e_140 e_141 c_143)).elim) (fun c_143 => ?_)
      refine lv_aload_n C0.1 C0.2.1 dX5_unit_66 rfl (lv_at hl 0 rfl) ?_
      refine y_cv h (y_rV (As := []) (rest := []) C0 hZ h (c_X5_advanceS l G Z ad _ h.2 ((Tp.fr (M := []) hTp (Fr.tr u_2 u_137) kSC_78 (by decide)))) k_X5_advance q_616 q_0 q_614 kSC_77 rfl rfl rfl hl.1 rfl rfl (Nat.le_of_ble_eq_true rfl) dX5_unit_67 ⟨Nat.le_of_ble_eq_true rfl, Nat.le_of_ble_eq_true rfl⟩ ⟨Nat.le_of_ble_eq_true rfl, Nat.le_of_ble_eq_true rfl⟩) (fun H locs ws_144 h u_145 p_146 => ?_)
      have e_147 := p_146
      refine lv_aload_n C0.1 C0.2.1 dX5_unit_70 rfl (lv_at hl 0 rfl) ?_
      refine lv_iload_n C0.1 C0.2.1 dX5_unit_71 rfl (lv_at hl 1 rfl) ?_
      refine y_c1 (n := 1) C0 (by decide) dX5_unit_72 (fun v_148 e_149 => ?_)
      refine y_add C0 (o62_111 l1 u1 e_149 (le_min a1) (le_max a1) (le_min v_148) (le_max v_148)) (o62_112 l1 u1 e_149 (le_min a1) (le_max a1) (le_min v_148) (le_max v_148)) dX5_unit_73 (fun v_150 e_151 => ?_)
      refine y_cv h (y_rV (As := [.int v_150]) (rest := []) C0 hZ h (c_X5_truth_1S l G Z ad _ h.2 v_150 (o62_113 l1 u1 e_149 e_151) (o62_114 l1 u1 e_149 e_151) ((Tp.fr (M := [16]) hTp (Fr.tr (Fr.tr (Fr.mono u_2 (by decide)) (Fr.mono u_137 (by decide))) u_145) kSC_78 (by decide)))) k_X5_truth q_843 q_19 q_841 kSC_77 rfl rfl rfl hl.1 rfl rfl (Nat.le_of_ble_eq_true rfl) dX5_unit_74 ⟨Nat.le_of_ble_eq_true rfl, Nat.le_of_ble_eq_true rfl⟩ ⟨Nat.le_of_ble_eq_true rfl, Nat.le_of_ble_eq_true rfl⟩) (fun H locs ws_152 h u_153 p_154 => ?_)
      have e_155 := p_154
      refine lv_aload_n C0.1 C0.2.1 dX5_unit_77 rfl (lv_at hl 0 rfl) ?_
      refine y_c2 (n := 93) C0 (by decide) dX5_unit_78 (fun v_156 e_157 => ?_)
      refine y_cv h (y_rV (As := [.int v_156]) (rest := []) C0 hZ h (c_X5_signS l G Z ad _ h.2 v_156 (o62_79 e_157) (o62_80 e_157) ((Tp.fr (M := [2, 3, 16]) hTp (Fr.tr (Fr.tr (Fr.tr (Fr.mono u_2 (by decide)) (Fr.mono u_137 (by decide))) (Fr.mono u_145 (by decide))) u_153) kSC_78 (by decide)))) k_X5_sign q_812 q_14 q_810 kSC_77 rfl rfl rfl hl.1 rfl rfl (Nat.le_of_ble_eq_true rfl) dX5_unit_80 ⟨Nat.le_of_ble_eq_true rfl, Nat.le_of_ble_eq_true rfl⟩ ⟨Nat.le_of_ble_eq_true rfl, Nat.le_of_ble_eq_true rfl⟩) (fun H locs ws_158 h u_159 p_160 => ?_)
      have e_161 := p_160
      refine lv_goto (tgt := 165) C0.1 C0.2.1 dX5_unit_83 (by decide) ?_
      have hq_162 := e_7
      have hs_163 : aF 77 ws_1 = (aF 77 ws0) := (aF_fr u_2 kSC_77 (by decide))
      have hv_164 : (aF 77 ws0) 4 = v_9.toInt := (congrFun hs_163 4).symm.trans (aF_at (by decide) e_10)
      have hs_165 : aF 77 ws_136 = ((fun s => s) (aF 77 ws0)) := e_142.trans (congrArg (fun s => (fun s => s) s) hs_163)
      have hs_166 : aF 77 ws_144 = (advS T ((fun s => s) (aF 77 ws0))) := e_147.trans (congrArg (fun s => advS T s) hs_165)
      have hs_167 : aF 77 ws_152 = (truthL T (unitD T 5) (advS T ((fun s => s) (aF 77 ws0)))) := e_155.trans (congrArg (fun s => truthL T (unitD T 5) s) hs_166)
      have hs_168 : aF 77 ws_158 = (signS T 93 (truthL T (unitD T 5) (advS T ((fun s => s) (aF 77 ws0))))) := e_161.trans ((congrArg (fun s => signS T v_156.toInt s) hs_167).trans (by rw [(o62_81 e_157)]))
      have hz_169 : (signS T 93 (truthL T (unitD T 5) (advS T ((fun s => s) (aF 77 ws0))))) = unitD T 6 (aF 77 ws0) := by rw [unitD_6]; unfold unitF; (repeat' split) <;> first | rfl | (exfalso; omega)
      rw [hQ]
      exact y_vret C0 h (Fr.tr (Fr.tr (Fr.tr (Fr.tr (Fr.mono u_2 (by decide)) (Fr.mono u_137 (by decide))) (Fr.mono u_145 (by decide))) u_153) (Fr.mono u_159 (by decide))) (Eq.trans hs_168 hz_169) dX5_unit_165
  · -- 6
    refine lv_aload_n C0.1 C0.2.1 dX5_unit_9 rfl (lv_at hl 0 rfl) ?_
    refine lv_iload_n C0.1 C0.2.1 dX5_unit_10 rfl (lv_at hl 1 rfl) ?_
    refine y_ci h (y_rV (As := [.int a1]) (rest := []) C0 hZ h (c_X5_tooDeep_0S l G Z ad _ h.2 a1 (o62_17 l1 u1) (o62_110 l1 u1)) k_X5_tooDeep q_832 q_18 q_830 kSC_77 rfl rfl rfl hl.1 rfl rfl (Nat.le_of_ble_eq_true rfl) dX5_unit_11 ⟨Nat.le_of_ble_eq_true rfl, Nat.le_of_ble_eq_true rfl⟩ ⟨Nat.le_of_ble_eq_true rfl, Nat.le_of_ble_eq_true rfl⟩) (fun r_173 H locs ws_170 h u_171 p_172 => ?_)
    obtain ⟨e_174, e_175, e_176⟩ := p_172
    refine y_if_ne (tgt := 165) C0 dX5_unit_14 (by decide) (fun c_177 => ((o62_71 e_174 e_175 c_177)).elim) (fun c_177 => ?_)
    refine lv_aload_n C0.1 C0.2.1 dX5_unit_17 rfl (lv_at hl 0 rfl) ?_
    refine y_cv h (y_rV (As := []) (rest := []) C0 hZ h (c_X5_advanceS l G Z ad _ h.2 ((Tp.fr (M := []) hTp (Fr.tr u_2 u_171) kSC_78 (by decide)))) k_X5_advance q_616 q_0 q_614 kSC_77 rfl rfl rfl hl.1 rfl rfl (Nat.le_of_ble_eq_true rfl) dX5_unit_18 ⟨Nat.le_of_ble_eq_true rfl, Nat.le_of_ble_eq_true rfl⟩ ⟨Nat.le_of_ble_eq_true rfl, Nat.le_of_ble_eq_true rfl⟩) (fun H locs ws_178 h u_179 p_180 => ?_)
    have e_181 := p_180
    refine lv_aload_n C0.1 C0.2.1 dX5_unit_21 rfl (lv_at hl 0 rfl) ?_
    refine lv_iload_n C0.1 C0.2.1 dX5_unit_22 rfl (lv_at hl 1 rfl) ?_
    refine y_c1 (n := 1) C0 (by decide) dX5_unit_23 (fun v_182 e_183 => ?_)
    refine y_add C0 (o62_111 l1 u1 e_183 (le_min a1) (le_max a1) (le_min v_182) (le_max v_182)) (o62_112 l1 u1 e_183 (le_min a1) (le_max a1) (le_min v_182) (le_max v_182)) dX5_unit_24 (fun v_184 e_185 => ?_)
    refine y_cv h (y_rV (As := [.int v_184]) (rest := []) C0 hZ h (c_X5_unit_1S l G Z ad _ h.2 v_184 (o62_113 l1 u1 e_183 e_185) (o62_114 l1 u1 e_183 e_185) ((Tp.fr (M := [16]) hTp (Fr.tr (Fr.tr (Fr.mono u_2 (by decide)) (Fr.mono u_171 (by decide))) u_179) kSC_78 (by decide)))) k_X5_unit q_851 q_21 q_849 kSC_77 rfl rfl rfl hl.1 rfl rfl (Nat.le_of_ble_eq_true rfl) dX5_unit_25 ⟨Nat.le_of_ble_eq_true rfl, Nat.le_of_ble_eq_true rfl⟩ ⟨Nat.le_of_ble_eq_true rfl, Nat.le_of_ble_eq_true rfl⟩) (fun H locs ws_186 h u_187 p_188 => ?_)
    have e_189 := p_188
    refine lv_aload_n C0.1 C0.2.1 dX5_unit_28 rfl (lv_at hl 0 rfl) ?_
    refine tg_X5_law C0 h kSC_77 q_380 dX5_unit_29 (fun i_190 hi_190 => ?_)
    refine y_c1 (n := 0) C0 (by decide) dX5_unit_32 (fun v_191 e_192 => ?_)
    refine y_cv h (y_rV (As := [.int v_191]) (rest := []) C0 hZ h (c_X4_add l G Z ad _ h.2 i_190 hi_190 v_191) k_X4_add q_827 q_828 q_826 hi_190 rfl rfl rfl hl.1 rfl rfl (Nat.le_of_ble_eq_true rfl) dX5_unit_33 ⟨Nat.le_of_ble_eq_true rfl, Nat.le_of_ble_eq_true rfl⟩ ⟨Nat.le_of_ble_eq_true rfl, Nat.le_of_ble_eq_true rfl⟩) (fun H locs ws_193 h u_194 p_195 => ?_)
    refine lv_aload_n C0.1 C0.2.1 dX5_unit_36 rfl (lv_at hl 0 rfl) ?_
    refine tg_X5_law C0 h kSC_77 q_380 dX5_unit_37 (fun i_196 hi_196 => ?_)
    refine y_c3 (n := 2003) C0 (by decide) dX5_unit_40 (fun v_197 e_198 => ?_)
    refine y_cv h (y_rV (As := [.int v_197]) (rest := []) C0 hZ h (c_X4_add l G Z ad _ h.2 i_196 hi_196 v_197) k_X4_add q_827 q_828 q_826 hi_196 rfl rfl rfl hl.1 rfl rfl (Nat.le_of_ble_eq_true rfl) dX5_unit_43 ⟨Nat.le_of_ble_eq_true rfl, Nat.le_of_ble_eq_true rfl⟩ ⟨Nat.le_of_ble_eq_true rfl, Nat.le_of_ble_eq_true rfl⟩) (fun H locs ws_199 h u_200 p_201 => ?_)
    refine lv_goto (tgt := 165) C0.1 C0.2.1 dX5_unit_46 (by decide) ?_
    have hq_202 := e_7
    have hs_203 : aF 77 ws_1 = (aF 77 ws0) := (aF_fr u_2 kSC_77 (by decide))
    have hs_204 : aF 77 ws_170 = ((fun s => s) (aF 77 ws0)) := e_176.trans (congrArg (fun s => (fun s => s) s) hs_203)
    have hs_205 : aF 77 ws_178 = (advS T ((fun s => s) (aF 77 ws0))) := e_181.trans (congrArg (fun s => advS T s) hs_204)
    have hs_206 : aF 77 ws_186 = (unitD T 5 (advS T ((fun s => s) (aF 77 ws0)))) := e_189.trans (congrArg (fun s => unitD T 5 s) hs_205)
    have hs_207 : aF 77 ws_193 = (unitD T 5 (advS T ((fun s => s) (aF 77 ws0)))) := (aF_fr u_194 kSC_77 (by decide)).trans hs_206
    have hs_208 : aF 77 ws_199 = (unitD T 5 (advS T ((fun s => s) (aF 77 ws0)))) := (aF_fr u_200 kSC_77 (by decide)).trans hs_207
    have hz_209 : (unitD T 5 (advS T ((fun s => s) (aF 77 ws0)))) = unitD T 6 (aF 77 ws0) := by rw [unitD_6]; unfold unitF; (repeat' split) <;> first | rfl | (exfalso; omega)
    rw [hQ]
    exact y_vret C0 h (Fr.tr (Fr.tr (Fr.tr (Fr.tr (Fr.tr (Fr.mono u_2 (by decide)) (Fr.mono u_171 (by decide))) (Fr.mono u_179 (by decide))) u_187) (Fr.mono u_194 (by decide))) (Fr.mono u_200 (by decide))) (Eq.trans hs_208 hz_209) dX5_unit_165
set_option maxHeartbeats 4000000 in
set_option maxRecDepth 100000 in
theorem c_X5_both_0S {T : Nat → Int} (l : Launch) (G : GG) (Z : RZ) (ad : Nat → Nat) (ws0 : va_W) (hT : Ty G (SC tt) ad ws0) (a1 : Int32) (l1 : 0 ≤ a1.toInt) (u1 : a1.toInt ≤ 0) (hTp : Tp T ws0) : Mq l yX5_both cX5_both 3 none 28 G Z [.ref (ad 77), .int a1] ws0 (PV G (SC tt) ad [2, 3, 16] ws0 (fun u => (aF 77 u = bothL T (unitD T 6) (aF 77 ws0)))) := by
  refine Mq.start (by decide) (Nat.le_of_ble_eq_true rfl) ?_
  intro p e s m below meth c A ls C0 hZ h hl
  have hl : lv_has ls 3 [(0, .ref (ad 77)), (1, .int a1)] := hl
  have h : Wt G (SC tt) ad A s s.heap [] ws0 := ⟨h, hT⟩
  obtain ⟨args, hargs⟩ : ∃ z, z = ([.ref (ad 77), .int a1] : List Value).toArray := ⟨_, rfl⟩
  rw [← hargs] at C0 ⊢
  have C0 : Cx p s m args meth c RX5 cX5_both 3 none := C0
  obtain ⟨Q, hQ⟩ : ∃ z, z = MQ below ((PV G (SC tt) ad [2, 3, 16] ws0 (fun u => (aF 77 u = bothL T (unitD T 6) (aF 77 ws0)))) A) args s 0 0 A := ⟨_, rfl⟩
  rw [← hQ]
  refine lv_aload_n C0.1 C0.2.1 dX5_both_0 rfl (lv_at hl 0 rfl) ?_
  refine lv_iload_n C0.1 C0.2.1 dX5_both_1 rfl (lv_at hl 1 rfl) ?_
  refine y_cv h (y_rV (As := [.int a1]) (rest := []) C0 hZ h (c_X5_unit_0S l G Z ad _ h.2 a1 (o62_17 l1 u1) (o62_110 l1 u1) hTp) k_X5_unit q_851 q_21 q_849 kSC_77 rfl rfl rfl hl.1 rfl rfl (Nat.le_of_ble_eq_true rfl) dX5_both_2 ⟨Nat.le_of_ble_eq_true rfl, Nat.le_of_ble_eq_true rfl⟩ ⟨Nat.le_of_ble_eq_true rfl, Nat.le_of_ble_eq_true rfl⟩) (fun H locs ws_1 h u_2 p_3 => ?_)
  have e_4 := p_3
  refine y_c1 (n := 0) C0 (by decide) dX5_both_5 (fun v_5 e_6 => ?_)
  refine lv_istore_n (lv' := [(2, .int v_5), (0, .ref (ad 77)), (1, .int a1)]) C0.1 C0.2.1 dX5_both_6 rfl hl (by decide) rfl (fun ls hl => ?_)
  have lp_10 : ∀ (n_12 : Nat) (x2_7 : Int32) (H : Heap) (locs : List Loc) (ls : Array Slot) (ws_8 : va_W), 900 - x2_7.toInt < (n_12 : Int) → 0 ≤ x2_7.toInt → x2_7.toInt ≤ 900 → (lpS (fun s => wI T 20 s = 1) (fun s => unitD T 6 (advS T s)) (900 - x2_7.toInt).toNat (aF 77 ws_8) = bothL T (unitD T 6) (aF 77 ws0)) → Wt G (SC tt) ad A s H locs ws_8 → Fr (SC tt) [2, 3, 16] ws_1 ws_8 → lv_has ls 3 [(2, .int x2_7), (0, .ref (ad 77)), (1, .int a1)] → W p l e (rmd 28 0 0) s m args below meth c H locs 0 0 Q (F0 m 7 ls []) := by
    intro n_12
    induction n_12 with
    | zero => intro x2_7 H locs ls ws_8 hn_13 b_14 b_15 hSp h hF_9 hl; exact ((o62_52 b_14 b_15 hn_13)).elim
    | succ n_12 ih_11 =>
      intro x2_7 H locs ls ws_8 hn_13 b_14 b_15 hSp h hF_9 hl
      refine lv_iload_n C0.1 C0.2.1 dX5_both_7 rfl (lv_at hl 0 rfl) ?_
      refine y_c3 (n := 900) C0 (by decide) dX5_both_8 (fun v_16 e_17 => ?_)
      refine y_icmp_ge (tgt := 48) C0 dX5_both_11 (by decide) (fun c_18 => ?_) (fun c_18 => ?_)
      · -- 11
        have hz_19 : (aF 77 ws_8) = lpS (fun s => wI T 20 s = 1) (fun s => unitD T 6 (advS T s)) (900 - x2_7.toInt).toNat (aF 77 ws_8) := by first | (exfalso; omega) | exact (lp_0 (by omega)).symm | exact (lp_e (by omega)).symm
        rw [hQ]
        exact y_vret C0 h (Fr.tr u_2 hF_9) (Eq.trans rfl (Eq.trans hz_19 hSp)) dX5_both_48
      · -- 11
        refine lv_aload_n C0.1 C0.2.1 dX5_both_14 rfl (lv_at hl 1 rfl) ?_
        refine va_ldcS C0.1 C0.2.1 C0.2.2.2.1 (sr_20 hZ) dX5_both_15 ?_
        refine y_ci h (y_rV (As := [.ref (Z.2.1 20)]) (rest := []) C0 hZ h (c_X5_isWordS l G Z ad _ h.2 20 (by decide) ((Tp.fr (M := [2, 3, 16]) hTp (Fr.tr u_2 hF_9) kSC_78 (by decide)))) k_X5_isWord q_724 q_5 q_722 kSC_77 rfl rfl rfl hl.1 rfl rfl (Nat.le_of_ble_eq_true rfl) dX5_both_17 ⟨Nat.le_of_ble_eq_true rfl, Nat.le_of_ble_eq_true rfl⟩ ⟨Nat.le_of_ble_eq_true rfl, Nat.le_of_ble_eq_true rfl⟩) (fun r_23 H locs ws_20 h u_21 p_22 => ?_)
        obtain ⟨e_24, e_25, e_26⟩ := p_22
        refine y_if_eq (tgt := 48) C0 dX5_both_20 (by decide) (fun c_27 => ?_) (fun c_27 => ?_)
        · -- 20
          have hq_28 := e_26
          have hs_29 : aF 77 ws_20 = (aF 77 ws_8) := (aF_fr u_21 kSC_77 (by decide))
          have hz_30 : (aF 77 ws_8) = lpS (fun s => wI T 20 s = 1) (fun s => unitD T 6 (advS T s)) (900 - x2_7.toInt).toNat (aF 77 ws_8) := by first | (exfalso; omega) | exact (lp_0 (by omega)).symm | exact (lp_e (by omega)).symm
          rw [hQ]
          exact y_vret C0 h (Fr.tr (Fr.tr u_2 hF_9) (Fr.mono u_21 (by decide))) (Eq.trans hs_29 (Eq.trans hz_30 hSp)) dX5_both_48
        · -- 20
          refine lv_aload_n C0.1 C0.2.1 dX5_both_23 rfl (lv_at hl 1 rfl) ?_
          refine y_cv h (y_rV (As := []) (rest := []) C0 hZ h (c_X5_advanceS l G Z ad _ h.2 ((Tp.fr (M := [2, 3, 16]) hTp (Fr.tr (Fr.tr u_2 hF_9) (Fr.mono u_21 (by decide))) kSC_78 (by decide)))) k_X5_advance q_616 q_0 q_614 kSC_77 rfl rfl rfl hl.1 rfl rfl (Nat.le_of_ble_eq_true rfl) dX5_both_24 ⟨Nat.le_of_ble_eq_true rfl, Nat.le_of_ble_eq_true rfl⟩ ⟨Nat.le_of_ble_eq_true rfl, Nat.le_of_ble_eq_true rfl⟩) (fun H locs ws_31 h u_32 p_33 => ?_)
          have e_34 := p_33
          refine lv_aload_n C0.1 C0.2.1 dX5_both_27 rfl (lv_at hl 1 rfl) ?_
          refine lv_iload_n C0.1 C0.2.1 dX5_both_28 rfl (lv_at hl 2 rfl) ?_
          refine y_cv h (y_rV (As := [.int a1]) (rest := []) C0 hZ h (c_X5_unit_0S l G Z ad _ h.2 a1 (o62_17 l1 u1) (o62_110 l1 u1) ((Tp.fr (M := [2, 3, 16]) hTp (Fr.tr (Fr.tr (Fr.tr u_2 hF_9) (Fr.mono u_21 (by decide))) (Fr.mono u_32 (by decide))) kSC_78 (by decide)))) k_X5_unit q_851 q_21 q_849 kSC_77 rfl rfl rfl hl.1 rfl rfl (Nat.le_of_ble_eq_true rfl) dX5_both_29 ⟨Nat.le_of_ble_eq_true rfl, Nat.le_of_ble_eq_true rfl⟩ ⟨Nat.le_of_ble_eq_true rfl, Nat.le_of_ble_eq_true rfl⟩) (fun H locs ws_35 h u_36 p_37 => ?_)
          have e_38 := p_37
          refine lv_aload_n C0.1 C0.2.1 dX5_both_32 rfl (lv_at hl 1 rfl) ?_
          refine tg_X5_law C0 h kSC_77 q_380 dX5_both_33 (fun i_39 hi_39 => ?_)
          refine y_c3 (n := 2006) C0 (by decide) dX5_both_36 (fun v_40 e_41 => ?_)
          refine y_cv h (y_rV (As := [.int v_40]) (rest := []) C0 hZ h (c_X4_add l G Z ad _ h.2 i_39 hi_39 v_40) k_X4_add q_827 q_828 q_826 hi_39 rfl rfl rfl hl.1 rfl rfl (Nat.le_of_ble_eq_true rfl) dX5_both_39 ⟨Nat.le_of_ble_eq_true rfl, Nat.le_of_ble_eq_true rfl⟩ ⟨Nat.le_of_ble_eq_true rfl, Nat.le_of_ble_eq_true rfl⟩) (fun H locs ws_42 h u_43 p_44 => ?_)
          refine y_inc (kp := 0) (n := 1) (fun v_45 => [(2, .int v_45), (0, .ref (ad 77)), (1, .int a1)]) C0 hl rfl (by decide) (by decide) (fun _ => rfl) (o62_53 b_14 b_15 hn_13 e_17 c_18 (le_min x2_7) (le_max x2_7) (le_min v_16) (le_max v_16)) (o62_54 b_14 b_15 hn_13 e_17 c_18 (le_min x2_7) (le_max x2_7) (le_min v_16) (le_max v_16)) dX5_both_42 (fun v_45 ls e_46 hl => ?_)
          refine lv_goto (tgt := 7) C0.1 C0.2.1 dX5_both_45 (by decide) ?_
          have hq_47 := e_26
          have hs_48 : aF 77 ws_20 = (aF 77 ws_8) := (aF_fr u_21 kSC_77 (by decide))
          have hs_49 : aF 77 ws_31 = (advS T (aF 77 ws_8)) := e_34.trans (congrArg (fun s => advS T s) hs_48)
          have hs_50 : aF 77 ws_35 = (unitD T 6 (advS T (aF 77 ws_8))) := e_38.trans (congrArg (fun s => unitD T 6 s) hs_49)
          have hs_51 : aF 77 ws_42 = (unitD T 6 (advS T (aF 77 ws_8))) := (aF_fr u_43 kSC_77 (by decide)).trans hs_50
          exact ih_11 v_45 _ _ _ _ (o62_55 b_14 b_15 hn_13 e_17 c_18 e_46) (o62_56 b_14 b_15 hn_13 e_17 c_18 e_46) (o62_57 b_14 b_15 hn_13 e_17 c_18 e_46) ((by rw [hs_51]; exact (lp_s (by omega) (by omega) (by omega) (by omega)).trans hSp)) h (Fr.tr (Fr.tr (Fr.tr (Fr.tr hF_9 (Fr.mono u_21 (by decide))) (Fr.mono u_32 (by decide))) u_36) (Fr.mono u_43 (by decide))) (lv_sub hl [0, 1, 2] rfl)
  have hs_52 : aF 77 ws_1 = (unitD T 6 (aF 77 ws0)) := e_4
  exact lp_10 ((900 - v_5.toInt + 1).toNat) v_5 _ _ _ _ (o62_58 e_6) (o62_59 e_6) (o62_60 e_6) ((by rw [show (900 - v_5.toInt).toNat = 900 by omega, hs_52]; rfl)) h Fr.rf (lv_sub hl [0, 1, 2] rfl)
set_option maxHeartbeats 4000000 in
set_option maxRecDepth 100000 in
theorem c_X5_truth_0S {T : Nat → Int} (l : Launch) (G : GG) (Z : RZ) (ad : Nat → Nat) (ws0 : va_W) (hT : Ty G (SC tt) ad ws0) (a1 : Int32) (l1 : 0 ≤ a1.toInt) (u1 : a1.toInt ≤ 0) (hTp : Tp T ws0) : Mq l yX5_truth cX5_truth 3 none 29 G Z [.ref (ad 77), .int a1] ws0 (PV G (SC tt) ad [2, 3, 16] ws0 (fun u => (aF 77 u = truthL T (unitD T 6) (aF 77 ws0)))) := by
  refine Mq.start (by decide) (Nat.le_of_ble_eq_true rfl) ?_
  intro p e s m below meth c A ls C0 hZ h hl
  have hl : lv_has ls 3 [(0, .ref (ad 77)), (1, .int a1)] := hl
  have h : Wt G (SC tt) ad A s s.heap [] ws0 := ⟨h, hT⟩
  obtain ⟨args, hargs⟩ : ∃ z, z = ([.ref (ad 77), .int a1] : List Value).toArray := ⟨_, rfl⟩
  rw [← hargs] at C0 ⊢
  have C0 : Cx p s m args meth c RX5 cX5_truth 3 none := C0
  obtain ⟨Q, hQ⟩ : ∃ z, z = MQ below ((PV G (SC tt) ad [2, 3, 16] ws0 (fun u => (aF 77 u = truthL T (unitD T 6) (aF 77 ws0)))) A) args s 0 0 A := ⟨_, rfl⟩
  rw [← hQ]
  refine lv_aload_n C0.1 C0.2.1 dX5_truth_0 rfl (lv_at hl 0 rfl) ?_
  refine lv_iload_n C0.1 C0.2.1 dX5_truth_1 rfl (lv_at hl 1 rfl) ?_
  refine y_cv h (y_rV (As := [.int a1]) (rest := []) C0 hZ h (c_X5_both_0S l G Z ad _ h.2 a1 (o62_17 l1 u1) (o62_110 l1 u1) hTp) k_X5_both q_847 q_20 q_845 kSC_77 rfl rfl rfl hl.1 rfl rfl (Nat.le_of_ble_eq_true rfl) dX5_truth_2 ⟨Nat.le_of_ble_eq_true rfl, Nat.le_of_ble_eq_true rfl⟩ ⟨Nat.le_of_ble_eq_true rfl, Nat.le_of_ble_eq_true rfl⟩) (fun H locs ws_1 h u_2 p_3 => ?_)
  have e_4 := p_3
  refine y_c1 (n := 0) C0 (by decide) dX5_truth_5 (fun v_5 e_6 => ?_)
  refine lv_istore_n (lv' := [(2, .int v_5), (0, .ref (ad 77)), (1, .int a1)]) C0.1 C0.2.1 dX5_truth_6 rfl hl (by decide) rfl (fun ls hl => ?_)
  have lp_10 : ∀ (n_12 : Nat) (x2_7 : Int32) (H : Heap) (locs : List Loc) (ls : Array Slot) (ws_8 : va_W), 900 - x2_7.toInt < (n_12 : Int) → 0 ≤ x2_7.toInt → x2_7.toInt ≤ 900 → (lpS (fun s => wI T 21 s = 1) (fun s => bothL T (unitD T 6) (advS T s)) (900 - x2_7.toInt).toNat (aF 77 ws_8) = truthL T (unitD T 6) (aF 77 ws0)) → Wt G (SC tt) ad A s H locs ws_8 → Fr (SC tt) [2, 3, 16] ws_1 ws_8 → lv_has ls 3 [(2, .int x2_7), (0, .ref (ad 77)), (1, .int a1)] → W p l e (rmd 29 0 0) s m args below meth c H locs 0 0 Q (F0 m 7 ls []) := by
    intro n_12
    induction n_12 with
    | zero => intro x2_7 H locs ls ws_8 hn_13 b_14 b_15 hSp h hF_9 hl; exact ((o62_52 b_14 b_15 hn_13)).elim
    | succ n_12 ih_11 =>
      intro x2_7 H locs ls ws_8 hn_13 b_14 b_15 hSp h hF_9 hl
      refine lv_iload_n C0.1 C0.2.1 dX5_truth_7 rfl (lv_at hl 0 rfl) ?_
      refine y_c3 (n := 900) C0 (by decide) dX5_truth_8 (fun v_16 e_17 => ?_)
      refine y_icmp_ge (tgt := 48) C0 dX5_truth_11 (by decide) (fun c_18 => ?_) (fun c_18 => ?_)
      · -- 11
        have hz_19 : (aF 77 ws_8) = lpS (fun s => wI T 21 s = 1) (fun s => bothL T (unitD T 6) (advS T s)) (900 - x2_7.toInt).toNat (aF 77 ws_8) := by first | (exfalso; omega) | exact (lp_0 (by omega)).symm | exact (lp_e (by omega)).symm
        rw [hQ]
        exact y_vret C0 h (Fr.tr u_2 hF_9) (Eq.trans rfl (Eq.trans hz_19 hSp)) dX5_truth_48
      · -- 11
        refine lv_aload_n C0.1 C0.2.1 dX5_truth_14 rfl (lv_at hl 1 rfl) ?_
        refine va_ldcS C0.1 C0.2.1 C0.2.2.2.1 (sr_21 hZ) dX5_truth_15 ?_
        refine y_ci h (y_rV (As := [.ref (Z.2.1 21)]) (rest := []) C0 hZ h (c_X5_isWordS l G Z ad _ h.2 21 (by decide) ((Tp.fr (M := [2, 3, 16]) hTp (Fr.tr u_2 hF_9) kSC_78 (by decide)))) k_X5_isWord q_724 q_5 q_722 kSC_77 rfl rfl rfl hl.1 rfl rfl (Nat.le_of_ble_eq_true rfl) dX5_truth_17 ⟨Nat.le_of_ble_eq_true rfl, Nat.le_of_ble_eq_true rfl⟩ ⟨Nat.le_of_ble_eq_true rfl, Nat.le_of_ble_eq_true rfl⟩) (fun r_23 H locs ws_20 h u_21 p_22 => ?_)
        obtain ⟨e_24, e_25, e_26⟩ := p_22
        refine y_if_eq (tgt := 48) C0 dX5_truth_20 (by decide) (fun c_27 => ?_) (fun c_27 => ?_)
        · -- 20
          have hq_28 := e_26
          have hs_29 : aF 77 ws_20 = (aF 77 ws_8) := (aF_fr u_21 kSC_77 (by decide))
          have hz_30 : (aF 77 ws_8) = lpS (fun s => wI T 21 s = 1) (fun s => bothL T (unitD T 6) (advS T s)) (900 - x2_7.toInt).toNat (aF 77 ws_8) := by first | (exfalso; omega) | exact (lp_0 (by omega)).symm | exact (lp_e (by omega)).symm
          rw [hQ]
          exact y_vret C0 h (Fr.tr (Fr.tr u_2 hF_9) (Fr.mono u_21 (by decide))) (Eq.trans hs_29 (Eq.trans hz_30 hSp)) dX5_truth_48
        · -- 20
          refine lv_aload_n C0.1 C0.2.1 dX5_truth_23 rfl (lv_at hl 1 rfl) ?_
          refine y_cv h (y_rV (As := []) (rest := []) C0 hZ h (c_X5_advanceS l G Z ad _ h.2 ((Tp.fr (M := [2, 3, 16]) hTp (Fr.tr (Fr.tr u_2 hF_9) (Fr.mono u_21 (by decide))) kSC_78 (by decide)))) k_X5_advance q_616 q_0 q_614 kSC_77 rfl rfl rfl hl.1 rfl rfl (Nat.le_of_ble_eq_true rfl) dX5_truth_24 ⟨Nat.le_of_ble_eq_true rfl, Nat.le_of_ble_eq_true rfl⟩ ⟨Nat.le_of_ble_eq_true rfl, Nat.le_of_ble_eq_true rfl⟩) (fun H locs ws_31 h u_32 p_33 => ?_)
          have e_34 := p_33
          refine lv_aload_n C0.1 C0.2.1 dX5_truth_27 rfl (lv_at hl 1 rfl) ?_
          refine lv_iload_n C0.1 C0.2.1 dX5_truth_28 rfl (lv_at hl 2 rfl) ?_
          refine y_cv h (y_rV (As := [.int a1]) (rest := []) C0 hZ h (c_X5_both_0S l G Z ad _ h.2 a1 (o62_17 l1 u1) (o62_110 l1 u1) ((Tp.fr (M := [2, 3, 16]) hTp (Fr.tr (Fr.tr (Fr.tr u_2 hF_9) (Fr.mono u_21 (by decide))) (Fr.mono u_32 (by decide))) kSC_78 (by decide)))) k_X5_both q_847 q_20 q_845 kSC_77 rfl rfl rfl hl.1 rfl rfl (Nat.le_of_ble_eq_true rfl) dX5_truth_29 ⟨Nat.le_of_ble_eq_true rfl, Nat.le_of_ble_eq_true rfl⟩ ⟨Nat.le_of_ble_eq_true rfl, Nat.le_of_ble_eq_true rfl⟩) (fun H locs ws_35 h u_36 p_37 => ?_)
          have e_38 := p_37
          refine lv_aload_n C0.1 C0.2.1 dX5_truth_32 rfl (lv_at hl 1 rfl) ?_
          refine tg_X5_law C0 h kSC_77 q_380 dX5_truth_33 (fun i_39 hi_39 => ?_)
          refine y_c3 (n := 2007) C0 (by decide) dX5_truth_36 (fun v_40 e_41 => ?_)
          refine y_cv h (y_rV (As := [.int v_40]) (rest := []) C0 hZ h (c_X4_add l G Z ad _ h.2 i_39 hi_39 v_40) k_X4_add q_827 q_828 q_826 hi_39 rfl rfl rfl hl.1 rfl rfl (Nat.le_of_ble_eq_true rfl) dX5_truth_39 ⟨Nat.le_of_ble_eq_true rfl, Nat.le_of_ble_eq_true rfl⟩ ⟨Nat.le_of_ble_eq_true rfl, Nat.le_of_ble_eq_true rfl⟩) (fun H locs ws_42 h u_43 p_44 => ?_)
          refine y_inc (kp := 0) (n := 1) (fun v_45 => [(2, .int v_45), (0, .ref (ad 77)), (1, .int a1)]) C0 hl rfl (by decide) (by decide) (fun _ => rfl) (o62_53 b_14 b_15 hn_13 e_17 c_18 (le_min x2_7) (le_max x2_7) (le_min v_16) (le_max v_16)) (o62_54 b_14 b_15 hn_13 e_17 c_18 (le_min x2_7) (le_max x2_7) (le_min v_16) (le_max v_16)) dX5_truth_42 (fun v_45 ls e_46 hl => ?_)
          refine lv_goto (tgt := 7) C0.1 C0.2.1 dX5_truth_45 (by decide) ?_
          have hq_47 := e_26
          have hs_48 : aF 77 ws_20 = (aF 77 ws_8) := (aF_fr u_21 kSC_77 (by decide))
          have hs_49 : aF 77 ws_31 = (advS T (aF 77 ws_8)) := e_34.trans (congrArg (fun s => advS T s) hs_48)
          have hs_50 : aF 77 ws_35 = (bothL T (unitD T 6) (advS T (aF 77 ws_8))) := e_38.trans (congrArg (fun s => bothL T (unitD T 6) s) hs_49)
          have hs_51 : aF 77 ws_42 = (bothL T (unitD T 6) (advS T (aF 77 ws_8))) := (aF_fr u_43 kSC_77 (by decide)).trans hs_50
          exact ih_11 v_45 _ _ _ _ (o62_55 b_14 b_15 hn_13 e_17 c_18 e_46) (o62_56 b_14 b_15 hn_13 e_17 c_18 e_46) (o62_57 b_14 b_15 hn_13 e_17 c_18 e_46) ((by rw [hs_51]; exact (lp_s (by omega) (by omega) (by omega) (by omega)).trans hSp)) h (Fr.tr (Fr.tr (Fr.tr (Fr.tr hF_9 (Fr.mono u_21 (by decide))) (Fr.mono u_32 (by decide))) u_36) (Fr.mono u_43 (by decide))) (lv_sub hl [0, 1, 2] rfl)
  have hs_52 : aF 77 ws_1 = (bothL T (unitD T 6) (aF 77 ws0)) := e_4
  exact lp_10 ((900 - v_5.toInt + 1).toNat) v_5 _ _ _ _ (o62_58 e_6) (o62_59 e_6) (o62_60 e_6) ((by rw [show (900 - v_5.toInt).toNat = 900 by omega, hs_52]; rfl)) h Fr.rf (lv_sub hl [0, 1, 2] rfl)
