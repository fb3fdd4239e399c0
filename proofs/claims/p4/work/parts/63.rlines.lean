variable {tt : QQ}
/-! lines -/
def stlS (s : Nat → Int) : Nat → Int := if s 7 < 5 then upI s 7 (s 7 + 1) else s
def hdS (T : Nat → Int) (s : Nat → Int) : Nat → Int := if wI T 5 s = 1 ∨ wI T 6 s = 1 ∨ wI T 7 s = 1 ∨ wI T 8 s = 1 then advS T s else failS 2 s
def crS (T : Nat → Int) (W H : Int) (s : Nat → Int) : Nat → Int := if W ≤ 0 then failS 2 s else bndS T 0 (H - 1) (bndS T 0 (W - 1) (advS T s))
def ctS (T : Nat → Int) (W : Int) (s : Nat → Int) : Nat → Int := if 0 < W then failS 2 s else bndS T 2 5 (bndS T 2 5 (advS T s))
def ctC (T : Nat → Int) (s c : Nat → Int) : Nat → Int := if 0 < c 5 then c else upI (upI c 5 (bndV 2 5 (advS T s))) 6 (bndV 2 5 (bndS T 2 5 (advS T s)))
def optS (T : Nat → Int) (k : Nat) (hi : Int) (s : Nat → Int) : Nat → Int := if wI T k s = 1 then bndS T 0 hi (advS T s) else s
def prS (T : Nat → Int) (W H P : Int) (s : Nat → Int) : Nat → Int := if 0 < W ∧ 5 ≤ P then failS 4 s else optS T 10 999 (optS T 9 99 (hdS T (crS T W H s)))
def prF (W : Int) (f : Nat → Int) : Nat → Int := if 0 < W ∧ 5 ≤ f 7 then f else stlS f
def bgS (T : Nat → Int) (s : Nat → Int) : Nat → Int := signS T 58 (advS T s)
def lineS (T : Nat → Int) (W H P : Int) (s : Nat → Int) : Nat → Int :=
  if wI T 1 s = 1 then ctS T W s
  else if wI T 2 s = 1 then bndS T 0 3 (crS T W H s)
  else if wI T 3 s = 1 then crS T W H s
  else if wI T 4 s = 1 then prS T W H P s
  else if wI T 11 s = 1 then sumL T (atomD T 6) (bgS T s)
  else if wI T 18 s = 1 then truthL T (unitD T 6) (bgS T s)
  else if wI T 14 s = 1 then bndS T 0 999 (advS T s)
  else failS 2 s
def lineC (T : Nat → Int) (s c : Nat → Int) : Nat → Int := if wI T 1 s = 1 then ctC T s c else c
def lineF (T : Nat → Int) (W : Int) (s f : Nat → Int) : Nat → Int := if wI T 1 s = 1 then f else if wI T 2 s = 1 then f else if wI T 3 s = 1 then f else if wI T 4 s = 1 then prF W f else f
theorem o63_1 {x0 x1 x2 : Int} (h0 : 0 ≤ x1) (h1 : x1 ≤ 5) (h2 : x2 = 5) (h3 : x1 < x2) (h4 : 0 ≤ x0) (h5 : x0 ≤ 5) (h6 : x0 = x1) : 0 ≤ x0 := by omega
theorem o63_2 {x0 x1 x2 : Int} (h0 : 0 ≤ x1) (h1 : x1 ≤ 5) (h2 : x2 = 5) (h3 : x1 < x2) (h4 : 0 ≤ x0) (h5 : x0 ≤ 5) (h6 : x0 = x1) : x0 < (5 : Nat) := by omega
theorem o63_3 {x0 : Int} (h0 : 0 ≤ x0) (h1 : x0 ≤ 24) : 0 ≤ x0 := by omega
theorem o63_4 {x0 : Int} (h0 : 0 ≤ x0) (h1 : x0 ≤ 24) : x0 ≤ 24 := by omega
theorem o63_5 {x0 x1 x2 x3 : Int} (h0 : 0 ≤ x1) (h1 : x1 ≤ 5) (h2 : x2 = 5) (h3 : x1 < x2) (h4 : 0 ≤ x3) (h5 : x3 ≤ 5) (h6 : x3 = x1) (h7 : 0 ≤ x0) (h8 : x0 ≤ 5) (h9 : x0 = x1) : 0 ≤ x0 := by omega
theorem o63_6 {x0 x1 x2 x3 : Int} (h0 : 0 ≤ x1) (h1 : x1 ≤ 5) (h2 : x2 = 5) (h3 : x1 < x2) (h4 : 0 ≤ x3) (h5 : x3 ≤ 5) (h6 : x3 = x1) (h7 : 0 ≤ x0) (h8 : x0 ≤ 5) (h9 : x0 = x1) : x0 < (5 : Nat) := by omega
theorem o63_7 {x0 : Int} (h0 : 0 ≤ x0) (h1 : x0 ≤ 3) : 0 ≤ x0 := by omega
theorem o63_8 {x0 : Int} (h0 : 0 ≤ x0) (h1 : x0 ≤ 3) : x0 ≤ 3 := by omega
theorem o63_9 {x0 x1 x2 x3 x4 : Int} (h0 : 0 ≤ x1) (h1 : x1 ≤ 5) (h2 : x2 = 5) (h3 : x1 < x2) (h4 : 0 ≤ x3) (h5 : x3 ≤ 5) (h6 : x3 = x1) (h7 : 0 ≤ x4) (h8 : x4 ≤ 5) (h9 : x4 = x1) (h10 : 0 ≤ x0) (h11 : x0 ≤ 5) (h12 : x0 = x1) : 0 ≤ x0 := by omega
theorem o63_10 {x0 x1 x2 x3 x4 : Int} (h0 : 0 ≤ x1) (h1 : x1 ≤ 5) (h2 : x2 = 5) (h3 : x1 < x2) (h4 : 0 ≤ x3) (h5 : x3 ≤ 5) (h6 : x3 = x1) (h7 : 0 ≤ x4) (h8 : x4 ≤ 5) (h9 : x4 = x1) (h10 : 0 ≤ x0) (h11 : x0 ≤ 5) (h12 : x0 = x1) : x0 < (5 : Nat) := by omega
theorem o63_11 {x0 x1 x2 x3 x4 x5 : Int} (h0 : 0 ≤ x1) (h1 : x1 ≤ 5) (h2 : x2 = 5) (h3 : x1 < x2) (h4 : 0 ≤ x3) (h5 : x3 ≤ 5) (h6 : x3 = x1) (h7 : 0 ≤ x4) (h8 : x4 ≤ 5) (h9 : x4 = x1) (h10 : 0 ≤ x5) (h11 : x5 ≤ 5) (h12 : x5 = x1) (h13 : 0 ≤ x0) (h14 : x0 ≤ 5) (h15 : x0 = x1) : 0 ≤ x0 := by omega
theorem o63_12 {x0 x1 x2 x3 x4 x5 : Int} (h0 : 0 ≤ x1) (h1 : x1 ≤ 5) (h2 : x2 = 5) (h3 : x1 < x2) (h4 : 0 ≤ x3) (h5 : x3 ≤ 5) (h6 : x3 = x1) (h7 : 0 ≤ x4) (h8 : x4 ≤ 5) (h9 : x4 = x1) (h10 : 0 ≤ x5) (h11 : x5 ≤ 5) (h12 : x5 = x1) (h13 : 0 ≤ x0) (h14 : x0 ≤ 5) (h15 : x0 = x1) : x0 < (5 : Nat) := by omega
theorem o63_13 {x0 x1 x2 x3 x4 x5 x6 x7 : Int} (h0 : 0 ≤ x2) (h1 : x2 ≤ 5) (h2 : x3 = 5) (h3 : x2 < x3) (h4 : 0 ≤ x4) (h5 : x4 ≤ 5) (h6 : x4 = x2) (h7 : 0 ≤ x5) (h8 : x5 ≤ 5) (h9 : x5 = x2) (h10 : 0 ≤ x6) (h11 : x6 ≤ 5) (h12 : x6 = x2) (h13 : 0 ≤ x7) (h14 : x7 ≤ 5) (h15 : x7 = x2) (h16 : 0 ≤ x0) (h17 : x0 ≤ 5) (h18 : x0 = x2) (h19 : x1 = 1) (h20 : -2147483648 ≤ x0) (h21 : x0 ≤ 2147483647) (h22 : -2147483648 ≤ x1) (h23 : x1 ≤ 2147483647) (h24 : -2147483648 ≤ x2) (h25 : x2 ≤ 2147483647) (h26 : -2147483648 ≤ x3) (h27 : x3 ≤ 2147483647) (h28 : -2147483648 ≤ x4) (h29 : x4 ≤ 2147483647) (h30 : -2147483648 ≤ x5) (h31 : x5 ≤ 2147483647) (h32 : -2147483648 ≤ x6) (h33 : x6 ≤ 2147483647) (h34 : -2147483648 ≤ x7) (h35 : x7 ≤ 2147483647) : -2147483648 ≤ x0 + x1 := by omega
theorem o63_14 {x0 x1 x2 x3 x4 x5 x6 x7 : Int} (h0 : 0 ≤ x2) (h1 : x2 ≤ 5) (h2 : x3 = 5) (h3 : x2 < x3) (h4 : 0 ≤ x4) (h5 : x4 ≤ 5) (h6 : x4 = x2) (h7 : 0 ≤ x5) (h8 : x5 ≤ 5) (h9 : x5 = x2) (h10 : 0 ≤ x6) (h11 : x6 ≤ 5) (h12 : x6 = x2) (h13 : 0 ≤ x7) (h14 : x7 ≤ 5) (h15 : x7 = x2) (h16 : 0 ≤ x0) (h17 : x0 ≤ 5) (h18 : x0 = x2) (h19 : x1 = 1) (h20 : -2147483648 ≤ x0) (h21 : x0 ≤ 2147483647) (h22 : -2147483648 ≤ x1) (h23 : x1 ≤ 2147483647) (h24 : -2147483648 ≤ x2) (h25 : x2 ≤ 2147483647) (h26 : -2147483648 ≤ x3) (h27 : x3 ≤ 2147483647) (h28 : -2147483648 ≤ x4) (h29 : x4 ≤ 2147483647) (h30 : -2147483648 ≤ x5) (h31 : x5 ≤ 2147483647) (h32 : -2147483648 ≤ x6) (h33 : x6 ≤ 2147483647) (h34 : -2147483648 ≤ x7) (h35 : x7 ≤ 2147483647) : x0 + x1 ≤ 2147483647 := by omega
theorem o63_15 {x0 x1 x2 x3 x4 x5 x6 x7 x8 : Int} (h0 : 0 ≤ x1) (h1 : x1 ≤ 5) (h2 : x2 = 5) (h3 : x1 < x2) (h4 : 0 ≤ x3) (h5 : x3 ≤ 5) (h6 : x3 = x1) (h7 : 0 ≤ x4) (h8 : x4 ≤ 5) (h9 : x4 = x1) (h10 : 0 ≤ x5) (h11 : x5 ≤ 5) (h12 : x5 = x1) (h13 : 0 ≤ x6) (h14 : x6 ≤ 5) (h15 : x6 = x1) (h16 : 0 ≤ x7) (h17 : x7 ≤ 5) (h18 : x7 = x1) (h19 : x8 = 1) (h20 : x0 = x7 + x8) : 0 ≤ x0 := by omega
theorem o63_16 {x0 x1 x2 x3 x4 x5 x6 x7 x8 : Int} (h0 : 0 ≤ x1) (h1 : x1 ≤ 5) (h2 : x2 = 5) (h3 : x1 < x2) (h4 : 0 ≤ x3) (h5 : x3 ≤ 5) (h6 : x3 = x1) (h7 : 0 ≤ x4) (h8 : x4 ≤ 5) (h9 : x4 = x1) (h10 : 0 ≤ x5) (h11 : x5 ≤ 5) (h12 : x5 = x1) (h13 : 0 ≤ x6) (h14 : x6 ≤ 5) (h15 : x6 = x1) (h16 : 0 ≤ x7) (h17 : x7 ≤ 5) (h18 : x7 = x1) (h19 : x8 = 1) (h20 : x0 = x7 + x8) : x0 ≤ 5 := by omega
theorem o63_17 {x0 : Int} (h0 : x0 = 0) : 0 ≤ x0 := by omega
theorem o63_18 {x0 : Int} (h0 : x0 = 0) : x0 ≤ 0 := by omega
theorem o63_19 {x0 : Int} (h0 : x0 = 0) : x0 ≤ 5 := by omega
theorem o63_20 {x0 : Int} (h0 : x0 = 0) : x0 = 0 := by omega
theorem o63_21 {x0 : Int} (h0 : 2 ≤ x0) (h1 : x0 ≤ 5) : 0 ≤ x0 := by omega
theorem o63_22 {x0 : Int} (h0 : 2 ≤ x0) (h1 : x0 ≤ 5) : x0 ≤ 5 := by omega
theorem o63_23 {x0 x1 : Int} (h0 : 2 ≤ x1) (h1 : x1 ≤ 5) (h2 : 0 ≤ x0) (h3 : x0 ≤ 5) (h4 : x0 ≤ x1) (h5 : 5 - x0 < 0) : False := by omega
theorem o63_24 {x0 : Int} (h0 : x0 = 0) : x0 < (4 : Nat) := by omega
theorem o63_25 {x0 : Int} (h0 : x0 = 1) : 0 ≤ x0 := by omega
theorem o63_26 {x0 : Int} (h0 : x0 = 1) : x0 < (4 : Nat) := by omega
theorem o63_27 {x0 : Int} (h0 : x0 = 2) : 0 ≤ x0 := by omega
theorem o63_28 {x0 : Int} (h0 : x0 = 2) : x0 < (4 : Nat) := by omega
theorem o63_29 {x0 : Int} (h0 : x0 = 3) : 0 ≤ x0 := by omega
theorem o63_30 {x0 : Int} (h0 : x0 = 3) : x0 < (4 : Nat) := by omega
theorem o63_31 {x0 : Int} (h0 : 2 ≤ x0) (h1 : x0 ≤ 5) (h2 : -2147483648 ≤ x0) (h3 : x0 ≤ 2147483647) : -2147483648 < x0 := by omega
theorem o63_32 {x0 x1 : Int} (h0 : 2 ≤ x1) (h1 : x1 ≤ 5) (h2 : x0 = -x1) : (-5) ≤ x0 := by omega
theorem o63_33 {x0 x1 : Int} (h0 : 2 ≤ x1) (h1 : x1 ≤ 5) (h2 : x0 = -x1) : x0 ≤ 5 := by omega
theorem o63_34 {x0 : Int} (h0 : x0 = 1) : (-5) ≤ x0 := by omega
theorem o63_35 {x0 : Int} (h0 : x0 = 1) : x0 ≤ 5 := by omega
theorem o63_36 {x0 x1 : Int} (h0 : 2 ≤ x0) (h1 : x0 ≤ 5) (h2 : x1 = -x0) : (-5) ≤ x0 := by omega
theorem o63_37 {x0 x1 : Int} (h0 : 2 ≤ x0) (h1 : x0 ≤ 5) (h2 : x1 = -x0) : x0 ≤ 5 := by omega
theorem o63_38 {x0 : Int} (h0 : x0 = (-1)) : (-5) ≤ x0 := by omega
theorem o63_39 {x0 : Int} (h0 : x0 = (-1)) : x0 ≤ 5 := by omega
theorem o63_40 {x0 x1 : Int} {x2 : Nat} (h0 : 2 ≤ x1) (h1 : x1 ≤ 5) (h2 : 0 ≤ x0) (h3 : x0 ≤ 5) (h4 : x0 ≤ x1) (h5 : 5 - x0 < ((x2 + 1 : Nat) : Int)) (h6 : x1 ≤ x0) : x0 = x1 := by omega
theorem o63_41 {x0 x1 : Int} (h0 : 2 ≤ x1) (h1 : x1 ≤ 5) (h2 : x0 = -x1) : x0 = -x1 := by omega
theorem o63_42 {x0 x1 : Int} (h0 : 2 ≤ x0) (h1 : x0 ≤ 5) (h2 : x1 = -x0) (h3 : -2147483648 ≤ x0) (h4 : x0 ≤ 2147483647) (h5 : -2147483648 ≤ x1) (h6 : x1 ≤ 2147483647) : -2147483648 < x0 := by omega
theorem o63_43 {x0 x1 : Int} {x2 : Nat} (h0 : 2 ≤ x1) (h1 : x1 ≤ 5) (h2 : 0 ≤ x0) (h3 : x0 ≤ 5) (h4 : x0 ≤ x1) (h5 : 5 - x0 < ((x2 + 1 : Nat) : Int)) (h6 : x0 < x1) (h7 : -2147483648 ≤ x0) (h8 : x0 ≤ 2147483647) (h9 : -2147483648 ≤ x1) (h10 : x1 ≤ 2147483647) : -2147483648 ≤ x0 + 1 := by omega
theorem o63_44 {x0 x1 : Int} {x2 : Nat} (h0 : 2 ≤ x1) (h1 : x1 ≤ 5) (h2 : 0 ≤ x0) (h3 : x0 ≤ 5) (h4 : x0 ≤ x1) (h5 : 5 - x0 < ((x2 + 1 : Nat) : Int)) (h6 : x0 < x1) (h7 : -2147483648 ≤ x0) (h8 : x0 ≤ 2147483647) (h9 : -2147483648 ≤ x1) (h10 : x1 ≤ 2147483647) : x0 + 1 ≤ 2147483647 := by omega
theorem o63_45 {x0 x2 x3 : Int} {x1 : Nat} (h0 : 2 ≤ x2) (h1 : x2 ≤ 5) (h2 : 0 ≤ x3) (h3 : x3 ≤ 5) (h4 : x3 ≤ x2) (h5 : 5 - x3 < ((x1 + 1 : Nat) : Int)) (h6 : x3 < x2) (h7 : x0 = x3 + 1) : 5 - x0 < (x1 : Int) := by omega
theorem o63_46 {x0 x1 x2 : Int} {x3 : Nat} (h0 : 2 ≤ x1) (h1 : x1 ≤ 5) (h2 : 0 ≤ x2) (h3 : x2 ≤ 5) (h4 : x2 ≤ x1) (h5 : 5 - x2 < ((x3 + 1 : Nat) : Int)) (h6 : x2 < x1) (h7 : x0 = x2 + 1) : 0 ≤ x0 := by omega
theorem o63_47 {x0 x1 x2 : Int} {x3 : Nat} (h0 : 2 ≤ x1) (h1 : x1 ≤ 5) (h2 : 0 ≤ x2) (h3 : x2 ≤ 5) (h4 : x2 ≤ x1) (h5 : 5 - x2 < ((x3 + 1 : Nat) : Int)) (h6 : x2 < x1) (h7 : x0 = x2 + 1) : x0 ≤ 5 := by omega
theorem o63_48 {x0 x1 x2 : Int} {x3 : Nat} (h0 : 2 ≤ x1) (h1 : x1 ≤ 5) (h2 : 0 ≤ x2) (h3 : x2 ≤ 5) (h4 : x2 ≤ x1) (h5 : 5 - x2 < ((x3 + 1 : Nat) : Int)) (h6 : x2 < x1) (h7 : x0 = x2 + 1) : x0 ≤ x1 := by omega
theorem o63_49 {x0 x1 x3 : Int} {x2 : Nat} (h0 : 2 ≤ x1) (h1 : x1 ≤ 5) (h2 : 0 ≤ x0) (h3 : x0 ≤ 5) (h4 : x0 ≤ x1) (h5 : 5 - x0 < ((x2 + 1 : Nat) : Int)) (h6 : x0 < x1) (h7 : x3 = x0 + 1) : 0 ≤ x0 := by omega
theorem o63_50 {x0 : Int} (h0 : x0 = 0) : 5 - x0 < (((5 - x0 + 1).toNat : Nat) : Int) := by omega
theorem o63_51 {x0 x1 : Int} (h0 : 2 ≤ x1) (h1 : x1 ≤ 5) (h2 : x0 = 0) : x0 ≤ x1 := by omega
theorem o63_52 {x0 : Int} (h0 : x0 = (-1)) (h1 : 0 ≤ x0) : False := by omega
theorem o63_53 {x0 : Int} (h0 : x0 = 0) : x0 ≤ 3 := by omega
theorem o63_54 {x0 : Int} (h0 : x0 = 2) : x0 = 2 := by omega
theorem o63_55 {x0 : Int} (h0 : x0 = 3) (h1 : x0 < 0) : False := by omega
theorem o63_56 {x0 : Int} (h0 : x0 = 3) (h1 : 0 ≤ x0) : 0 ≤ x0 := by omega
theorem o63_57 {x0 : Int} (h0 : x0 = 3) (h1 : 0 ≤ x0) : x0 ≤ 3 := by omega
theorem o63_58 {x0 : Int} (h0 : x0 = 2) (h1 : x0 < 0) : False := by omega
theorem o63_59 {x0 : Int} (h0 : x0 = 2) (h1 : 0 ≤ x0) : 0 ≤ x0 := by omega
theorem o63_60 {x0 : Int} (h0 : x0 = 2) (h1 : 0 ≤ x0) : x0 ≤ 3 := by omega
theorem o63_61 {x0 : Int} (h0 : x0 = 1) (h1 : x0 < 0) : False := by omega
theorem o63_62 {x0 : Int} (h0 : x0 = 1) (h1 : 0 ≤ x0) : 0 ≤ x0 := by omega
theorem o63_63 {x0 : Int} (h0 : x0 = 1) (h1 : 0 ≤ x0) : x0 ≤ 3 := by omega
theorem o63_64 {x0 : Int} (h0 : x0 = 0) (h1 : x0 < 0) : False := by omega
theorem o63_65 {x0 : Int} (h0 : x0 = 0) (h1 : 0 ≤ x0) : 0 ≤ x0 := by omega
theorem o63_66 {x0 : Int} (h0 : x0 = 0) (h1 : 0 ≤ x0) : x0 ≤ 3 := by omega
theorem o63_67 {x0 x1 x2 : Int} (h0 : 0 ≤ x2) (h1 : x2 ≤ 5) (h2 : 0 < x2) (h3 : 0 ≤ x0) (h4 : x0 ≤ 5) (h5 : x0 = x2) (h6 : x1 = 1) (h7 : -2147483648 ≤ x0) (h8 : x0 ≤ 2147483647) (h9 : -2147483648 ≤ x1) (h10 : x1 ≤ 2147483647) (h11 : -2147483648 ≤ x2) (h12 : x2 ≤ 2147483647) : -2147483648 ≤ x0 - x1 := by omega
theorem o63_68 {x0 x1 x2 : Int} (h0 : 0 ≤ x2) (h1 : x2 ≤ 5) (h2 : 0 < x2) (h3 : 0 ≤ x0) (h4 : x0 ≤ 5) (h5 : x0 = x2) (h6 : x1 = 1) (h7 : -2147483648 ≤ x0) (h8 : x0 ≤ 2147483647) (h9 : -2147483648 ≤ x1) (h10 : x1 ≤ 2147483647) (h11 : -2147483648 ≤ x2) (h12 : x2 ≤ 2147483647) : x0 - x1 ≤ 2147483647 := by omega
theorem o63_69 {x0 x1 x2 x3 : Int} (h0 : 0 ≤ x1) (h1 : x1 ≤ 5) (h2 : 0 < x1) (h3 : 0 ≤ x2) (h4 : x2 ≤ 5) (h5 : x2 = x1) (h6 : x3 = 1) (h7 : x0 = x2 - x3) : (-1) ≤ x0 := by omega
theorem o63_70 {x0 x1 x2 x3 : Int} (h0 : 0 ≤ x1) (h1 : x1 ≤ 5) (h2 : 0 < x1) (h3 : 0 ≤ x2) (h4 : x2 ≤ 5) (h5 : x2 = x1) (h6 : x3 = 1) (h7 : x0 = x2 - x3) : x0 ≤ 4 := by omega
theorem o63_71 {x0 x1 : Int} (h0 : 0 ≤ x0) (h1 : x0 ≤ 5) (h2 : x1 = 1) (h3 : -2147483648 ≤ x0) (h4 : x0 ≤ 2147483647) (h5 : -2147483648 ≤ x1) (h6 : x1 ≤ 2147483647) : -2147483648 ≤ x0 - x1 := by omega
theorem o63_72 {x0 x1 : Int} (h0 : 0 ≤ x0) (h1 : x0 ≤ 5) (h2 : x1 = 1) (h3 : -2147483648 ≤ x0) (h4 : x0 ≤ 2147483647) (h5 : -2147483648 ≤ x1) (h6 : x1 ≤ 2147483647) : x0 - x1 ≤ 2147483647 := by omega
theorem o63_73 {x0 x1 x2 : Int} (h0 : 0 ≤ x1) (h1 : x1 ≤ 5) (h2 : x2 = 1) (h3 : x0 = x1 - x2) : (-1) ≤ x0 := by omega
theorem o63_74 {x0 x1 x2 : Int} (h0 : 0 ≤ x1) (h1 : x1 ≤ 5) (h2 : x2 = 1) (h3 : x0 = x1 - x2) : x0 ≤ 4 := by omega
theorem o63_75 {x0 x1 x2 x3 x4 : Int} (h0 : 0 ≤ x1) (h1 : x1 ≤ 5) (h2 : 0 < x1) (h3 : 0 ≤ x2) (h4 : x2 ≤ 5) (h5 : x2 = x1) (h6 : x3 = 1) (h7 : x4 = x2 - x3) (h8 : 0 ≤ x0) (h9 : x0 ≤ 5) (h10 : x0 = x1) : 1 ≤ x0 := by omega
theorem o63_76 {x0 x1 x2 x3 x4 : Int} (h0 : 0 ≤ x1) (h1 : x1 ≤ 5) (h2 : 0 < x1) (h3 : 0 ≤ x2) (h4 : x2 ≤ 5) (h5 : x2 = x1) (h6 : x3 = 1) (h7 : x4 = x2 - x3) (h8 : 0 ≤ x0) (h9 : x0 ≤ 5) (h10 : x0 = x1) : x0 ≤ 5 := by omega
theorem o63_77 {x0 : Int} (h0 : 0 ≤ x0) (h1 : x0 ≤ 4) : 0 ≤ x0 := by omega
theorem o63_78 {x0 : Int} (h0 : 0 ≤ x0) (h1 : x0 ≤ 4) : x0 ≤ 4 := by omega
theorem o63_79 {x0 x1 : Int} (h0 : 0 ≤ x1) (h1 : x1 ≤ 4) (h2 : 1 * 0 ≤ x0) (h3 : x0 ≤ 5 * 4) (h4 : -2147483648 ≤ x0) (h5 : x0 ≤ 2147483647) (h6 : -2147483648 ≤ x1) (h7 : x1 ≤ 2147483647) : -2147483648 ≤ x0 + x1 := by omega
theorem o63_80 {x0 x1 : Int} (h0 : 0 ≤ x1) (h1 : x1 ≤ 4) (h2 : 1 * 0 ≤ x0) (h3 : x0 ≤ 5 * 4) (h4 : -2147483648 ≤ x0) (h5 : x0 ≤ 2147483647) (h6 : -2147483648 ≤ x1) (h7 : x1 ≤ 2147483647) : x0 + x1 ≤ 2147483647 := by omega
theorem o63_81 {x0 x1 x2 : Int} (h0 : 0 ≤ x1) (h1 : x1 ≤ 4) (h2 : 1 * 0 ≤ x2) (h3 : x2 ≤ 5 * 4) (h4 : x0 = x2 + x1) : 0 ≤ x0 := by omega
theorem o63_82 {x0 x1 x2 : Int} (h0 : 0 ≤ x1) (h1 : x1 ≤ 4) (h2 : 1 * 0 ≤ x2) (h3 : x2 ≤ 5 * 4) (h4 : x0 = x2 + x1) : x0 ≤ 24 := by omega
theorem o63_83 {x0 : Int} (h0 : x0 = 0) : x0 ≤ 24 := by omega
theorem o63_84 {x0 : Int} (h0 : x0 = 58) : 0 ≤ x0 := by omega
theorem o63_85 {x0 : Int} (h0 : x0 = 58) : x0 ≤ 65535 := by omega
theorem o63_86 {x0 : Int} (h0 : x0 = 58) : x0 = 58 := by omega
theorem o63_87 {x0 : Int} (h0 : x0 = 2) : 2 ≤ x0 := by omega
theorem o63_88 {x0 : Int} (h0 : x0 = 2) : x0 ≤ 2 := by omega
theorem o63_89 {x0 : Int} (h0 : x0 = 5) : 5 ≤ x0 := by omega
theorem o63_90 {x0 : Int} (h0 : x0 = 5) : x0 ≤ 5 := by omega
theorem o63_91 {x0 : Int} (h0 : 2 ≤ x0) (h1 : x0 ≤ 5) : 2 ≤ x0 := by omega
theorem o63_92 {x0 : Int} (h0 : x0 = 5) : x0 = 5 := by omega
theorem o63_93 {x0 : Int} (h0 : x0 = 3) : 3 ≤ x0 := by omega
theorem o63_94 {x0 : Int} (h0 : x0 = 3) : x0 ≤ 3 := by omega
theorem o63_95 {x0 : Int} (h0 : x0 = 3) : x0 = 3 := by omega
theorem o63_96 {x0 : Int} (h0 : x0 = 999) : 999 ≤ x0 := by omega
theorem o63_97 {x0 : Int} (h0 : x0 = 999) : x0 ≤ 999 := by omega
theorem o63_98 {x0 : Int} (h0 : x0 = 999) : x0 = 999 := by omega
theorem o63_99 {x0 : Int} (h0 : x0 = 99) : 99 ≤ x0 := by omega
theorem o63_100 {x0 : Int} (h0 : x0 = 99) : x0 ≤ 99 := by omega
theorem o63_101 {x0 : Int} (h0 : x0 = 99) : x0 = 99 := by omega
theorem o63_102 {x0 : Int} (h0 : x0 = 4) : x0 = 4 := by omega
set_option maxHeartbeats 4000000 in
set_option maxRecDepth 100000 in
theorem c_X1_settleS (l : Launch) (G : GG) (Z : RZ) (ad : Nat → Nat) (ws0 : va_W) (hT : Ty G (SC tt) ad ws0) (i0 : Nat) (hi0 : Kd (SC tt) i0 6) (a1 : Int32) (a2 : Int32) (a3 : Int32) (a4 : Int32) (l1 : 0 ≤ a1.toInt) (u1 : a1.toInt ≤ 24) (l2 : 0 ≤ a2.toInt) (u2 : a2.toInt ≤ 3) : Mq l yX1_settle cX1_settle 5 none 1 G Z [.ref (ad i0), .int a1, .int a2, .int a3, .int a4] ws0 (PV G (SC tt) ad [6, 7, 8, 9, 10] ws0 (fun u => (aF i0 u = stlS (aF i0 ws0)))) := by
  refine Mq.start (by decide) (Nat.le_of_ble_eq_true rfl) ?_
  intro p e s m below meth c A ls C0 hZ h hl
  have hl : lv_has ls 5 [(0, .ref (ad i0)), (1, .int a1), (2, .int a2), (3, .int a3), (4, .int a4)] := hl
  have h : Wt G (SC tt) ad A s s.heap [] ws0 := ⟨h, hT⟩
  obtain ⟨args, hargs⟩ : ∃ z, z = ([.ref (ad i0), .int a1, .int a2, .int a3, .int a4] : List Value).toArray := ⟨_, rfl⟩
  rw [← hargs] at C0 ⊢
  have C0 : Cx p s m args meth c RX1 cX1_settle 5 none := C0
  obtain ⟨Q, hQ⟩ : ∃ z, z = MQ below ((PV G (SC tt) ad [6, 7, 8, 9, 10] ws0 (fun u => (aF i0 u = stlS (aF i0 ws0)))) A) args s 0 0 A := ⟨_, rfl⟩
  rw [← hQ]
  refine lv_aload_n C0.1 C0.2.1 dX1_settle_0 rfl (lv_at hl 0 rfl) ?_
  refine tg_X1_people C0 h hi0 q_213 dX1_settle_1 (fun v_1 e_2 e_3 e_4 => ?_)
  refine y_c1 (n := 5) C0 (by decide) dX1_settle_4 (fun v_5 e_6 => ?_)
  refine y_icmp_ge (tgt := 59) C0 dX1_settle_5 (by decide) (fun c_7 => ?_) (fun c_7 => ?_)
  · -- 5
    have hv_8 : (aF i0 ws0) 7 = v_1.toInt := (aF_at (by decide) e_2)
    have hz_9 : (aF i0 ws0) = stlS (aF i0 ws0) := by unfold stlS; (repeat' split) <;> first | rfl | (exfalso; omega) | (congr 1 <;> omega) | (congr 2 <;> omega)
    rw [hQ]
    exact y_vret C0 h Fr.rf (Eq.trans rfl hz_9) dX1_settle_59
  · -- 5
    refine lv_aload_n C0.1 C0.2.1 dX1_settle_8 rfl (lv_at hl 0 rfl) ?_
    refine tg_X1_at C0 h hi0 q_190 dX1_settle_9 ?_
    refine lv_aload_n C0.1 C0.2.1 dX1_settle_12 rfl (lv_at hl 0 rfl) ?_
    refine tg_X1_people C0 h hi0 q_213 dX1_settle_13 (fun v_10 e_11 e_12 e_13 => ?_)
    have q_14 : v_10.toInt = v_1.toInt := congrArg Int32.toInt (e_11.symm.trans (Eq.trans rfl e_2))
    refine lv_iload_n C0.1 C0.2.1 dX1_settle_16 rfl (lv_at hl 1 rfl) ?_
    refine y_iast C0 h (rSC_6_1 hi0) rfl (by decide) (o63_1 e_3 e_4 e_6 c_7 e_12 e_13 q_14) (o63_2 e_3 e_4 e_6 c_7 e_12 e_13 q_14) (o63_3 l1 u1) (o63_4 l1 u1) dX1_settle_17 (fun H locs ws_15 h u_16 => ?_)
    refine lv_aload_n C0.1 C0.2.1 dX1_settle_18 rfl (lv_at hl 0 rfl) ?_
    refine tg_X1_heads C0 h hi0 q_193 dX1_settle_19 ?_
    refine lv_aload_n C0.1 C0.2.1 dX1_settle_22 rfl (lv_at hl 0 rfl) ?_
    refine tg_X1_people C0 h hi0 q_213 dX1_settle_23 (fun v_17 e_18 e_19 e_20 => ?_)
    have q_21 : v_17.toInt = v_1.toInt := congrArg Int32.toInt (e_18.symm.trans (Eq.trans (fI_of (u_16.1 i0 (kd_ne hi0 (rSC_6_1 hi0) (by decide)))) e_2))
    refine lv_iload_n C0.1 C0.2.1 dX1_settle_26 rfl (lv_at hl 2 rfl) ?_
    refine y_iast C0 h (rSC_6_2 hi0) rfl (by decide) (o63_5 e_3 e_4 e_6 c_7 e_12 e_13 q_14 e_19 e_20 q_21) (o63_6 e_3 e_4 e_6 c_7 e_12 e_13 q_14 e_19 e_20 q_21) (o63_7 l2 u2) (o63_8 l2 u2) dX1_settle_27 (fun H locs ws_22 h u_23 => ?_)
    refine lv_aload_n C0.1 C0.2.1 dX1_settle_28 rfl (lv_at hl 0 rfl) ?_
    refine tg_X1_lefts C0 h hi0 q_196 dX1_settle_29 ?_
    refine lv_aload_n C0.1 C0.2.1 dX1_settle_32 rfl (lv_at hl 0 rfl) ?_
    refine tg_X1_people C0 h hi0 q_213 dX1_settle_33 (fun v_24 e_25 e_26 e_27 => ?_)
    have q_28 : v_24.toInt = v_1.toInt := congrArg Int32.toInt (e_25.symm.trans (Eq.trans (Eq.trans (fI_of (u_23.1 i0 (kd_ne hi0 (rSC_6_2 hi0) (by decide)))) (fI_of (u_16.1 i0 (kd_ne hi0 (rSC_6_1 hi0) (by decide))))) e_2))
    refine lv_iload_n C0.1 C0.2.1 dX1_settle_36 rfl (lv_at hl 3 rfl) ?_
    refine y_iast C0 h (rSC_6_3 hi0) rfl (by decide) (o63_9 e_3 e_4 e_6 c_7 e_12 e_13 q_14 e_19 e_20 q_21 e_26 e_27 q_28) (o63_10 e_3 e_4 e_6 c_7 e_12 e_13 q_14 e_19 e_20 q_21 e_26 e_27 q_28) (le_min a3) (le_max a3) dX1_settle_37 (fun H locs ws_29 h u_30 => ?_)
    refine lv_aload_n C0.1 C0.2.1 dX1_settle_38 rfl (lv_at hl 0 rfl) ?_
    refine tg_X1_coins C0 h hi0 q_199 dX1_settle_39 ?_
    refine lv_aload_n C0.1 C0.2.1 dX1_settle_42 rfl (lv_at hl 0 rfl) ?_
    refine tg_X1_people C0 h hi0 q_213 dX1_settle_43 (fun v_31 e_32 e_33 e_34 => ?_)
    have q_35 : v_31.toInt = v_1.toInt := congrArg Int32.toInt (e_32.symm.trans (Eq.trans (Eq.trans (fI_of (u_30.1 i0 (kd_ne hi0 (rSC_6_3 hi0) (by decide)))) (Eq.trans (fI_of (u_23.1 i0 (kd_ne hi0 (rSC_6_2 hi0) (by decide)))) (fI_of (u_16.1 i0 (kd_ne hi0 (rSC_6_1 hi0) (by decide)))))) e_2))
    refine lv_iload C0.1 C0.2.1 dX1_settle_46 (lv_at hl 4 rfl) ?_
    refine y_iast C0 h (rSC_6_4 hi0) rfl (by decide) (o63_11 e_3 e_4 e_6 c_7 e_12 e_13 q_14 e_19 e_20 q_21 e_26 e_27 q_28 e_33 e_34 q_35) (o63_12 e_3 e_4 e_6 c_7 e_12 e_13 q_14 e_19 e_20 q_21 e_26 e_27 q_28 e_33 e_34 q_35) (le_min a4) (le_max a4) dX1_settle_48 (fun H locs ws_36 h u_37 => ?_)
    refine lv_aload_n C0.1 C0.2.1 dX1_settle_49 rfl (lv_at hl 0 rfl) ?_
    refine lv_dup C0.1 C0.2.1 dX1_settle_50 rfl ?_
    refine tg_X1_people C0 h hi0 q_213 dX1_settle_51 (fun v_38 e_39 e_40 e_41 => ?_)
    have q_42 : v_38.toInt = v_1.toInt := congrArg Int32.toInt (e_39.symm.trans (Eq.trans (Eq.trans (fI_of (u_37.1 i0 (kd_ne hi0 (rSC_6_4 hi0) (by decide)))) (Eq.trans (fI_of (u_30.1 i0 (kd_ne hi0 (rSC_6_3 hi0) (by decide)))) (Eq.trans (fI_of (u_23.1 i0 (kd_ne hi0 (rSC_6_2 hi0) (by decide)))) (fI_of (u_16.1 i0 (kd_ne hi0 (rSC_6_1 hi0) (by decide))))))) e_2))
    refine y_c1 (n := 1) C0 (by decide) dX1_settle_54 (fun v_43 e_44 => ?_)
    refine y_add C0 (o63_13 e_3 e_4 e_6 c_7 e_12 e_13 q_14 e_19 e_20 q_21 e_26 e_27 q_28 e_33 e_34 q_35 e_40 e_41 q_42 e_44 (le_min v_38) (le_max v_38) (le_min v_43) (le_max v_43) (le_min v_1) (le_max v_1) (le_min v_5) (le_max v_5) (le_min v_10) (le_max v_10) (le_min v_17) (le_max v_17) (le_min v_24) (le_max v_24) (le_min v_31) (le_max v_31)) (o63_14 e_3 e_4 e_6 c_7 e_12 e_13 q_14 e_19 e_20 q_21 e_26 e_27 q_28 e_33 e_34 q_35 e_40 e_41 q_42 e_44 (le_min v_38) (le_max v_38) (le_min v_43) (le_max v_43) (le_min v_1) (le_max v_1) (le_min v_5) (le_max v_5) (le_min v_10) (le_max v_10) (le_min v_17) (le_max v_17) (le_min v_24) (le_max v_24) (le_min v_31) (le_max v_31)) dX1_settle_55 (fun v_45 e_46 => ?_)
    refine tp_X1_people C0 h hi0 q_213 (o63_15 e_3 e_4 e_6 c_7 e_12 e_13 q_14 e_19 e_20 q_21 e_26 e_27 q_28 e_33 e_34 q_35 e_40 e_41 q_42 e_44 e_46) (o63_16 e_3 e_4 e_6 c_7 e_12 e_13 q_14 e_19 e_20 q_21 e_26 e_27 q_28 e_33 e_34 q_35 e_40 e_41 q_42 e_44 e_46) dX1_settle_56 (fun H locs ws_47 h u_48 => ?_)
    have hs_49 : aF 77 ws_15 = (aF 77 ws0) := (aF_ud u_16.1 (kd_ne kSC_77 (rSC_6_1 hi0) (by decide)))
    have hs_50 : aF 77 ws_22 = (aF 77 ws0) := (aF_ud u_23.1 (kd_ne kSC_77 (rSC_6_2 hi0) (by decide))).trans hs_49
    have hs_51 : aF 77 ws_29 = (aF 77 ws0) := (aF_ud u_30.1 (kd_ne kSC_77 (rSC_6_3 hi0) (by decide))).trans hs_50
    have hs_52 : aF 77 ws_36 = (aF 77 ws0) := (aF_ud u_37.1 (kd_ne kSC_77 (rSC_6_4 hi0) (by decide))).trans hs_51
    have hs_53 : aF 77 ws_47 = (aF 77 ws0) := (aF_ud u_48.1 (kd_ne kSC_77 hi0 (by decide))).trans hs_52
    have hv_54 : (aF i0 ws0) 7 = v_1.toInt := (aF_at (by decide) e_2)
    have hv_55 : (aF i0 ws0) 7 = v_10.toInt := (aF_at (by decide) e_11)
    have hs_56 : aF i0 ws_15 = (aF i0 ws0) := (aF_ud u_16.1 (kd_ne hi0 (rSC_6_1 hi0) (by decide)))
    have hv_57 : (aF i0 ws0) 7 = v_17.toInt := (congrFun hs_56 7).symm.trans (aF_at (by decide) e_18)
    have hs_58 : aF i0 ws_22 = (aF i0 ws0) := (aF_ud u_23.1 (kd_ne hi0 (rSC_6_2 hi0) (by decide))).trans hs_56
    have hv_59 : (aF i0 ws0) 7 = v_24.toInt := (congrFun hs_58 7).symm.trans (aF_at (by decide) e_25)
    have hs_60 : aF i0 ws_29 = (aF i0 ws0) := (aF_ud u_30.1 (kd_ne hi0 (rSC_6_3 hi0) (by decide))).trans hs_58
    have hv_61 : (aF i0 ws0) 7 = v_31.toInt := (congrFun hs_60 7).symm.trans (aF_at (by decide) e_32)
    have hs_62 : aF i0 ws_36 = (aF i0 ws0) := (aF_ud u_37.1 (kd_ne hi0 (rSC_6_4 hi0) (by decide))).trans hs_60
    have hv_63 : (aF i0 ws0) 7 = v_38.toInt := (congrFun hs_62 7).symm.trans (aF_at (by decide) e_39)
    have hs_64 : aF i0 ws_47 = (upI (aF i0 ws0) 7 v_45.toInt) := (aF_up (by decide) u_48).trans (congrArg (fun s => upI s 7 v_45.toInt) hs_62)
    have hz_65 : (upI (aF i0 ws0) 7 v_45.toInt) = stlS (aF i0 ws0) := by unfold stlS; (repeat' split) <;> first | rfl | (exfalso; omega) | (congr 1 <;> omega) | (congr 2 <;> omega)
    rw [hQ]
    exact y_vret C0 h (Fr.tr (Fr.tr (Fr.tr (Fr.tr (Fr.up u_16.1 (rSC_6_1 hi0) (by decide)) (Fr.up u_23.1 (rSC_6_2 hi0) (by decide))) (Fr.up u_30.1 (rSC_6_3 hi0) (by decide))) (Fr.up u_37.1 (rSC_6_4 hi0) (by decide))) (Fr.up u_48.1 hi0 (by decide))) (Eq.trans hs_64 hz_65) dX1_settle_59
set_option maxHeartbeats 4000000 in
set_option maxRecDepth 100000 in
theorem c_X0_makeToldFreeS (l : Launch) (G : GG) (Z : RZ) (ad : Nat → Nat) (ws0 : va_W) (hT : Ty G (SC tt) ad ws0) (i0 : Nat) (hi0 : Kd (SC tt) i0 1) (a1 : Int32) : Mq l yX0_makeToldFree cX0_makeToldFree 2 none 1 G Z [.ref (ad i0), .int a1] ws0 (PV G (SC tt) ad [1] ws0 (fun u => (aF i0 u = upI (aF i0 ws0) 8 (aF i0 u 8)))) := by
  refine Mq.start (by decide) (Nat.le_of_ble_eq_true rfl) ?_
  intro p e s m below meth c A ls C0 hZ h hl
  have hl : lv_has ls 2 [(0, .ref (ad i0)), (1, .int a1)] := hl
  have h : Wt G (SC tt) ad A s s.heap [] ws0 := ⟨h, hT⟩
  obtain ⟨args, hargs⟩ : ∃ z, z = ([.ref (ad i0), .int a1] : List Value).toArray := ⟨_, rfl⟩
  rw [← hargs] at C0 ⊢
  have C0 : Cx p s m args meth c RX0 cX0_makeToldFree 2 none := C0
  obtain ⟨Q, hQ⟩ : ∃ z, z = MQ below ((PV G (SC tt) ad [1] ws0 (fun u => (aF i0 u = upI (aF i0 ws0) 8 (aF i0 u 8)))) A) args s 0 0 A := ⟨_, rfl⟩
  rw [← hQ]
  refine lv_aload_n C0.1 C0.2.1 dX0_makeToldFree_0 rfl (lv_at hl 0 rfl) ?_
  refine lv_dup C0.1 C0.2.1 dX0_makeToldFree_1 rfl ?_
  refine tg_X0_toldFree C0 h hi0 q_266 dX0_makeToldFree_2 (fun v_1 e_2 e_3 e_4 => ?_)
  refine y_c1 (n := 1) C0 (by decide) dX0_makeToldFree_5 (fun v_5 e_6 => ?_)
  refine lv_iload_n C0.1 C0.2.1 dX0_makeToldFree_6 rfl (lv_at hl 1 rfl) ?_
  refine y_ishlU C0 dX0_makeToldFree_7 (fun v_7 => ?_)
  refine y_iorU C0 dX0_makeToldFree_8 (fun v_8 => ?_)
  refine tp_X0_toldFree C0 h hi0 q_266 (le_min v_8) (le_max v_8) dX0_makeToldFree_9 (fun H locs ws_9 h u_10 => ?_)
  have hs_11 : aF 77 ws_9 = (aF 77 ws0) := (aF_ud u_10.1 (kd_ne kSC_77 hi0 (by decide)))
  have hv_12 : (aF i0 ws0) 8 = v_1.toInt := (aF_at (by decide) e_2)
  have hs_13 : aF i0 ws_9 = (upI (aF i0 ws0) 8 v_8.toInt) := (aF_up (by decide) u_10)
  have hz_14 : (upI (aF i0 ws0) 8 v_8.toInt) = upI (aF i0 ws0) 8 (aF i0 ws_9 8) := by rw [hs_13, upI_s]
  rw [hQ]
  exact y_vret C0 h (Fr.up u_10.1 hi0 (by decide)) (Eq.trans hs_13 hz_14) dX0_makeToldFree_12
set_option maxHeartbeats 4000000 in
set_option maxRecDepth 100000 in
theorem c_X1_clearS (l : Launch) (G : GG) (Z : RZ) (ad : Nat → Nat) (ws0 : va_W) (hT : Ty G (SC tt) ad ws0) (i0 : Nat) (hi0 : Kd (SC tt) i0 6) : Mq l yX1_clear cX1_clear 1 none 2 G Z [.ref (ad i0)] ws0 (PV G (SC tt) ad [6, 11, 12, 13] ws0 (fun u => (aF i0 u = upI (upI (aF i0 ws0) 7 0) 8 0))) := by
  refine Mq.start (by decide) (Nat.le_of_ble_eq_true rfl) ?_
  intro p e s m below meth c A ls C0 hZ h hl
  have hl : lv_has ls 1 [(0, .ref (ad i0))] := hl
  have h : Wt G (SC tt) ad A s s.heap [] ws0 := ⟨h, hT⟩
  obtain ⟨args, hargs⟩ : ∃ z, z = ([.ref (ad i0)] : List Value).toArray := ⟨_, rfl⟩
  rw [← hargs] at C0 ⊢
  have C0 : Cx p s m args meth c RX1 cX1_clear 1 none := C0
  obtain ⟨Q, hQ⟩ : ∃ z, z = MQ below ((PV G (SC tt) ad [6, 11, 12, 13] ws0 (fun u => (aF i0 u = upI (upI (aF i0 ws0) 7 0) 8 0))) A) args s 0 0 A := ⟨_, rfl⟩
  rw [← hQ]
  refine lv_aload_n C0.1 C0.2.1 dX1_clear_0 rfl (lv_at hl 0 rfl) ?_
  refine tg_X1_used C0 h hi0 q_202 dX1_clear_1 ?_
  refine y_c1 (n := 0) C0 (by decide) dX1_clear_4 (fun v_1 e_2 => ?_)
  refine y_cv h (y_rS (As := [.ref (ad (i0 + 5)), .int v_1]) (rest := []) C0 hZ h (c_J7_fill_53178_11 l G Z ad _ h.2 (i0 + 5) ((rSC_6_5 hi0)) v_1 (o63_17 e_2) (o63_18 e_2)) k_J7_fill_53178 q_611 q_610 hl.1 rfl rfl (Nat.le_of_ble_eq_true rfl) dX1_clear_5 ⟨Nat.le_of_ble_eq_true rfl, Nat.le_of_ble_eq_true rfl⟩ ⟨Nat.le_of_ble_eq_true rfl, Nat.le_of_ble_eq_true rfl⟩) (fun H locs ws_3 h u_4 p_5 => ?_)
  refine lv_aload_n C0.1 C0.2.1 dX1_clear_8 rfl (lv_at hl 0 rfl) ?_
  refine tg_X1_sold C0 h hi0 q_205 dX1_clear_9 ?_
  refine y_c1 (n := 0) C0 (by decide) dX1_clear_12 (fun v_6 e_7 => ?_)
  refine y_cv h (y_rS (As := [.ref (ad (i0 + 6)), .int v_6]) (rest := []) C0 hZ h (c_J7_fill_53178_12 l G Z ad _ h.2 (i0 + 6) ((rSC_6_6 hi0)) v_6 (o63_17 e_7) (o63_18 e_7)) k_J7_fill_53178 q_611 q_610 hl.1 rfl rfl (Nat.le_of_ble_eq_true rfl) dX1_clear_13 ⟨Nat.le_of_ble_eq_true rfl, Nat.le_of_ble_eq_true rfl⟩ ⟨Nat.le_of_ble_eq_true rfl, Nat.le_of_ble_eq_true rfl⟩) (fun H locs ws_8 h u_9 p_10 => ?_)
  refine lv_aload_n C0.1 C0.2.1 dX1_clear_16 rfl (lv_at hl 0 rfl) ?_
  refine tg_X1_fogEnds C0 h hi0 q_210 dX1_clear_17 ?_
  refine y_c1 (n := 0) C0 (by decide) dX1_clear_20 (fun v_11 e_12 => ?_)
  refine y_cv h (y_rS (As := [.ref (ad (i0 + 7)), .int v_11]) (rest := []) C0 hZ h (c_J7_fill_53178_13 l G Z ad _ h.2 (i0 + 7) ((rSC_6_7 hi0)) v_11 (o63_17 e_12) (o63_18 e_12)) k_J7_fill_53178 q_611 q_610 hl.1 rfl rfl (Nat.le_of_ble_eq_true rfl) dX1_clear_21 ⟨Nat.le_of_ble_eq_true rfl, Nat.le_of_ble_eq_true rfl⟩ ⟨Nat.le_of_ble_eq_true rfl, Nat.le_of_ble_eq_true rfl⟩) (fun H locs ws_13 h u_14 p_15 => ?_)
  refine lv_aload_n C0.1 C0.2.1 dX1_clear_24 rfl (lv_at hl 0 rfl) ?_
  refine y_c1 (n := 0) C0 (by decide) dX1_clear_25 (fun v_16 e_17 => ?_)
  refine tp_X1_people C0 h hi0 q_213 (o63_17 e_17) (o63_19 e_17) dX1_clear_26 (fun H locs ws_18 h u_19 => ?_)
  refine lv_aload_n C0.1 C0.2.1 dX1_clear_29 rfl (lv_at hl 0 rfl) ?_
  refine y_c1 (n := 0) C0 (by decide) dX1_clear_30 (fun v_20 e_21 => ?_)
  refine tp_X1_hours C0 h hi0 q_217 (le_min v_20) (le_max v_20) dX1_clear_31 (fun H locs ws_22 h u_23 => ?_)
  have hs_24 : aF 77 ws_3 = (aF 77 ws0) := (aF_fr u_4 kSC_77 (by decide))
  have hs_25 : aF 77 ws_8 = (aF 77 ws0) := (aF_fr u_9 kSC_77 (by decide)).trans hs_24
  have hs_26 : aF 77 ws_13 = (aF 77 ws0) := (aF_fr u_14 kSC_77 (by decide)).trans hs_25
  have hs_27 : aF 77 ws_18 = (aF 77 ws0) := (aF_ud u_19.1 (kd_ne kSC_77 hi0 (by decide))).trans hs_26
  have hs_28 : aF 77 ws_22 = (aF 77 ws0) := (aF_ud u_23.1 (kd_ne kSC_77 hi0 (by decide))).trans hs_27
  have hs_29 : aF i0 ws_3 = (aF i0 ws0) := (aF_fr u_4 hi0 (by decide))
  have hs_30 : aF i0 ws_8 = (aF i0 ws0) := (aF_fr u_9 hi0 (by decide)).trans hs_29
  have hs_31 : aF i0 ws_13 = (aF i0 ws0) := (aF_fr u_14 hi0 (by decide)).trans hs_30
  have hs_32 : aF i0 ws_18 = (upI (aF i0 ws0) 7 0) := (aF_up (by decide) u_19).trans ((congrArg (fun s => upI s 7 v_16.toInt) hs_31).trans (by rw [(o63_20 e_17)]))
  have hs_33 : aF i0 ws_22 = (upI (upI (aF i0 ws0) 7 0) 8 0) := (aF_up (by decide) u_23).trans ((congrArg (fun s => upI s 8 v_20.toInt) hs_32).trans (by rw [(o63_20 e_21)]))
  have hz_34 : (upI (upI (aF i0 ws0) 7 0) 8 0) = upI (upI (aF i0 ws0) 7 0) 8 0 := by rfl
  rw [hQ]
  exact y_vret C0 h (Fr.tr (Fr.tr (Fr.tr (Fr.tr (Fr.mono u_4 (by decide)) (Fr.mono u_9 (by decide))) (Fr.mono u_14 (by decide))) (Fr.up u_19.1 hi0 (by decide))) (Fr.up u_23.1 hi0 (by decide))) (Eq.trans hs_33 hz_34) dX1_clear_34
set_option maxHeartbeats 4000000 in
set_option maxRecDepth 100000 in
theorem c_X0_clearS (l : Launch) (G : GG) (Z : RZ) (ad : Nat → Nat) (ws0 : va_W) (hT : Ty G (SC tt) ad ws0) (i0 : Nat) (hi0 : Kd (SC tt) i0 1) (hR : Rel ws0) : Mq l yX0_clear cX0_clear 1 none 3 G Z [.ref (ad i0)] ws0 (PV G (SC tt) ad [1, 2, 6, 11, 12, 13, 14, 15] ws0 (fun u => (Rel u ) ∧ (aF i0 u = upI (upI (upI (upI (aF i0 ws0) 5 0) 6 0) 7 0) 8 0) ∧ (aF (i0 + 9) u = upI (upI (aF (i0 + 9) ws0) 7 0) 8 0))) := by
  refine Mq.start (by decide) (Nat.le_of_ble_eq_true rfl) ?_
  intro p e s m below meth c A ls C0 hZ h hl
  have hl : lv_has ls 1 [(0, .ref (ad i0))] := hl
  have h : Wt G (SC tt) ad A s s.heap [] ws0 := ⟨h, hT⟩
  obtain ⟨args, hargs⟩ : ∃ z, z = ([.ref (ad i0)] : List Value).toArray := ⟨_, rfl⟩
  rw [← hargs] at C0 ⊢
  have C0 : Cx p s m args meth c RX0 cX0_clear 1 none := C0
  obtain ⟨Q, hQ⟩ : ∃ z, z = MQ below ((PV G (SC tt) ad [1, 2, 6, 11, 12, 13, 14, 15] ws0 (fun u => (Rel u ) ∧ (aF i0 u = upI (upI (upI (upI (aF i0 ws0) 5 0) 6 0) 7 0) 8 0) ∧ (aF (i0 + 9) u = upI (upI (aF (i0 + 9) ws0) 7 0) 8 0))) A) args s 0 0 A := ⟨_, rfl⟩
  rw [← hQ]
  refine lv_aload_n C0.1 C0.2.1 dX0_clear_0 rfl (lv_at hl 0 rfl) ?_
  refine tg_X0_priceLaw C0 h hi0 q_242 dX0_clear_1 ?_
  refine y_cv h (y_rV (As := []) (rest := []) C0 hZ h (c_X4_clear l G Z ad _ h.2 (i0 + 1) ((rSC_1_1 hi0))) k_X4_clear q_603 q_604 q_602 (rSC_1_1 hi0) rfl rfl rfl hl.1 rfl rfl (Nat.le_of_ble_eq_true rfl) dX0_clear_4 ⟨Nat.le_of_ble_eq_true rfl, Nat.le_of_ble_eq_true rfl⟩ ⟨Nat.le_of_ble_eq_true rfl, Nat.le_of_ble_eq_true rfl⟩) (fun H locs ws_1 h u_2 p_3 => ?_)
  refine lv_aload_n C0.1 C0.2.1 dX0_clear_7 rfl (lv_at hl 0 rfl) ?_
  refine tg_X0_mayLaw C0 h hi0 q_244 dX0_clear_8 ?_
  refine y_cv h (y_rV (As := []) (rest := []) C0 hZ h (c_X4_clear l G Z ad _ h.2 (i0 + 5) ((rSC_1_5 hi0))) k_X4_clear q_603 q_604 q_602 (rSC_1_5 hi0) rfl rfl rfl hl.1 rfl rfl (Nat.le_of_ble_eq_true rfl) dX0_clear_11 ⟨Nat.le_of_ble_eq_true rfl, Nat.le_of_ble_eq_true rfl⟩ ⟨Nat.le_of_ble_eq_true rfl, Nat.le_of_ble_eq_true rfl⟩) (fun H locs ws_4 h u_5 p_6 => ?_)
  refine lv_aload_n C0.1 C0.2.1 dX0_clear_14 rfl (lv_at hl 0 rfl) ?_
  refine tg_X0_folk C0 h hi0 q_247 dX0_clear_15 ?_
  refine y_cv h (y_rV (As := []) (rest := []) C0 hZ h (c_X1_clearS l G Z ad _ h.2 (i0 + 9) ((rSC_1_9 hi0))) k_X1_clear q_607 q_608 q_606 (rSC_1_9 hi0) rfl rfl rfl hl.1 rfl rfl (Nat.le_of_ble_eq_true rfl) dX0_clear_18 ⟨Nat.le_of_ble_eq_true rfl, Nat.le_of_ble_eq_true rfl⟩ ⟨Nat.le_of_ble_eq_true rfl, Nat.le_of_ble_eq_true rfl⟩) (fun H locs ws_7 h u_8 p_9 => ?_)
  have e_10 := p_9
  refine lv_aload_n C0.1 C0.2.1 dX0_clear_21 rfl (lv_at hl 0 rfl) ?_
  refine tg_X0_streets C0 h hi0 q_252 dX0_clear_22 ?_
  refine y_c1 (n := 0) C0 (by decide) dX0_clear_25 (fun v_11 e_12 => ?_)
  refine y_cv h (y_rS (As := [.ref (ad (i0 + 17)), .int v_11]) (rest := []) C0 hZ h (c_J7_fill_53178_14 l G Z ad _ h.2 (i0 + 17) ((rSC_1_17 hi0)) v_11 (o63_17 e_12) (o63_18 e_12)) k_J7_fill_53178 q_611 q_613 hl.1 rfl rfl (Nat.le_of_ble_eq_true rfl) dX0_clear_26 ⟨Nat.le_of_ble_eq_true rfl, Nat.le_of_ble_eq_true rfl⟩ ⟨Nat.le_of_ble_eq_true rfl, Nat.le_of_ble_eq_true rfl⟩) (fun H locs ws_13 h u_14 p_15 => ?_)
  obtain ⟨e_16, e_17⟩ := p_15
  refine lv_aload_n C0.1 C0.2.1 dX0_clear_29 rfl (lv_at hl 0 rfl) ?_
  refine tg_X0_strides C0 h hi0 q_255 dX0_clear_30 ?_
  refine y_c1 (n := 0) C0 (by decide) dX0_clear_33 (fun v_18 e_19 => ?_)
  refine y_cv h (y_rS (As := [.ref (ad (i0 + 18)), .int v_18]) (rest := []) C0 hZ h (c_J7_fill_53178_15 l G Z ad _ h.2 (i0 + 18) ((rSC_1_18 hi0)) v_18 (o63_17 e_19) (o63_18 e_19)) k_J7_fill_53178 q_611 q_613 hl.1 rfl rfl (Nat.le_of_ble_eq_true rfl) dX0_clear_34 ⟨Nat.le_of_ble_eq_true rfl, Nat.le_of_ble_eq_true rfl⟩ ⟨Nat.le_of_ble_eq_true rfl, Nat.le_of_ble_eq_true rfl⟩) (fun H locs ws_20 h u_21 p_22 => ?_)
  obtain ⟨e_23, e_24⟩ := p_22
  refine lv_aload_n C0.1 C0.2.1 dX0_clear_37 rfl (lv_at hl 0 rfl) ?_
  refine y_c1 (n := 0) C0 (by decide) dX0_clear_38 (fun v_25 e_26 => ?_)
  refine tp_X0_wide C0 h hi0 q_256 (o63_17 e_26) (o63_19 e_26) dX0_clear_39 (fun H locs ws_27 h u_28 => ?_)
  refine lv_aload_n C0.1 C0.2.1 dX0_clear_42 rfl (lv_at hl 0 rfl) ?_
  refine y_c1 (n := 0) C0 (by decide) dX0_clear_43 (fun v_29 e_30 => ?_)
  refine tp_X0_high C0 h hi0 q_260 (o63_17 e_30) (o63_19 e_30) dX0_clear_44 (fun H locs ws_31 h u_32 => ?_)
  refine lv_aload_n C0.1 C0.2.1 dX0_clear_47 rfl (lv_at hl 0 rfl) ?_
  refine y_c1 (n := 0) C0 (by decide) dX0_clear_48 (fun v_33 e_34 => ?_)
  refine tp_X0_lines C0 h hi0 q_263 (le_min v_33) (le_max v_33) dX0_clear_49 (fun H locs ws_35 h u_36 => ?_)
  refine lv_aload_n C0.1 C0.2.1 dX0_clear_52 rfl (lv_at hl 0 rfl) ?_
  refine y_c1 (n := 0) C0 (by decide) dX0_clear_53 (fun v_37 e_38 => ?_)
  refine tp_X0_toldFree C0 h hi0 q_266 (le_min v_37) (le_max v_37) dX0_clear_54 (fun H locs ws_39 h u_40 => ?_)
  have hs_41 : aF 77 ws_1 = (aF 77 ws0) := (aF_fr u_2 kSC_77 (by decide))
  have hs_42 : aF 77 ws_4 = (aF 77 ws0) := (aF_fr u_5 kSC_77 (by decide)).trans hs_41
  have hs_43 : aF 77 ws_7 = (aF 77 ws0) := (aF_fr u_8 kSC_77 (by decide)).trans hs_42
  have hs_44 : aF 77 ws_13 = (aF 77 ws0) := (aF_fr u_14 kSC_77 (by decide)).trans hs_43
  have hs_45 : aF 77 ws_20 = (aF 77 ws0) := (aF_fr u_21 kSC_77 (by decide)).trans hs_44
  have hs_46 : aF 77 ws_27 = (aF 77 ws0) := (aF_ud u_28.1 (kd_ne kSC_77 hi0 (by decide))).trans hs_45
  have hs_47 : aF 77 ws_31 = (aF 77 ws0) := (aF_ud u_32.1 (kd_ne kSC_77 hi0 (by decide))).trans hs_46
  have hs_48 : aF 77 ws_35 = (aF 77 ws0) := (aF_ud u_36.1 (kd_ne kSC_77 hi0 (by decide))).trans hs_47
  have hs_49 : aF 77 ws_39 = (aF 77 ws0) := (aF_ud u_40.1 (kd_ne kSC_77 hi0 (by decide))).trans hs_48
  have hs_50 : aF i0 ws_1 = (aF i0 ws0) := (aF_fr u_2 hi0 (by decide))
  have hs_51 : aF i0 ws_4 = (aF i0 ws0) := (aF_fr u_5 hi0 (by decide)).trans hs_50
  have hs_52 : aF i0 ws_7 = (aF i0 ws0) := (aF_fr u_8 hi0 (by decide)).trans hs_51
  have hs_53 : aF i0 ws_13 = (aF i0 ws0) := (aF_fr u_14 hi0 (by decide)).trans hs_52
  have hs_54 : aF i0 ws_20 = (aF i0 ws0) := (aF_fr u_21 hi0 (by decide)).trans hs_53
  have hs_55 : aF i0 ws_27 = (upI (aF i0 ws0) 5 0) := (aF_up (by decide) u_28).trans ((congrArg (fun s => upI s 5 v_25.toInt) hs_54).trans (by rw [(o63_20 e_26)]))
  have hs_56 : aF i0 ws_31 = (upI (upI (aF i0 ws0) 5 0) 6 0) := (aF_up (by decide) u_32).trans ((congrArg (fun s => upI s 6 v_29.toInt) hs_55).trans (by rw [(o63_20 e_30)]))
  have hs_57 : aF i0 ws_35 = (upI (upI (upI (aF i0 ws0) 5 0) 6 0) 7 0) := (aF_up (by decide) u_36).trans ((congrArg (fun s => upI s 7 v_33.toInt) hs_56).trans (by rw [(o63_20 e_34)]))
  have hs_58 : aF i0 ws_39 = (upI (upI (upI (upI (aF i0 ws0) 5 0) 6 0) 7 0) 8 0) := (aF_up (by decide) u_40).trans ((congrArg (fun s => upI s 8 v_37.toInt) hs_57).trans (by rw [(o63_20 e_38)]))
  have hz_59 : (upI (upI (upI (upI (aF i0 ws0) 5 0) 6 0) 7 0) 8 0) = upI (upI (upI (upI (aF i0 ws0) 5 0) 6 0) 7 0) 8 0 := by rfl
  have hs_60 : aF 77 ws_1 = (aF 77 ws0) := (aF_fr u_2 kSC_77 (by decide))
  have hs_61 : aF 77 ws_4 = (aF 77 ws0) := (aF_fr u_5 kSC_77 (by decide)).trans hs_60
  have hs_62 : aF 77 ws_7 = (aF 77 ws0) := (aF_fr u_8 kSC_77 (by decide)).trans hs_61
  have hs_63 : aF 77 ws_13 = (aF 77 ws0) := (aF_fr u_14 kSC_77 (by decide)).trans hs_62
  have hs_64 : aF 77 ws_20 = (aF 77 ws0) := (aF_fr u_21 kSC_77 (by decide)).trans hs_63
  have hs_65 : aF 77 ws_27 = (aF 77 ws0) := (aF_ud u_28.1 (kd_ne kSC_77 hi0 (by decide))).trans hs_64
  have hs_66 : aF 77 ws_31 = (aF 77 ws0) := (aF_ud u_32.1 (kd_ne kSC_77 hi0 (by decide))).trans hs_65
  have hs_67 : aF 77 ws_35 = (aF 77 ws0) := (aF_ud u_36.1 (kd_ne kSC_77 hi0 (by decide))).trans hs_66
  have hs_68 : aF 77 ws_39 = (aF 77 ws0) := (aF_ud u_40.1 (kd_ne kSC_77 hi0 (by decide))).trans hs_67
  have hs_69 : aF (i0 + 9) ws_1 = (aF (i0 + 9) ws0) := (aF_fr u_2 (rSC_1_9 hi0) (by decide))
  have hs_70 : aF (i0 + 9) ws_4 = (aF (i0 + 9) ws0) := (aF_fr u_5 (rSC_1_9 hi0) (by decide)).trans hs_69
  have hs_71 : aF (i0 + 9) ws_7 = (upI (upI (aF (i0 + 9) ws0) 7 0) 8 0) := e_10.trans (congrArg (fun s => upI (upI s 7 0) 8 0) hs_70)
  have hs_72 : aF (i0 + 9) ws_13 = (upI (upI (aF (i0 + 9) ws0) 7 0) 8 0) := (aF_fr u_14 (rSC_1_9 hi0) (by decide)).trans hs_71
  have hs_73 : aF (i0 + 9) ws_20 = (upI (upI (aF (i0 + 9) ws0) 7 0) 8 0) := (aF_fr u_21 (rSC_1_9 hi0) (by decide)).trans hs_72
  have hs_74 : aF (i0 + 9) ws_27 = (upI (upI (aF (i0 + 9) ws0) 7 0) 8 0) := (aF_ud u_28.1 (kd_ne (rSC_1_9 hi0) hi0 (by decide))).trans hs_73
  have hs_75 : aF (i0 + 9) ws_31 = (upI (upI (aF (i0 + 9) ws0) 7 0) 8 0) := (aF_ud u_32.1 (kd_ne (rSC_1_9 hi0) hi0 (by decide))).trans hs_74
  have hs_76 : aF (i0 + 9) ws_35 = (upI (upI (aF (i0 + 9) ws0) 7 0) 8 0) := (aF_ud u_36.1 (kd_ne (rSC_1_9 hi0) hi0 (by decide))).trans hs_75
  have hs_77 : aF (i0 + 9) ws_39 = (upI (upI (aF (i0 + 9) ws0) 7 0) 8 0) := (aF_ud u_40.1 (kd_ne (rSC_1_9 hi0) hi0 (by decide))).trans hs_76
  have hz_78 : (upI (upI (aF (i0 + 9) ws0) 7 0) 8 0) = upI (upI (aF (i0 + 9) ws0) 7 0) 8 0 := by rfl
  rw [hQ]
  exact y_vret C0 h (Fr.tr (Fr.tr (Fr.tr (Fr.tr (Fr.tr (Fr.tr (Fr.tr (Fr.tr (Fr.mono u_2 (by decide)) (Fr.mono u_5 (by decide))) (Fr.mono u_8 (by decide))) (Fr.mono u_14 (by decide))) (Fr.mono u_21 (by decide))) (Fr.up u_28.1 hi0 (by decide))) (Fr.up u_32.1 hi0 (by decide))) (Fr.up u_36.1 hi0 (by decide))) (Fr.up u_40.1 hi0 (by decide))) ⟨(rel_fill (f := ws0) (M := [2, 6, 11, 12, 13]) (N := [1]) hR hi0 (Fr.tr (Fr.tr (Fr.mono u_2 (by decide)) (Fr.mono u_5 (by decide))) (Fr.mono u_8 (by decide))) (by decide) (by decide) e_12 ⟨e_16, e_17⟩ e_24 (Fr.tr (Fr.tr (Fr.tr (Fr.up u_28.1 hi0 (by decide)) (Fr.up u_32.1 hi0 (by decide))) (Fr.up u_36.1 hi0 (by decide))) (Fr.up u_40.1 hi0 (by decide))) (by decide) (by decide)), (Eq.trans hs_58 hz_59), (Eq.trans hs_77 hz_78)⟩ dX0_clear_57
set_option maxHeartbeats 4000000 in
set_option maxRecDepth 100000 in
theorem c_X0_layS (l : Launch) (G : GG) (Z : RZ) (ad : Nat → Nat) (ws0 : va_W) (hT : Ty G (SC tt) ad ws0) (i0 : Nat) (hi0 : Kd (SC tt) i0 1) (a1 : Int32) (a2 : Int32) (l1 : 2 ≤ a1.toInt) (u1 : a1.toInt ≤ 5) (l2 : 2 ≤ a2.toInt) (u2 : a2.toInt ≤ 5) (hR : Rel ws0) : Mq l yX0_lay cX0_lay 6 none 1 G Z [.ref (ad i0), .int a1, .int a2] ws0 (PV G (SC tt) ad [1, 14, 15] ws0 (fun u => (Rel u ) ∧ (aF i0 u = upI (upI (aF i0 ws0) 5 a1.toInt) 6 a2.toInt))) := by
  refine Mq.start (by decide) (Nat.le_of_ble_eq_true rfl) ?_
  intro p e s m below meth c A ls C0 hZ h hl
  have hl : lv_has ls 6 [(0, .ref (ad i0)), (1, .int a1), (2, .int a2)] := hl
  have h : Wt G (SC tt) ad A s s.heap [] ws0 := ⟨h, hT⟩
  obtain ⟨args, hargs⟩ : ∃ z, z = ([.ref (ad i0), .int a1, .int a2] : List Value).toArray := ⟨_, rfl⟩
  rw [← hargs] at C0 ⊢
  have C0 : Cx p s m args meth c RX0 cX0_lay 6 none := C0
  obtain ⟨Q, hQ⟩ : ∃ z, z = MQ below ((PV G (SC tt) ad [1, 14, 15] ws0 (fun u => (Rel u ) ∧ (aF i0 u = upI (upI (aF i0 ws0) 5 a1.toInt) 6 a2.toInt))) A) args s 0 0 A := ⟨_, rfl⟩
  rw [← hQ]
  refine lv_aload_n C0.1 C0.2.1 dX0_lay_0 rfl (lv_at hl 0 rfl) ?_
  refine lv_iload_n C0.1 C0.2.1 dX0_lay_1 rfl (lv_at hl 1 rfl) ?_
  refine tp_X0_wide C0 h hi0 q_256 (o63_21 l1 u1) (o63_22 l1 u1) dX0_lay_2 (fun H locs ws_1 h u_2 => ?_)
  refine lv_aload_n C0.1 C0.2.1 dX0_lay_5 rfl (lv_at hl 0 rfl) ?_
  refine lv_iload_n C0.1 C0.2.1 dX0_lay_6 rfl (lv_at hl 2 rfl) ?_
  refine tp_X0_high C0 h hi0 q_260 (o63_21 l2 u2) (o63_22 l2 u2) dX0_lay_7 (fun H locs ws_3 h u_4 => ?_)
  refine y_c1 (n := 1) C0 (by decide) dX0_lay_10 (fun v_5 e_6 => ?_)
  refine lv_iload_n C0.1 C0.2.1 dX0_lay_11 rfl (lv_at hl 1 rfl) ?_
  refine lv_iload_n C0.1 C0.2.1 dX0_lay_12 rfl (lv_at hl 2 rfl) ?_
  refine y_imulX C0 dX0_lay_13 (fun v_8 e_7 => ?_)
  refine y_ishlX C0 dX0_lay_14 (fun v_10 e_9 => ?_)
  refine y_c1 (n := 1) C0 (by decide) dX0_lay_15 (fun v_11 e_12 => ?_)
  refine y_isubX C0 dX0_lay_16 (fun v_14 e_13 => ?_)
  refine lv_istore_n (lv' := [(3, .int v_14), (0, .ref (ad i0)), (1, .int a1), (2, .int a2)]) C0.1 C0.2.1 dX0_lay_17 rfl hl (by decide) rfl (fun ls hl => ?_)
  refine y_c1 (n := 0) C0 (by decide) dX0_lay_18 (fun v_15 e_16 => ?_)
  refine lv_istore (lv' := [(4, .int v_15), (3, .int v_14), (0, .ref (ad i0)), (1, .int a1), (2, .int a2)]) C0.1 C0.2.1 dX0_lay_19 hl (by decide) rfl (fun ls hl => ?_)
  refine y_c1 (n := 0) C0 (by decide) dX0_lay_21 (fun v_17 e_18 => ?_)
  refine lv_istore (lv' := [(5, .int v_17), (4, .int v_15), (3, .int v_14), (0, .ref (ad i0)), (1, .int a1), (2, .int a2)]) C0.1 C0.2.1 dX0_lay_22 hl (by decide) rfl (fun ls hl => ?_)
  have lp_23 : ∀ (n_25 : Nat) (x5_19 : Int32) (x4_20 : Int32) (H : Heap) (locs : List Loc) (ls : Array Slot) (ws_21 : va_W), 5 - x5_19.toInt < (n_25 : Int) → 0 ≤ x5_19.toInt → x5_19.toInt ≤ 5 → x5_19.toInt ≤ a2.toInt → (x4_20 = fcol a1 x5_19.toInt.toNat) → Wt G (SC tt) ad A s H locs ws_21 → Fr (SC tt) [] ws_3 ws_21 → lv_has ls 6 [(5, .int x5_19), (4, .int x4_20), (3, .int v_14), (0, .ref (ad i0)), (1, .int a1), (2, .int a2)] → W p l e (rmd 1 0 0) s m args below meth c H locs 0 0 Q (F0 m 24 ls []) := by
    intro n_25
    induction n_25 with
    | zero => intro x5_19 x4_20 H locs ls ws_21 hn_26 b_27 b_28 b_29 hfc h hF_22 hl; exact ((o63_23 l2 u2 b_27 b_28 b_29 hn_26)).elim
    | succ n_25 ih_24 =>
      intro x5_19 x4_20 H locs ls ws_21 hn_26 b_27 b_28 b_29 hfc h hF_22 hl
      refine lv_iload C0.1 C0.2.1 dX0_lay_24 (lv_at hl 0 rfl) ?_
      refine lv_iload_n C0.1 C0.2.1 dX0_lay_26 rfl (lv_at hl 5 rfl) ?_
      refine y_icmp_ge (tgt := 47) C0 dX0_lay_27 (by decide) (fun c_30 => ?_) (fun c_30 => ?_)
      · -- 27
        refine lv_aload_n C0.1 C0.2.1 dX0_lay_47 rfl (lv_at hl 3 rfl) ?_
        refine tg_X0_streets C0 h hi0 q_252 dX0_lay_48 ?_
        refine y_c1 (n := 0) C0 (by decide) dX0_lay_51 (fun v_31 e_32 => ?_)
        refine lv_iload_n C0.1 C0.2.1 dX0_lay_52 rfl (lv_at hl 2 rfl) ?_
        refine y_c1 (n := 1) C0 (by decide) dX0_lay_53 (fun v_33 e_34 => ?_)
        refine lv_iload_n C0.1 C0.2.1 dX0_lay_54 rfl (lv_at hl 4 rfl) ?_
        refine y_ishlX C0 dX0_lay_55 (fun v_36 e_35 => ?_)
        refine y_c1 (n := 1) C0 (by decide) dX0_lay_56 (fun v_37 e_38 => ?_)
        refine y_isubX C0 dX0_lay_57 (fun v_40 e_39 => ?_)
        refine y_c1 (n := (-1)) C0 (by decide) dX0_lay_58 (fun v_41 e_42 => ?_)
        refine y_ixorX C0 dX0_lay_59 (fun v_44 e_43 => ?_)
        refine y_iandX C0 dX0_lay_60 (fun v_46 e_45 => ?_)
        refine y_iast C0 h (rSC_1_17 hi0) rfl (by decide) (o63_17 e_32) (o63_24 e_32) (le_min v_46) (le_max v_46) dX0_lay_61 (fun H locs ws_47 h u_48 => ?_)
        refine lv_aload_n C0.1 C0.2.1 dX0_lay_62 rfl (lv_at hl 3 rfl) ?_
        refine tg_X0_streets C0 h hi0 q_252 dX0_lay_63 ?_
        refine y_c1 (n := 1) C0 (by decide) dX0_lay_66 (fun v_49 e_50 => ?_)
        refine lv_iload_n C0.1 C0.2.1 dX0_lay_67 rfl (lv_at hl 2 rfl) ?_
        refine lv_iload C0.1 C0.2.1 dX0_lay_68 (lv_at hl 1 rfl) ?_
        refine lv_iload_n C0.1 C0.2.1 dX0_lay_70 rfl (lv_at hl 4 rfl) ?_
        refine y_c1 (n := 1) C0 (by decide) dX0_lay_71 (fun v_51 e_52 => ?_)
        refine y_isubX C0 dX0_lay_72 (fun v_54 e_53 => ?_)
        refine y_ishlX C0 dX0_lay_73 (fun v_56 e_55 => ?_)
        refine y_c1 (n := (-1)) C0 (by decide) dX0_lay_74 (fun v_57 e_58 => ?_)
        refine y_ixorX C0 dX0_lay_75 (fun v_60 e_59 => ?_)
        refine y_iandX C0 dX0_lay_76 (fun v_62 e_61 => ?_)
        refine y_iast C0 h (rSC_1_17 hi0) rfl (by decide) (o63_25 e_50) (o63_26 e_50) (le_min v_62) (le_max v_62) dX0_lay_77 (fun H locs ws_63 h u_64 => ?_)
        refine lv_aload_n C0.1 C0.2.1 dX0_lay_78 rfl (lv_at hl 3 rfl) ?_
        refine tg_X0_streets C0 h hi0 q_252 dX0_lay_79 ?_
        refine y_c1 (n := 2) C0 (by decide) dX0_lay_82 (fun v_65 e_66 => ?_)
        refine lv_iload_n C0.1 C0.2.1 dX0_lay_83 rfl (lv_at hl 2 rfl) ?_
        refine lv_iload_n C0.1 C0.2.1 dX0_lay_84 rfl (lv_at hl 4 rfl) ?_
        refine y_ishrX C0 dX0_lay_85 (fun v_68 e_67 => ?_)
        refine y_iast C0 h (rSC_1_17 hi0) rfl (by decide) (o63_27 e_66) (o63_28 e_66) (le_min v_68) (le_max v_68) dX0_lay_86 (fun H locs ws_69 h u_70 => ?_)
        refine lv_aload_n C0.1 C0.2.1 dX0_lay_87 rfl (lv_at hl 3 rfl) ?_
        refine tg_X0_streets C0 h hi0 q_252 dX0_lay_88 ?_
        refine y_c1 (n := 3) C0 (by decide) dX0_lay_91 (fun v_71 e_72 => ?_)
        refine lv_iload_n C0.1 C0.2.1 dX0_lay_92 rfl (lv_at hl 2 rfl) ?_
        refine lv_iload C0.1 C0.2.1 dX0_lay_93 (lv_at hl 1 rfl) ?_
        refine y_c1 (n := (-1)) C0 (by decide) dX0_lay_95 (fun v_73 e_74 => ?_)
        refine y_ixorX C0 dX0_lay_96 (fun v_76 e_75 => ?_)
        refine y_iandX C0 dX0_lay_97 (fun v_78 e_77 => ?_)
        refine y_iast C0 h (rSC_1_17 hi0) rfl (by decide) (o63_29 e_72) (o63_30 e_72) (le_min v_78) (le_max v_78) dX0_lay_98 (fun H locs ws_79 h u_80 => ?_)
        refine lv_aload_n C0.1 C0.2.1 dX0_lay_99 rfl (lv_at hl 3 rfl) ?_
        refine tg_X0_strides C0 h hi0 q_255 dX0_lay_100 ?_
        refine y_c1 (n := 0) C0 (by decide) dX0_lay_103 (fun v_81 e_82 => ?_)
        refine lv_iload_n C0.1 C0.2.1 dX0_lay_104 rfl (lv_at hl 4 rfl) ?_
        refine y_neg C0 (o63_31 l1 u1 (le_min a1) (le_max a1)) dX0_lay_105 (fun v_83 e_84 => ?_)
        refine y_iast C0 h (rSC_1_18 hi0) rfl (by decide) (o63_17 e_82) (o63_24 e_82) (o63_32 l1 u1 e_84) (o63_33 l1 u1 e_84) dX0_lay_106 (fun H locs ws_85 h u_86 => ?_)
        refine lv_aload_n C0.1 C0.2.1 dX0_lay_107 rfl (lv_at hl 3 rfl) ?_
        refine tg_X0_strides C0 h hi0 q_255 dX0_lay_108 ?_
        refine y_c1 (n := 1) C0 (by decide) dX0_lay_111 (fun v_87 e_88 => ?_)
        refine y_c1 (n := 1) C0 (by decide) dX0_lay_112 (fun v_89 e_90 => ?_)
        refine y_iast C0 h (rSC_1_18 hi0) rfl (by decide) (o63_25 e_88) (o63_26 e_88) (o63_34 e_90) (o63_35 e_90) dX0_lay_113 (fun H locs ws_91 h u_92 => ?_)
        refine lv_aload_n C0.1 C0.2.1 dX0_lay_114 rfl (lv_at hl 3 rfl) ?_
        refine tg_X0_strides C0 h hi0 q_255 dX0_lay_115 ?_
        refine y_c1 (n := 2) C0 (by decide) dX0_lay_118 (fun v_93 e_94 => ?_)
        refine lv_iload_n C0.1 C0.2.1 dX0_lay_119 rfl (lv_at hl 4 rfl) ?_
        refine y_iast C0 h (rSC_1_18 hi0) rfl (by decide) (o63_27 e_94) (o63_28 e_94) (o63_36 l1 u1 e_84) (o63_37 l1 u1 e_84) dX0_lay_120 (fun H locs ws_95 h u_96 => ?_)
        refine lv_aload_n C0.1 C0.2.1 dX0_lay_121 rfl (lv_at hl 3 rfl) ?_
        refine tg_X0_strides C0 h hi0 q_255 dX0_lay_122 ?_
        refine y_c1 (n := 3) C0 (by decide) dX0_lay_125 (fun v_97 e_98 => ?_)
        refine y_c1 (n := (-1)) C0 (by decide) dX0_lay_126 (fun v_99 e_100 => ?_)
        refine y_iast C0 h (rSC_1_18 hi0) rfl (by decide) (o63_29 e_98) (o63_30 e_98) (o63_38 e_100) (o63_39 e_100) dX0_lay_127 (fun H locs ws_101 h u_102 => ?_)
        have hx5 : x5_19.toInt = a2.toInt := (o63_40 l2 u2 b_27 b_28 b_29 hn_26 c_30)
        have kk_v_5 : v_5 = (1 : Int32) := Int32.toInt_inj.mp (Eq.trans e_6 (by decide))
        have kk_v_11 : v_11 = (1 : Int32) := Int32.toInt_inj.mp (Eq.trans e_12 (by decide))
        have kk_v_33 : v_33 = (1 : Int32) := Int32.toInt_inj.mp (Eq.trans e_34 (by decide))
        have kk_v_37 : v_37 = (1 : Int32) := Int32.toInt_inj.mp (Eq.trans e_38 (by decide))
        have kk_v_41 : v_41 = ((-1) : Int32) := Int32.toInt_inj.mp (Eq.trans e_42 (by decide))
        have hs0 : v_46 = laySt a1 a2 0 := by rw [e_45, e_13, e_9, kk_v_5, e_7, kk_v_11, e_43, e_39, e_35, kk_v_33, kk_v_37, kk_v_41]; rfl
        have kk_v_51 : v_51 = (1 : Int32) := Int32.toInt_inj.mp (Eq.trans e_52 (by decide))
        have kk_v_57 : v_57 = ((-1) : Int32) := Int32.toInt_inj.mp (Eq.trans e_58 (by decide))
        have hs1 : v_62 = laySt a1 a2 1 := by rw [e_61, e_13, e_9, kk_v_5, e_7, kk_v_11, e_59, e_55, hfc, hx5, e_53, kk_v_51, kk_v_57]; rfl
        have hs2 : v_68 = laySt a1 a2 2 := by rw [e_67, e_13, e_9, kk_v_5, e_7, kk_v_11]; rfl
        have kk_v_73 : v_73 = ((-1) : Int32) := Int32.toInt_inj.mp (Eq.trans e_74 (by decide))
        have hs3 : v_78 = laySt a1 a2 3 := by rw [e_77, e_13, e_9, kk_v_5, e_7, kk_v_11, e_75, hfc, hx5, kk_v_73]; rfl
        have ht0 : v_83 = layDd a1 0 := Int32.toInt_inj.mp (Eq.trans (o63_41 l1 u1 e_84) (t_neg (x := a1) (o63_42 l1 u1 e_84 (le_min a1) (le_max a1) (le_min v_83) (le_max v_83))).symm)
        have kk_v_89 : v_89 = (1 : Int32) := Int32.toInt_inj.mp (Eq.trans e_90 (by decide))
        have ht1 : v_89 = layDd a1 1 := kk_v_89
        have kk_v_99 : v_99 = ((-1) : Int32) := Int32.toInt_inj.mp (Eq.trans e_100 (by decide))
        have ht3 : v_99 = layDd a1 3 := kk_v_99
        have hRl : Rel ws_101 := rel_lay3 (M := [1]) (N := []) hR hi0 l1 u1 l2 u2 (Fr.tr (Fr.tr (Fr.up u_2.1 hi0 (by decide)) (Fr.up u_4.1 hi0 (by decide))) (Fr.mono hF_22 (by decide))) (by decide) (by decide) (four e_32 e_50 e_66 e_72 u_48 u_64 u_70 u_80 (laySt a1 a2) hs0 hs1 hs2 hs3) (four e_82 e_88 e_94 e_98 u_86 u_92 u_96 u_102 (layDd a1) ht0 ht1 rfl ht3)
        have hs_103 : aF 77 ws_1 = (aF 77 ws0) := (aF_ud u_2.1 (kd_ne kSC_77 hi0 (by decide)))
        have hs_104 : aF 77 ws_3 = (aF 77 ws0) := (aF_ud u_4.1 (kd_ne kSC_77 hi0 (by decide))).trans hs_103
        have hs_105 : aF 77 ws_21 = (aF 77 ws0) := (aF_fr hF_22 kSC_77 (by decide)).trans hs_104
        have hs_106 : aF 77 ws_47 = (aF 77 ws0) := (aF_ud u_48.1 (kd_ne kSC_77 (rSC_1_17 hi0) (by decide))).trans hs_105
        have hs_107 : aF 77 ws_63 = (aF 77 ws0) := (aF_ud u_64.1 (kd_ne kSC_77 (rSC_1_17 hi0) (by decide))).trans hs_106
        have hs_108 : aF 77 ws_69 = (aF 77 ws0) := (aF_ud u_70.1 (kd_ne kSC_77 (rSC_1_17 hi0) (by decide))).trans hs_107
        have hs_109 : aF 77 ws_79 = (aF 77 ws0) := (aF_ud u_80.1 (kd_ne kSC_77 (rSC_1_17 hi0) (by decide))).trans hs_108
        have hs_110 : aF 77 ws_85 = (aF 77 ws0) := (aF_ud u_86.1 (kd_ne kSC_77 (rSC_1_18 hi0) (by decide))).trans hs_109
        have hs_111 : aF 77 ws_91 = (aF 77 ws0) := (aF_ud u_92.1 (kd_ne kSC_77 (rSC_1_18 hi0) (by decide))).trans hs_110
        have hs_112 : aF 77 ws_95 = (aF 77 ws0) := (aF_ud u_96.1 (kd_ne kSC_77 (rSC_1_18 hi0) (by decide))).trans hs_111
        have hs_113 : aF 77 ws_101 = (aF 77 ws0) := (aF_ud u_102.1 (kd_ne kSC_77 (rSC_1_18 hi0) (by decide))).trans hs_112
        have hs_114 : aF i0 ws_1 = (upI (aF i0 ws0) 5 a1.toInt) := (aF_up (by decide) u_2)
        have hs_115 : aF i0 ws_3 = (upI (upI (aF i0 ws0) 5 a1.toInt) 6 a2.toInt) := (aF_up (by decide) u_4).trans (congrArg (fun s => upI s 6 a2.toInt) hs_114)
        have hs_116 : aF i0 ws_21 = (upI (upI (aF i0 ws0) 5 a1.toInt) 6 a2.toInt) := (aF_fr hF_22 hi0 (by decide)).trans hs_115
        have hs_117 : aF i0 ws_47 = (upI (upI (aF i0 ws0) 5 a1.toInt) 6 a2.toInt) := (aF_ud u_48.1 (kd_ne hi0 (rSC_1_17 hi0) (by decide))).trans hs_116
        have hs_118 : aF i0 ws_63 = (upI (upI (aF i0 ws0) 5 a1.toInt) 6 a2.toInt) := (aF_ud u_64.1 (kd_ne hi0 (rSC_1_17 hi0) (by decide))).trans hs_117
        have hs_119 : aF i0 ws_69 = (upI (upI (aF i0 ws0) 5 a1.toInt) 6 a2.toInt) := (aF_ud u_70.1 (kd_ne hi0 (rSC_1_17 hi0) (by decide))).trans hs_118
        have hs_120 : aF i0 ws_79 = (upI (upI (aF i0 ws0) 5 a1.toInt) 6 a2.toInt) := (aF_ud u_80.1 (kd_ne hi0 (rSC_1_17 hi0) (by decide))).trans hs_119
        have hs_121 : aF i0 ws_85 = (upI (upI (aF i0 ws0) 5 a1.toInt) 6 a2.toInt) := (aF_ud u_86.1 (kd_ne hi0 (rSC_1_18 hi0) (by decide))).trans hs_120
        have hs_122 : aF i0 ws_91 = (upI (upI (aF i0 ws0) 5 a1.toInt) 6 a2.toInt) := (aF_ud u_92.1 (kd_ne hi0 (rSC_1_18 hi0) (by decide))).trans hs_121
        have hs_123 : aF i0 ws_95 = (upI (upI (aF i0 ws0) 5 a1.toInt) 6 a2.toInt) := (aF_ud u_96.1 (kd_ne hi0 (rSC_1_18 hi0) (by decide))).trans hs_122
        have hs_124 : aF i0 ws_101 = (upI (upI (aF i0 ws0) 5 a1.toInt) 6 a2.toInt) := (aF_ud u_102.1 (kd_ne hi0 (rSC_1_18 hi0) (by decide))).trans hs_123
        have hz_125 : (upI (upI (aF i0 ws0) 5 a1.toInt) 6 a2.toInt) = upI (upI (aF i0 ws0) 5 a1.toInt) 6 a2.toInt := by rfl
        rw [hQ]
        exact y_vret C0 h (Fr.tr (Fr.tr (Fr.tr (Fr.tr (Fr.tr (Fr.tr (Fr.tr (Fr.tr (Fr.tr (Fr.tr (Fr.up u_2.1 hi0 (by decide)) (Fr.up u_4.1 hi0 (by decide))) (Fr.mono hF_22 (by decide))) (Fr.up u_48.1 (rSC_1_17 hi0) (by decide))) (Fr.up u_64.1 (rSC_1_17 hi0) (by decide))) (Fr.up u_70.1 (rSC_1_17 hi0) (by decide))) (Fr.up u_80.1 (rSC_1_17 hi0) (by decide))) (Fr.up u_86.1 (rSC_1_18 hi0) (by decide))) (Fr.up u_92.1 (rSC_1_18 hi0) (by decide))) (Fr.up u_96.1 (rSC_1_18 hi0) (by decide))) (Fr.up u_102.1 (rSC_1_18 hi0) (by decide))) ⟨hRl, (Eq.trans hs_124 hz_125)⟩ dX0_lay_128
      · -- 27
        refine lv_iload C0.1 C0.2.1 dX0_lay_30 (lv_at hl 1 rfl) ?_
        refine y_c1 (n := 1) C0 (by decide) dX0_lay_32 (fun v_126 e_127 => ?_)
        refine lv_iload C0.1 C0.2.1 dX0_lay_33 (lv_at hl 0 rfl) ?_
        refine lv_iload_n C0.1 C0.2.1 dX0_lay_35 rfl (lv_at hl 4 rfl) ?_
        refine y_imulX C0 dX0_lay_36 (fun v_129 e_128 => ?_)
        refine y_ishlX C0 dX0_lay_37 (fun v_131 e_130 => ?_)
        refine y_iorX C0 dX0_lay_38 (fun v_133 e_132 => ?_)
        refine lv_istore (lv' := [(4, .int v_133), (5, .int x5_19), (3, .int v_14), (0, .ref (ad i0)), (1, .int a1), (2, .int a2)]) C0.1 C0.2.1 dX0_lay_39 hl (by decide) rfl (fun ls hl => ?_)
        refine y_inc (kp := 1) (n := 1) (fun v_134 => [(5, .int v_134), (4, .int v_133), (3, .int v_14), (0, .ref (ad i0)), (1, .int a1), (2, .int a2)]) C0 hl rfl (by decide) (by decide) (fun _ => rfl) (o63_43 l2 u2 b_27 b_28 b_29 hn_26 c_30 (le_min x5_19) (le_max x5_19) (le_min a2) (le_max a2)) (o63_44 l2 u2 b_27 b_28 b_29 hn_26 c_30 (le_min x5_19) (le_max x5_19) (le_min a2) (le_max a2)) dX0_lay_41 (fun v_134 ls e_135 hl => ?_)
        refine lv_goto (tgt := 24) C0.1 C0.2.1 dX0_lay_44 (by decide) ?_
        exact ih_24 v_134 v_133 _ _ _ _ (o63_45 l2 u2 b_27 b_28 b_29 hn_26 c_30 e_135) (o63_46 l2 u2 b_27 b_28 b_29 hn_26 c_30 e_135) (o63_47 l2 u2 b_27 b_28 b_29 hn_26 c_30 e_135) (o63_48 l2 u2 b_27 b_28 b_29 hn_26 c_30 e_135) ((fcol_s hfc e_127 e_128 e_130 e_132 e_135 (o63_49 l2 u2 b_27 b_28 b_29 hn_26 c_30 e_135))) h hF_22 (lv_sub hl [0, 1, 2, 3, 4, 5] rfl)
  exact lp_23 ((5 - v_17.toInt + 1).toNat) v_17 v_15 _ _ _ _ (o63_50 e_18) (o63_17 e_18) (o63_19 e_18) (o63_51 l2 u2 e_18) ((fcol_i e_16 e_18)) h Fr.rf (lv_sub hl [0, 1, 2, 3, 4, 5] rfl)
set_option maxHeartbeats 4000000 in
set_option maxRecDepth 100000 in
theorem c_X5_headingS {T : Nat → Int} (l : Launch) (G : GG) (Z : RZ) (ad : Nat → Nat) (ws0 : va_W) (hT : Ty G (SC tt) ad ws0) (hTp : Tp T ws0) : Mq l yX5_heading cX5_heading 2 (some .int) 6 G Z [.ref (ad 77)] ws0 (PI G (SC tt) ad [16] ws0 (fun r u => (0 ≤ r.toInt) ∧ (r.toInt ≤ 3) ∧ (aF 77 u = hdS T (aF 77 ws0)))) := by
  refine Mq.start (by decide) (Nat.le_of_ble_eq_true rfl) ?_
  intro p e s m below meth c A ls C0 hZ h hl
  have hl : lv_has ls 2 [(0, .ref (ad 77))] := hl
  have h : Wt G (SC tt) ad A s s.heap [] ws0 := ⟨h, hT⟩
  obtain ⟨args, hargs⟩ : ∃ z, z = ([.ref (ad 77)] : List Value).toArray := ⟨_, rfl⟩
  rw [← hargs] at C0 ⊢
  have C0 : Cx p s m args meth c RX5 cX5_heading 2 (some .int) := C0
  obtain ⟨Q, hQ⟩ : ∃ z, z = MQ below ((PI G (SC tt) ad [16] ws0 (fun r u => (0 ≤ r.toInt) ∧ (r.toInt ≤ 3) ∧ (aF 77 u = hdS T (aF 77 ws0)))) A) args s 0 0 A := ⟨_, rfl⟩
  rw [← hQ]
  refine lv_aload_n C0.1 C0.2.1 dX5_heading_0 rfl (lv_at hl 0 rfl) ?_
  refine va_ldcS C0.1 C0.2.1 C0.2.2.2.1 (sr_5 hZ) dX5_heading_1 ?_
  refine y_ci h (y_rV (As := [.ref (Z.2.1 5)]) (rest := []) C0 hZ h (c_X5_isWordS l G Z ad _ h.2 5 (by decide) hTp) k_X5_isWord q_724 q_5 q_722 kSC_77 rfl rfl rfl hl.1 rfl rfl (Nat.le_of_ble_eq_true rfl) dX5_heading_3 ⟨Nat.le_of_ble_eq_true rfl, Nat.le_of_ble_eq_true rfl⟩ ⟨Nat.le_of_ble_eq_true rfl, Nat.le_of_ble_eq_true rfl⟩) (fun r_4 H locs ws_1 h u_2 p_3 => ?_)
  obtain ⟨e_5, e_6, e_7⟩ := p_3
  refine y_if_eq (tgt := 13) C0 dX5_heading_6 (by decide) (fun c_8 => ?_) (fun c_8 => ?_)
  · -- 6
    refine lv_aload_n C0.1 C0.2.1 dX5_heading_13 rfl (lv_at hl 0 rfl) ?_
    refine va_ldcS C0.1 C0.2.1 C0.2.2.2.1 (sr_6 hZ) dX5_heading_14 ?_
    refine y_ci h (y_rV (As := [.ref (Z.2.1 6)]) (rest := []) C0 hZ h (c_X5_isWordS l G Z ad _ h.2 6 (by decide) ((Tp.fr (M := []) hTp u_2 kSC_78 (by decide)))) k_X5_isWord q_724 q_5 q_722 kSC_77 rfl rfl rfl hl.1 rfl rfl (Nat.le_of_ble_eq_true rfl) dX5_heading_16 ⟨Nat.le_of_ble_eq_true rfl, Nat.le_of_ble_eq_true rfl⟩ ⟨Nat.le_of_ble_eq_true rfl, Nat.le_of_ble_eq_true rfl⟩) (fun r_12 H locs ws_9 h u_10 p_11 => ?_)
    obtain ⟨e_13, e_14, e_15⟩ := p_11
    refine y_if_eq (tgt := 26) C0 dX5_heading_19 (by decide) (fun c_16 => ?_) (fun c_16 => ?_)
    · -- 19
      refine lv_aload_n C0.1 C0.2.1 dX5_heading_26 rfl (lv_at hl 0 rfl) ?_
      refine va_ldcS C0.1 C0.2.1 C0.2.2.2.1 (sr_7 hZ) dX5_heading_27 ?_
      refine y_ci h (y_rV (As := [.ref (Z.2.1 7)]) (rest := []) C0 hZ h (c_X5_isWordS l G Z ad _ h.2 7 (by decide) ((Tp.fr (M := []) hTp (Fr.tr u_2 u_10) kSC_78 (by decide)))) k_X5_isWord q_724 q_5 q_722 kSC_77 rfl rfl rfl hl.1 rfl rfl (Nat.le_of_ble_eq_true rfl) dX5_heading_29 ⟨Nat.le_of_ble_eq_true rfl, Nat.le_of_ble_eq_true rfl⟩ ⟨Nat.le_of_ble_eq_true rfl, Nat.le_of_ble_eq_true rfl⟩) (fun r_20 H locs ws_17 h u_18 p_19 => ?_)
      obtain ⟨e_21, e_22, e_23⟩ := p_19
      refine y_if_eq (tgt := 39) C0 dX5_heading_32 (by decide) (fun c_24 => ?_) (fun c_24 => ?_)
      · -- 32
        refine lv_aload_n C0.1 C0.2.1 dX5_heading_39 rfl (lv_at hl 0 rfl) ?_
        refine va_ldcS C0.1 C0.2.1 C0.2.2.2.1 (sr_8 hZ) dX5_heading_40 ?_
        refine y_ci h (y_rV (As := [.ref (Z.2.1 8)]) (rest := []) C0 hZ h (c_X5_isWordS l G Z ad _ h.2 8 (by decide) ((Tp.fr (M := []) hTp (Fr.tr (Fr.tr u_2 u_10) u_18) kSC_78 (by decide)))) k_X5_isWord q_724 q_5 q_722 kSC_77 rfl rfl rfl hl.1 rfl rfl (Nat.le_of_ble_eq_true rfl) dX5_heading_42 ⟨Nat.le_of_ble_eq_true rfl, Nat.le_of_ble_eq_true rfl⟩ ⟨Nat.le_of_ble_eq_true rfl, Nat.le_of_ble_eq_true rfl⟩) (fun r_28 H locs ws_25 h u_26 p_27 => ?_)
        obtain ⟨e_29, e_30, e_31⟩ := p_27
        refine y_if_eq (tgt := 52) C0 dX5_heading_45 (by decide) (fun c_32 => ?_) (fun c_32 => ?_)
        · -- 45
          refine y_c1 (n := (-1)) C0 (by decide) dX5_heading_52 (fun v_33 e_34 => ?_)
          refine lv_istore_n (lv' := [(1, .int v_33), (0, .ref (ad 77))]) C0.1 C0.2.1 dX5_heading_53 rfl hl (by decide) rfl (fun ls hl => ?_)
          refine lv_iload_n C0.1 C0.2.1 dX5_heading_54 rfl (lv_at hl 0 rfl) ?_
          refine y_if_ge (tgt := 65) C0 dX5_heading_55 (by decide) (fun c_35 => ((o63_52 e_34 c_35)).elim) (fun c_35 => ?_)
          refine lv_aload_n C0.1 C0.2.1 dX5_heading_58 rfl (lv_at hl 1 rfl) ?_
          refine y_c1 (n := 2) C0 (by decide) dX5_heading_59 (fun v_36 e_37 => ?_)
          refine y_cv h (y_rV (As := [.int v_36]) (rest := []) C0 hZ h (c_X5_failS l G Z ad _ h.2 v_36) k_X5_fail q_628 q_3 q_626 kSC_77 rfl rfl rfl hl.1 rfl rfl (Nat.le_of_ble_eq_true rfl) dX5_heading_60 ⟨Nat.le_of_ble_eq_true rfl, Nat.le_of_ble_eq_true rfl⟩ ⟨Nat.le_of_ble_eq_true rfl, Nat.le_of_ble_eq_true rfl⟩) (fun H locs ws_38 h u_39 p_40 => ?_)
          have e_41 := p_40
          refine y_c1 (n := 0) C0 (by decide) dX5_heading_63 (fun v_42 e_43 => ?_)
          have hs_44 : aF 20 ws_1 = (aF 20 ws0) := (aF_fr u_2 kSC_20 (by decide))
          have hs_45 : aF 20 ws_9 = (aF 20 ws0) := (aF_fr u_10 kSC_20 (by decide)).trans hs_44
          have hs_46 : aF 20 ws_17 = (aF 20 ws0) := (aF_fr u_18 kSC_20 (by decide)).trans hs_45
          have hs_47 : aF 20 ws_25 = (aF 20 ws0) := (aF_fr u_26 kSC_20 (by decide)).trans hs_46
          have hs_48 : aF 20 ws_38 = (aF 20 ws0) := (aF_fr u_39 kSC_20 (by decide)).trans hs_47
          have hs_49 : aF 29 ws_1 = (aF 29 ws0) := (aF_fr u_2 kSC_29 (by decide))
          have hs_50 : aF 29 ws_9 = (aF 29 ws0) := (aF_fr u_10 kSC_29 (by decide)).trans hs_49
          have hs_51 : aF 29 ws_17 = (aF 29 ws0) := (aF_fr u_18 kSC_29 (by decide)).trans hs_50
          have hs_52 : aF 29 ws_25 = (aF 29 ws0) := (aF_fr u_26 kSC_29 (by decide)).trans hs_51
          have hs_53 : aF 29 ws_38 = (aF 29 ws0) := (aF_fr u_39 kSC_29 (by decide)).trans hs_52
          have hq_54 := e_7
          have hs_55 : aF 77 ws_1 = (aF 77 ws0) := (aF_fr u_2 kSC_77 (by decide))
          have hq_56 := e_15
          rw [hs_55] at hq_56
          have hs_57 : aF 77 ws_9 = (aF 77 ws0) := (aF_fr u_10 kSC_77 (by decide)).trans hs_55
          have hq_58 := e_23
          rw [hs_57] at hq_58
          have hs_59 : aF 77 ws_17 = (aF 77 ws0) := (aF_fr u_18 kSC_77 (by decide)).trans hs_57
          have hq_60 := e_31
          rw [hs_59] at hq_60
          have hs_61 : aF 77 ws_25 = (aF 77 ws0) := (aF_fr u_26 kSC_77 (by decide)).trans hs_59
          have hs_62 : aF 77 ws_38 = (failS 2 (aF 77 ws0)) := e_41.trans ((congrArg (fun s => failS v_36.toInt s) hs_61).trans (by rw [(o63_54 e_37)]))
          have hz_63 : (failS 2 (aF 77 ws0)) = hdS T (aF 77 ws0) := by unfold hdS; (repeat' split) <;> first | rfl | (exfalso; omega) | (congr 1 <;> omega) | (congr 2 <;> omega)
          rw [hQ]
          exact y_iret C0 h (Fr.tr (Fr.tr (Fr.tr (Fr.tr (Fr.mono u_2 (by decide)) (Fr.mono u_10 (by decide))) (Fr.mono u_18 (by decide))) (Fr.mono u_26 (by decide))) u_39) ⟨(o63_17 e_43), (o63_53 e_43), (Eq.trans hs_62 hz_63)⟩ dX5_heading_64
        · -- 45
          refine y_c1 (n := 3) C0 (by decide) dX5_heading_48 (fun v_64 e_65 => ?_)
          refine lv_goto (tgt := 53) C0.1 C0.2.1 dX5_heading_49 (by decide) ?_
          refine lv_istore_n (lv' := [(1, .int v_64), (0, .ref (ad 77))]) C0.1 C0.2.1 dX5_heading_53 rfl hl (by decide) rfl (fun ls hl => ?_)
          refine lv_iload_n C0.1 C0.2.1 dX5_heading_54 rfl (lv_at hl 0 rfl) ?_
          refine y_if_ge (tgt := 65) C0 dX5_heading_55 (by decide) (fun c_66 => ?_) (fun c_66 => ((o63_55 e_65 c_66)).elim)
          refine lv_aload_n C0.1 C0.2.1 dX5_heading_65 rfl (lv_at hl 1 rfl) ?_
          refine y_cv h (y_rV (As := []) (rest := []) C0 hZ h (c_X5_advanceS l G Z ad _ h.2 ((Tp.fr (M := []) hTp (Fr.tr (Fr.tr (Fr.tr u_2 u_10) u_18) u_26) kSC_78 (by decide)))) k_X5_advance q_616 q_0 q_614 kSC_77 rfl rfl rfl hl.1 rfl rfl (Nat.le_of_ble_eq_true rfl) dX5_heading_66 ⟨Nat.le_of_ble_eq_true rfl, Nat.le_of_ble_eq_true rfl⟩ ⟨Nat.le_of_ble_eq_true rfl, Nat.le_of_ble_eq_true rfl⟩) (fun H locs ws_67 h u_68 p_69 => ?_)
          have e_70 := p_69
          refine lv_iload_n C0.1 C0.2.1 dX5_heading_69 rfl (lv_at hl 0 rfl) ?_
          have hs_71 : aF 20 ws_1 = (aF 20 ws0) := (aF_fr u_2 kSC_20 (by decide))
          have hs_72 : aF 20 ws_9 = (aF 20 ws0) := (aF_fr u_10 kSC_20 (by decide)).trans hs_71
          have hs_73 : aF 20 ws_17 = (aF 20 ws0) := (aF_fr u_18 kSC_20 (by decide)).trans hs_72
          have hs_74 : aF 20 ws_25 = (aF 20 ws0) := (aF_fr u_26 kSC_20 (by decide)).trans hs_73
          have hs_75 : aF 20 ws_67 = (aF 20 ws0) := (aF_fr u_68 kSC_20 (by decide)).trans hs_74
          have hs_76 : aF 29 ws_1 = (aF 29 ws0) := (aF_fr u_2 kSC_29 (by decide))
          have hs_77 : aF 29 ws_9 = (aF 29 ws0) := (aF_fr u_10 kSC_29 (by decide)).trans hs_76
          have hs_78 : aF 29 ws_17 = (aF 29 ws0) := (aF_fr u_18 kSC_29 (by decide)).trans hs_77
          have hs_79 : aF 29 ws_25 = (aF 29 ws0) := (aF_fr u_26 kSC_29 (by decide)).trans hs_78
          have hs_80 : aF 29 ws_67 = (aF 29 ws0) := (aF_fr u_68 kSC_29 (by decide)).trans hs_79
          have hq_81 := e_7
          have hs_82 : aF 77 ws_1 = (aF 77 ws0) := (aF_fr u_2 kSC_77 (by decide))
          have hq_83 := e_15
          rw [hs_82] at hq_83
          have hs_84 : aF 77 ws_9 = (aF 77 ws0) := (aF_fr u_10 kSC_77 (by decide)).trans hs_82
          have hq_85 := e_23
          rw [hs_84] at hq_85
          have hs_86 : aF 77 ws_17 = (aF 77 ws0) := (aF_fr u_18 kSC_77 (by decide)).trans hs_84
          have hq_87 := e_31
          rw [hs_86] at hq_87
          have hs_88 : aF 77 ws_25 = (aF 77 ws0) := (aF_fr u_26 kSC_77 (by decide)).trans hs_86
          have hs_89 : aF 77 ws_67 = (advS T (aF 77 ws0)) := e_70.trans (congrArg (fun s => advS T s) hs_88)
          have hz_90 : (advS T (aF 77 ws0)) = hdS T (aF 77 ws0) := by unfold hdS; (repeat' split) <;> first | rfl | (exfalso; omega) | (congr 1 <;> omega) | (congr 2 <;> omega)
          rw [hQ]
          exact y_iret C0 h (Fr.tr (Fr.tr (Fr.tr (Fr.tr (Fr.mono u_2 (by decide)) (Fr.mono u_10 (by decide))) (Fr.mono u_18 (by decide))) (Fr.mono u_26 (by decide))) u_68) ⟨(o63_56 e_65 c_66), (o63_57 e_65 c_66), (Eq.trans hs_89 hz_90)⟩ dX5_heading_70
      · -- 32
        refine y_c1 (n := 2) C0 (by decide) dX5_heading_35 (fun v_91 e_92 => ?_)
        refine lv_goto (tgt := 53) C0.1 C0.2.1 dX5_heading_36 (by decide) ?_
        refine lv_istore_n (lv' := [(1, .int v_91), (0, .ref (ad 77))]) C0.1 C0.2.1 dX5_heading_53 rfl hl (by decide) rfl (fun ls hl => ?_)
        refine lv_iload_n C0.1 C0.2.1 dX5_heading_54 rfl (lv_at hl 0 rfl) ?_
        refine y_if_ge (tgt := 65) C0 dX5_heading_55 (by decide) (fun c_93 => ?_) (fun c_93 => ((o63_58 e_92 c_93)).elim)
        refine lv_aload_n C0.1 C0.2.1 dX5_heading_65 rfl (lv_at hl 1 rfl) ?_
        refine y_cv h (y_rV (As := []) (rest := []) C0 hZ h (c_X5_advanceS l G Z ad _ h.2 ((Tp.fr (M := []) hTp (Fr.tr (Fr.tr u_2 u_10) u_18) kSC_78 (by decide)))) k_X5_advance q_616 q_0 q_614 kSC_77 rfl rfl rfl hl.1 rfl rfl (Nat.le_of_ble_eq_true rfl) dX5_heading_66 ⟨Nat.le_of_ble_eq_true rfl, Nat.le_of_ble_eq_true rfl⟩ ⟨Nat.le_of_ble_eq_true rfl, Nat.le_of_ble_eq_true rfl⟩) (fun H locs ws_94 h u_95 p_96 => ?_)
        have e_97 := p_96
        refine lv_iload_n C0.1 C0.2.1 dX5_heading_69 rfl (lv_at hl 0 rfl) ?_
        have hs_98 : aF 20 ws_1 = (aF 20 ws0) := (aF_fr u_2 kSC_20 (by decide))
        have hs_99 : aF 20 ws_9 = (aF 20 ws0) := (aF_fr u_10 kSC_20 (by decide)).trans hs_98
        have hs_100 : aF 20 ws_17 = (aF 20 ws0) := (aF_fr u_18 kSC_20 (by decide)).trans hs_99
        have hs_101 : aF 20 ws_94 = (aF 20 ws0) := (aF_fr u_95 kSC_20 (by decide)).trans hs_100
        have hs_102 : aF 29 ws_1 = (aF 29 ws0) := (aF_fr u_2 kSC_29 (by decide))
        have hs_103 : aF 29 ws_9 = (aF 29 ws0) := (aF_fr u_10 kSC_29 (by decide)).trans hs_102
        have hs_104 : aF 29 ws_17 = (aF 29 ws0) := (aF_fr u_18 kSC_29 (by decide)).trans hs_103
        have hs_105 : aF 29 ws_94 = (aF 29 ws0) := (aF_fr u_95 kSC_29 (by decide)).trans hs_104
        have hq_106 := e_7
        have hs_107 : aF 77 ws_1 = (aF 77 ws0) := (aF_fr u_2 kSC_77 (by decide))
        have hq_108 := e_15
        rw [hs_107] at hq_108
        have hs_109 : aF 77 ws_9 = (aF 77 ws0) := (aF_fr u_10 kSC_77 (by decide)).trans hs_107
        have hq_110 := e_23
        rw [hs_109] at hq_110
        have hs_111 : aF 77 ws_17 = (aF 77 ws0) := (aF_fr u_18 kSC_77 (by decide)).trans hs_109
        have hs_112 : aF 77 ws_94 = (advS T (aF 77 ws0)) := e_97.trans (congrArg (fun s => advS T s) hs_111)
        have hz_113 : (advS T (aF 77 ws0)) = hdS T (aF 77 ws0) := by unfold hdS; (repeat' split) <;> first | rfl | (exfalso; omega) | (congr 1 <;> omega) | (congr 2 <;> omega)
        rw [hQ]
        exact y_iret C0 h (Fr.tr (Fr.tr (Fr.tr (Fr.mono u_2 (by decide)) (Fr.mono u_10 (by decide))) (Fr.mono u_18 (by decide))) u_95) ⟨(o63_59 e_92 c_93), (o63_60 e_92 c_93), (Eq.trans hs_112 hz_113)⟩ dX5_heading_70
    · -- 19
      refine y_c1 (n := 1) C0 (by decide) dX5_heading_22 (fun v_114 e_115 => ?_)
      refine lv_goto (tgt := 53) C0.1 C0.2.1 dX5_heading_23 (by decide) ?_
      refine lv_istore_n (lv' := [(1, .int v_114), (0, .ref (ad 77))]) C0.1 C0.2.1 dX5_heading_53 rfl hl (by decide) rfl (fun ls hl => ?_)
      refine lv_iload_n C0.1 C0.2.1 dX5_heading_54 rfl (lv_at hl 0 rfl) ?_
      refine y_if_ge (tgt := 65) C0 dX5_heading_55 (by decide) (fun c_116 => ?_) (fun c_116 => ((o63_61 e_115 c_116)).elim)
      refine lv_aload_n C0.1 C0.2.1 dX5_heading_65 rfl (lv_at hl 1 rfl) ?_
      refine y_cv h (y_rV (As := []) (rest := []) C0 hZ h (c_X5_advanceS l G Z ad _ h.2 ((Tp.fr (M := []) hTp (Fr.tr u_2 u_10) kSC_78 (by decide)))) k_X5_advance q_616 q_0 q_614 kSC_77 rfl rfl rfl hl.1 rfl rfl (Nat.le_of_ble_eq_true rfl) dX5_heading_66 ⟨Nat.le_of_ble_eq_true rfl, Nat.le_of_ble_eq_true rfl⟩ ⟨Nat.le_of_ble_eq_true rfl, Nat.le_of_ble_eq_true rfl⟩) (fun H locs ws_117 h u_118 p_119 => ?_)
      have e_120 := p_119
      refine lv_iload_n C0.1 C0.2.1 dX5_heading_69 rfl (lv_at hl 0 rfl) ?_
      have hs_121 : aF 20 ws_1 = (aF 20 ws0) := (aF_fr u_2 kSC_20 (by decide))
      have hs_122 : aF 20 ws_9 = (aF 20 ws0) := (aF_fr u_10 kSC_20 (by decide)).trans hs_121
      have hs_123 : aF 20 ws_117 = (aF 20 ws0) := (aF_fr u_118 kSC_20 (by decide)).trans hs_122
      have hs_124 : aF 29 ws_1 = (aF 29 ws0) := (aF_fr u_2 kSC_29 (by decide))
      have hs_125 : aF 29 ws_9 = (aF 29 ws0) := (aF_fr u_10 kSC_29 (by decide)).trans hs_124
      have hs_126 : aF 29 ws_117 = (aF 29 ws0) := (aF_fr u_118 kSC_29 (by decide)).trans hs_125
      have hq_127 := e_7
      have hs_128 : aF 77 ws_1 = (aF 77 ws0) := (aF_fr u_2 kSC_77 (by decide))
      have hq_129 := e_15
      rw [hs_128] at hq_129
      have hs_130 : aF 77 ws_9 = (aF 77 ws0) := (aF_fr u_10 kSC_77 (by decide)).trans hs_128
      have hs_131 : aF 77 ws_117 = (advS T (aF 77 ws0)) := e_120.trans (congrArg (fun s => advS T s) hs_130)
      have hz_132 : (advS T (aF 77 ws0)) = hdS T (aF 77 ws0) := by unfold hdS; (repeat' split) <;> first | rfl | (exfalso; omega) | (congr 1 <;> omega) | (congr 2 <;> omega)
      rw [hQ]
      exact y_iret C0 h (Fr.tr (Fr.tr (Fr.mono u_2 (by decide)) (Fr.mono u_10 (by decide))) u_118) ⟨(o63_62 e_115 c_116), (o63_63 e_115 c_116), (Eq.trans hs_131 hz_132)⟩ dX5_heading_70
  · -- 6
    refine y_c1 (n := 0) C0 (by decide) dX5_heading_9 (fun v_133 e_134 => ?_)
    refine lv_goto (tgt := 53) C0.1 C0.2.1 dX5_heading_10 (by decide) ?_
    refine lv_istore_n (lv' := [(1, .int v_133), (0, .ref (ad 77))]) C0.1 C0.2.1 dX5_heading_53 rfl hl (by decide) rfl (fun ls hl => ?_)
    refine lv_iload_n C0.1 C0.2.1 dX5_heading_54 rfl (lv_at hl 0 rfl) ?_
    refine y_if_ge (tgt := 65) C0 dX5_heading_55 (by decide) (fun c_135 => ?_) (fun c_135 => ((o63_64 e_134 c_135)).elim)
    refine lv_aload_n C0.1 C0.2.1 dX5_heading_65 rfl (lv_at hl 1 rfl) ?_
    refine y_cv h (y_rV (As := []) (rest := []) C0 hZ h (c_X5_advanceS l G Z ad _ h.2 ((Tp.fr (M := []) hTp u_2 kSC_78 (by decide)))) k_X5_advance q_616 q_0 q_614 kSC_77 rfl rfl rfl hl.1 rfl rfl (Nat.le_of_ble_eq_true rfl) dX5_heading_66 ⟨Nat.le_of_ble_eq_true rfl, Nat.le_of_ble_eq_true rfl⟩ ⟨Nat.le_of_ble_eq_true rfl, Nat.le_of_ble_eq_true rfl⟩) (fun H locs ws_136 h u_137 p_138 => ?_)
    have e_139 := p_138
    refine lv_iload_n C0.1 C0.2.1 dX5_heading_69 rfl (lv_at hl 0 rfl) ?_
    have hs_140 : aF 20 ws_1 = (aF 20 ws0) := (aF_fr u_2 kSC_20 (by decide))
    have hs_141 : aF 20 ws_136 = (aF 20 ws0) := (aF_fr u_137 kSC_20 (by decide)).trans hs_140
    have hs_142 : aF 29 ws_1 = (aF 29 ws0) := (aF_fr u_2 kSC_29 (by decide))
    have hs_143 : aF 29 ws_136 = (aF 29 ws0) := (aF_fr u_137 kSC_29 (by decide)).trans hs_142
    have hq_144 := e_7
    have hs_145 : aF 77 ws_1 = (aF 77 ws0) := (aF_fr u_2 kSC_77 (by decide))
    have hs_146 : aF 77 ws_136 = (advS T (aF 77 ws0)) := e_139.trans (congrArg (fun s => advS T s) hs_145)
    have hz_147 : (advS T (aF 77 ws0)) = hdS T (aF 77 ws0) := by unfold hdS; (repeat' split) <;> first | rfl | (exfalso; omega) | (congr 1 <;> omega) | (congr 2 <;> omega)
    rw [hQ]
    exact y_iret C0 h (Fr.tr (Fr.mono u_2 (by decide)) u_137) ⟨(o63_65 e_134 c_135), (o63_66 e_134 c_135), (Eq.trans hs_146 hz_147)⟩ dX5_heading_70
set_option maxHeartbeats 4000000 in
set_option maxRecDepth 100000 in
theorem c_X5_crossingToldS {T : Nat → Int} (l : Launch) (G : GG) (Z : RZ) (ad : Nat → Nat) (ws0 : va_W) (hT : Ty G (SC tt) ad ws0) (hTp : Tp T ws0) : Mq l yX5_crossingTold cX5_crossingTold 3 (some .int) 7 G Z [.ref (ad 77)] ws0 (PI G (SC tt) ad [16] ws0 (fun r u => (0 ≤ r.toInt) ∧ (r.toInt ≤ 24) ∧ (aF 77 u = crS T (aF 20 ws0 5) (aF 20 ws0 6) (aF 77 ws0)))) := by
  refine Mq.start (by decide) (Nat.le_of_ble_eq_true rfl) ?_
  intro p e s m below meth c A ls C0 hZ h hl
  have hl : lv_has ls 3 [(0, .ref (ad 77))] := hl
  have h : Wt G (SC tt) ad A s s.heap [] ws0 := ⟨h, hT⟩
  obtain ⟨args, hargs⟩ : ∃ z, z = ([.ref (ad 77)] : List Value).toArray := ⟨_, rfl⟩
  rw [← hargs] at C0 ⊢
  have C0 : Cx p s m args meth c RX5 cX5_crossingTold 3 (some .int) := C0
  obtain ⟨Q, hQ⟩ : ∃ z, z = MQ below ((PI G (SC tt) ad [16] ws0 (fun r u => (0 ≤ r.toInt) ∧ (r.toInt ≤ 24) ∧ (aF 77 u = crS T (aF 20 ws0 5) (aF 20 ws0 6) (aF 77 ws0)))) A) args s 0 0 A := ⟨_, rfl⟩
  rw [← hQ]
  refine lv_aload_n C0.1 C0.2.1 dX5_crossingTold_0 rfl (lv_at hl 0 rfl) ?_
  refine tg_X5_city C0 h kSC_77 q_370 dX5_crossingTold_1 ?_
  refine tg_X0_wide C0 h kSC_20 q_258 dX5_crossingTold_4 (fun v_1 e_2 e_3 e_4 => ?_)
  refine y_if_gt (tgt := 17) C0 dX5_crossingTold_7 (by decide) (fun c_5 => ?_) (fun c_5 => ?_)
  · -- 7
    refine lv_aload_n C0.1 C0.2.1 dX5_crossingTold_17 rfl (lv_at hl 0 rfl) ?_
    refine y_cv h (y_rV (As := []) (rest := []) C0 hZ h (c_X5_advanceS l G Z ad _ h.2 hTp) k_X5_advance q_616 q_0 q_614 kSC_77 rfl rfl rfl hl.1 rfl rfl (Nat.le_of_ble_eq_true rfl) dX5_crossingTold_18 ⟨Nat.le_of_ble_eq_true rfl, Nat.le_of_ble_eq_true rfl⟩ ⟨Nat.le_of_ble_eq_true rfl, Nat.le_of_ble_eq_true rfl⟩) (fun H locs ws_6 h u_7 p_8 => ?_)
    have e_9 := p_8
    refine lv_aload_n C0.1 C0.2.1 dX5_crossingTold_21 rfl (lv_at hl 0 rfl) ?_
    refine y_c1 (n := 0) C0 (by decide) dX5_crossingTold_22 (fun v_10 e_11 => ?_)
    refine lv_aload_n C0.1 C0.2.1 dX5_crossingTold_23 rfl (lv_at hl 0 rfl) ?_
    refine tg_X5_city C0 h kSC_77 q_370 dX5_crossingTold_24 ?_
    refine tg_X0_wide C0 h kSC_20 q_258 dX5_crossingTold_27 (fun v_12 e_13 e_14 e_15 => ?_)
    have q_16 : v_12.toInt = v_1.toInt := congrArg Int32.toInt (e_13.symm.trans (Eq.trans (Fr.fI u_7 kSC_20 (by decide)) e_2))
    refine y_c1 (n := 1) C0 (by decide) dX5_crossingTold_30 (fun v_17 e_18 => ?_)
    refine y_sub C0 (o63_67 e_3 e_4 c_5 e_14 e_15 q_16 e_18 (le_min v_12) (le_max v_12) (le_min v_17) (le_max v_17) (le_min v_1) (le_max v_1)) (o63_68 e_3 e_4 c_5 e_14 e_15 q_16 e_18 (le_min v_12) (le_max v_12) (le_min v_17) (le_max v_17) (le_min v_1) (le_max v_1)) dX5_crossingTold_31 (fun v_19 e_20 => ?_)
    refine y_ci h (y_rV (As := [.int v_10, .int v_19]) (rest := []) C0 hZ h (c_X5_boundedbS l G Z ad _ h.2 v_10 v_19 (o63_17 e_11) (o63_18 e_11) (o63_69 e_3 e_4 c_5 e_14 e_15 q_16 e_18 e_20) (o63_70 e_3 e_4 c_5 e_14 e_15 q_16 e_18 e_20) ((Tp.fr (M := [16]) hTp u_7 kSC_78 (by decide)))) k_X5_bounded q_753 q_7 q_751 kSC_77 rfl rfl rfl hl.1 rfl rfl (Nat.le_of_ble_eq_true rfl) dX5_crossingTold_32 ⟨Nat.le_of_ble_eq_true rfl, Nat.le_of_ble_eq_true rfl⟩ ⟨Nat.le_of_ble_eq_true rfl, Nat.le_of_ble_eq_true rfl⟩) (fun r_24 H locs ws_21 h u_22 p_23 => ?_)
    obtain ⟨e_25, e_26, e_27, e_28⟩ := p_23
    refine lv_istore_n (lv' := [(1, .int r_24), (0, .ref (ad 77))]) C0.1 C0.2.1 dX5_crossingTold_35 rfl hl (by decide) rfl (fun ls hl => ?_)
    refine lv_aload_n C0.1 C0.2.1 dX5_crossingTold_36 rfl (lv_at hl 1 rfl) ?_
    refine y_c1 (n := 0) C0 (by decide) dX5_crossingTold_37 (fun v_29 e_30 => ?_)
    refine lv_aload_n C0.1 C0.2.1 dX5_crossingTold_38 rfl (lv_at hl 1 rfl) ?_
    refine tg_X5_city C0 h kSC_77 q_370 dX5_crossingTold_39 ?_
    refine tg_X0_high C0 h kSC_20 q_261 dX5_crossingTold_42 (fun v_31 e_32 e_33 e_34 => ?_)
    refine y_c1 (n := 1) C0 (by decide) dX5_crossingTold_45 (fun v_35 e_36 => ?_)
    refine y_sub C0 (o63_71 e_33 e_34 e_36 (le_min v_31) (le_max v_31) (le_min v_35) (le_max v_35)) (o63_72 e_33 e_34 e_36 (le_min v_31) (le_max v_31) (le_min v_35) (le_max v_35)) dX5_crossingTold_46 (fun v_37 e_38 => ?_)
    refine y_ci h (y_rV (As := [.int v_29, .int v_37]) (rest := []) C0 hZ h (c_X5_boundedbS l G Z ad _ h.2 v_29 v_37 (o63_17 e_30) (o63_18 e_30) (o63_73 e_33 e_34 e_36 e_38) (o63_74 e_33 e_34 e_36 e_38) ((Tp.fr (M := [16]) hTp (Fr.tr u_7 u_22) kSC_78 (by decide)))) k_X5_bounded q_753 q_7 q_751 kSC_77 rfl rfl rfl hl.1 rfl rfl (Nat.le_of_ble_eq_true rfl) dX5_crossingTold_47 ⟨Nat.le_of_ble_eq_true rfl, Nat.le_of_ble_eq_true rfl⟩ ⟨Nat.le_of_ble_eq_true rfl, Nat.le_of_ble_eq_true rfl⟩) (fun r_42 H locs ws_39 h u_40 p_41 => ?_)
    obtain ⟨e_43, e_44, e_45, e_46⟩ := p_41
    refine lv_istore_n (lv' := [(2, .int r_42), (1, .int r_24), (0, .ref (ad 77))]) C0.1 C0.2.1 dX5_crossingTold_50 rfl hl (by decide) rfl (fun ls hl => ?_)
    refine lv_aload_n C0.1 C0.2.1 dX5_crossingTold_51 rfl (lv_at hl 2 rfl) ?_
    refine tg_X5_city C0 h kSC_77 q_370 dX5_crossingTold_52 ?_
    refine tg_X0_wide C0 h kSC_20 q_258 dX5_crossingTold_55 (fun v_47 e_48 e_49 e_50 => ?_)
    have q_51 : v_47.toInt = v_1.toInt := congrArg Int32.toInt (e_48.symm.trans (Eq.trans (Eq.trans (Fr.fI u_40 kSC_20 (by decide)) (Eq.trans (Fr.fI u_22 kSC_20 (by decide)) (Fr.fI u_7 kSC_20 (by decide)))) e_2))
    refine lv_iload_n C0.1 C0.2.1 dX5_crossingTold_58 rfl (lv_at hl 0 rfl) ?_
    refine y_mulb (la := 1) (ha := 5) (lb := 0) (hb := 4) C0 (by decide) (o63_75 e_3 e_4 c_5 e_14 e_15 q_16 e_18 e_20 e_49 e_50 q_51) (o63_76 e_3 e_4 c_5 e_14 e_15 q_16 e_18 e_20 e_49 e_50 q_51) (by decide) (o63_77 e_43 e_44) (o63_78 e_43 e_44) (by decide) dX5_crossingTold_59 (fun v_52 e_53 e_54 e_55 => ?_)
    refine lv_iload_n C0.1 C0.2.1 dX5_crossingTold_60 rfl (lv_at hl 1 rfl) ?_
    refine y_add C0 (o63_79 e_25 e_26 e_54 e_55 (le_min v_52) (le_max v_52) (le_min r_24) (le_max r_24)) (o63_80 e_25 e_26 e_54 e_55 (le_min v_52) (le_max v_52) (le_min r_24) (le_max r_24)) dX5_crossingTold_61 (fun v_56 e_57 => ?_)
    have hv_58 : (aF 20 ws0) 5 = v_1.toInt := (aF_at (by decide) e_2)
    have hs_59 : aF 20 ws_6 = (aF 20 ws0) := (aF_fr u_7 kSC_20 (by decide))
    have hv_60 : (aF 20 ws0) 5 = v_12.toInt := (congrFun hs_59 5).symm.trans (aF_at (by decide) e_13)
    have hs_61 : aF 20 ws_21 = (aF 20 ws0) := (aF_fr u_22 kSC_20 (by decide)).trans hs_59
    have hv_62 : (aF 20 ws0) 6 = v_31.toInt := (congrFun hs_61 6).symm.trans (aF_at (by decide) e_32)
    have hs_63 : aF 20 ws_39 = (aF 20 ws0) := (aF_fr u_40 kSC_20 (by decide)).trans hs_61
    have hv_64 : (aF 20 ws0) 5 = v_47.toInt := (congrFun hs_63 5).symm.trans (aF_at (by decide) e_48)
    have hs_65 : aF 29 ws_6 = (aF 29 ws0) := (aF_fr u_7 kSC_29 (by decide))
    have hs_66 : aF 29 ws_21 = (aF 29 ws0) := (aF_fr u_22 kSC_29 (by decide)).trans hs_65
    have hs_67 : aF 29 ws_39 = (aF 29 ws0) := (aF_fr u_40 kSC_29 (by decide)).trans hs_66
    have hs_68 : aF 77 ws_6 = (advS T (aF 77 ws0)) := e_9
    have hq_69 := e_28
    rw [hs_68] at hq_69
    rw [(o63_20 e_11)] at hq_69
    rw [(show v_19.toInt = ((aF 20 ws0) 5 - 1) by omega)] at hq_69
    have hs_70 : aF 77 ws_21 = (bndS T 0 (((aF 20 ws0) 5 - 1)) (advS T (aF 77 ws0))) := e_27.trans ((congrArg (fun s => bndS T v_10.toInt v_19.toInt s) hs_68).trans (by rw [(o63_20 e_11), (show v_19.toInt = ((aF 20 ws0) 5 - 1) by omega)]))
    have hq_71 := e_46
    rw [hs_70] at hq_71
    rw [(o63_20 e_30)] at hq_71
    rw [(show v_37.toInt = ((aF 20 ws0) 6 - 1) by omega)] at hq_71
    have hs_72 : aF 77 ws_39 = (bndS T 0 (((aF 20 ws0) 6 - 1)) (bndS T 0 (((aF 20 ws0) 5 - 1)) (advS T (aF 77 ws0)))) := e_45.trans ((congrArg (fun s => bndS T v_29.toInt v_37.toInt s) hs_70).trans (by rw [(o63_20 e_30), (show v_37.toInt = ((aF 20 ws0) 6 - 1) by omega)]))
    have hz_73 : (bndS T 0 (((aF 20 ws0) 6 - 1)) (bndS T 0 (((aF 20 ws0) 5 - 1)) (advS T (aF 77 ws0)))) = crS T (aF 20 ws0 5) (aF 20 ws0 6) (aF 77 ws0) := by unfold crS; (repeat' split) <;> first | rfl | (exfalso; omega) | (congr 1 <;> omega) | (congr 2 <;> omega)
    rw [hQ]
    exact y_iret C0 h (Fr.tr (Fr.tr u_7 u_22) u_40) ⟨(o63_81 e_25 e_26 e_54 e_55 e_57), (o63_82 e_25 e_26 e_54 e_55 e_57), (Eq.trans hs_72 hz_73)⟩ dX5_crossingTold_62
  · -- 7
    refine lv_aload_n C0.1 C0.2.1 dX5_crossingTold_10 rfl (lv_at hl 0 rfl) ?_
    refine y_c1 (n := 2) C0 (by decide) dX5_crossingTold_11 (fun v_74 e_75 => ?_)
    refine y_cv h (y_rV (As := [.int v_74]) (rest := []) C0 hZ h (c_X5_failS l G Z ad _ h.2 v_74) k_X5_fail q_628 q_3 q_626 kSC_77 rfl rfl rfl hl.1 rfl rfl (Nat.le_of_ble_eq_true rfl) dX5_crossingTold_12 ⟨Nat.le_of_ble_eq_true rfl, Nat.le_of_ble_eq_true rfl⟩ ⟨Nat.le_of_ble_eq_true rfl, Nat.le_of_ble_eq_true rfl⟩) (fun H locs ws_76 h u_77 p_78 => ?_)
    have e_79 := p_78
    refine y_c1 (n := 0) C0 (by decide) dX5_crossingTold_15 (fun v_80 e_81 => ?_)
    have hv_82 : (aF 20 ws0) 5 = v_1.toInt := (aF_at (by decide) e_2)
    have hs_83 : aF 20 ws_76 = (aF 20 ws0) := (aF_fr u_77 kSC_20 (by decide))
    have hs_84 : aF 29 ws_76 = (aF 29 ws0) := (aF_fr u_77 kSC_29 (by decide))
    have hs_85 : aF 77 ws_76 = (failS 2 (aF 77 ws0)) := e_79.trans (by rw [(o63_54 e_75)])
    have hz_86 : (failS 2 (aF 77 ws0)) = crS T (aF 20 ws0 5) (aF 20 ws0 6) (aF 77 ws0) := by unfold crS; (repeat' split) <;> first | rfl | (exfalso; omega) | (congr 1 <;> omega) | (congr 2 <;> omega)
    rw [hQ]
    exact y_iret C0 h u_77 ⟨(o63_17 e_81), (o63_83 e_81), (Eq.trans hs_85 hz_86)⟩ dX5_crossingTold_16
set_option maxHeartbeats 4000000 in
set_option maxRecDepth 100000 in
theorem c_X5_beginLawS {T : Nat → Int} (l : Launch) (G : GG) (Z : RZ) (ad : Nat → Nat) (ws0 : va_W) (hT : Ty G (SC tt) ad ws0) (i1 : Nat) (hi1 : Kd (SC tt) i1 2) (hTp : Tp T ws0) : Mq l yX5_beginLaw cX5_beginLaw 2 none 7 G Z [.ref (ad 77), .ref (ad i1)] ws0 (PV G (SC tt) ad [2, 16] ws0 (fun u => (aF 77 u = bgS T (aF 77 ws0)))) := by
  refine Mq.start (by decide) (Nat.le_of_ble_eq_true rfl) ?_
  intro p e s m below meth c A ls C0 hZ h hl
  have hl : lv_has ls 2 [(0, .ref (ad 77)), (1, .ref (ad i1))] := hl
  have h : Wt G (SC tt) ad A s s.heap [] ws0 := ⟨h, hT⟩
  obtain ⟨args, hargs⟩ : ∃ z, z = ([.ref (ad 77), .ref (ad i1)] : List Value).toArray := ⟨_, rfl⟩
  rw [← hargs] at C0 ⊢
  have C0 : Cx p s m args meth c RX5 cX5_beginLaw 2 none := C0
  obtain ⟨Q, hQ⟩ : ∃ z, z = MQ below ((PV G (SC tt) ad [2, 16] ws0 (fun u => (aF 77 u = bgS T (aF 77 ws0)))) A) args s 0 0 A := ⟨_, rfl⟩
  rw [← hQ]
  refine lv_aload_n C0.1 C0.2.1 dX5_beginLaw_0 rfl (lv_at hl 0 rfl) ?_
  refine lv_aload_n C0.1 C0.2.1 dX5_beginLaw_1 rfl (lv_at hl 1 rfl) ?_
  refine tp_X5_law C0 h kSC_77 q_380 hi1 dX5_beginLaw_2 (fun H locs ws_1 h u_2 => ?_)
  refine lv_aload_n C0.1 C0.2.1 dX5_beginLaw_5 rfl (lv_at hl 0 rfl) ?_
  refine tg_X5_law C0 h kSC_77 q_380 dX5_beginLaw_6 (fun i_3 hi_3 => ?_)
  refine y_cv h (y_rV (As := []) (rest := []) C0 hZ h (c_X4_clear l G Z ad _ h.2 i_3 hi_3) k_X4_clear q_603 q_604 q_809 hi_3 rfl rfl rfl hl.1 rfl rfl (Nat.le_of_ble_eq_true rfl) dX5_beginLaw_9 ⟨Nat.le_of_ble_eq_true rfl, Nat.le_of_ble_eq_true rfl⟩ ⟨Nat.le_of_ble_eq_true rfl, Nat.le_of_ble_eq_true rfl⟩) (fun H locs ws_4 h u_5 p_6 => ?_)
  refine lv_aload_n C0.1 C0.2.1 dX5_beginLaw_12 rfl (lv_at hl 0 rfl) ?_
  refine y_cv h (y_rV (As := []) (rest := []) C0 hZ h (c_X5_advanceS l G Z ad _ h.2 ((Tp.fr (M := [2, 16]) hTp (Fr.tr (Fr.up u_2.1 kSC_77 (by decide)) (Fr.mono u_5 (by decide))) kSC_78 (by decide)))) k_X5_advance q_616 q_0 q_614 kSC_77 rfl rfl rfl hl.1 rfl rfl (Nat.le_of_ble_eq_true rfl) dX5_beginLaw_13 ⟨Nat.le_of_ble_eq_true rfl, Nat.le_of_ble_eq_true rfl⟩ ⟨Nat.le_of_ble_eq_true rfl, Nat.le_of_ble_eq_true rfl⟩) (fun H locs ws_7 h u_8 p_9 => ?_)
  have e_10 := p_9
  refine lv_aload_n C0.1 C0.2.1 dX5_beginLaw_16 rfl (lv_at hl 0 rfl) ?_
  refine y_c2 (n := 58) C0 (by decide) dX5_beginLaw_17 (fun v_11 e_12 => ?_)
  refine y_cv h (y_rV (As := [.int v_11]) (rest := []) C0 hZ h (c_X5_signS l G Z ad _ h.2 v_11 (o63_84 e_12) (o63_85 e_12) ((Tp.fr (M := [2, 16]) hTp (Fr.tr (Fr.tr (Fr.up u_2.1 kSC_77 (by decide)) (Fr.mono u_5 (by decide))) (Fr.mono u_8 (by decide))) kSC_78 (by decide)))) k_X5_sign q_812 q_14 q_810 kSC_77 rfl rfl rfl hl.1 rfl rfl (Nat.le_of_ble_eq_true rfl) dX5_beginLaw_19 ⟨Nat.le_of_ble_eq_true rfl, Nat.le_of_ble_eq_true rfl⟩ ⟨Nat.le_of_ble_eq_true rfl, Nat.le_of_ble_eq_true rfl⟩) (fun H locs ws_13 h u_14 p_15 => ?_)
  have e_16 := p_15
  have hs_17 : aF 20 ws_1 = (aF 20 ws0) := (aF_ud u_2.1 (kd_ne (S := SC q0) kSC_20 kSC_77 (by decide)))
  have hs_18 : aF 20 ws_4 = (aF 20 ws0) := (aF_fr u_5 kSC_20 (by decide)).trans hs_17
  have hs_19 : aF 20 ws_7 = (aF 20 ws0) := (aF_fr u_8 kSC_20 (by decide)).trans hs_18
  have hs_20 : aF 20 ws_13 = (aF 20 ws0) := (aF_fr u_14 kSC_20 (by decide)).trans hs_19
  have hs_21 : aF 29 ws_1 = (aF 29 ws0) := (aF_ud u_2.1 (kd_ne (S := SC q0) kSC_29 kSC_77 (by decide)))
  have hs_22 : aF 29 ws_4 = (aF 29 ws0) := (aF_fr u_5 kSC_29 (by decide)).trans hs_21
  have hs_23 : aF 29 ws_7 = (aF 29 ws0) := (aF_fr u_8 kSC_29 (by decide)).trans hs_22
  have hs_24 : aF 29 ws_13 = (aF 29 ws0) := (aF_fr u_14 kSC_29 (by decide)).trans hs_23
  have hs_25 : aF 77 ws_1 = (aF 77 ws0) := (aF_ur (by decide) u_2)
  have hs_26 : aF 77 ws_4 = (aF 77 ws0) := (aF_fr u_5 kSC_77 (by decide)).trans hs_25
  have hs_27 : aF 77 ws_7 = (advS T (aF 77 ws0)) := e_10.trans (congrArg (fun s => advS T s) hs_26)
  have hs_28 : aF 77 ws_13 = (signS T 58 (advS T (aF 77 ws0))) := e_16.trans ((congrArg (fun s => signS T v_11.toInt s) hs_27).trans (by rw [(o63_86 e_12)]))
  have hz_29 : (signS T 58 (advS T (aF 77 ws0))) = bgS T (aF 77 ws0) := by unfold bgS; rfl
  rw [hQ]
  exact y_vret C0 h (Fr.tr (Fr.tr (Fr.tr (Fr.up u_2.1 kSC_77 (by decide)) (Fr.mono u_5 (by decide))) (Fr.mono u_8 (by decide))) (Fr.mono u_14 (by decide))) (Eq.trans hs_28 hz_29) dX5_beginLaw_22
set_option maxHeartbeats 4000000 in
set_option maxRecDepth 100000 in
theorem c_X5_cityLineS {T : Nat → Int} (l : Launch) (G : GG) (Z : RZ) (ad : Nat → Nat) (ws0 : va_W) (hT : Ty G (SC tt) ad ws0) (hR : Rel ws0) (hTp : Tp T ws0) : Mq l yX5_cityLine cX5_cityLine 3 none 7 G Z [.ref (ad 77)] ws0 (PV G (SC tt) ad [1, 14, 15, 16] ws0 (fun u => (aF 77 u = ctS T (aF 20 ws0 5) (aF 77 ws0)) ∧ (aF 20 u = ctC T (aF 77 ws0) (aF 20 ws0)) ∧ (Rel u))) := by
  refine Mq.start (by decide) (Nat.le_of_ble_eq_true rfl) ?_
  intro p e s m below meth c A ls C0 hZ h hl
  have hl : lv_has ls 3 [(0, .ref (ad 77))] := hl
  have h : Wt G (SC tt) ad A s s.heap [] ws0 := ⟨h, hT⟩
  obtain ⟨args, hargs⟩ : ∃ z, z = ([.ref (ad 77)] : List Value).toArray := ⟨_, rfl⟩
  rw [← hargs] at C0 ⊢
  have C0 : Cx p s m args meth c RX5 cX5_cityLine 3 none := C0
  obtain ⟨Q, hQ⟩ : ∃ z, z = MQ below ((PV G (SC tt) ad [1, 14, 15, 16] ws0 (fun u => (aF 77 u = ctS T (aF 20 ws0 5) (aF 77 ws0)) ∧ (aF 20 u = ctC T (aF 77 ws0) (aF 20 ws0)) ∧ (Rel u))) A) args s 0 0 A := ⟨_, rfl⟩
  rw [← hQ]
  refine lv_aload_n C0.1 C0.2.1 dX5_cityLine_0 rfl (lv_at hl 0 rfl) ?_
  refine tg_X5_city C0 h kSC_77 q_370 dX5_cityLine_1 ?_
  refine tg_X0_wide C0 h kSC_20 q_258 dX5_cityLine_4 (fun v_1 e_2 e_3 e_4 => ?_)
  refine y_if_le (tgt := 16) C0 dX5_cityLine_7 (by decide) (fun c_5 => ?_) (fun c_5 => ?_)
  · -- 7
    refine lv_aload_n C0.1 C0.2.1 dX5_cityLine_16 rfl (lv_at hl 0 rfl) ?_
    refine y_cv h (y_rV (As := []) (rest := []) C0 hZ h (c_X5_advanceS l G Z ad _ h.2 hTp) k_X5_advance q_616 q_0 q_614 kSC_77 rfl rfl rfl hl.1 rfl rfl (Nat.le_of_ble_eq_true rfl) dX5_cityLine_17 ⟨Nat.le_of_ble_eq_true rfl, Nat.le_of_ble_eq_true rfl⟩ ⟨Nat.le_of_ble_eq_true rfl, Nat.le_of_ble_eq_true rfl⟩) (fun H locs ws_6 h u_7 p_8 => ?_)
    have e_9 := p_8
    refine lv_aload_n C0.1 C0.2.1 dX5_cityLine_20 rfl (lv_at hl 0 rfl) ?_
    refine y_c1 (n := 2) C0 (by decide) dX5_cityLine_21 (fun v_10 e_11 => ?_)
    refine y_c1 (n := 5) C0 (by decide) dX5_cityLine_22 (fun v_12 e_13 => ?_)
    refine y_ci h (y_rV (As := [.int v_10, .int v_12]) (rest := []) C0 hZ h (c_X5_boundedaS l G Z ad _ h.2 v_10 v_12 (o63_87 e_11) (o63_88 e_11) (o63_89 e_13) (o63_90 e_13) ((Tp.fr (M := [16]) hTp u_7 kSC_78 (by decide)))) k_X5_bounded q_753 q_7 q_751 kSC_77 rfl rfl rfl hl.1 rfl rfl (Nat.le_of_ble_eq_true rfl) dX5_cityLine_23 ⟨Nat.le_of_ble_eq_true rfl, Nat.le_of_ble_eq_true rfl⟩ ⟨Nat.le_of_ble_eq_true rfl, Nat.le_of_ble_eq_true rfl⟩) (fun r_17 H locs ws_14 h u_15 p_16 => ?_)
    obtain ⟨e_18, e_19, e_20, e_21⟩ := p_16
    refine lv_istore_n (lv' := [(1, .int r_17), (0, .ref (ad 77))]) C0.1 C0.2.1 dX5_cityLine_26 rfl hl (by decide) rfl (fun ls hl => ?_)
    refine lv_aload_n C0.1 C0.2.1 dX5_cityLine_27 rfl (lv_at hl 1 rfl) ?_
    refine y_c1 (n := 2) C0 (by decide) dX5_cityLine_28 (fun v_22 e_23 => ?_)
    refine y_c1 (n := 5) C0 (by decide) dX5_cityLine_29 (fun v_24 e_25 => ?_)
    refine y_ci h (y_rV (As := [.int v_22, .int v_24]) (rest := []) C0 hZ h (c_X5_boundedaS l G Z ad _ h.2 v_22 v_24 (o63_87 e_23) (o63_88 e_23) (o63_89 e_25) (o63_90 e_25) ((Tp.fr (M := [16]) hTp (Fr.tr u_7 u_15) kSC_78 (by decide)))) k_X5_bounded q_753 q_7 q_751 kSC_77 rfl rfl rfl hl.1 rfl rfl (Nat.le_of_ble_eq_true rfl) dX5_cityLine_30 ⟨Nat.le_of_ble_eq_true rfl, Nat.le_of_ble_eq_true rfl⟩ ⟨Nat.le_of_ble_eq_true rfl, Nat.le_of_ble_eq_true rfl⟩) (fun r_29 H locs ws_26 h u_27 p_28 => ?_)
    obtain ⟨e_30, e_31, e_32, e_33⟩ := p_28
    refine lv_istore_n (lv' := [(2, .int r_29), (1, .int r_17), (0, .ref (ad 77))]) C0.1 C0.2.1 dX5_cityLine_33 rfl hl (by decide) rfl (fun ls hl => ?_)
    refine lv_aload_n C0.1 C0.2.1 dX5_cityLine_34 rfl (lv_at hl 2 rfl) ?_
    refine tg_X5_city C0 h kSC_77 q_370 dX5_cityLine_35 ?_
    refine lv_iload_n C0.1 C0.2.1 dX5_cityLine_38 rfl (lv_at hl 1 rfl) ?_
    refine lv_iload_n C0.1 C0.2.1 dX5_cityLine_39 rfl (lv_at hl 0 rfl) ?_
    refine y_cv h (y_rV (As := [.int r_17, .int r_29]) (rest := []) C0 hZ h (c_X0_layS l G Z ad _ h.2 20 kSC_20 r_17 r_29 (o63_91 e_18 e_19) (o63_22 e_18 e_19) (o63_91 e_30 e_31) (o63_22 e_30 e_31) (Rel.fr (M := [16]) hR (Fr.tr (Fr.tr u_7 u_15) u_27) (by decide) (by decide))) k_X0_lay q_756 q_757 q_755 kSC_20 rfl rfl rfl hl.1 rfl rfl (Nat.le_of_ble_eq_true rfl) dX5_cityLine_40 ⟨Nat.le_of_ble_eq_true rfl, Nat.le_of_ble_eq_true rfl⟩ ⟨Nat.le_of_ble_eq_true rfl, Nat.le_of_ble_eq_true rfl⟩) (fun H locs ws_34 h u_35 p_36 => ?_)
    obtain ⟨e_37, e_38⟩ := p_36
    have hv_39 : (aF 20 ws0) 5 = v_1.toInt := (aF_at (by decide) e_2)
    have hs_40 : aF 20 ws_6 = (aF 20 ws0) := (aF_fr u_7 kSC_20 (by decide))
    have hs_41 : aF 20 ws_14 = (aF 20 ws0) := (aF_fr u_15 kSC_20 (by decide)).trans hs_40
    have hs_42 : aF 20 ws_26 = (aF 20 ws0) := (aF_fr u_27 kSC_20 (by decide)).trans hs_41
    have hs_43 : aF 20 ws_34 = (upI (upI (aF 20 ws0) 5 r_17.toInt) 6 r_29.toInt) := e_38.trans (congrArg (fun s => upI (upI s 5 r_17.toInt) 6 r_29.toInt) hs_42)
    have hs_44 : aF 29 ws_6 = (aF 29 ws0) := (aF_fr u_7 kSC_29 (by decide))
    have hs_45 : aF 29 ws_14 = (aF 29 ws0) := (aF_fr u_15 kSC_29 (by decide)).trans hs_44
    have hs_46 : aF 29 ws_26 = (aF 29 ws0) := (aF_fr u_27 kSC_29 (by decide)).trans hs_45
    have hs_47 : aF 29 ws_34 = (aF 29 ws0) := (aF_fr u_35 kSC_29 (by decide)).trans hs_46
    have hs_48 : aF 77 ws_6 = (advS T (aF 77 ws0)) := e_9
    have hq_49 := e_21
    rw [hs_48] at hq_49
    rw [(o63_54 e_11)] at hq_49
    rw [(o63_92 e_13)] at hq_49
    have hs_50 : aF 77 ws_14 = (bndS T 2 5 (advS T (aF 77 ws0))) := e_20.trans ((congrArg (fun s => bndS T v_10.toInt v_12.toInt s) hs_48).trans (by rw [(o63_54 e_11), (o63_92 e_13)]))
    have hq_51 := e_33
    rw [hs_50] at hq_51
    rw [(o63_54 e_23)] at hq_51
    rw [(o63_92 e_25)] at hq_51
    have hs_52 : aF 77 ws_26 = (bndS T 2 5 (bndS T 2 5 (advS T (aF 77 ws0)))) := e_32.trans ((congrArg (fun s => bndS T v_22.toInt v_24.toInt s) hs_50).trans (by rw [(o63_54 e_23), (o63_92 e_25)]))
    have hs_53 : aF 77 ws_34 = (bndS T 2 5 (bndS T 2 5 (advS T (aF 77 ws0)))) := (aF_fr u_35 kSC_77 (by decide)).trans hs_52
    have hz_54 : (bndS T 2 5 (bndS T 2 5 (advS T (aF 77 ws0)))) = ctS T (aF 20 ws0 5) (aF 77 ws0) := by unfold ctS; (repeat' split) <;> first | rfl | (exfalso; omega) | (congr 1 <;> omega) | (congr 2 <;> omega)
    have hs_55 : aF 77 ws_6 = (advS T (aF 77 ws0)) := e_9
    have hs_56 : aF 77 ws_14 = (bndS T 2 5 (advS T (aF 77 ws0))) := e_20.trans ((congrArg (fun s => bndS T v_10.toInt v_12.toInt s) hs_55).trans (by rw [(o63_54 e_11), (o63_92 e_13)]))
    have hs_57 : aF 77 ws_26 = (bndS T 2 5 (bndS T 2 5 (advS T (aF 77 ws0)))) := e_32.trans ((congrArg (fun s => bndS T v_22.toInt v_24.toInt s) hs_56).trans (by rw [(o63_54 e_23), (o63_92 e_25)]))
    have hs_58 : aF 77 ws_34 = (bndS T 2 5 (bndS T 2 5 (advS T (aF 77 ws0)))) := (aF_fr u_35 kSC_77 (by decide)).trans hs_57
    have hs_59 : aF 29 ws_6 = (aF 29 ws0) := (aF_fr u_7 kSC_29 (by decide))
    have hs_60 : aF 29 ws_14 = (aF 29 ws0) := (aF_fr u_15 kSC_29 (by decide)).trans hs_59
    have hs_61 : aF 29 ws_26 = (aF 29 ws0) := (aF_fr u_27 kSC_29 (by decide)).trans hs_60
    have hs_62 : aF 29 ws_34 = (aF 29 ws0) := (aF_fr u_35 kSC_29 (by decide)).trans hs_61
    have hs_63 : aF 20 ws_6 = (aF 20 ws0) := (aF_fr u_7 kSC_20 (by decide))
    have hs_64 : aF 20 ws_14 = (aF 20 ws0) := (aF_fr u_15 kSC_20 (by decide)).trans hs_63
    have hs_65 : aF 20 ws_26 = (aF 20 ws0) := (aF_fr u_27 kSC_20 (by decide)).trans hs_64
    have hs_66 : aF 20 ws_34 = (upI (upI (aF 20 ws0) 5 r_17.toInt) 6 r_29.toInt) := e_38.trans (congrArg (fun s => upI (upI s 5 r_17.toInt) 6 r_29.toInt) hs_65)
    have hz_67 : (upI (upI (aF 20 ws0) 5 r_17.toInt) 6 r_29.toInt) = ctC T (aF 77 ws0) (aF 20 ws0) := by unfold ctC; (repeat' split) <;> first | rfl | (exfalso; omega) | (congr 1 <;> omega) | (congr 2 <;> omega)
    have hs_68 : aF 20 ws_6 = (aF 20 ws0) := (aF_fr u_7 kSC_20 (by decide))
    have hs_69 : aF 20 ws_14 = (aF 20 ws0) := (aF_fr u_15 kSC_20 (by decide)).trans hs_68
    have hs_70 : aF 20 ws_26 = (aF 20 ws0) := (aF_fr u_27 kSC_20 (by decide)).trans hs_69
    have hs_71 : aF 20 ws_34 = (upI (upI (aF 20 ws0) 5 r_17.toInt) 6 r_29.toInt) := e_38.trans (congrArg (fun s => upI (upI s 5 r_17.toInt) 6 r_29.toInt) hs_70)
    have hs_72 : aF 29 ws_6 = (aF 29 ws0) := (aF_fr u_7 kSC_29 (by decide))
    have hs_73 : aF 29 ws_14 = (aF 29 ws0) := (aF_fr u_15 kSC_29 (by decide)).trans hs_72
    have hs_74 : aF 29 ws_26 = (aF 29 ws0) := (aF_fr u_27 kSC_29 (by decide)).trans hs_73
    have hs_75 : aF 29 ws_34 = (aF 29 ws0) := (aF_fr u_35 kSC_29 (by decide)).trans hs_74
    have hs_76 : aF 77 ws_6 = (advS T (aF 77 ws0)) := e_9
    have hs_77 : aF 77 ws_14 = (bndS T 2 5 (advS T (aF 77 ws0))) := e_20.trans ((congrArg (fun s => bndS T v_10.toInt v_12.toInt s) hs_76).trans (by rw [(o63_54 e_11), (o63_92 e_13)]))
    have hs_78 : aF 77 ws_26 = (bndS T 2 5 (bndS T 2 5 (advS T (aF 77 ws0)))) := e_32.trans ((congrArg (fun s => bndS T v_22.toInt v_24.toInt s) hs_77).trans (by rw [(o63_54 e_23), (o63_92 e_25)]))
    have hs_79 : aF 77 ws_34 = (bndS T 2 5 (bndS T 2 5 (advS T (aF 77 ws0)))) := (aF_fr u_35 kSC_77 (by decide)).trans hs_78
    rw [hQ]
    exact y_vret C0 h (Fr.tr (Fr.tr (Fr.tr (Fr.mono u_7 (by decide)) (Fr.mono u_15 (by decide))) (Fr.mono u_27 (by decide))) (Fr.mono u_35 (by decide))) ⟨(Eq.trans hs_53 hz_54), (Eq.trans hs_66 hz_67), e_37⟩ dX5_cityLine_43
  · -- 7
    refine lv_aload_n C0.1 C0.2.1 dX5_cityLine_10 rfl (lv_at hl 0 rfl) ?_
    refine y_c1 (n := 2) C0 (by decide) dX5_cityLine_11 (fun v_80 e_81 => ?_)
    refine y_cv h (y_rV (As := [.int v_80]) (rest := []) C0 hZ h (c_X5_failS l G Z ad _ h.2 v_80) k_X5_fail q_628 q_3 q_626 kSC_77 rfl rfl rfl hl.1 rfl rfl (Nat.le_of_ble_eq_true rfl) dX5_cityLine_12 ⟨Nat.le_of_ble_eq_true rfl, Nat.le_of_ble_eq_true rfl⟩ ⟨Nat.le_of_ble_eq_true rfl, Nat.le_of_ble_eq_true rfl⟩) (fun H locs ws_82 h u_83 p_84 => ?_)
    have e_85 := p_84
    have hv_86 : (aF 20 ws0) 5 = v_1.toInt := (aF_at (by decide) e_2)
    have hs_87 : aF 20 ws_82 = (aF 20 ws0) := (aF_fr u_83 kSC_20 (by decide))
    have hs_88 : aF 29 ws_82 = (aF 29 ws0) := (aF_fr u_83 kSC_29 (by decide))
    have hs_89 : aF 77 ws_82 = (failS 2 (aF 77 ws0)) := e_85.trans (by rw [(o63_54 e_81)])
    have hz_90 : (failS 2 (aF 77 ws0)) = ctS T (aF 20 ws0 5) (aF 77 ws0) := by unfold ctS; (repeat' split) <;> first | rfl | (exfalso; omega) | (congr 1 <;> omega) | (congr 2 <;> omega)
    have hs_91 : aF 77 ws_82 = (failS 2 (aF 77 ws0)) := e_85.trans (by rw [(o63_54 e_81)])
    have hs_92 : aF 29 ws_82 = (aF 29 ws0) := (aF_fr u_83 kSC_29 (by decide))
    have hs_93 : aF 20 ws_82 = (aF 20 ws0) := (aF_fr u_83 kSC_20 (by decide))
    have hz_94 : (aF 20 ws0) = ctC T (aF 77 ws0) (aF 20 ws0) := by unfold ctC; (repeat' split) <;> first | rfl | (exfalso; omega) | (congr 1 <;> omega) | (congr 2 <;> omega)
    have hs_95 : aF 20 ws_82 = (aF 20 ws0) := (aF_fr u_83 kSC_20 (by decide))
    have hs_96 : aF 29 ws_82 = (aF 29 ws0) := (aF_fr u_83 kSC_29 (by decide))
    have hs_97 : aF 77 ws_82 = (failS 2 (aF 77 ws0)) := e_85.trans (by rw [(o63_54 e_81)])
    rw [hQ]
    exact y_vret C0 h (Fr.mono u_83 (by decide)) ⟨(Eq.trans hs_89 hz_90), (Eq.trans hs_93 hz_94), (Rel.fr (M := [16]) hR u_83 (by decide) (by decide))⟩ dX5_cityLine_15
set_option maxHeartbeats 4000000 in
set_option maxRecDepth 100000 in
theorem c_X5_wallLineS {T : Nat → Int} (l : Launch) (G : GG) (Z : RZ) (ad : Nat → Nat) (ws0 : va_W) (hT : Ty G (SC tt) ad ws0) (hR : Rel ws0) (hTp : Tp T ws0) : Mq l yX5_wallLine cX5_wallLine 2 none 8 G Z [.ref (ad 77)] ws0 (PV G (SC tt) ad [14, 16] ws0 (fun u => (aF 77 u = bndS T 0 3 (crS T (aF 20 ws0 5) (aF 20 ws0 6) (aF 77 ws0))) ∧ (Rel u))) := by
  refine Mq.start (by decide) (Nat.le_of_ble_eq_true rfl) ?_
  intro p e s m below meth c A ls C0 hZ h hl
  have hl : lv_has ls 2 [(0, .ref (ad 77))] := hl
  have h : Wt G (SC tt) ad A s s.heap [] ws0 := ⟨h, hT⟩
  obtain ⟨args, hargs⟩ : ∃ z, z = ([.ref (ad 77)] : List Value).toArray := ⟨_, rfl⟩
  rw [← hargs] at C0 ⊢
  have C0 : Cx p s m args meth c RX5 cX5_wallLine 2 none := C0
  obtain ⟨Q, hQ⟩ : ∃ z, z = MQ below ((PV G (SC tt) ad [14, 16] ws0 (fun u => (aF 77 u = bndS T 0 3 (crS T (aF 20 ws0 5) (aF 20 ws0 6) (aF 77 ws0))) ∧ (Rel u))) A) args s 0 0 A := ⟨_, rfl⟩
  rw [← hQ]
  refine lv_aload_n C0.1 C0.2.1 dX5_wallLine_0 rfl (lv_at hl 0 rfl) ?_
  refine y_ci h (y_rV (As := []) (rest := []) C0 hZ h (c_X5_crossingToldS l G Z ad _ h.2 hTp) k_X5_crossingTold q_766 q_9 q_764 kSC_77 rfl rfl rfl hl.1 rfl rfl (Nat.le_of_ble_eq_true rfl) dX5_wallLine_1 ⟨Nat.le_of_ble_eq_true rfl, Nat.le_of_ble_eq_true rfl⟩ ⟨Nat.le_of_ble_eq_true rfl, Nat.le_of_ble_eq_true rfl⟩) (fun r_4 H locs ws_1 h u_2 p_3 => ?_)
  obtain ⟨e_5, e_6, e_7⟩ := p_3
  refine lv_istore_n (lv' := [(1, .int r_4), (0, .ref (ad 77))]) C0.1 C0.2.1 dX5_wallLine_4 rfl hl (by decide) rfl (fun ls hl => ?_)
  refine lv_aload_n C0.1 C0.2.1 dX5_wallLine_5 rfl (lv_at hl 1 rfl) ?_
  refine tg_X5_city C0 h kSC_77 q_370 dX5_wallLine_6 ?_
  refine lv_iload_n C0.1 C0.2.1 dX5_wallLine_9 rfl (lv_at hl 0 rfl) ?_
  refine lv_aload_n C0.1 C0.2.1 dX5_wallLine_10 rfl (lv_at hl 1 rfl) ?_
  refine y_c1 (n := 0) C0 (by decide) dX5_wallLine_11 (fun v_8 e_9 => ?_)
  refine y_c1 (n := 3) C0 (by decide) dX5_wallLine_12 (fun v_10 e_11 => ?_)
  refine y_ci h (y_rV (As := [.int v_8, .int v_10]) (rest := [.int r_4, .ref (ad 20)]) C0 hZ h (c_X5_boundedcS l G Z ad _ h.2 v_8 v_10 (o63_17 e_9) (o63_18 e_9) (o63_93 e_11) (o63_94 e_11) ((Tp.fr (M := [16]) hTp u_2 kSC_78 (by decide)))) k_X5_bounded q_753 q_7 q_751 kSC_77 rfl rfl rfl hl.1 rfl rfl (Nat.le_of_ble_eq_true rfl) dX5_wallLine_13 ⟨Nat.le_of_ble_eq_true rfl, Nat.le_of_ble_eq_true rfl⟩ ⟨Nat.le_of_ble_eq_true rfl, Nat.le_of_ble_eq_true rfl⟩) (fun r_15 H locs ws_12 h u_13 p_14 => ?_)
  obtain ⟨e_16, e_17, e_18, e_19⟩ := p_14
  refine y_cv h (y_rV (As := [.int r_4, .int r_15]) (rest := []) C0 hZ h (c_X0_block l G Z ad _ h.2 20 kSC_20 r_4 r_15 (o63_3 e_5 e_6) (o63_4 e_5 e_6) (o63_7 e_16 e_17) (o63_8 e_16 e_17) (Rel.fr (M := [16]) hR (Fr.tr u_2 u_13) (by decide) (by decide))) k_X0_block q_769 q_770 q_768 kSC_20 rfl rfl rfl hl.1 rfl rfl (Nat.le_of_ble_eq_true rfl) dX5_wallLine_16 ⟨Nat.le_of_ble_eq_true rfl, Nat.le_of_ble_eq_true rfl⟩ ⟨Nat.le_of_ble_eq_true rfl, Nat.le_of_ble_eq_true rfl⟩) (fun H locs ws_20 h u_21 p_22 => ?_)
  have e_23 := p_22
  have hs_24 : aF 20 ws_1 = (aF 20 ws0) := (aF_fr u_2 kSC_20 (by decide))
  have hs_25 : aF 20 ws_12 = (aF 20 ws0) := (aF_fr u_13 kSC_20 (by decide)).trans hs_24
  have hs_26 : aF 20 ws_20 = (aF 20 ws0) := (aF_fr u_21 kSC_20 (by decide)).trans hs_25
  have hs_27 : aF 29 ws_1 = (aF 29 ws0) := (aF_fr u_2 kSC_29 (by decide))
  have hs_28 : aF 29 ws_12 = (aF 29 ws0) := (aF_fr u_13 kSC_29 (by decide)).trans hs_27
  have hs_29 : aF 29 ws_20 = (aF 29 ws0) := (aF_fr u_21 kSC_29 (by decide)).trans hs_28
  have hs_30 : aF 77 ws_1 = (crS T (aF 20 ws0 5) (aF 20 ws0 6) (aF 77 ws0)) := e_7
  have hq_31 := e_19
  rw [hs_30] at hq_31
  rw [(o63_20 e_9)] at hq_31
  rw [(o63_95 e_11)] at hq_31
  have hs_32 : aF 77 ws_12 = (bndS T 0 3 (crS T (aF 20 ws0 5) (aF 20 ws0 6) (aF 77 ws0))) := e_18.trans ((congrArg (fun s => bndS T v_8.toInt v_10.toInt s) hs_30).trans (by rw [(o63_20 e_9), (o63_95 e_11)]))
  have hs_33 : aF 77 ws_20 = (bndS T 0 3 (crS T (aF 20 ws0 5) (aF 20 ws0 6) (aF 77 ws0))) := (aF_fr u_21 kSC_77 (by decide)).trans hs_32
  have hz_34 : (bndS T 0 3 (crS T (aF 20 ws0 5) (aF 20 ws0 6) (aF 77 ws0))) = bndS T 0 3 (crS T (aF 20 ws0 5) (aF 20 ws0 6) (aF 77 ws0)) := by rfl
  have hs_35 : aF 20 ws_1 = (aF 20 ws0) := (aF_fr u_2 kSC_20 (by decide))
  have hs_36 : aF 20 ws_12 = (aF 20 ws0) := (aF_fr u_13 kSC_20 (by decide)).trans hs_35
  have hs_37 : aF 20 ws_20 = (aF 20 ws0) := (aF_fr u_21 kSC_20 (by decide)).trans hs_36
  have hs_38 : aF 29 ws_1 = (aF 29 ws0) := (aF_fr u_2 kSC_29 (by decide))
  have hs_39 : aF 29 ws_12 = (aF 29 ws0) := (aF_fr u_13 kSC_29 (by decide)).trans hs_38
  have hs_40 : aF 29 ws_20 = (aF 29 ws0) := (aF_fr u_21 kSC_29 (by decide)).trans hs_39
  have hs_41 : aF 77 ws_1 = (crS T (aF 20 ws0 5) (aF 20 ws0 6) (aF 77 ws0)) := e_7
  have hs_42 : aF 77 ws_12 = (bndS T 0 3 (crS T (aF 20 ws0 5) (aF 20 ws0 6) (aF 77 ws0))) := e_18.trans ((congrArg (fun s => bndS T v_8.toInt v_10.toInt s) hs_41).trans (by rw [(o63_20 e_9), (o63_95 e_11)]))
  have hs_43 : aF 77 ws_20 = (bndS T 0 3 (crS T (aF 20 ws0 5) (aF 20 ws0 6) (aF 77 ws0))) := (aF_fr u_21 kSC_77 (by decide)).trans hs_42
  rw [hQ]
  exact y_vret C0 h (Fr.tr (Fr.tr (Fr.mono u_2 (by decide)) (Fr.mono u_13 (by decide))) (Fr.mono u_21 (by decide))) ⟨(Eq.trans hs_33 hz_34), e_23⟩ dX5_wallLine_19
set_option maxHeartbeats 4000000 in
set_option maxRecDepth 100000 in
theorem c_X5_freeLineS {T : Nat → Int} (l : Launch) (G : GG) (Z : RZ) (ad : Nat → Nat) (ws0 : va_W) (hT : Ty G (SC tt) ad ws0) (hTp : Tp T ws0) : Mq l yX5_freeLine cX5_freeLine 1 none 8 G Z [.ref (ad 77)] ws0 (PV G (SC tt) ad [1, 16] ws0 (fun u => (aF 77 u = crS T (aF 20 ws0 5) (aF 20 ws0 6) (aF 77 ws0)) ∧ (aF 20 u = upI (aF 20 ws0) 8 (aF 20 u 8)))) := by
  refine Mq.start (by decide) (Nat.le_of_ble_eq_true rfl) ?_
  intro p e s m below meth c A ls C0 hZ h hl
  have hl : lv_has ls 1 [(0, .ref (ad 77))] := hl
  have h : Wt G (SC tt) ad A s s.heap [] ws0 := ⟨h, hT⟩
  obtain ⟨args, hargs⟩ : ∃ z, z = ([.ref (ad 77)] : List Value).toArray := ⟨_, rfl⟩
  rw [← hargs] at C0 ⊢
  have C0 : Cx p s m args meth c RX5 cX5_freeLine 1 none := C0
  obtain ⟨Q, hQ⟩ : ∃ z, z = MQ below ((PV G (SC tt) ad [1, 16] ws0 (fun u => (aF 77 u = crS T (aF 20 ws0 5) (aF 20 ws0 6) (aF 77 ws0)) ∧ (aF 20 u = upI (aF 20 ws0) 8 (aF 20 u 8)))) A) args s 0 0 A := ⟨_, rfl⟩
  rw [← hQ]
  refine lv_aload_n C0.1 C0.2.1 dX5_freeLine_0 rfl (lv_at hl 0 rfl) ?_
  refine tg_X5_city C0 h kSC_77 q_370 dX5_freeLine_1 ?_
  refine lv_aload_n C0.1 C0.2.1 dX5_freeLine_4 rfl (lv_at hl 0 rfl) ?_
  refine y_ci h (y_rV (As := []) (rest := [.ref (ad 20)]) C0 hZ h (c_X5_crossingToldS l G Z ad _ h.2 hTp) k_X5_crossingTold q_766 q_9 q_764 kSC_77 rfl rfl rfl hl.1 rfl rfl (Nat.le_of_ble_eq_true rfl) dX5_freeLine_5 ⟨Nat.le_of_ble_eq_true rfl, Nat.le_of_ble_eq_true rfl⟩ ⟨Nat.le_of_ble_eq_true rfl, Nat.le_of_ble_eq_true rfl⟩) (fun r_4 H locs ws_1 h u_2 p_3 => ?_)
  obtain ⟨e_5, e_6, e_7⟩ := p_3
  refine y_cv h (y_rV (As := [.int r_4]) (rest := []) C0 hZ h (c_X0_makeToldFreeS l G Z ad _ h.2 20 kSC_20 r_4) k_X0_makeToldFree q_782 q_783 q_781 kSC_20 rfl rfl rfl hl.1 rfl rfl (Nat.le_of_ble_eq_true rfl) dX5_freeLine_8 ⟨Nat.le_of_ble_eq_true rfl, Nat.le_of_ble_eq_true rfl⟩ ⟨Nat.le_of_ble_eq_true rfl, Nat.le_of_ble_eq_true rfl⟩) (fun H locs ws_8 h u_9 p_10 => ?_)
  have e_11 := p_10
  have hs_12 : aF 20 ws_1 = (aF 20 ws0) := (aF_fr u_2 kSC_20 (by decide))
  have hs_13 : aF 20 ws_8 = (upI (aF 20 ws0) 8 (aF 20 ws_8 8)) := e_11.trans (congrArg (fun s => upI s 8 (aF 20 ws_8 8)) hs_12)
  have hs_14 : aF 29 ws_1 = (aF 29 ws0) := (aF_fr u_2 kSC_29 (by decide))
  have hs_15 : aF 29 ws_8 = (aF 29 ws0) := (aF_fr u_9 kSC_29 (by decide)).trans hs_14
  have hs_16 : aF 77 ws_1 = (crS T (aF 20 ws0 5) (aF 20 ws0 6) (aF 77 ws0)) := e_7
  have hs_17 : aF 77 ws_8 = (crS T (aF 20 ws0 5) (aF 20 ws0 6) (aF 77 ws0)) := (aF_fr u_9 kSC_77 (by decide)).trans hs_16
  have hz_18 : (crS T (aF 20 ws0 5) (aF 20 ws0 6) (aF 77 ws0)) = crS T (aF 20 ws0 5) (aF 20 ws0 6) (aF 77 ws0) := by rfl
  have hs_19 : aF 77 ws_1 = (crS T (aF 20 ws0 5) (aF 20 ws0 6) (aF 77 ws0)) := e_7
  have hs_20 : aF 77 ws_8 = (crS T (aF 20 ws0 5) (aF 20 ws0 6) (aF 77 ws0)) := (aF_fr u_9 kSC_77 (by decide)).trans hs_19
  have hs_21 : aF 29 ws_1 = (aF 29 ws0) := (aF_fr u_2 kSC_29 (by decide))
  have hs_22 : aF 29 ws_8 = (aF 29 ws0) := (aF_fr u_9 kSC_29 (by decide)).trans hs_21
  have hs_23 : aF 20 ws_1 = (aF 20 ws0) := (aF_fr u_2 kSC_20 (by decide))
  have hs_24 : aF 20 ws_8 = (upI (aF 20 ws0) 8 (aF 20 ws_8 8)) := e_11.trans (congrArg (fun s => upI s 8 (aF 20 ws_8 8)) hs_23)
  have hz_25 : (upI (aF 20 ws0) 8 (aF 20 ws_8 8)) = upI (aF 20 ws0) 8 (aF 20 ws_8 8) := by rfl
  rw [hQ]
  exact y_vret C0 h (Fr.tr (Fr.mono u_2 (by decide)) (Fr.mono u_9 (by decide))) ⟨(Eq.trans hs_17 hz_18), (Eq.trans hs_24 hz_25)⟩ dX5_freeLine_11
set_option maxHeartbeats 4000000 in
set_option maxRecDepth 100000 in
theorem c_X5_personLineS {T : Nat → Int} (l : Launch) (G : GG) (Z : RZ) (ad : Nat → Nat) (ws0 : va_W) (hT : Ty G (SC tt) ad ws0) (hTp : Tp T ws0) : Mq l yX5_personLine cX5_personLine 5 none 8 G Z [.ref (ad 77)] ws0 (PV G (SC tt) ad [6, 7, 8, 9, 10, 16] ws0 (fun u => (aF 77 u = prS T (aF 20 ws0 5) (aF 20 ws0 6) (aF 29 ws0 7) (aF 77 ws0)) ∧ (aF 29 u = prF (aF 20 ws0 5) (aF 29 ws0)))) := by
  refine Mq.start (by decide) (Nat.le_of_ble_eq_true rfl) ?_
  intro p e s m below meth c A ls C0 hZ h hl
  have hl : lv_has ls 5 [(0, .ref (ad 77))] := hl
  have h : Wt G (SC tt) ad A s s.heap [] ws0 := ⟨h, hT⟩
  obtain ⟨args, hargs⟩ : ∃ z, z = ([.ref (ad 77)] : List Value).toArray := ⟨_, rfl⟩
  rw [← hargs] at C0 ⊢
  have C0 : Cx p s m args meth c RX5 cX5_personLine 5 none := C0
  obtain ⟨Q, hQ⟩ : ∃ z, z = MQ below ((PV G (SC tt) ad [6, 7, 8, 9, 10, 16] ws0 (fun u => (aF 77 u = prS T (aF 20 ws0 5) (aF 20 ws0 6) (aF 29 ws0 7) (aF 77 ws0)) ∧ (aF 29 u = prF (aF 20 ws0 5) (aF 29 ws0)))) A) args s 0 0 A := ⟨_, rfl⟩
  rw [← hQ]
  refine lv_aload_n C0.1 C0.2.1 dX5_personLine_0 rfl (lv_at hl 0 rfl) ?_
  refine tg_X5_city C0 h kSC_77 q_370 dX5_personLine_1 ?_
  refine tg_X0_wide C0 h kSC_20 q_258 dX5_personLine_4 (fun v_1 e_2 e_3 e_4 => ?_)
  refine y_if_le (tgt := 30) C0 dX5_personLine_7 (by decide) (fun c_5 => ?_) (fun c_5 => ?_)
  · -- 7
    refine lv_aload_n C0.1 C0.2.1 dX5_personLine_30 rfl (lv_at hl 0 rfl) ?_
    refine y_ci h (y_rV (As := []) (rest := []) C0 hZ h (c_X5_crossingToldS l G Z ad _ h.2 hTp) k_X5_crossingTold q_766 q_9 q_764 kSC_77 rfl rfl rfl hl.1 rfl rfl (Nat.le_of_ble_eq_true rfl) dX5_personLine_31 ⟨Nat.le_of_ble_eq_true rfl, Nat.le_of_ble_eq_true rfl⟩ ⟨Nat.le_of_ble_eq_true rfl, Nat.le_of_ble_eq_true rfl⟩) (fun r_9 H locs ws_6 h u_7 p_8 => ?_)
    obtain ⟨e_10, e_11, e_12⟩ := p_8
    refine lv_istore_n (lv' := [(1, .int r_9), (0, .ref (ad 77))]) C0.1 C0.2.1 dX5_personLine_34 rfl hl (by decide) rfl (fun ls hl => ?_)
    refine lv_aload_n C0.1 C0.2.1 dX5_personLine_35 rfl (lv_at hl 1 rfl) ?_
    refine y_ci h (y_rV (As := []) (rest := []) C0 hZ h (c_X5_headingS l G Z ad _ h.2 ((Tp.fr (M := [16]) hTp u_7 kSC_78 (by decide)))) k_X5_heading q_792 q_12 q_790 kSC_77 rfl rfl rfl hl.1 rfl rfl (Nat.le_of_ble_eq_true rfl) dX5_personLine_36 ⟨Nat.le_of_ble_eq_true rfl, Nat.le_of_ble_eq_true rfl⟩ ⟨Nat.le_of_ble_eq_true rfl, Nat.le_of_ble_eq_true rfl⟩) (fun r_16 H locs ws_13 h u_14 p_15 => ?_)
    obtain ⟨e_17, e_18, e_19⟩ := p_15
    refine lv_istore_n (lv' := [(2, .int r_16), (1, .int r_9), (0, .ref (ad 77))]) C0.1 C0.2.1 dX5_personLine_39 rfl hl (by decide) rfl (fun ls hl => ?_)
    refine y_c1 (n := 0) C0 (by decide) dX5_personLine_40 (fun v_20 e_21 => ?_)
    refine lv_istore_n (lv' := [(3, .int v_20), (2, .int r_16), (1, .int r_9), (0, .ref (ad 77))]) C0.1 C0.2.1 dX5_personLine_41 rfl hl (by decide) rfl (fun ls hl => ?_)
    refine y_c1 (n := 0) C0 (by decide) dX5_personLine_42 (fun v_22 e_23 => ?_)
    refine lv_istore (lv' := [(4, .int v_22), (3, .int v_20), (2, .int r_16), (1, .int r_9), (0, .ref (ad 77))]) C0.1 C0.2.1 dX5_personLine_43 hl (by decide) rfl (fun ls hl => ?_)
    refine lv_aload_n C0.1 C0.2.1 dX5_personLine_45 rfl (lv_at hl 4 rfl) ?_
    refine va_ldcS C0.1 C0.2.1 C0.2.2.2.1 (sr_9 hZ) dX5_personLine_46 ?_
    refine y_ci h (y_rV (As := [.ref (Z.2.1 9)]) (rest := []) C0 hZ h (c_X5_isWordS l G Z ad _ h.2 9 (by decide) ((Tp.fr (M := [16]) hTp (Fr.tr u_7 u_14) kSC_78 (by decide)))) k_X5_isWord q_724 q_5 q_722 kSC_77 rfl rfl rfl hl.1 rfl rfl (Nat.le_of_ble_eq_true rfl) dX5_personLine_48 ⟨Nat.le_of_ble_eq_true rfl, Nat.le_of_ble_eq_true rfl⟩ ⟨Nat.le_of_ble_eq_true rfl, Nat.le_of_ble_eq_true rfl⟩) (fun r_27 H locs ws_24 h u_25 p_26 => ?_)
    obtain ⟨e_28, e_29, e_30⟩ := p_26
    refine y_if_eq (tgt := 66) C0 dX5_personLine_51 (by decide) (fun c_31 => ?_) (fun c_31 => ?_)
    · -- 51
      refine lv_aload_n C0.1 C0.2.1 dX5_personLine_66 rfl (lv_at hl 4 rfl) ?_
      refine va_ldcS C0.1 C0.2.1 C0.2.2.2.1 (sr_10 hZ) dX5_personLine_67 ?_
      refine y_ci h (y_rV (As := [.ref (Z.2.1 10)]) (rest := []) C0 hZ h (c_X5_isWordS l G Z ad _ h.2 10 (by decide) ((Tp.fr (M := [16]) hTp (Fr.tr (Fr.tr u_7 u_14) (Fr.mono u_25 (by decide))) kSC_78 (by decide)))) k_X5_isWord q_724 q_5 q_722 kSC_77 rfl rfl rfl hl.1 rfl rfl (Nat.le_of_ble_eq_true rfl) dX5_personLine_69 ⟨Nat.le_of_ble_eq_true rfl, Nat.le_of_ble_eq_true rfl⟩ ⟨Nat.le_of_ble_eq_true rfl, Nat.le_of_ble_eq_true rfl⟩) (fun r_35 H locs ws_32 h u_33 p_34 => ?_)
      obtain ⟨e_36, e_37, e_38⟩ := p_34
      refine y_if_eq (tgt := 89) C0 dX5_personLine_72 (by decide) (fun c_39 => ?_) (fun c_39 => ?_)
      · -- 72
        refine lv_aload_n C0.1 C0.2.1 dX5_personLine_89 rfl (lv_at hl 4 rfl) ?_
        refine tg_X5_city C0 h kSC_77 q_370 dX5_personLine_90 ?_
        refine tg_X0_folk C0 h kSC_20 q_251 dX5_personLine_93 ?_
        refine lv_iload_n C0.1 C0.2.1 dX5_personLine_96 rfl (lv_at hl 3 rfl) ?_
        refine lv_iload_n C0.1 C0.2.1 dX5_personLine_97 rfl (lv_at hl 2 rfl) ?_
        refine lv_iload_n C0.1 C0.2.1 dX5_personLine_98 rfl (lv_at hl 1 rfl) ?_
        refine lv_iload C0.1 C0.2.1 dX5_personLine_99 (lv_at hl 0 rfl) ?_
        refine y_cv h (y_rV (As := [.int r_9, .int r_16, .int v_20, .int v_22]) (rest := []) C0 hZ h (c_X1_settleS l G Z ad _ h.2 29 kSC_29 r_9 r_16 v_20 v_22 (o63_3 e_10 e_11) (o63_4 e_10 e_11) (o63_7 e_17 e_18) (o63_8 e_17 e_18)) k_X1_settle q_801 q_802 q_800 kSC_29 rfl rfl rfl hl.1 rfl rfl (Nat.le_of_ble_eq_true rfl) dX5_personLine_101 ⟨Nat.le_of_ble_eq_true rfl, Nat.le_of_ble_eq_true rfl⟩ ⟨Nat.le_of_ble_eq_true rfl, Nat.le_of_ble_eq_true rfl⟩) (fun H locs ws_40 h u_41 p_42 => ?_)
        have e_43 := p_42
        have hv_44 : (aF 20 ws0) 5 = v_1.toInt := (aF_at (by decide) e_2)
        have hs_45 : aF 20 ws_6 = (aF 20 ws0) := (aF_fr u_7 kSC_20 (by decide))
        have hs_46 : aF 20 ws_13 = (aF 20 ws0) := (aF_fr u_14 kSC_20 (by decide)).trans hs_45
        have hs_47 : aF 20 ws_24 = (aF 20 ws0) := (aF_fr u_25 kSC_20 (by decide)).trans hs_46
        have hs_48 : aF 20 ws_32 = (aF 20 ws0) := (aF_fr u_33 kSC_20 (by decide)).trans hs_47
        have hs_49 : aF 20 ws_40 = (aF 20 ws0) := (aF_fr u_41 kSC_20 (by decide)).trans hs_48
        have hs_50 : aF 29 ws_6 = (aF 29 ws0) := (aF_fr u_7 kSC_29 (by decide))
        have hs_51 : aF 29 ws_13 = (aF 29 ws0) := (aF_fr u_14 kSC_29 (by decide)).trans hs_50
        have hs_52 : aF 29 ws_24 = (aF 29 ws0) := (aF_fr u_25 kSC_29 (by decide)).trans hs_51
        have hs_53 : aF 29 ws_32 = (aF 29 ws0) := (aF_fr u_33 kSC_29 (by decide)).trans hs_52
        have hs_54 : aF 29 ws_40 = (stlS (aF 29 ws0)) := e_43.trans (congrArg (fun s => stlS s) hs_53)
        have hs_55 : aF 77 ws_6 = (crS T (aF 20 ws0 5) (aF 20 ws0 6) (aF 77 ws0)) := e_12
        have hs_56 : aF 77 ws_13 = (hdS T (crS T (aF 20 ws0 5) (aF 20 ws0 6) (aF 77 ws0))) := e_19.trans (congrArg (fun s => hdS T s) hs_55)
        have hq_57 := e_30
        rw [hs_56] at hq_57
        have hs_58 : aF 77 ws_24 = (hdS T (crS T (aF 20 ws0 5) (aF 20 ws0 6) (aF 77 ws0))) := (aF_fr u_25 kSC_77 (by decide)).trans hs_56
        have hq_59 := e_38
        rw [hs_58] at hq_59
        have hs_60 : aF 77 ws_32 = (hdS T (crS T (aF 20 ws0 5) (aF 20 ws0 6) (aF 77 ws0))) := (aF_fr u_33 kSC_77 (by decide)).trans hs_58
        have hs_61 : aF 77 ws_40 = (hdS T (crS T (aF 20 ws0 5) (aF 20 ws0 6) (aF 77 ws0))) := (aF_fr u_41 kSC_77 (by decide)).trans hs_60
        have hz_62 : (hdS T (crS T (aF 20 ws0 5) (aF 20 ws0 6) (aF 77 ws0))) = prS T (aF 20 ws0 5) (aF 20 ws0 6) (aF 29 ws0 7) (aF 77 ws0) := by unfold prS optS; (repeat' split) <;> first | rfl | (exfalso; omega) | (congr 1 <;> omega) | (congr 2 <;> omega)
        have hs_63 : aF 77 ws_6 = (crS T (aF 20 ws0 5) (aF 20 ws0 6) (aF 77 ws0)) := e_12
        have hs_64 : aF 77 ws_13 = (hdS T (crS T (aF 20 ws0 5) (aF 20 ws0 6) (aF 77 ws0))) := e_19.trans (congrArg (fun s => hdS T s) hs_63)
        have hs_65 : aF 77 ws_24 = (hdS T (crS T (aF 20 ws0 5) (aF 20 ws0 6) (aF 77 ws0))) := (aF_fr u_25 kSC_77 (by decide)).trans hs_64
        have hs_66 : aF 77 ws_32 = (hdS T (crS T (aF 20 ws0 5) (aF 20 ws0 6) (aF 77 ws0))) := (aF_fr u_33 kSC_77 (by decide)).trans hs_65
        have hs_67 : aF 77 ws_40 = (hdS T (crS T (aF 20 ws0 5) (aF 20 ws0 6) (aF 77 ws0))) := (aF_fr u_41 kSC_77 (by decide)).trans hs_66
        have hs_68 : aF 20 ws_6 = (aF 20 ws0) := (aF_fr u_7 kSC_20 (by decide))
        have hs_69 : aF 20 ws_13 = (aF 20 ws0) := (aF_fr u_14 kSC_20 (by decide)).trans hs_68
        have hs_70 : aF 20 ws_24 = (aF 20 ws0) := (aF_fr u_25 kSC_20 (by decide)).trans hs_69
        have hs_71 : aF 20 ws_32 = (aF 20 ws0) := (aF_fr u_33 kSC_20 (by decide)).trans hs_70
        have hs_72 : aF 20 ws_40 = (aF 20 ws0) := (aF_fr u_41 kSC_20 (by decide)).trans hs_71
        have hs_73 : aF 29 ws_6 = (aF 29 ws0) := (aF_fr u_7 kSC_29 (by decide))
        have hs_74 : aF 29 ws_13 = (aF 29 ws0) := (aF_fr u_14 kSC_29 (by decide)).trans hs_73
        have hs_75 : aF 29 ws_24 = (aF 29 ws0) := (aF_fr u_25 kSC_29 (by decide)).trans hs_74
        have hs_76 : aF 29 ws_32 = (aF 29 ws0) := (aF_fr u_33 kSC_29 (by decide)).trans hs_75
        have hs_77 : aF 29 ws_40 = (stlS (aF 29 ws0)) := e_43.trans (congrArg (fun s => stlS s) hs_76)
        have hz_78 : (stlS (aF 29 ws0)) = prF (aF 20 ws0 5) (aF 29 ws0) := by unfold prF; (repeat' split) <;> first | rfl | (exfalso; omega) | (congr 1 <;> omega) | (congr 2 <;> omega)
        rw [hQ]
        exact y_vret C0 h (Fr.tr (Fr.tr (Fr.tr (Fr.tr (Fr.mono u_7 (by decide)) (Fr.mono u_14 (by decide))) (Fr.mono u_25 (by decide))) (Fr.mono u_33 (by decide))) (Fr.mono u_41 (by decide))) ⟨(Eq.trans hs_61 hz_62), (Eq.trans hs_77 hz_78)⟩ dX5_personLine_104
      · -- 72
        refine lv_aload_n C0.1 C0.2.1 dX5_personLine_75 rfl (lv_at hl 4 rfl) ?_
        refine y_cv h (y_rV (As := []) (rest := []) C0 hZ h (c_X5_advanceS l G Z ad _ h.2 ((Tp.fr (M := [16]) hTp (Fr.tr (Fr.tr (Fr.tr u_7 u_14) (Fr.mono u_25 (by decide))) (Fr.mono u_33 (by decide))) kSC_78 (by decide)))) k_X5_advance q_616 q_0 q_614 kSC_77 rfl rfl rfl hl.1 rfl rfl (Nat.le_of_ble_eq_true rfl) dX5_personLine_76 ⟨Nat.le_of_ble_eq_true rfl, Nat.le_of_ble_eq_true rfl⟩ ⟨Nat.le_of_ble_eq_true rfl, Nat.le_of_ble_eq_true rfl⟩) (fun H locs ws_79 h u_80 p_81 => ?_)
        have e_82 := p_81
        refine lv_aload_n C0.1 C0.2.1 dX5_personLine_79 rfl (lv_at hl 4 rfl) ?_
        refine y_c1 (n := 0) C0 (by decide) dX5_personLine_80 (fun v_83 e_84 => ?_)
        refine y_c3 (n := 999) C0 (by decide) dX5_personLine_81 (fun v_85 e_86 => ?_)
        refine y_ci h (y_rV (As := [.int v_83, .int v_85]) (rest := []) C0 hZ h (c_X5_boundedeS l G Z ad _ h.2 v_83 v_85 (o63_17 e_84) (o63_18 e_84) (o63_96 e_86) (o63_97 e_86) ((Tp.fr (M := [16]) hTp (Fr.tr (Fr.tr (Fr.tr (Fr.tr u_7 u_14) (Fr.mono u_25 (by decide))) (Fr.mono u_33 (by decide))) u_80) kSC_78 (by decide)))) k_X5_bounded q_753 q_7 q_751 kSC_77 rfl rfl rfl hl.1 rfl rfl (Nat.le_of_ble_eq_true rfl) dX5_personLine_84 ⟨Nat.le_of_ble_eq_true rfl, Nat.le_of_ble_eq_true rfl⟩ ⟨Nat.le_of_ble_eq_true rfl, Nat.le_of_ble_eq_true rfl⟩) (fun r_90 H locs ws_87 h u_88 p_89 => ?_)
        obtain ⟨e_91, e_92, e_93, e_94⟩ := p_89
        refine lv_istore (lv' := [(4, .int r_90), (3, .int v_20), (2, .int r_16), (1, .int r_9), (0, .ref (ad 77))]) C0.1 C0.2.1 dX5_personLine_87 hl (by decide) rfl (fun ls hl => ?_)
        refine lv_aload_n C0.1 C0.2.1 dX5_personLine_89 rfl (lv_at hl 4 rfl) ?_
        refine tg_X5_city C0 h kSC_77 q_370 dX5_personLine_90 ?_
        refine tg_X0_folk C0 h kSC_20 q_251 dX5_personLine_93 ?_
        refine lv_iload_n C0.1 C0.2.1 dX5_personLine_96 rfl (lv_at hl 3 rfl) ?_
        refine lv_iload_n C0.1 C0.2.1 dX5_personLine_97 rfl (lv_at hl 2 rfl) ?_
        refine lv_iload_n C0.1 C0.2.1 dX5_personLine_98 rfl (lv_at hl 1 rfl) ?_
        refine lv_iload C0.1 C0.2.1 dX5_personLine_99 (lv_at hl 0 rfl) ?_
        refine y_cv h (y_rV (As := [.int r_9, .int r_16, .int v_20, .int r_90]) (rest := []) C0 hZ h (c_X1_settleS l G Z ad _ h.2 29 kSC_29 r_9 r_16 v_20 r_90 (o63_3 e_10 e_11) (o63_4 e_10 e_11) (o63_7 e_17 e_18) (o63_8 e_17 e_18)) k_X1_settle q_801 q_802 q_800 kSC_29 rfl rfl rfl hl.1 rfl rfl (Nat.le_of_ble_eq_true rfl) dX5_personLine_101 ⟨Nat.le_of_ble_eq_true rfl, Nat.le_of_ble_eq_true rfl⟩ ⟨Nat.le_of_ble_eq_true rfl, Nat.le_of_ble_eq_true rfl⟩) (fun H locs ws_95 h u_96 p_97 => ?_)
        have e_98 := p_97
        have hv_99 : (aF 20 ws0) 5 = v_1.toInt := (aF_at (by decide) e_2)
        have hs_100 : aF 20 ws_6 = (aF 20 ws0) := (aF_fr u_7 kSC_20 (by decide))
        have hs_101 : aF 20 ws_13 = (aF 20 ws0) := (aF_fr u_14 kSC_20 (by decide)).trans hs_100
        have hs_102 : aF 20 ws_24 = (aF 20 ws0) := (aF_fr u_25 kSC_20 (by decide)).trans hs_101
        have hs_103 : aF 20 ws_32 = (aF 20 ws0) := (aF_fr u_33 kSC_20 (by decide)).trans hs_102
        have hs_104 : aF 20 ws_79 = (aF 20 ws0) := (aF_fr u_80 kSC_20 (by decide)).trans hs_103
        have hs_105 : aF 20 ws_87 = (aF 20 ws0) := (aF_fr u_88 kSC_20 (by decide)).trans hs_104
        have hs_106 : aF 20 ws_95 = (aF 20 ws0) := (aF_fr u_96 kSC_20 (by decide)).trans hs_105
        have hs_107 : aF 29 ws_6 = (aF 29 ws0) := (aF_fr u_7 kSC_29 (by decide))
        have hs_108 : aF 29 ws_13 = (aF 29 ws0) := (aF_fr u_14 kSC_29 (by decide)).trans hs_107
        have hs_109 : aF 29 ws_24 = (aF 29 ws0) := (aF_fr u_25 kSC_29 (by decide)).trans hs_108
        have hs_110 : aF 29 ws_32 = (aF 29 ws0) := (aF_fr u_33 kSC_29 (by decide)).trans hs_109
        have hs_111 : aF 29 ws_79 = (aF 29 ws0) := (aF_fr u_80 kSC_29 (by decide)).trans hs_110
        have hs_112 : aF 29 ws_87 = (aF 29 ws0) := (aF_fr u_88 kSC_29 (by decide)).trans hs_111
        have hs_113 : aF 29 ws_95 = (stlS (aF 29 ws0)) := e_98.trans (congrArg (fun s => stlS s) hs_112)
        have hs_114 : aF 77 ws_6 = (crS T (aF 20 ws0 5) (aF 20 ws0 6) (aF 77 ws0)) := e_12
        have hs_115 : aF 77 ws_13 = (hdS T (crS T (aF 20 ws0 5) (aF 20 ws0 6) (aF 77 ws0))) := e_19.trans (congrArg (fun s => hdS T s) hs_114)
        have hq_116 := e_30
        rw [hs_115] at hq_116
        have hs_117 : aF 77 ws_24 = (hdS T (crS T (aF 20 ws0 5) (aF 20 ws0 6) (aF 77 ws0))) := (aF_fr u_25 kSC_77 (by decide)).trans hs_115
        have hq_118 := e_38
        rw [hs_117] at hq_118
        have hs_119 : aF 77 ws_32 = (hdS T (crS T (aF 20 ws0 5) (aF 20 ws0 6) (aF 77 ws0))) := (aF_fr u_33 kSC_77 (by decide)).trans hs_117
        have hs_120 : aF 77 ws_79 = (advS T (hdS T (crS T (aF 20 ws0 5) (aF 20 ws0 6) (aF 77 ws0)))) := e_82.trans (congrArg (fun s => advS T s) hs_119)
        have hq_121 := e_94
        rw [hs_120] at hq_121
        rw [(o63_20 e_84)] at hq_121
        rw [(o63_98 e_86)] at hq_121
        have hs_122 : aF 77 ws_87 = (bndS T 0 999 (advS T (hdS T (crS T (aF 20 ws0 5) (aF 20 ws0 6) (aF 77 ws0))))) := e_93.trans ((congrArg (fun s => bndS T v_83.toInt v_85.toInt s) hs_120).trans (by rw [(o63_20 e_84), (o63_98 e_86)]))
        have hs_123 : aF 77 ws_95 = (bndS T 0 999 (advS T (hdS T (crS T (aF 20 ws0 5) (aF 20 ws0 6) (aF 77 ws0))))) := (aF_fr u_96 kSC_77 (by decide)).trans hs_122
        have hz_124 : (bndS T 0 999 (advS T (hdS T (crS T (aF 20 ws0 5) (aF 20 ws0 6) (aF 77 ws0))))) = prS T (aF 20 ws0 5) (aF 20 ws0 6) (aF 29 ws0 7) (aF 77 ws0) := by unfold prS optS; (repeat' split) <;> first | rfl | (exfalso; omega) | (congr 1 <;> omega) | (congr 2 <;> omega)
        have hs_125 : aF 77 ws_6 = (crS T (aF 20 ws0 5) (aF 20 ws0 6) (aF 77 ws0)) := e_12
        have hs_126 : aF 77 ws_13 = (hdS T (crS T (aF 20 ws0 5) (aF 20 ws0 6) (aF 77 ws0))) := e_19.trans (congrArg (fun s => hdS T s) hs_125)
        have hs_127 : aF 77 ws_24 = (hdS T (crS T (aF 20 ws0 5) (aF 20 ws0 6) (aF 77 ws0))) := (aF_fr u_25 kSC_77 (by decide)).trans hs_126
        have hs_128 : aF 77 ws_32 = (hdS T (crS T (aF 20 ws0 5) (aF 20 ws0 6) (aF 77 ws0))) := (aF_fr u_33 kSC_77 (by decide)).trans hs_127
        have hs_129 : aF 77 ws_79 = (advS T (hdS T (crS T (aF 20 ws0 5) (aF 20 ws0 6) (aF 77 ws0)))) := e_82.trans (congrArg (fun s => advS T s) hs_128)
        have hs_130 : aF 77 ws_87 = (bndS T 0 999 (advS T (hdS T (crS T (aF 20 ws0 5) (aF 20 ws0 6) (aF 77 ws0))))) := e_93.trans ((congrArg (fun s => bndS T v_83.toInt v_85.toInt s) hs_129).trans (by rw [(o63_20 e_84), (o63_98 e_86)]))
        have hs_131 : aF 77 ws_95 = (bndS T 0 999 (advS T (hdS T (crS T (aF 20 ws0 5) (aF 20 ws0 6) (aF 77 ws0))))) := (aF_fr u_96 kSC_77 (by decide)).trans hs_130
        have hs_132 : aF 20 ws_6 = (aF 20 ws0) := (aF_fr u_7 kSC_20 (by decide))
        have hs_133 : aF 20 ws_13 = (aF 20 ws0) := (aF_fr u_14 kSC_20 (by decide)).trans hs_132
        have hs_134 : aF 20 ws_24 = (aF 20 ws0) := (aF_fr u_25 kSC_20 (by decide)).trans hs_133
        have hs_135 : aF 20 ws_32 = (aF 20 ws0) := (aF_fr u_33 kSC_20 (by decide)).trans hs_134
        have hs_136 : aF 20 ws_79 = (aF 20 ws0) := (aF_fr u_80 kSC_20 (by decide)).trans hs_135
        have hs_137 : aF 20 ws_87 = (aF 20 ws0) := (aF_fr u_88 kSC_20 (by decide)).trans hs_136
        have hs_138 : aF 20 ws_95 = (aF 20 ws0) := (aF_fr u_96 kSC_20 (by decide)).trans hs_137
        have hs_139 : aF 29 ws_6 = (aF 29 ws0) := (aF_fr u_7 kSC_29 (by decide))
        have hs_140 : aF 29 ws_13 = (aF 29 ws0) := (aF_fr u_14 kSC_29 (by decide)).trans hs_139
        have hs_141 : aF 29 ws_24 = (aF 29 ws0) := (aF_fr u_25 kSC_29 (by decide)).trans hs_140
        have hs_142 : aF 29 ws_32 = (aF 29 ws0) := (aF_fr u_33 kSC_29 (by decide)).trans hs_141
        have hs_143 : aF 29 ws_79 = (aF 29 ws0) := (aF_fr u_80 kSC_29 (by decide)).trans hs_142
        have hs_144 : aF 29 ws_87 = (aF 29 ws0) := (aF_fr u_88 kSC_29 (by decide)).trans hs_143
        have hs_145 : aF 29 ws_95 = (stlS (aF 29 ws0)) := e_98.trans (congrArg (fun s => stlS s) hs_144)
        have hz_146 : (stlS (aF 29 ws0)) = prF (aF 20 ws0 5) (aF 29 ws0) := by unfold prF; (repeat' split) <;> first | rfl | (exfalso; omega) | (congr 1 <;> omega) | (congr 2 <;> omega)
        rw [hQ]
        exact y_vret C0 h (Fr.tr (Fr.tr (Fr.tr (Fr.tr (Fr.tr (Fr.tr (Fr.mono u_7 (by decide)) (Fr.mono u_14 (by decide))) (Fr.mono u_25 (by decide))) (Fr.mono u_33 (by decide))) (Fr.mono u_80 (by decide))) (Fr.mono u_88 (by decide))) (Fr.mono u_96 (by decide))) ⟨(Eq.trans hs_123 hz_124), (Eq.trans hs_145 hz_146)⟩ dX5_personLine_104
    · -- 51
      refine lv_aload_n C0.1 C0.2.1 dX5_personLine_54 rfl (lv_at hl 4 rfl) ?_
      refine y_cv h (y_rV (As := []) (rest := []) C0 hZ h (c_X5_advanceS l G Z ad _ h.2 ((Tp.fr (M := [16]) hTp (Fr.tr (Fr.tr u_7 u_14) (Fr.mono u_25 (by decide))) kSC_78 (by decide)))) k_X5_advance q_616 q_0 q_614 kSC_77 rfl rfl rfl hl.1 rfl rfl (Nat.le_of_ble_eq_true rfl) dX5_personLine_55 ⟨Nat.le_of_ble_eq_true rfl, Nat.le_of_ble_eq_true rfl⟩ ⟨Nat.le_of_ble_eq_true rfl, Nat.le_of_ble_eq_true rfl⟩) (fun H locs ws_147 h u_148 p_149 => ?_)
      have e_150 := p_149
      refine lv_aload_n C0.1 C0.2.1 dX5_personLine_58 rfl (lv_at hl 4 rfl) ?_
      refine y_c1 (n := 0) C0 (by decide) dX5_personLine_59 (fun v_151 e_152 => ?_)
      refine y_c2 (n := 99) C0 (by decide) dX5_personLine_60 (fun v_153 e_154 => ?_)
      refine y_ci h (y_rV (As := [.int v_151, .int v_153]) (rest := []) C0 hZ h (c_X5_boundeddS l G Z ad _ h.2 v_151 v_153 (o63_17 e_152) (o63_18 e_152) (o63_99 e_154) (o63_100 e_154) ((Tp.fr (M := [16]) hTp (Fr.tr (Fr.tr (Fr.tr u_7 u_14) (Fr.mono u_25 (by decide))) u_148) kSC_78 (by decide)))) k_X5_bounded q_753 q_7 q_751 kSC_77 rfl rfl rfl hl.1 rfl rfl (Nat.le_of_ble_eq_true rfl) dX5_personLine_62 ⟨Nat.le_of_ble_eq_true rfl, Nat.le_of_ble_eq_true rfl⟩ ⟨Nat.le_of_ble_eq_true rfl, Nat.le_of_ble_eq_true rfl⟩) (fun r_158 H locs ws_155 h u_156 p_157 => ?_)
      obtain ⟨e_159, e_160, e_161, e_162⟩ := p_157
      refine lv_istore_n (lv' := [(3, .int r_158), (4, .int v_22), (2, .int r_16), (1, .int r_9), (0, .ref (ad 77))]) C0.1 C0.2.1 dX5_personLine_65 rfl hl (by decide) rfl (fun ls hl => ?_)
      refine lv_aload_n C0.1 C0.2.1 dX5_personLine_66 rfl (lv_at hl 4 rfl) ?_
      refine va_ldcS C0.1 C0.2.1 C0.2.2.2.1 (sr_10 hZ) dX5_personLine_67 ?_
      refine y_ci h (y_rV (As := [.ref (Z.2.1 10)]) (rest := []) C0 hZ h (c_X5_isWordS l G Z ad _ h.2 10 (by decide) ((Tp.fr (M := [16]) hTp (Fr.tr (Fr.tr (Fr.tr (Fr.tr u_7 u_14) (Fr.mono u_25 (by decide))) u_148) u_156) kSC_78 (by decide)))) k_X5_isWord q_724 q_5 q_722 kSC_77 rfl rfl rfl hl.1 rfl rfl (Nat.le_of_ble_eq_true rfl) dX5_personLine_69 ⟨Nat.le_of_ble_eq_true rfl, Nat.le_of_ble_eq_true rfl⟩ ⟨Nat.le_of_ble_eq_true rfl, Nat.le_of_ble_eq_true rfl⟩) (fun r_166 H locs ws_163 h u_164 p_165 => ?_)
      obtain ⟨e_167, e_168, e_169⟩ := p_165
      refine y_if_eq (tgt := 89) C0 dX5_personLine_72 (by decide) (fun c_170 => ?_) (fun c_170 => ?_)
      · -- 72
        refine lv_aload_n C0.1 C0.2.1 dX5_personLine_89 rfl (lv_at hl 4 rfl) ?_
        refine tg_X5_city C0 h kSC_77 q_370 dX5_personLine_90 ?_
        refine tg_X0_folk C0 h kSC_20 q_251 dX5_personLine_93 ?_
        refine lv_iload_n C0.1 C0.2.1 dX5_personLine_96 rfl (lv_at hl 3 rfl) ?_
        refine lv_iload_n C0.1 C0.2.1 dX5_personLine_97 rfl (lv_at hl 2 rfl) ?_
        refine lv_iload_n C0.1 C0.2.1 dX5_personLine_98 rfl (lv_at hl 0 rfl) ?_
        refine lv_iload C0.1 C0.2.1 dX5_personLine_99 (lv_at hl 1 rfl) ?_
        refine y_cv h (y_rV (As := [.int r_9, .int r_16, .int r_158, .int v_22]) (rest := []) C0 hZ h (c_X1_settleS l G Z ad _ h.2 29 kSC_29 r_9 r_16 r_158 v_22 (o63_3 e_10 e_11) (o63_4 e_10 e_11) (o63_7 e_17 e_18) (o63_8 e_17 e_18)) k_X1_settle q_801 q_802 q_800 kSC_29 rfl rfl rfl hl.1 rfl rfl (Nat.le_of_ble_eq_true rfl) dX5_personLine_101 ⟨Nat.le_of_ble_eq_true rfl, Nat.le_of_ble_eq_true rfl⟩ ⟨Nat.le_of_ble_eq_true rfl, Nat.le_of_ble_eq_true rfl⟩) (fun H locs ws_171 h u_172 p_173 => ?_)
        have e_174 := p_173
        have hv_175 : (aF 20 ws0) 5 = v_1.toInt := (aF_at (by decide) e_2)
        have hs_176 : aF 20 ws_6 = (aF 20 ws0) := (aF_fr u_7 kSC_20 (by decide))
        have hs_177 : aF 20 ws_13 = (aF 20 ws0) := (aF_fr u_14 kSC_20 (by decide)).trans hs_176
        have hs_178 : aF 20 ws_24 = (aF 20 ws0) := (aF_fr u_25 kSC_20 (by decide)).trans hs_177
        have hs_179 : aF 20 ws_147 = (aF 20 ws0) := (aF_fr u_148 kSC_20 (by decide)).trans hs_178
        have hs_180 : aF 20 ws_155 = (aF 20 ws0) := (aF_fr u_156 kSC_20 (by decide)).trans hs_179
        have hs_181 : aF 20 ws_163 = (aF 20 ws0) := (aF_fr u_164 kSC_20 (by decide)).trans hs_180
        have hs_182 : aF 20 ws_171 = (aF 20 ws0) := (aF_fr u_172 kSC_20 (by decide)).trans hs_181
        have hs_183 : aF 29 ws_6 = (aF 29 ws0) := (aF_fr u_7 kSC_29 (by decide))
        have hs_184 : aF 29 ws_13 = (aF 29 ws0) := (aF_fr u_14 kSC_29 (by decide)).trans hs_183
        have hs_185 : aF 29 ws_24 = (aF 29 ws0) := (aF_fr u_25 kSC_29 (by decide)).trans hs_184
        have hs_186 : aF 29 ws_147 = (aF 29 ws0) := (aF_fr u_148 kSC_29 (by decide)).trans hs_185
        have hs_187 : aF 29 ws_155 = (aF 29 ws0) := (aF_fr u_156 kSC_29 (by decide)).trans hs_186
        have hs_188 : aF 29 ws_163 = (aF 29 ws0) := (aF_fr u_164 kSC_29 (by decide)).trans hs_187
        have hs_189 : aF 29 ws_171 = (stlS (aF 29 ws0)) := e_174.trans (congrArg (fun s => stlS s) hs_188)
        have hs_190 : aF 77 ws_6 = (crS T (aF 20 ws0 5) (aF 20 ws0 6) (aF 77 ws0)) := e_12
        have hs_191 : aF 77 ws_13 = (hdS T (crS T (aF 20 ws0 5) (aF 20 ws0 6) (aF 77 ws0))) := e_19.trans (congrArg (fun s => hdS T s) hs_190)
        have hq_192 := e_30
        rw [hs_191] at hq_192
        have hs_193 : aF 77 ws_24 = (hdS T (crS T (aF 20 ws0 5) (aF 20 ws0 6) (aF 77 ws0))) := (aF_fr u_25 kSC_77 (by decide)).trans hs_191
        have hs_194 : aF 77 ws_147 = (advS T (hdS T (crS T (aF 20 ws0 5) (aF 20 ws0 6) (aF 77 ws0)))) := e_150.trans (congrArg (fun s => advS T s) hs_193)
        have hq_195 := e_162
        rw [hs_194] at hq_195
        rw [(o63_20 e_152)] at hq_195
        rw [(o63_101 e_154)] at hq_195
        have hs_196 : aF 77 ws_155 = (bndS T 0 99 (advS T (hdS T (crS T (aF 20 ws0 5) (aF 20 ws0 6) (aF 77 ws0))))) := e_161.trans ((congrArg (fun s => bndS T v_151.toInt v_153.toInt s) hs_194).trans (by rw [(o63_20 e_152), (o63_101 e_154)]))
        have hq_197 := e_169
        rw [hs_196] at hq_197
        have hs_198 : aF 77 ws_163 = (bndS T 0 99 (advS T (hdS T (crS T (aF 20 ws0 5) (aF 20 ws0 6) (aF 77 ws0))))) := (aF_fr u_164 kSC_77 (by decide)).trans hs_196
        have hs_199 : aF 77 ws_171 = (bndS T 0 99 (advS T (hdS T (crS T (aF 20 ws0 5) (aF 20 ws0 6) (aF 77 ws0))))) := (aF_fr u_172 kSC_77 (by decide)).trans hs_198
        have hz_200 : (bndS T 0 99 (advS T (hdS T (crS T (aF 20 ws0 5) (aF 20 ws0 6) (aF 77 ws0))))) = prS T (aF 20 ws0 5) (aF 20 ws0 6) (aF 29 ws0 7) (aF 77 ws0) := by unfold prS optS; (repeat' split) <;> first | rfl | (exfalso; omega) | (congr 1 <;> omega) | (congr 2 <;> omega)
        have hs_201 : aF 77 ws_6 = (crS T (aF 20 ws0 5) (aF 20 ws0 6) (aF 77 ws0)) := e_12
        have hs_202 : aF 77 ws_13 = (hdS T (crS T (aF 20 ws0 5) (aF 20 ws0 6) (aF 77 ws0))) := e_19.trans (congrArg (fun s => hdS T s) hs_201)
        have hs_203 : aF 77 ws_24 = (hdS T (crS T (aF 20 ws0 5) (aF 20 ws0 6) (aF 77 ws0))) := (aF_fr u_25 kSC_77 (by decide)).trans hs_202
        have hs_204 : aF 77 ws_147 = (advS T (hdS T (crS T (aF 20 ws0 5) (aF 20 ws0 6) (aF 77 ws0)))) := e_150.trans (congrArg (fun s => advS T s) hs_203)
        have hs_205 : aF 77 ws_155 = (bndS T 0 99 (advS T (hdS T (crS T (aF 20 ws0 5) (aF 20 ws0 6) (aF 77 ws0))))) := e_161.trans ((congrArg (fun s => bndS T v_151.toInt v_153.toInt s) hs_204).trans (by rw [(o63_20 e_152), (o63_101 e_154)]))
        have hs_206 : aF 77 ws_163 = (bndS T 0 99 (advS T (hdS T (crS T (aF 20 ws0 5) (aF 20 ws0 6) (aF 77 ws0))))) := (aF_fr u_164 kSC_77 (by decide)).trans hs_205
        have hs_207 : aF 77 ws_171 = (bndS T 0 99 (advS T (hdS T (crS T (aF 20 ws0 5) (aF 20 ws0 6) (aF 77 ws0))))) := (aF_fr u_172 kSC_77 (by decide)).trans hs_206
        have hs_208 : aF 20 ws_6 = (aF 20 ws0) := (aF_fr u_7 kSC_20 (by decide))
        have hs_209 : aF 20 ws_13 = (aF 20 ws0) := (aF_fr u_14 kSC_20 (by decide)).trans hs_208
        have hs_210 : aF 20 ws_24 = (aF 20 ws0) := (aF_fr u_25 kSC_20 (by decide)).trans hs_209
        have hs_211 : aF 20 ws_147 = (aF 20 ws0) := (aF_fr u_148 kSC_20 (by decide)).trans hs_210
        have hs_212 : aF 20 ws_155 = (aF 20 ws0) := (aF_fr u_156 kSC_20 (by decide)).trans hs_211
        have hs_213 : aF 20 ws_163 = (aF 20 ws0) := (aF_fr u_164 kSC_20 (by decide)).trans hs_212
        have hs_214 : aF 20 ws_171 = (aF 20 ws0) := (aF_fr u_172 kSC_20 (by decide)).trans hs_213
        have hs_215 : aF 29 ws_6 = (aF 29 ws0) := (aF_fr u_7 kSC_29 (by decide))
        have hs_216 : aF 29 ws_13 = (aF 29 ws0) := (aF_fr u_14 kSC_29 (by decide)).trans hs_215
        have hs_217 : aF 29 ws_24 = (aF 29 ws0) := (aF_fr u_25 kSC_29 (by decide)).trans hs_216
        have hs_218 : aF 29 ws_147 = (aF 29 ws0) := (aF_fr u_148 kSC_29 (by decide)).trans hs_217
        have hs_219 : aF 29 ws_155 = (aF 29 ws0) := (aF_fr u_156 kSC_29 (by decide)).trans hs_218
        have hs_220 : aF 29 ws_163 = (aF 29 ws0) := (aF_fr u_164 kSC_29 (by decide)).trans hs_219
        have hs_221 : aF 29 ws_171 = (stlS (aF 29 ws0)) := e_174.trans (congrArg (fun s => stlS s) hs_220)
        have hz_222 : (stlS (aF 29 ws0)) = prF (aF 20 ws0 5) (aF 29 ws0) := by unfold prF; (repeat' split) <;> first | rfl | (exfalso; omega) | (congr 1 <;> omega) | (congr 2 <;> omega)
        rw [hQ]
        exact y_vret C0 h (Fr.tr (Fr.tr (Fr.tr (Fr.tr (Fr.tr (Fr.tr (Fr.mono u_7 (by decide)) (Fr.mono u_14 (by decide))) (Fr.mono u_25 (by decide))) (Fr.mono u_148 (by decide))) (Fr.mono u_156 (by decide))) (Fr.mono u_164 (by decide))) (Fr.mono u_172 (by decide))) ⟨(Eq.trans hs_199 hz_200), (Eq.trans hs_221 hz_222)⟩ dX5_personLine_104
      · -- 72
        refine lv_aload_n C0.1 C0.2.1 dX5_personLine_75 rfl (lv_at hl 4 rfl) ?_
        refine y_cv h (y_rV (As := []) (rest := []) C0 hZ h (c_X5_advanceS l G Z ad _ h.2 ((Tp.fr (M := [16]) hTp (Fr.tr (Fr.tr (Fr.tr (Fr.tr (Fr.tr u_7 u_14) (Fr.mono u_25 (by decide))) u_148) u_156) (Fr.mono u_164 (by decide))) kSC_78 (by decide)))) k_X5_advance q_616 q_0 q_614 kSC_77 rfl rfl rfl hl.1 rfl rfl (Nat.le_of_ble_eq_true rfl) dX5_personLine_76 ⟨Nat.le_of_ble_eq_true rfl, Nat.le_of_ble_eq_true rfl⟩ ⟨Nat.le_of_ble_eq_true rfl, Nat.le_of_ble_eq_true rfl⟩) (fun H locs ws_223 h u_224 p_225 => ?_)
        have e_226 := p_225
        refine lv_aload_n C0.1 C0.2.1 dX5_personLine_79 rfl (lv_at hl 4 rfl) ?_
        refine y_c1 (n := 0) C0 (by decide) dX5_personLine_80 (fun v_227 e_228 => ?_)
        refine y_c3 (n := 999) C0 (by decide) dX5_personLine_81 (fun v_229 e_230 => ?_)
        refine y_ci h (y_rV (As := [.int v_227, .int v_229]) (rest := []) C0 hZ h (c_X5_boundedeS l G Z ad _ h.2 v_227 v_229 (o63_17 e_228) (o63_18 e_228) (o63_96 e_230) (o63_97 e_230) ((Tp.fr (M := [16]) hTp (Fr.tr (Fr.tr (Fr.tr (Fr.tr (Fr.tr (Fr.tr u_7 u_14) (Fr.mono u_25 (by decide))) u_148) u_156) (Fr.mono u_164 (by decide))) u_224) kSC_78 (by decide)))) k_X5_bounded q_753 q_7 q_751 kSC_77 rfl rfl rfl hl.1 rfl rfl (Nat.le_of_ble_eq_true rfl) dX5_personLine_84 ⟨Nat.le_of_ble_eq_true rfl, Nat.le_of_ble_eq_true rfl⟩ ⟨Nat.le_of_ble_eq_true rfl, Nat.le_of_ble_eq_true rfl⟩) (fun r_234 H locs ws_231 h u_232 p_233 => ?_)
        obtain ⟨e_235, e_236, e_237, e_238⟩ := p_233
        refine lv_istore (lv' := [(4, .int r_234), (3, .int r_158), (2, .int r_16), (1, .int r_9), (0, .ref (ad 77))]) C0.1 C0.2.1 dX5_personLine_87 hl (by decide) rfl (fun ls hl => ?_)
        refine lv_aload_n C0.1 C0.2.1 dX5_personLine_89 rfl (lv_at hl 4 rfl) ?_
        refine tg_X5_city C0 h kSC_77 q_370 dX5_personLine_90 ?_
        refine tg_X0_folk C0 h kSC_20 q_251 dX5_personLine_93 ?_
        refine lv_iload_n C0.1 C0.2.1 dX5_personLine_96 rfl (lv_at hl 3 rfl) ?_
        refine lv_iload_n C0.1 C0.2.1 dX5_personLine_97 rfl (lv_at hl 2 rfl) ?_
        refine lv_iload_n C0.1 C0.2.1 dX5_personLine_98 rfl (lv_at hl 1 rfl) ?_
        refine lv_iload C0.1 C0.2.1 dX5_personLine_99 (lv_at hl 0 rfl) ?_
        refine y_cv h (y_rV (As := [.int r_9, .int r_16, .int r_158, .int r_234]) (rest := []) C0 hZ h (c_X1_settleS l G Z ad _ h.2 29 kSC_29 r_9 r_16 r_158 r_234 (o63_3 e_10 e_11) (o63_4 e_10 e_11) (o63_7 e_17 e_18) (o63_8 e_17 e_18)) k_X1_settle q_801 q_802 q_800 kSC_29 rfl rfl rfl hl.1 rfl rfl (Nat.le_of_ble_eq_true rfl) dX5_personLine_101 ⟨Nat.le_of_ble_eq_true rfl, Nat.le_of_ble_eq_true rfl⟩ ⟨Nat.le_of_ble_eq_true rfl, Nat.le_of_ble_eq_true rfl⟩) (fun H locs ws_239 h u_240 p_241 => ?_)
        have e_242 := p_241
        have hv_243 : (aF 20 ws0) 5 = v_1.toInt := (aF_at (by decide) e_2)
        have hs_244 : aF 20 ws_6 = (aF 20 ws0) := (aF_fr u_7 kSC_20 (by decide))
        have hs_245 : aF 20 ws_13 = (aF 20 ws0) := (aF_fr u_14 kSC_20 (by decide)).trans hs_244
        have hs_246 : aF 20 ws_24 = (aF 20 ws0) := (aF_fr u_25 kSC_20 (by decide)).trans hs_245
        have hs_247 : aF 20 ws_147 = (aF 20 ws0) := (aF_fr u_148 kSC_20 (by decide)).trans hs_246
        have hs_248 : aF 20 ws_155 = (aF 20 ws0) := (aF_fr u_156 kSC_20 (by decide)).trans hs_247
        have hs_249 : aF 20 ws_163 = (aF 20 ws0) := (aF_fr u_164 kSC_20 (by decide)).trans hs_248
        have hs_250 : aF 20 ws_223 = (aF 20 ws0) := (aF_fr u_224 kSC_20 (by decide)).trans hs_249
        have hs_251 : aF 20 ws_231 = (aF 20 ws0) := (aF_fr u_232 kSC_20 (by decide)).trans hs_250
        have hs_252 : aF 20 ws_239 = (aF 20 ws0) := (aF_fr u_240 kSC_20 (by decide)).trans hs_251
        have hs_253 : aF 29 ws_6 = (aF 29 ws0) := (aF_fr u_7 kSC_29 (by decide))
        have hs_254 : aF 29 ws_13 = (aF 29 ws0) := (aF_fr u_14 kSC_29 (by decide)).trans hs_253
        have hs_255 : aF 29 ws_24 = (aF 29 ws0) := (aF_fr u_25 kSC_29 (by decide)).trans hs_254
        have hs_256 : aF 29 ws_147 = (aF 29 ws0) := (aF_fr u_148 kSC_29 (by decide)).trans hs_255
        have hs_257 : aF 29 ws_155 = (aF 29 ws0) := (aF_fr u_156 kSC_29 (by decide)).trans hs_256
        have hs_258 : aF 29 ws_163 = (aF 29 ws0) := (aF_fr u_164 kSC_29 (by decide)).trans hs_257
        have hs_259 : aF 29 ws_223 = (aF 29 ws0) := (aF_fr u_224 kSC_29 (by decide)).trans hs_258
        have hs_260 : aF 29 ws_231 = (aF 29 ws0) := (aF_fr u_232 kSC_29 (by decide)).trans hs_259
        have hs_261 : aF 29 ws_239 = (stlS (aF 29 ws0)) := e_242.trans (congrArg (fun s => stlS s) hs_260)
        have hs_262 : aF 77 ws_6 = (crS T (aF 20 ws0 5) (aF 20 ws0 6) (aF 77 ws0)) := e_12
        have hs_263 : aF 77 ws_13 = (hdS T (crS T (aF 20 ws0 5) (aF 20 ws0 6) (aF 77 ws0))) := e_19.trans (congrArg (fun s => hdS T s) hs_262)
        have hq_264 := e_30
        rw [hs_263] at hq_264
        have hs_265 : aF 77 ws_24 = (hdS T (crS T (aF 20 ws0 5) (aF 20 ws0 6) (aF 77 ws0))) := (aF_fr u_25 kSC_77 (by decide)).trans hs_263
        have hs_266 : aF 77 ws_147 = (advS T (hdS T (crS T (aF 20 ws0 5) (aF 20 ws0 6) (aF 77 ws0)))) := e_150.trans (congrArg (fun s => advS T s) hs_265)
        have hq_267 := e_162
        rw [hs_266] at hq_267
        rw [(o63_20 e_152)] at hq_267
        rw [(o63_101 e_154)] at hq_267
        have hs_268 : aF 77 ws_155 = (bndS T 0 99 (advS T (hdS T (crS T (aF 20 ws0 5) (aF 20 ws0 6) (aF 77 ws0))))) := e_161.trans ((congrArg (fun s => bndS T v_151.toInt v_153.toInt s) hs_266).trans (by rw [(o63_20 e_152), (o63_101 e_154)]))
        have hq_269 := e_169
        rw [hs_268] at hq_269
        have hs_270 : aF 77 ws_163 = (bndS T 0 99 (advS T (hdS T (crS T (aF 20 ws0 5) (aF 20 ws0 6) (aF 77 ws0))))) := (aF_fr u_164 kSC_77 (by decide)).trans hs_268
        have hs_271 : aF 77 ws_223 = (advS T (bndS T 0 99 (advS T (hdS T (crS T (aF 20 ws0 5) (aF 20 ws0 6) (aF 77 ws0)))))) := e_226.trans (congrArg (fun s => advS T s) hs_270)
        have hq_272 := e_238
        rw [hs_271] at hq_272
        rw [(o63_20 e_228)] at hq_272
        rw [(o63_98 e_230)] at hq_272
        have hs_273 : aF 77 ws_231 = (bndS T 0 999 (advS T (bndS T 0 99 (advS T (hdS T (crS T (aF 20 ws0 5) (aF 20 ws0 6) (aF 77 ws0))))))) := e_237.trans ((congrArg (fun s => bndS T v_227.toInt v_229.toInt s) hs_271).trans (by rw [(o63_20 e_228), (o63_98 e_230)]))
        have hs_274 : aF 77 ws_239 = (bndS T 0 999 (advS T (bndS T 0 99 (advS T (hdS T (crS T (aF 20 ws0 5) (aF 20 ws0 6) (aF 77 ws0))))))) := (aF_fr u_240 kSC_77 (by decide)).trans hs_273
        have hz_275 : (bndS T 0 999 (advS T (bndS T 0 99 (advS T (hdS T (crS T (aF 20 ws0 5) (aF 20 ws0 6) (aF 77 ws0))))))) = prS T (aF 20 ws0 5) (aF 20 ws0 6) (aF 29 ws0 7) (aF 77 ws0) := by unfold prS optS; (repeat' split) <;> first | rfl | (exfalso; omega) | (congr 1 <;> omega) | (congr 2 <;> omega)
        have hs_276 : aF 77 ws_6 = (crS T (aF 20 ws0 5) (aF 20 ws0 6) (aF 77 ws0)) := e_12
        have hs_277 : aF 77 ws_13 = (hdS T (crS T (aF 20 ws0 5) (aF 20 ws0 6) (aF 77 ws0))) := e_19.trans (congrArg (fun s => hdS T s) hs_276)
        have hs_278 : aF 77 ws_24 = (hdS T (crS T (aF 20 ws0 5) (aF 20 ws0 6) (aF 77 ws0))) := (aF_fr u_25 kSC_77 (by decide)).trans hs_277
        have hs_279 : aF 77 ws_147 = (advS T (hdS T (crS T (aF 20 ws0 5) (aF 20 ws0 6) (aF 77 ws0)))) := e_150.trans (congrArg (fun s => advS T s) hs_278)
        have hs_280 : aF 77 ws_155 = (bndS T 0 99 (advS T (hdS T (crS T (aF 20 ws0 5) (aF 20 ws0 6) (aF 77 ws0))))) := e_161.trans ((congrArg (fun s => bndS T v_151.toInt v_153.toInt s) hs_279).trans (by rw [(o63_20 e_152), (o63_101 e_154)]))
        have hs_281 : aF 77 ws_163 = (bndS T 0 99 (advS T (hdS T (crS T (aF 20 ws0 5) (aF 20 ws0 6) (aF 77 ws0))))) := (aF_fr u_164 kSC_77 (by decide)).trans hs_280
        have hs_282 : aF 77 ws_223 = (advS T (bndS T 0 99 (advS T (hdS T (crS T (aF 20 ws0 5) (aF 20 ws0 6) (aF 77 ws0)))))) := e_226.trans (congrArg (fun s => advS T s) hs_281)
        have hs_283 : aF 77 ws_231 = (bndS T 0 999 (advS T (bndS T 0 99 (advS T (hdS T (crS T (aF 20 ws0 5) (aF 20 ws0 6) (aF 77 ws0))))))) := e_237.trans ((congrArg (fun s => bndS T v_227.toInt v_229.toInt s) hs_282).trans (by rw [(o63_20 e_228), (o63_98 e_230)]))
        have hs_284 : aF 77 ws_239 = (bndS T 0 999 (advS T (bndS T 0 99 (advS T (hdS T (crS T (aF 20 ws0 5) (aF 20 ws0 6) (aF 77 ws0))))))) := (aF_fr u_240 kSC_77 (by decide)).trans hs_283
        have hs_285 : aF 20 ws_6 = (aF 20 ws0) := (aF_fr u_7 kSC_20 (by decide))
        have hs_286 : aF 20 ws_13 = (aF 20 ws0) := (aF_fr u_14 kSC_20 (by decide)).trans hs_285
        have hs_287 : aF 20 ws_24 = (aF 20 ws0) := (aF_fr u_25 kSC_20 (by decide)).trans hs_286
        have hs_288 : aF 20 ws_147 = (aF 20 ws0) := (aF_fr u_148 kSC_20 (by decide)).trans hs_287
        have hs_289 : aF 20 ws_155 = (aF 20 ws0) := (aF_fr u_156 kSC_20 (by decide)).trans hs_288
        have hs_290 : aF 20 ws_163 = (aF 20 ws0) := (aF_fr u_164 kSC_20 (by decide)).trans hs_289
        have hs_291 : aF 20 ws_223 = (aF 20 ws0) := (aF_fr u_224 kSC_20 (by decide)).trans hs_290
        have hs_292 : aF 20 ws_231 = (aF 20 ws0) := (aF_fr u_232 kSC_20 (by decide)).trans hs_291
        have hs_293 : aF 20 ws_239 = (aF 20 ws0) := (aF_fr u_240 kSC_20 (by decide)).trans hs_292
        have hs_294 : aF 29 ws_6 = (aF 29 ws0) := (aF_fr u_7 kSC_29 (by decide))
        have hs_295 : aF 29 ws_13 = (aF 29 ws0) := (aF_fr u_14 kSC_29 (by decide)).trans hs_294
        have hs_296 : aF 29 ws_24 = (aF 29 ws0) := (aF_fr u_25 kSC_29 (by decide)).trans hs_295
        have hs_297 : aF 29 ws_147 = (aF 29 ws0) := (aF_fr u_148 kSC_29 (by decide)).trans hs_296
        have hs_298 : aF 29 ws_155 = (aF 29 ws0) := (aF_fr u_156 kSC_29 (by decide)).trans hs_297
        have hs_299 : aF 29 ws_163 = (aF 29 ws0) := (aF_fr u_164 kSC_29 (by decide)).trans hs_298
        have hs_300 : aF 29 ws_223 = (aF 29 ws0) := (aF_fr u_224 kSC_29 (by decide)).trans hs_299
        have hs_301 : aF 29 ws_231 = (aF 29 ws0) := (aF_fr u_232 kSC_29 (by decide)).trans hs_300
        have hs_302 : aF 29 ws_239 = (stlS (aF 29 ws0)) := e_242.trans (congrArg (fun s => stlS s) hs_301)
        have hz_303 : (stlS (aF 29 ws0)) = prF (aF 20 ws0 5) (aF 29 ws0) := by unfold prF; (repeat' split) <;> first | rfl | (exfalso; omega) | (congr 1 <;> omega) | (congr 2 <;> omega)
        rw [hQ]
        exact y_vret C0 h (Fr.tr (Fr.tr (Fr.tr (Fr.tr (Fr.tr (Fr.tr (Fr.tr (Fr.tr (Fr.mono u_7 (by decide)) (Fr.mono u_14 (by decide))) (Fr.mono u_25 (by decide))) (Fr.mono u_148 (by decide))) (Fr.mono u_156 (by decide))) (Fr.mono u_164 (by decide))) (Fr.mono u_224 (by decide))) (Fr.mono u_232 (by decide))) (Fr.mono u_240 (by decide))) ⟨(Eq.trans hs_274 hz_275), (Eq.trans hs_302 hz_303)⟩ dX5_personLine_104
  · -- 7
    refine lv_aload_n C0.1 C0.2.1 dX5_personLine_10 rfl (lv_at hl 0 rfl) ?_
    refine tg_X5_city C0 h kSC_77 q_370 dX5_personLine_11 ?_
    refine tg_X0_folk C0 h kSC_20 q_251 dX5_personLine_14 ?_
    refine tg_X1_people C0 h kSC_29 q_216 dX5_personLine_17 (fun v_304 e_305 e_306 e_307 => ?_)
    refine y_c1 (n := 5) C0 (by decide) dX5_personLine_20 (fun v_308 e_309 => ?_)
    refine y_icmp_lt (tgt := 30) C0 dX5_personLine_21 (by decide) (fun c_310 => ?_) (fun c_310 => ?_)
    · -- 21
      refine lv_aload_n C0.1 C0.2.1 dX5_personLine_30 rfl (lv_at hl 0 rfl) ?_
      refine y_ci h (y_rV (As := []) (rest := []) C0 hZ h (c_X5_crossingToldS l G Z ad _ h.2 hTp) k_X5_crossingTold q_766 q_9 q_764 kSC_77 rfl rfl rfl hl.1 rfl rfl (Nat.le_of_ble_eq_true rfl) dX5_personLine_31 ⟨Nat.le_of_ble_eq_true rfl, Nat.le_of_ble_eq_true rfl⟩ ⟨Nat.le_of_ble_eq_true rfl, Nat.le_of_ble_eq_true rfl⟩) (fun r_314 H locs ws_311 h u_312 p_313 => ?_)
      obtain ⟨e_315, e_316, e_317⟩ := p_313
      refine lv_istore_n (lv' := [(1, .int r_314), (0, .ref (ad 77))]) C0.1 C0.2.1 dX5_personLine_34 rfl hl (by decide) rfl (fun ls hl => ?_)
      refine lv_aload_n C0.1 C0.2.1 dX5_personLine_35 rfl (lv_at hl 1 rfl) ?_
      refine y_ci h (y_rV (As := []) (rest := []) C0 hZ h (c_X5_headingS l G Z ad _ h.2 ((Tp.fr (M := [16]) hTp u_312 kSC_78 (by decide)))) k_X5_heading q_792 q_12 q_790 kSC_77 rfl rfl rfl hl.1 rfl rfl (Nat.le_of_ble_eq_true rfl) dX5_personLine_36 ⟨Nat.le_of_ble_eq_true rfl, Nat.le_of_ble_eq_true rfl⟩ ⟨Nat.le_of_ble_eq_true rfl, Nat.le_of_ble_eq_true rfl⟩) (fun r_321 H locs ws_318 h u_319 p_320 => ?_)
      obtain ⟨e_322, e_323, e_324⟩ := p_320
      refine lv_istore_n (lv' := [(2, .int r_321), (1, .int r_314), (0, .ref (ad 77))]) C0.1 C0.2.1 dX5_personLine_39 rfl hl (by decide) rfl (fun ls hl => ?_)
      refine y_c1 (n := 0) C0 (by decide) dX5_personLine_40 (fun v_325 e_326 => ?_)
      refine lv_istore_n (lv' := [(3, .int v_325), (2, .int r_321), (1, .int r_314), (0, .ref (ad 77))]) C0.1 C0.2.1 dX5_personLine_41 rfl hl (by decide) rfl (fun ls hl => ?_)
      refine y_c1 (n := 0) C0 (by decide) dX5_personLine_42 (fun v_327 e_328 => ?_)
      refine lv_istore (lv' := [(4, .int v_327), (3, .int v_325), (2, .int r_321), (1, .int r_314), (0, .ref (ad 77))]) C0.1 C0.2.1 dX5_personLine_43 hl (by decide) rfl (fun ls hl => ?_)
      refine lv_aload_n C0.1 C0.2.1 dX5_personLine_45 rfl (lv_at hl 4 rfl) ?_
      refine va_ldcS C0.1 C0.2.1 C0.2.2.2.1 (sr_9 hZ) dX5_personLine_46 ?_
      refine y_ci h (y_rV (As := [.ref (Z.2.1 9)]) (rest := []) C0 hZ h (c_X5_isWordS l G Z ad _ h.2 9 (by decide) ((Tp.fr (M := [16]) hTp (Fr.tr u_312 u_319) kSC_78 (by decide)))) k_X5_isWord q_724 q_5 q_722 kSC_77 rfl rfl rfl hl.1 rfl rfl (Nat.le_of_ble_eq_true rfl) dX5_personLine_48 ⟨Nat.le_of_ble_eq_true rfl, Nat.le_of_ble_eq_true rfl⟩ ⟨Nat.le_of_ble_eq_true rfl, Nat.le_of_ble_eq_true rfl⟩) (fun r_332 H locs ws_329 h u_330 p_331 => ?_)
      obtain ⟨e_333, e_334, e_335⟩ := p_331
      refine y_if_eq (tgt := 66) C0 dX5_personLine_51 (by decide) (fun c_336 => ?_) (fun c_336 => ?_)
      · -- 51
        refine lv_aload_n C0.1 C0.2.1 dX5_personLine_66 rfl (lv_at hl 4 rfl) ?_
        refine va_ldcS C0.1 C0.2.1 C0.2.2.2.1 (sr_10 hZ) dX5_personLine_67 ?_
        refine y_ci h (y_rV (As := [.ref (Z.2.1 10)]) (rest := []) C0 hZ h (c_X5_isWordS l G Z ad _ h.2 10 (by decide) ((Tp.fr (M := [16]) hTp (Fr.tr (Fr.tr u_312 u_319) (Fr.mono u_330 (by decide))) kSC_78 (by decide)))) k_X5_isWord q_724 q_5 q_722 kSC_77 rfl rfl rfl hl.1 rfl rfl (Nat.le_of_ble_eq_true rfl) dX5_personLine_69 ⟨Nat.le_of_ble_eq_true rfl, Nat.le_of_ble_eq_true rfl⟩ ⟨Nat.le_of_ble_eq_true rfl, Nat.le_of_ble_eq_true rfl⟩) (fun r_340 H locs ws_337 h u_338 p_339 => ?_)
        obtain ⟨e_341, e_342, e_343⟩ := p_339
        refine y_if_eq (tgt := 89) C0 dX5_personLine_72 (by decide) (fun c_344 => ?_) (fun c_344 => ?_)
        · -- 72
          refine lv_aload_n C0.1 C0.2.1 dX5_personLine_89 rfl (lv_at hl 4 rfl) ?_
          refine tg_X5_city C0 h kSC_77 q_370 dX5_personLine_90 ?_
          refine tg_X0_folk C0 h kSC_20 q_251 dX5_personLine_93 ?_
          refine lv_iload_n C0.1 C0.2.1 dX5_personLine_96 rfl (lv_at hl 3 rfl) ?_
          refine lv_iload_n C0.1 C0.2.1 dX5_personLine_97 rfl (lv_at hl 2 rfl) ?_
          refine lv_iload_n C0.1 C0.2.1 dX5_personLine_98 rfl (lv_at hl 1 rfl) ?_
          refine lv_iload C0.1 C0.2.1 dX5_personLine_99 (lv_at hl 0 rfl) ?_
          refine y_cv h (y_rV (As := [.int r_314, .int r_321, .int v_325, .int v_327]) (rest := []) C0 hZ h (c_X1_settleS l G Z ad _ h.2 29 kSC_29 r_314 r_321 v_325 v_327 (o63_3 e_315 e_316) (o63_4 e_315 e_316) (o63_7 e_322 e_323) (o63_8 e_322 e_323)) k_X1_settle q_801 q_802 q_800 kSC_29 rfl rfl rfl hl.1 rfl rfl (Nat.le_of_ble_eq_true rfl) dX5_personLine_101 ⟨Nat.le_of_ble_eq_true rfl, Nat.le_of_ble_eq_true rfl⟩ ⟨Nat.le_of_ble_eq_true rfl, Nat.le_of_ble_eq_true rfl⟩) (fun H locs ws_345 h u_346 p_347 => ?_)
          have e_348 := p_347
          have hv_349 : (aF 20 ws0) 5 = v_1.toInt := (aF_at (by decide) e_2)
          have hs_350 : aF 20 ws_311 = (aF 20 ws0) := (aF_fr u_312 kSC_20 (by decide))
          have hs_351 : aF 20 ws_318 = (aF 20 ws0) := (aF_fr u_319 kSC_20 (by decide)).trans hs_350
          have hs_352 : aF 20 ws_329 = (aF 20 ws0) := (aF_fr u_330 kSC_20 (by decide)).trans hs_351
          have hs_353 : aF 20 ws_337 = (aF 20 ws0) := (aF_fr u_338 kSC_20 (by decide)).trans hs_352
          have hs_354 : aF 20 ws_345 = (aF 20 ws0) := (aF_fr u_346 kSC_20 (by decide)).trans hs_353
          have hv_355 : (aF 29 ws0) 7 = v_304.toInt := (aF_at (by decide) e_305)
          have hs_356 : aF 29 ws_311 = (aF 29 ws0) := (aF_fr u_312 kSC_29 (by decide))
          have hs_357 : aF 29 ws_318 = (aF 29 ws0) := (aF_fr u_319 kSC_29 (by decide)).trans hs_356
          have hs_358 : aF 29 ws_329 = (aF 29 ws0) := (aF_fr u_330 kSC_29 (by decide)).trans hs_357
          have hs_359 : aF 29 ws_337 = (aF 29 ws0) := (aF_fr u_338 kSC_29 (by decide)).trans hs_358
          have hs_360 : aF 29 ws_345 = (stlS (aF 29 ws0)) := e_348.trans (congrArg (fun s => stlS s) hs_359)
          have hs_361 : aF 77 ws_311 = (crS T (aF 20 ws0 5) (aF 20 ws0 6) (aF 77 ws0)) := e_317
          have hs_362 : aF 77 ws_318 = (hdS T (crS T (aF 20 ws0 5) (aF 20 ws0 6) (aF 77 ws0))) := e_324.trans (congrArg (fun s => hdS T s) hs_361)
          have hq_363 := e_335
          rw [hs_362] at hq_363
          have hs_364 : aF 77 ws_329 = (hdS T (crS T (aF 20 ws0 5) (aF 20 ws0 6) (aF 77 ws0))) := (aF_fr u_330 kSC_77 (by decide)).trans hs_362
          have hq_365 := e_343
          rw [hs_364] at hq_365
          have hs_366 : aF 77 ws_337 = (hdS T (crS T (aF 20 ws0 5) (aF 20 ws0 6) (aF 77 ws0))) := (aF_fr u_338 kSC_77 (by decide)).trans hs_364
          have hs_367 : aF 77 ws_345 = (hdS T (crS T (aF 20 ws0 5) (aF 20 ws0 6) (aF 77 ws0))) := (aF_fr u_346 kSC_77 (by decide)).trans hs_366
          have hz_368 : (hdS T (crS T (aF 20 ws0 5) (aF 20 ws0 6) (aF 77 ws0))) = prS T (aF 20 ws0 5) (aF 20 ws0 6) (aF 29 ws0 7) (aF 77 ws0) := by unfold prS optS; (repeat' split) <;> first | rfl | (exfalso; omega) | (congr 1 <;> omega) | (congr 2 <;> omega)
          have hs_369 : aF 77 ws_311 = (crS T (aF 20 ws0 5) (aF 20 ws0 6) (aF 77 ws0)) := e_317
          have hs_370 : aF 77 ws_318 = (hdS T (crS T (aF 20 ws0 5) (aF 20 ws0 6) (aF 77 ws0))) := e_324.trans (congrArg (fun s => hdS T s) hs_369)
          have hs_371 : aF 77 ws_329 = (hdS T (crS T (aF 20 ws0 5) (aF 20 ws0 6) (aF 77 ws0))) := (aF_fr u_330 kSC_77 (by decide)).trans hs_370
          have hs_372 : aF 77 ws_337 = (hdS T (crS T (aF 20 ws0 5) (aF 20 ws0 6) (aF 77 ws0))) := (aF_fr u_338 kSC_77 (by decide)).trans hs_371
          have hs_373 : aF 77 ws_345 = (hdS T (crS T (aF 20 ws0 5) (aF 20 ws0 6) (aF 77 ws0))) := (aF_fr u_346 kSC_77 (by decide)).trans hs_372
          have hs_374 : aF 20 ws_311 = (aF 20 ws0) := (aF_fr u_312 kSC_20 (by decide))
          have hs_375 : aF 20 ws_318 = (aF 20 ws0) := (aF_fr u_319 kSC_20 (by decide)).trans hs_374
          have hs_376 : aF 20 ws_329 = (aF 20 ws0) := (aF_fr u_330 kSC_20 (by decide)).trans hs_375
          have hs_377 : aF 20 ws_337 = (aF 20 ws0) := (aF_fr u_338 kSC_20 (by decide)).trans hs_376
          have hs_378 : aF 20 ws_345 = (aF 20 ws0) := (aF_fr u_346 kSC_20 (by decide)).trans hs_377
          have hs_379 : aF 29 ws_311 = (aF 29 ws0) := (aF_fr u_312 kSC_29 (by decide))
          have hs_380 : aF 29 ws_318 = (aF 29 ws0) := (aF_fr u_319 kSC_29 (by decide)).trans hs_379
          have hs_381 : aF 29 ws_329 = (aF 29 ws0) := (aF_fr u_330 kSC_29 (by decide)).trans hs_380
          have hs_382 : aF 29 ws_337 = (aF 29 ws0) := (aF_fr u_338 kSC_29 (by decide)).trans hs_381
          have hs_383 : aF 29 ws_345 = (stlS (aF 29 ws0)) := e_348.trans (congrArg (fun s => stlS s) hs_382)
          have hz_384 : (stlS (aF 29 ws0)) = prF (aF 20 ws0 5) (aF 29 ws0) := by unfold prF; (repeat' split) <;> first | rfl | (exfalso; omega) | (congr 1 <;> omega) | (congr 2 <;> omega)
          rw [hQ]
          exact y_vret C0 h (Fr.tr (Fr.tr (Fr.tr (Fr.tr (Fr.mono u_312 (by decide)) (Fr.mono u_319 (by decide))) (Fr.mono u_330 (by decide))) (Fr.mono u_338 (by decide))) (Fr.mono u_346 (by decide))) ⟨(Eq.trans hs_367 hz_368), (Eq.trans hs_383 hz_384)⟩ dX5_personLine_104
        · -- 72
          refine lv_aload_n C0.1 C0.2.1 dX5_personLine_75 rfl (lv_at hl 4 rfl) ?_
          refine y_cv h (y_rV (As := []) (rest := []) C0 hZ h (c_X5_advanceS l G Z ad _ h.2 ((Tp.fr (M := [16]) hTp (Fr.tr (Fr.tr (Fr.tr u_312 u_319) (Fr.mono u_330 (by decide))) (Fr.mono u_338 (by decide))) kSC_78 (by decide)))) k_X5_advance q_616 q_0 q_614 kSC_77 rfl rfl rfl hl.1 rfl rfl (Nat.le_of_ble_eq_true rfl) dX5_personLine_76 ⟨Nat.le_of_ble_eq_true rfl, Nat.le_of_ble_eq_true rfl⟩ ⟨Nat.le_of_ble_eq_true rfl, Nat.le_of_ble_eq_true rfl⟩) (fun H locs ws_385 h u_386 p_387 => ?_)
          have e_388 := p_387
          refine lv_aload_n C0.1 C0.2.1 dX5_personLine_79 rfl (lv_at hl 4 rfl) ?_
          refine y_c1 (n := 0) C0 (by decide) dX5_personLine_80 (fun v_389 e_390 => ?_)
          refine y_c3 (n := 999) C0 (by decide) dX5_personLine_81 (fun v_391 e_392 => ?_)
          refine y_ci h (y_rV (As := [.int v_389, .int v_391]) (rest := []) C0 hZ h (c_X5_boundedeS l G Z ad _ h.2 v_389 v_391 (o63_17 e_390) (o63_18 e_390) (o63_96 e_392) (o63_97 e_392) ((Tp.fr (M := [16]) hTp (Fr.tr (Fr.tr (Fr.tr (Fr.tr u_312 u_319) (Fr.mono u_330 (by decide))) (Fr.mono u_338 (by decide))) u_386) kSC_78 (by decide)))) k_X5_bounded q_753 q_7 q_751 kSC_77 rfl rfl rfl hl.1 rfl rfl (Nat.le_of_ble_eq_true rfl) dX5_personLine_84 ⟨Nat.le_of_ble_eq_true rfl, Nat.le_of_ble_eq_true rfl⟩ ⟨Nat.le_of_ble_eq_true rfl, Nat.le_of_ble_eq_true rfl⟩) (fun r_396 H locs ws_393 h u_394 p_395 => ?_)
          obtain ⟨e_397, e_398, e_399, e_400⟩ := p_395
          refine lv_istore (lv' := [(4, .int r_396), (3, .int v_325), (2, .int r_321), (1, .int r_314), (0, .ref (ad 77))]) C0.1 C0.2.1 dX5_personLine_87 hl (by decide) rfl (fun ls hl => ?_)
          refine lv_aload_n C0.1 C0.2.1 dX5_personLine_89 rfl (lv_at hl 4 rfl) ?_
          refine tg_X5_city C0 h kSC_77 q_370 dX5_personLine_90 ?_
          refine tg_X0_folk C0 h kSC_20 q_251 dX5_personLine_93 ?_
          refine lv_iload_n C0.1 C0.2.1 dX5_personLine_96 rfl (lv_at hl 3 rfl) ?_
          refine lv_iload_n C0.1 C0.2.1 dX5_personLine_97 rfl (lv_at hl 2 rfl) ?_
          refine lv_iload_n C0.1 C0.2.1 dX5_personLine_98 rfl (lv_at hl 1 rfl) ?_
          refine lv_iload C0.1 C0.2.1 dX5_personLine_99 (lv_at hl 0 rfl) ?_
          refine y_cv h (y_rV (As := [.int r_314, .int r_321, .int v_325, .int r_396]) (rest := []) C0 hZ h (c_X1_settleS l G Z ad _ h.2 29 kSC_29 r_314 r_321 v_325 r_396 (o63_3 e_315 e_316) (o63_4 e_315 e_316) (o63_7 e_322 e_323) (o63_8 e_322 e_323)) k_X1_settle q_801 q_802 q_800 kSC_29 rfl rfl rfl hl.1 rfl rfl (Nat.le_of_ble_eq_true rfl) dX5_personLine_101 ⟨Nat.le_of_ble_eq_true rfl, Nat.le_of_ble_eq_true rfl⟩ ⟨Nat.le_of_ble_eq_true rfl, Nat.le_of_ble_eq_true rfl⟩) (fun H locs ws_401 h u_402 p_403 => ?_)
          have e_404 := p_403
          have hv_405 : (aF 20 ws0) 5 = v_1.toInt := (aF_at (by decide) e_2)
          have hs_406 : aF 20 ws_311 = (aF 20 ws0) := (aF_fr u_312 kSC_20 (by decide))
          have hs_407 : aF 20 ws_318 = (aF 20 ws0) := (aF_fr u_319 kSC_20 (by decide)).trans hs_406
          have hs_408 : aF 20 ws_329 = (aF 20 ws0) := (aF_fr u_330 kSC_20 (by decide)).trans hs_407
          have hs_409 : aF 20 ws_337 = (aF 20 ws0) := (aF_fr u_338 kSC_20 (by decide)).trans hs_408
          have hs_410 : aF 20 ws_385 = (aF 20 ws0) := (aF_fr u_386 kSC_20 (by decide)).trans hs_409
          have hs_411 : aF 20 ws_393 = (aF 20 ws0) := (aF_fr u_394 kSC_20 (by decide)).trans hs_410
          have hs_412 : aF 20 ws_401 = (aF 20 ws0) := (aF_fr u_402 kSC_20 (by decide)).trans hs_411
          have hv_413 : (aF 29 ws0) 7 = v_304.toInt := (aF_at (by decide) e_305)
          have hs_414 : aF 29 ws_311 = (aF 29 ws0) := (aF_fr u_312 kSC_29 (by decide))
          have hs_415 : aF 29 ws_318 = (aF 29 ws0) := (aF_fr u_319 kSC_29 (by decide)).trans hs_414
          have hs_416 : aF 29 ws_329 = (aF 29 ws0) := (aF_fr u_330 kSC_29 (by decide)).trans hs_415
          have hs_417 : aF 29 ws_337 = (aF 29 ws0) := (aF_fr u_338 kSC_29 (by decide)).trans hs_416
          have hs_418 : aF 29 ws_385 = (aF 29 ws0) := (aF_fr u_386 kSC_29 (by decide)).trans hs_417
          have hs_419 : aF 29 ws_393 = (aF 29 ws0) := (aF_fr u_394 kSC_29 (by decide)).trans hs_418
          have hs_420 : aF 29 ws_401 = (stlS (aF 29 ws0)) := e_404.trans (congrArg (fun s => stlS s) hs_419)
          have hs_421 : aF 77 ws_311 = (crS T (aF 20 ws0 5) (aF 20 ws0 6) (aF 77 ws0)) := e_317
          have hs_422 : aF 77 ws_318 = (hdS T (crS T (aF 20 ws0 5) (aF 20 ws0 6) (aF 77 ws0))) := e_324.trans (congrArg (fun s => hdS T s) hs_421)
          have hq_423 := e_335
          rw [hs_422] at hq_423
          have hs_424 : aF 77 ws_329 = (hdS T (crS T (aF 20 ws0 5) (aF 20 ws0 6) (aF 77 ws0))) := (aF_fr u_330 kSC_77 (by decide)).trans hs_422
          have hq_425 := e_343
          rw [hs_424] at hq_425
          have hs_426 : aF 77 ws_337 = (hdS T (crS T (aF 20 ws0 5) (aF 20 ws0 6) (aF 77 ws0))) := (aF_fr u_338 kSC_77 (by decide)).trans hs_424
          have hs_427 : aF 77 ws_385 = (advS T (hdS T (crS T (aF 20 ws0 5) (aF 20 ws0 6) (aF 77 ws0)))) := e_388.trans (congrArg (fun s => advS T s) hs_426)
          have hq_428 := e_400
          rw [hs_427] at hq_428
          rw [(o63_20 e_390)] at hq_428
          rw [(o63_98 e_392)] at hq_428
          have hs_429 : aF 77 ws_393 = (bndS T 0 999 (advS T (hdS T (crS T (aF 20 ws0 5) (aF 20 ws0 6) (aF 77 ws0))))) := e_399.trans ((congrArg (fun s => bndS T v_389.toInt v_391.toInt s) hs_427).trans (by rw [(o63_20 e_390), (o63_98 e_392)]))
          have hs_430 : aF 77 ws_401 = (bndS T 0 999 (advS T (hdS T (crS T (aF 20 ws0 5) (aF 20 ws0 6) (aF 77 ws0))))) := (aF_fr u_402 kSC_77 (by decide)).trans hs_429
          have hz_431 : (bndS T 0 999 (advS T (hdS T (crS T (aF 20 ws0 5) (aF 20 ws0 6) (aF 77 ws0))))) = prS T (aF 20 ws0 5) (aF 20 ws0 6) (aF 29 ws0 7) (aF 77 ws0) := by unfold prS optS; (repeat' split) <;> first | rfl | (exfalso; omega) | (congr 1 <;> omega) | (congr 2 <;> omega)
          have hs_432 : aF 77 ws_311 = (crS T (aF 20 ws0 5) (aF 20 ws0 6) (aF 77 ws0)) := e_317
          have hs_433 : aF 77 ws_318 = (hdS T (crS T (aF 20 ws0 5) (aF 20 ws0 6) (aF 77 ws0))) := e_324.trans (congrArg (fun s => hdS T s) hs_432)
          have hs_434 : aF 77 ws_329 = (hdS T (crS T (aF 20 ws0 5) (aF 20 ws0 6) (aF 77 ws0))) := (aF_fr u_330 kSC_77 (by decide)).trans hs_433
          have hs_435 : aF 77 ws_337 = (hdS T (crS T (aF 20 ws0 5) (aF 20 ws0 6) (aF 77 ws0))) := (aF_fr u_338 kSC_77 (by decide)).trans hs_434
          have hs_436 : aF 77 ws_385 = (advS T (hdS T (crS T (aF 20 ws0 5) (aF 20 ws0 6) (aF 77 ws0)))) := e_388.trans (congrArg (fun s => advS T s) hs_435)
          have hs_437 : aF 77 ws_393 = (bndS T 0 999 (advS T (hdS T (crS T (aF 20 ws0 5) (aF 20 ws0 6) (aF 77 ws0))))) := e_399.trans ((congrArg (fun s => bndS T v_389.toInt v_391.toInt s) hs_436).trans (by rw [(o63_20 e_390), (o63_98 e_392)]))
          have hs_438 : aF 77 ws_401 = (bndS T 0 999 (advS T (hdS T (crS T (aF 20 ws0 5) (aF 20 ws0 6) (aF 77 ws0))))) := (aF_fr u_402 kSC_77 (by decide)).trans hs_437
          have hs_439 : aF 20 ws_311 = (aF 20 ws0) := (aF_fr u_312 kSC_20 (by decide))
          have hs_440 : aF 20 ws_318 = (aF 20 ws0) := (aF_fr u_319 kSC_20 (by decide)).trans hs_439
          have hs_441 : aF 20 ws_329 = (aF 20 ws0) := (aF_fr u_330 kSC_20 (by decide)).trans hs_440
          have hs_442 : aF 20 ws_337 = (aF 20 ws0) := (aF_fr u_338 kSC_20 (by decide)).trans hs_441
          have hs_443 : aF 20 ws_385 = (aF 20 ws0) := (aF_fr u_386 kSC_20 (by decide)).trans hs_442
          have hs_444 : aF 20 ws_393 = (aF 20 ws0) := (aF_fr u_394 kSC_20 (by decide)).trans hs_443
          have hs_445 : aF 20 ws_401 = (aF 20 ws0) := (aF_fr u_402 kSC_20 (by decide)).trans hs_444
          have hs_446 : aF 29 ws_311 = (aF 29 ws0) := (aF_fr u_312 kSC_29 (by decide))
          have hs_447 : aF 29 ws_318 = (aF 29 ws0) := (aF_fr u_319 kSC_29 (by decide)).trans hs_446
          have hs_448 : aF 29 ws_329 = (aF 29 ws0) := (aF_fr u_330 kSC_29 (by decide)).trans hs_447
          have hs_449 : aF 29 ws_337 = (aF 29 ws0) := (aF_fr u_338 kSC_29 (by decide)).trans hs_448
          have hs_450 : aF 29 ws_385 = (aF 29 ws0) := (aF_fr u_386 kSC_29 (by decide)).trans hs_449
          have hs_451 : aF 29 ws_393 = (aF 29 ws0) := (aF_fr u_394 kSC_29 (by decide)).trans hs_450
          have hs_452 : aF 29 ws_401 = (stlS (aF 29 ws0)) := e_404.trans (congrArg (fun s => stlS s) hs_451)
          have hz_453 : (stlS (aF 29 ws0)) = prF (aF 20 ws0 5) (aF 29 ws0) := by unfold prF; (repeat' split) <;> first | rfl | (exfalso; omega) | (congr 1 <;> omega) | (congr 2 <;> omega)
          rw [hQ]
          exact y_vret C0 h (Fr.tr (Fr.tr (Fr.tr (Fr.tr (Fr.tr (Fr.tr (Fr.mono u_312 (by decide)) (Fr.mono u_319 (by decide))) (Fr.mono u_330 (by decide))) (Fr.mono u_338 (by decide))) (Fr.mono u_386 (by decide))) (Fr.mono u_394 (by decide))) (Fr.mono u_402 (by decide))) ⟨(Eq.trans hs_430 hz_431), (Eq.trans hs_452 hz_453)⟩ dX5_personLine_104
      · -- 51
        refine lv_aload_n C0.1 C0.2.1 dX5_personLine_54 rfl (lv_at hl 4 rfl) ?_
        refine y_cv h (y_rV (As := []) (rest := []) C0 hZ h (c_X5_advanceS l G Z ad _ h.2 ((Tp.fr (M := [16]) hTp (Fr.tr (Fr.tr u_312 u_319) (Fr.mono u_330 (by decide))) kSC_78 (by decide)))) k_X5_advance q_616 q_0 q_614 kSC_77 rfl rfl rfl hl.1 rfl rfl (Nat.le_of_ble_eq_true rfl) dX5_personLine_55 ⟨Nat.le_of_ble_eq_true rfl, Nat.le_of_ble_eq_true rfl⟩ ⟨Nat.le_of_ble_eq_true rfl, Nat.le_of_ble_eq_true rfl⟩) (fun H locs ws_454 h u_455 p_456 => ?_)
        have e_457 := p_456
        refine lv_aload_n C0.1 C0.2.1 dX5_personLine_58 rfl (lv_at hl 4 rfl) ?_
        refine y_c1 (n := 0) C0 (by decide) dX5_personLine_59 (fun v_458 e_459 => ?_)
        refine y_c2 (n := 99) C0 (by decide) dX5_personLine_60 (fun v_460 e_461 => ?_)
        refine y_ci h (y_rV (As := [.int v_458, .int v_460]) (rest := []) C0 hZ h (c_X5_boundeddS l G Z ad _ h.2 v_458 v_460 (o63_17 e_459) (o63_18 e_459) (o63_99 e_461) (o63_100 e_461) ((Tp.fr (M := [16]) hTp (Fr.tr (Fr.tr (Fr.tr u_312 u_319) (Fr.mono u_330 (by decide))) u_455) kSC_78 (by decide)))) k_X5_bounded q_753 q_7 q_751 kSC_77 rfl rfl rfl hl.1 rfl rfl (Nat.le_of_ble_eq_true rfl) dX5_personLine_62 ⟨Nat.le_of_ble_eq_true rfl, Nat.le_of_ble_eq_true rfl⟩ ⟨Nat.le_of_ble_eq_true rfl, Nat.le_of_ble_eq_true rfl⟩) (fun r_465 H locs ws_462 h u_463 p_464 => ?_)
        obtain ⟨e_466, e_467, e_468, e_469⟩ := p_464
        refine lv_istore_n (lv' := [(3, .int r_465), (4, .int v_327), (2, .int r_321), (1, .int r_314), (0, .ref (ad 77))]) C0.1 C0.2.1 dX5_personLine_65 rfl hl (by decide) rfl (fun ls hl => ?_)
        refine lv_aload_n C0.1 C0.2.1 dX5_personLine_66 rfl (lv_at hl 4 rfl) ?_
        refine va_ldcS C0.1 C0.2.1 C0.2.2.2.1 (sr_10 hZ) dX5_personLine_67 ?_
        refine y_ci h (y_rV (As := [.ref (Z.2.1 10)]) (rest := []) C0 hZ h (c_X5_isWordS l G Z ad _ h.2 10 (by decide) ((Tp.fr (M := [16]) hTp (Fr.tr (Fr.tr (Fr.tr (Fr.tr u_312 u_319) (Fr.mono u_330 (by decide))) u_455) u_463) kSC_78 (by decide)))) k_X5_isWord q_724 q_5 q_722 kSC_77 rfl rfl rfl hl.1 rfl rfl (Nat.le_of_ble_eq_true rfl) dX5_personLine_69 ⟨Nat.le_of_ble_eq_true rfl, Nat.le_of_ble_eq_true rfl⟩ ⟨Nat.le_of_ble_eq_true rfl, Nat.le_of_ble_eq_true rfl⟩) (fun r_473 H locs ws_470 h u_471 p_472 => ?_)
        obtain ⟨e_474, e_475, e_476⟩ := p_472
        refine y_if_eq (tgt := 89) C0 dX5_personLine_72 (by decide) (fun c_477 => ?_) (fun c_477 => ?_)
        · -- 72
          refine lv_aload_n C0.1 C0.2.1 dX5_personLine_89 rfl (lv_at hl 4 rfl) ?_
          refine tg_X5_city C0 h kSC_77 q_370 dX5_personLine_90 ?_
          refine tg_X0_folk C0 h kSC_20 q_251 dX5_personLine_93 ?_
          refine lv_iload_n C0.1 C0.2.1 dX5_personLine_96 rfl (lv_at hl 3 rfl) ?_
          refine lv_iload_n C0.1 C0.2.1 dX5_personLine_97 rfl (lv_at hl 2 rfl) ?_
          refine lv_iload_n C0.1 C0.2.1 dX5_personLine_98 rfl (lv_at hl 0 rfl) ?_
          refine lv_iload C0.1 C0.2.1 dX5_personLine_99 (lv_at hl 1 rfl) ?_
          refine y_cv h (y_rV (As := [.int r_314, .int r_321, .int r_465, .int v_327]) (rest := []) C0 hZ h (c_X1_settleS l G Z ad _ h.2 29 kSC_29 r_314 r_321 r_465 v_327 (o63_3 e_315 e_316) (o63_4 e_315 e_316) (o63_7 e_322 e_323) (o63_8 e_322 e_323)) k_X1_settle q_801 q_802 q_800 kSC_29 rfl rfl rfl hl.1 rfl rfl (Nat.le_of_ble_eq_true rfl) dX5_personLine_101 ⟨Nat.le_of_ble_eq_true rfl, Nat.le_of_ble_eq_true rfl⟩ ⟨Nat.le_of_ble_eq_true rfl, Nat.le_of_ble_eq_true rfl⟩) (fun H locs ws_478 h u_479 p_480 => ?_)
          have e_481 := p_480
          have hv_482 : (aF 20 ws0) 5 = v_1.toInt := (aF_at (by decide) e_2)
          have hs_483 : aF 20 ws_311 = (aF 20 ws0) := (aF_fr u_312 kSC_20 (by decide))
          have hs_484 : aF 20 ws_318 = (aF 20 ws0) := (aF_fr u_319 kSC_20 (by decide)).trans hs_483
          have hs_485 : aF 20 ws_329 = (aF 20 ws0) := (aF_fr u_330 kSC_20 (by decide)).trans hs_484
          have hs_486 : aF 20 ws_454 = (aF 20 ws0) := (aF_fr u_455 kSC_20 (by decide)).trans hs_485
          have hs_487 : aF 20 ws_462 = (aF 20 ws0) := (aF_fr u_463 kSC_20 (by decide)).trans hs_486
          have hs_488 : aF 20 ws_470 = (aF 20 ws0) := (aF_fr u_471 kSC_20 (by decide)).trans hs_487
          have hs_489 : aF 20 ws_478 = (aF 20 ws0) := (aF_fr u_479 kSC_20 (by decide)).trans hs_488
          have hv_490 : (aF 29 ws0) 7 = v_304.toInt := (aF_at (by decide) e_305)
          have hs_491 : aF 29 ws_311 = (aF 29 ws0) := (aF_fr u_312 kSC_29 (by decide))
          have hs_492 : aF 29 ws_318 = (aF 29 ws0) := (aF_fr u_319 kSC_29 (by decide)).trans hs_491
          have hs_493 : aF 29 ws_329 = (aF 29 ws0) := (aF_fr u_330 kSC_29 (by decide)).trans hs_492
          have hs_494 : aF 29 ws_454 = (aF 29 ws0) := (aF_fr u_455 kSC_29 (by decide)).trans hs_493
          have hs_495 : aF 29 ws_462 = (aF 29 ws0) := (aF_fr u_463 kSC_29 (by decide)).trans hs_494
          have hs_496 : aF 29 ws_470 = (aF 29 ws0) := (aF_fr u_471 kSC_29 (by decide)).trans hs_495
          have hs_497 : aF 29 ws_478 = (stlS (aF 29 ws0)) := e_481.trans (congrArg (fun s => stlS s) hs_496)
          have hs_498 : aF 77 ws_311 = (crS T (aF 20 ws0 5) (aF 20 ws0 6) (aF 77 ws0)) := e_317
          have hs_499 : aF 77 ws_318 = (hdS T (crS T (aF 20 ws0 5) (aF 20 ws0 6) (aF 77 ws0))) := e_324.trans (congrArg (fun s => hdS T s) hs_498)
          have hq_500 := e_335
          rw [hs_499] at hq_500
          have hs_501 : aF 77 ws_329 = (hdS T (crS T (aF 20 ws0 5) (aF 20 ws0 6) (aF 77 ws0))) := (aF_fr u_330 kSC_77 (by decide)).trans hs_499
          have hs_502 : aF 77 ws_454 = (advS T (hdS T (crS T (aF 20 ws0 5) (aF 20 ws0 6) (aF 77 ws0)))) := e_457.trans (congrArg (fun s => advS T s) hs_501)
          have hq_503 := e_469
          rw [hs_502] at hq_503
          rw [(o63_20 e_459)] at hq_503
          rw [(o63_101 e_461)] at hq_503
          have hs_504 : aF 77 ws_462 = (bndS T 0 99 (advS T (hdS T (crS T (aF 20 ws0 5) (aF 20 ws0 6) (aF 77 ws0))))) := e_468.trans ((congrArg (fun s => bndS T v_458.toInt v_460.toInt s) hs_502).trans (by rw [(o63_20 e_459), (o63_101 e_461)]))
          have hq_505 := e_476
          rw [hs_504] at hq_505
          have hs_506 : aF 77 ws_470 = (bndS T 0 99 (advS T (hdS T (crS T (aF 20 ws0 5) (aF 20 ws0 6) (aF 77 ws0))))) := (aF_fr u_471 kSC_77 (by decide)).trans hs_504
          have hs_507 : aF 77 ws_478 = (bndS T 0 99 (advS T (hdS T (crS T (aF 20 ws0 5) (aF 20 ws0 6) (aF 77 ws0))))) := (aF_fr u_479 kSC_77 (by decide)).trans hs_506
          have hz_508 : (bndS T 0 99 (advS T (hdS T (crS T (aF 20 ws0 5) (aF 20 ws0 6) (aF 77 ws0))))) = prS T (aF 20 ws0 5) (aF 20 ws0 6) (aF 29 ws0 7) (aF 77 ws0) := by unfold prS optS; (repeat' split) <;> first | rfl | (exfalso; omega) | (congr 1 <;> omega) | (congr 2 <;> omega)
          have hs_509 : aF 77 ws_311 = (crS T (aF 20 ws0 5) (aF 20 ws0 6) (aF 77 ws0)) := e_317
          have hs_510 : aF 77 ws_318 = (hdS T (crS T (aF 20 ws0 5) (aF 20 ws0 6) (aF 77 ws0))) := e_324.trans (congrArg (fun s => hdS T s) hs_509)
          have hs_511 : aF 77 ws_329 = (hdS T (crS T (aF 20 ws0 5) (aF 20 ws0 6) (aF 77 ws0))) := (aF_fr u_330 kSC_77 (by decide)).trans hs_510
          have hs_512 : aF 77 ws_454 = (advS T (hdS T (crS T (aF 20 ws0 5) (aF 20 ws0 6) (aF 77 ws0)))) := e_457.trans (congrArg (fun s => advS T s) hs_511)
          have hs_513 : aF 77 ws_462 = (bndS T 0 99 (advS T (hdS T (crS T (aF 20 ws0 5) (aF 20 ws0 6) (aF 77 ws0))))) := e_468.trans ((congrArg (fun s => bndS T v_458.toInt v_460.toInt s) hs_512).trans (by rw [(o63_20 e_459), (o63_101 e_461)]))
          have hs_514 : aF 77 ws_470 = (bndS T 0 99 (advS T (hdS T (crS T (aF 20 ws0 5) (aF 20 ws0 6) (aF 77 ws0))))) := (aF_fr u_471 kSC_77 (by decide)).trans hs_513
          have hs_515 : aF 77 ws_478 = (bndS T 0 99 (advS T (hdS T (crS T (aF 20 ws0 5) (aF 20 ws0 6) (aF 77 ws0))))) := (aF_fr u_479 kSC_77 (by decide)).trans hs_514
          have hs_516 : aF 20 ws_311 = (aF 20 ws0) := (aF_fr u_312 kSC_20 (by decide))
          have hs_517 : aF 20 ws_318 = (aF 20 ws0) := (aF_fr u_319 kSC_20 (by decide)).trans hs_516
          have hs_518 : aF 20 ws_329 = (aF 20 ws0) := (aF_fr u_330 kSC_20 (by decide)).trans hs_517
          have hs_519 : aF 20 ws_454 = (aF 20 ws0) := (aF_fr u_455 kSC_20 (by decide)).trans hs_518
          have hs_520 : aF 20 ws_462 = (aF 20 ws0) := (aF_fr u_463 kSC_20 (by decide)).trans hs_519
          have hs_521 : aF 20 ws_470 = (aF 20 ws0) := (aF_fr u_471 kSC_20 (by decide)).trans hs_520
          have hs_522 : aF 20 ws_478 = (aF 20 ws0) := (aF_fr u_479 kSC_20 (by decide)).trans hs_521
          have hs_523 : aF 29 ws_311 = (aF 29 ws0) := (aF_fr u_312 kSC_29 (by decide))
          have hs_524 : aF 29 ws_318 = (aF 29 ws0) := (aF_fr u_319 kSC_29 (by decide)).trans hs_523
          have hs_525 : aF 29 ws_329 = (aF 29 ws0) := (aF_fr u_330 kSC_29 (by decide)).trans hs_524
          have hs_526 : aF 29 ws_454 = (aF 29 ws0) := (aF_fr u_455 kSC_29 (by decide)).trans hs_525
          have hs_527 : aF 29 ws_462 = (aF 29 ws0) := (aF_fr u_463 kSC_29 (by decide)).trans hs_526
          have hs_528 : aF 29 ws_470 = (aF 29 ws0) := (aF_fr u_471 kSC_29 (by decide)).trans hs_527
          have hs_529 : aF 29 ws_478 = (stlS (aF 29 ws0)) := e_481.trans (congrArg (fun s => stlS s) hs_528)
          have hz_530 : (stlS (aF 29 ws0)) = prF (aF 20 ws0 5) (aF 29 ws0) := by unfold prF; (repeat' split) <;> first | rfl | (exfalso; omega) | (congr 1 <;> omega) | (congr 2 <;> omega)
          rw [hQ]
          exact y_vret C0 h (Fr.tr (Fr.tr (Fr.tr (Fr.tr (Fr.tr (Fr.tr (Fr.mono u_312 (by decide)) (Fr.mono u_319 (by decide))) (Fr.mono u_330 (by decide))) (Fr.mono u_455 (by decide))) (Fr.mono u_463 (by decide))) (Fr.mono u_471 (by decide))) (Fr.mono u_479 (by decide))) ⟨(Eq.trans hs_507 hz_508), (Eq.trans hs_529 hz_530)⟩ dX5_personLine_104
        · -- 72
          refine lv_aload_n C0.1 C0.2.1 dX5_personLine_75 rfl (lv_at hl 4 rfl) ?_
          refine y_cv h (y_rV (As := []) (rest := []) C0 hZ h (c_X5_advanceS l G Z ad _ h.2 ((Tp.fr (M := [16]) hTp (Fr.tr (Fr.tr (Fr.tr (Fr.tr (Fr.tr u_312 u_319) (Fr.mono u_330 (by decide))) u_455) u_463) (Fr.mono u_471 (by decide))) kSC_78 (by decide)))) k_X5_advance q_616 q_0 q_614 kSC_77 rfl rfl rfl hl.1 rfl rfl (Nat.le_of_ble_eq_true rfl) dX5_personLine_76 ⟨Nat.le_of_ble_eq_true rfl, Nat.le_of_ble_eq_true rfl⟩ ⟨Nat.le_of_ble_eq_true rfl, Nat.le_of_ble_eq_true rfl⟩) (fun H locs ws_531 h u_532 p_533 => ?_)
          have e_534 := p_533
          refine lv_aload_n C0.1 C0.2.1 dX5_personLine_79 rfl (lv_at hl 4 rfl) ?_
          refine y_c1 (n := 0) C0 (by decide) dX5_personLine_80 (fun v_535 e_536 => ?_)
          refine y_c3 (n := 999) C0 (by decide) dX5_personLine_81 (fun v_537 e_538 => ?_)
          refine y_ci h (y_rV (As := [.int v_535, .int v_537]) (rest := []) C0 hZ h (c_X5_boundedeS l G Z ad _ h.2 v_535 v_537 (o63_17 e_536) (o63_18 e_536) (o63_96 e_538) (o63_97 e_538) ((Tp.fr (M := [16]) hTp (Fr.tr (Fr.tr (Fr.tr (Fr.tr (Fr.tr (Fr.tr u_312 u_319) (Fr.mono u_330 (by decide))) u_455) u_463) (Fr.mono u_471 (by decide))) u_532) kSC_78 (by decide)))) k_X5_bounded q_753 q_7 q_751 kSC_77 rfl rfl rfl hl.1 rfl rfl (Nat.le_of_ble_eq_true rfl) dX5_personLine_84 ⟨Nat.le_of_ble_eq_true rfl, Nat.le_of_ble_eq_true rfl⟩ ⟨Nat.le_of_ble_eq_true rfl, Nat.le_of_ble_eq_true rfl⟩) (fun r_542 H locs ws_539 h u_540 p_541 => ?_)
          obtain ⟨e_543, e_544, e_545, e_546⟩ := p_541
          refine lv_istore (lv' := [(4, .int r_542), (3, .int r_465), (2, .int r_321), (1, .int r_314), (0, .ref (ad 77))]) C0.1 C0.2.1 dX5_personLine_87 hl (by decide) rfl (fun ls hl => ?_)
          refine lv_aload_n C0.1 C0.2.1 dX5_personLine_89 rfl (lv_at hl 4 rfl) ?_
          refine tg_X5_city C0 h kSC_77 q_370 dX5_personLine_90 ?_
          refine tg_X0_folk C0 h kSC_20 q_251 dX5_personLine_93 ?_
          refine lv_iload_n C0.1 C0.2.1 dX5_personLine_96 rfl (lv_at hl 3 rfl) ?_
          refine lv_iload_n C0.1 C0.2.1 dX5_personLine_97 rfl (lv_at hl 2 rfl) ?_
          refine lv_iload_n C0.1 C0.2.1 dX5_personLine_98 rfl (lv_at hl 1 rfl) ?_
          refine lv_iload C0.1 C0.2.1 dX5_personLine_99 (lv_at hl 0 rfl) ?_
          refine y_cv h (y_rV (As := [.int r_314, .int r_321, .int r_465, .int r_542]) (rest := []) C0 hZ h (c_X1_settleS l G Z ad _ h.2 29 kSC_29 r_314 r_321 r_465 r_542 (o63_3 e_315 e_316) (o63_4 e_315 e_316) (o63_7 e_322 e_323) (o63_8 e_322 e_323)) k_X1_settle q_801 q_802 q_800 kSC_29 rfl rfl rfl hl.1 rfl rfl (Nat.le_of_ble_eq_true rfl) dX5_personLine_101 ⟨Nat.le_of_ble_eq_true rfl, Nat.le_of_ble_eq_true rfl⟩ ⟨Nat.le_of_ble_eq_true rfl, Nat.le_of_ble_eq_true rfl⟩) (fun H locs ws_547 h u_548 p_549 => ?_)
          have e_550 := p_549
          have hv_551 : (aF 20 ws0) 5 = v_1.toInt := (aF_at (by decide) e_2)
          have hs_552 : aF 20 ws_311 = (aF 20 ws0) := (aF_fr u_312 kSC_20 (by decide))
          have hs_553 : aF 20 ws_318 = (aF 20 ws0) := (aF_fr u_319 kSC_20 (by decide)).trans hs_552
          have hs_554 : aF 20 ws_329 = (aF 20 ws0) := (aF_fr u_330 kSC_20 (by decide)).trans hs_553
          have hs_555 : aF 20 ws_454 = (aF 20 ws0) := (aF_fr u_455 kSC_20 (by decide)).trans hs_554
          have hs_556 : aF 20 ws_462 = (aF 20 ws0) := (aF_fr u_463 kSC_20 (by decide)).trans hs_555
          have hs_557 : aF 20 ws_470 = (aF 20 ws0) := (aF_fr u_471 kSC_20 (by decide)).trans hs_556
          have hs_558 : aF 20 ws_531 = (aF 20 ws0) := (aF_fr u_532 kSC_20 (by decide)).trans hs_557
          have hs_559 : aF 20 ws_539 = (aF 20 ws0) := (aF_fr u_540 kSC_20 (by decide)).trans hs_558
          have hs_560 : aF 20 ws_547 = (aF 20 ws0) := (aF_fr u_548 kSC_20 (by decide)).trans hs_559
          have hv_561 : (aF 29 ws0) 7 = v_304.toInt := (aF_at (by decide) e_305)
          have hs_562 : aF 29 ws_311 = (aF 29 ws0) := (aF_fr u_312 kSC_29 (by decide))
          have hs_563 : aF 29 ws_318 = (aF 29 ws0) := (aF_fr u_319 kSC_29 (by decide)).trans hs_562
          have hs_564 : aF 29 ws_329 = (aF 29 ws0) := (aF_fr u_330 kSC_29 (by decide)).trans hs_563
          have hs_565 : aF 29 ws_454 = (aF 29 ws0) := (aF_fr u_455 kSC_29 (by decide)).trans hs_564
          have hs_566 : aF 29 ws_462 = (aF 29 ws0) := (aF_fr u_463 kSC_29 (by decide)).trans hs_565
          have hs_567 : aF 29 ws_470 = (aF 29 ws0) := (aF_fr u_471 kSC_29 (by decide)).trans hs_566
          have hs_568 : aF 29 ws_531 = (aF 29 ws0) := (aF_fr u_532 kSC_29 (by decide)).trans hs_567
          have hs_569 : aF 29 ws_539 = (aF 29 ws0) := (aF_fr u_540 kSC_29 (by decide)).trans hs_568
          have hs_570 : aF 29 ws_547 = (stlS (aF 29 ws0)) := e_550.trans (congrArg (fun s => stlS s) hs_569)
          have hs_571 : aF 77 ws_311 = (crS T (aF 20 ws0 5) (aF 20 ws0 6) (aF 77 ws0)) := e_317
          have hs_572 : aF 77 ws_318 = (hdS T (crS T (aF 20 ws0 5) (aF 20 ws0 6) (aF 77 ws0))) := e_324.trans (congrArg (fun s => hdS T s) hs_571)
          have hq_573 := e_335
          rw [hs_572] at hq_573
          have hs_574 : aF 77 ws_329 = (hdS T (crS T (aF 20 ws0 5) (aF 20 ws0 6) (aF 77 ws0))) := (aF_fr u_330 kSC_77 (by decide)).trans hs_572
          have hs_575 : aF 77 ws_454 = (advS T (hdS T (crS T (aF 20 ws0 5) (aF 20 ws0 6) (aF 77 ws0)))) := e_457.trans (congrArg (fun s => advS T s) hs_574)
          have hq_576 := e_469
          rw [hs_575] at hq_576
          rw [(o63_20 e_459)] at hq_576
          rw [(o63_101 e_461)] at hq_576
          have hs_577 : aF 77 ws_462 = (bndS T 0 99 (advS T (hdS T (crS T (aF 20 ws0 5) (aF 20 ws0 6) (aF 77 ws0))))) := e_468.trans ((congrArg (fun s => bndS T v_458.toInt v_460.toInt s) hs_575).trans (by rw [(o63_20 e_459), (o63_101 e_461)]))
          have hq_578 := e_476
          rw [hs_577] at hq_578
          have hs_579 : aF 77 ws_470 = (bndS T 0 99 (advS T (hdS T (crS T (aF 20 ws0 5) (aF 20 ws0 6) (aF 77 ws0))))) := (aF_fr u_471 kSC_77 (by decide)).trans hs_577
          have hs_580 : aF 77 ws_531 = (advS T (bndS T 0 99 (advS T (hdS T (crS T (aF 20 ws0 5) (aF 20 ws0 6) (aF 77 ws0)))))) := e_534.trans (congrArg (fun s => advS T s) hs_579)
          have hq_581 := e_546
          rw [hs_580] at hq_581
          rw [(o63_20 e_536)] at hq_581
          rw [(o63_98 e_538)] at hq_581
          have hs_582 : aF 77 ws_539 = (bndS T 0 999 (advS T (bndS T 0 99 (advS T (hdS T (crS T (aF 20 ws0 5) (aF 20 ws0 6) (aF 77 ws0))))))) := e_545.trans ((congrArg (fun s => bndS T v_535.toInt v_537.toInt s) hs_580).trans (by rw [(o63_20 e_536), (o63_98 e_538)]))
          have hs_583 : aF 77 ws_547 = (bndS T 0 999 (advS T (bndS T 0 99 (advS T (hdS T (crS T (aF 20 ws0 5) (aF 20 ws0 6) (aF 77 ws0))))))) := (aF_fr u_548 kSC_77 (by decide)).trans hs_582
          have hz_584 : (bndS T 0 999 (advS T (bndS T 0 99 (advS T (hdS T (crS T (aF 20 ws0 5) (aF 20 ws0 6) (aF 77 ws0))))))) = prS T (aF 20 ws0 5) (aF 20 ws0 6) (aF 29 ws0 7) (aF 77 ws0) := by unfold prS optS; (repeat' split) <;> first | rfl | (exfalso; omega) | (congr 1 <;> omega) | (congr 2 <;> omega)
          have hs_585 : aF 77 ws_311 = (crS T (aF 20 ws0 5) (aF 20 ws0 6) (aF 77 ws0)) := e_317
          have hs_586 : aF 77 ws_318 = (hdS T (crS T (aF 20 ws0 5) (aF 20 ws0 6) (aF 77 ws0))) := e_324.trans (congrArg (fun s => hdS T s) hs_585)
          have hs_587 : aF 77 ws_329 = (hdS T (crS T (aF 20 ws0 5) (aF 20 ws0 6) (aF 77 ws0))) := (aF_fr u_330 kSC_77 (by decide)).trans hs_586
          have hs_588 : aF 77 ws_454 = (advS T (hdS T (crS T (aF 20 ws0 5) (aF 20 ws0 6) (aF 77 ws0)))) := e_457.trans (congrArg (fun s => advS T s) hs_587)
          have hs_589 : aF 77 ws_462 = (bndS T 0 99 (advS T (hdS T (crS T (aF 20 ws0 5) (aF 20 ws0 6) (aF 77 ws0))))) := e_468.trans ((congrArg (fun s => bndS T v_458.toInt v_460.toInt s) hs_588).trans (by rw [(o63_20 e_459), (o63_101 e_461)]))
          have hs_590 : aF 77 ws_470 = (bndS T 0 99 (advS T (hdS T (crS T (aF 20 ws0 5) (aF 20 ws0 6) (aF 77 ws0))))) := (aF_fr u_471 kSC_77 (by decide)).trans hs_589
          have hs_591 : aF 77 ws_531 = (advS T (bndS T 0 99 (advS T (hdS T (crS T (aF 20 ws0 5) (aF 20 ws0 6) (aF 77 ws0)))))) := e_534.trans (congrArg (fun s => advS T s) hs_590)
          have hs_592 : aF 77 ws_539 = (bndS T 0 999 (advS T (bndS T 0 99 (advS T (hdS T (crS T (aF 20 ws0 5) (aF 20 ws0 6) (aF 77 ws0))))))) := e_545.trans ((congrArg (fun s => bndS T v_535.toInt v_537.toInt s) hs_591).trans (by rw [(o63_20 e_536), (o63_98 e_538)]))
          have hs_593 : aF 77 ws_547 = (bndS T 0 999 (advS T (bndS T 0 99 (advS T (hdS T (crS T (aF 20 ws0 5) (aF 20 ws0 6) (aF 77 ws0))))))) := (aF_fr u_548 kSC_77 (by decide)).trans hs_592
          have hs_594 : aF 20 ws_311 = (aF 20 ws0) := (aF_fr u_312 kSC_20 (by decide))
          have hs_595 : aF 20 ws_318 = (aF 20 ws0) := (aF_fr u_319 kSC_20 (by decide)).trans hs_594
          have hs_596 : aF 20 ws_329 = (aF 20 ws0) := (aF_fr u_330 kSC_20 (by decide)).trans hs_595
          have hs_597 : aF 20 ws_454 = (aF 20 ws0) := (aF_fr u_455 kSC_20 (by decide)).trans hs_596
          have hs_598 : aF 20 ws_462 = (aF 20 ws0) := (aF_fr u_463 kSC_20 (by decide)).trans hs_597
          have hs_599 : aF 20 ws_470 = (aF 20 ws0) := (aF_fr u_471 kSC_20 (by decide)).trans hs_598
          have hs_600 : aF 20 ws_531 = (aF 20 ws0) := (aF_fr u_532 kSC_20 (by decide)).trans hs_599
          have hs_601 : aF 20 ws_539 = (aF 20 ws0) := (aF_fr u_540 kSC_20 (by decide)).trans hs_600
          have hs_602 : aF 20 ws_547 = (aF 20 ws0) := (aF_fr u_548 kSC_20 (by decide)).trans hs_601
          have hs_603 : aF 29 ws_311 = (aF 29 ws0) := (aF_fr u_312 kSC_29 (by decide))
          have hs_604 : aF 29 ws_318 = (aF 29 ws0) := (aF_fr u_319 kSC_29 (by decide)).trans hs_603
          have hs_605 : aF 29 ws_329 = (aF 29 ws0) := (aF_fr u_330 kSC_29 (by decide)).trans hs_604
          have hs_606 : aF 29 ws_454 = (aF 29 ws0) := (aF_fr u_455 kSC_29 (by decide)).trans hs_605
          have hs_607 : aF 29 ws_462 = (aF 29 ws0) := (aF_fr u_463 kSC_29 (by decide)).trans hs_606
          have hs_608 : aF 29 ws_470 = (aF 29 ws0) := (aF_fr u_471 kSC_29 (by decide)).trans hs_607
          have hs_609 : aF 29 ws_531 = (aF 29 ws0) := (aF_fr u_532 kSC_29 (by decide)).trans hs_608
          have hs_610 : aF 29 ws_539 = (aF 29 ws0) := (aF_fr u_540 kSC_29 (by decide)).trans hs_609
          have hs_611 : aF 29 ws_547 = (stlS (aF 29 ws0)) := e_550.trans (congrArg (fun s => stlS s) hs_610)
          have hz_612 : (stlS (aF 29 ws0)) = prF (aF 20 ws0 5) (aF 29 ws0) := by unfold prF; (repeat' split) <;> first | rfl | (exfalso; omega) | (congr 1 <;> omega) | (congr 2 <;> omega)
          rw [hQ]
          exact y_vret C0 h (Fr.tr (Fr.tr (Fr.tr (Fr.tr (Fr.tr (Fr.tr (Fr.tr (Fr.tr (Fr.mono u_312 (by decide)) (Fr.mono u_319 (by decide))) (Fr.mono u_330 (by decide))) (Fr.mono u_455 (by decide))) (Fr.mono u_463 (by decide))) (Fr.mono u_471 (by decide))) (Fr.mono u_532 (by decide))) (Fr.mono u_540 (by decide))) (Fr.mono u_548 (by decide))) ⟨(Eq.trans hs_583 hz_584), (Eq.trans hs_611 hz_612)⟩ dX5_personLine_104
    · -- 21
      refine lv_aload_n C0.1 C0.2.1 dX5_personLine_24 rfl (lv_at hl 0 rfl) ?_
      refine y_c1 (n := 4) C0 (by decide) dX5_personLine_25 (fun v_613 e_614 => ?_)
      refine y_cv h (y_rV (As := [.int v_613]) (rest := []) C0 hZ h (c_X5_failS l G Z ad _ h.2 v_613) k_X5_fail q_628 q_3 q_626 kSC_77 rfl rfl rfl hl.1 rfl rfl (Nat.le_of_ble_eq_true rfl) dX5_personLine_26 ⟨Nat.le_of_ble_eq_true rfl, Nat.le_of_ble_eq_true rfl⟩ ⟨Nat.le_of_ble_eq_true rfl, Nat.le_of_ble_eq_true rfl⟩) (fun H locs ws_615 h u_616 p_617 => ?_)
      have e_618 := p_617
      have hv_619 : (aF 20 ws0) 5 = v_1.toInt := (aF_at (by decide) e_2)
      have hs_620 : aF 20 ws_615 = (aF 20 ws0) := (aF_fr u_616 kSC_20 (by decide))
      have hv_621 : (aF 29 ws0) 7 = v_304.toInt := (aF_at (by decide) e_305)
      have hs_622 : aF 29 ws_615 = (aF 29 ws0) := (aF_fr u_616 kSC_29 (by decide))
      have hs_623 : aF 77 ws_615 = (failS 4 (aF 77 ws0)) := e_618.trans (by rw [(o63_102 e_614)])
      have hz_624 : (failS 4 (aF 77 ws0)) = prS T (aF 20 ws0 5) (aF 20 ws0 6) (aF 29 ws0 7) (aF 77 ws0) := by unfold prS optS; (repeat' split) <;> first | rfl | (exfalso; omega) | (congr 1 <;> omega) | (congr 2 <;> omega)
      have hs_625 : aF 77 ws_615 = (failS 4 (aF 77 ws0)) := e_618.trans (by rw [(o63_102 e_614)])
      have hs_626 : aF 20 ws_615 = (aF 20 ws0) := (aF_fr u_616 kSC_20 (by decide))
      have hs_627 : aF 29 ws_615 = (aF 29 ws0) := (aF_fr u_616 kSC_29 (by decide))
      have hz_628 : (aF 29 ws0) = prF (aF 20 ws0 5) (aF 29 ws0) := by unfold prF; (repeat' split) <;> first | rfl | (exfalso; omega) | (congr 1 <;> omega) | (congr 2 <;> omega)
      rw [hQ]
      exact y_vret C0 h (Fr.mono u_616 (by decide)) ⟨(Eq.trans hs_623 hz_624), (Eq.trans hs_627 hz_628)⟩ dX5_personLine_29
set_option maxHeartbeats 4000000 in
set_option maxRecDepth 100000 in
theorem c_X5_lineS {T : Nat → Int} (l : Launch) (G : GG) (Z : RZ) (ad : Nat → Nat) (ws0 : va_W) (hT : Ty G (SC tt) ad ws0) (hR : Rel ws0) (hTp : Tp T ws0) : Mq l yX5_line cX5_line 1 none 30 G Z [.ref (ad 77)] ws0 (PV G (SC tt) ad [1, 2, 3, 6, 7, 8, 9, 10, 14, 15, 16] ws0 (fun u => (aF 77 u = lineS T (aF 20 ws0 5) (aF 20 ws0 6) (aF 29 ws0 7) (aF 77 ws0)) ∧ (aF 20 u = upI (lineC T (aF 77 ws0) (aF 20 ws0)) 8 (aF 20 u 8)) ∧ (aF 29 u = upI (lineF T (aF 20 ws0 5) (aF 77 ws0) (aF 29 ws0)) 8 (aF 29 u 8)) ∧ (Rel u))) := by
  refine Mq.start (by decide) (Nat.le_of_ble_eq_true rfl) ?_
  intro p e s m below meth c A ls C0 hZ h hl
  have hl : lv_has ls 1 [(0, .ref (ad 77))] := hl
  have h : Wt G (SC tt) ad A s s.heap [] ws0 := ⟨h, hT⟩
  obtain ⟨args, hargs⟩ : ∃ z, z = ([.ref (ad 77)] : List Value).toArray := ⟨_, rfl⟩
  rw [← hargs] at C0 ⊢
  have C0 : Cx p s m args meth c RX5 cX5_line 1 none := C0
  obtain ⟨Q, hQ⟩ : ∃ z, z = MQ below ((PV G (SC tt) ad [1, 2, 3, 6, 7, 8, 9, 10, 14, 15, 16] ws0 (fun u => (aF 77 u = lineS T (aF 20 ws0 5) (aF 20 ws0 6) (aF 29 ws0 7) (aF 77 ws0)) ∧ (aF 20 u = upI (lineC T (aF 77 ws0) (aF 20 ws0)) 8 (aF 20 u 8)) ∧ (aF 29 u = upI (lineF T (aF 20 ws0 5) (aF 77 ws0) (aF 29 ws0)) 8 (aF 29 u 8)) ∧ (Rel u))) A) args s 0 0 A := ⟨_, rfl⟩
  rw [← hQ]
  refine lv_aload_n C0.1 C0.2.1 dX5_line_0 rfl (lv_at hl 0 rfl) ?_
  refine va_ldcS C0.1 C0.2.1 C0.2.2.2.1 (sr_1 hZ) dX5_line_1 ?_
  refine y_ci h (y_rV (As := [.ref (Z.2.1 1)]) (rest := []) C0 hZ h (c_X5_isWordS l G Z ad _ h.2 1 (by decide) hTp) k_X5_isWord q_724 q_5 q_722 kSC_77 rfl rfl rfl hl.1 rfl rfl (Nat.le_of_ble_eq_true rfl) dX5_line_3 ⟨Nat.le_of_ble_eq_true rfl, Nat.le_of_ble_eq_true rfl⟩ ⟨Nat.le_of_ble_eq_true rfl, Nat.le_of_ble_eq_true rfl⟩) (fun r_4 H locs ws_1 h u_2 p_3 => ?_)
  obtain ⟨e_5, e_6, e_7⟩ := p_3
  refine y_if_eq (tgt := 16) C0 dX5_line_6 (by decide) (fun c_8 => ?_) (fun c_8 => ?_)
  · -- 6
    refine lv_aload_n C0.1 C0.2.1 dX5_line_16 rfl (lv_at hl 0 rfl) ?_
    refine va_ldcS C0.1 C0.2.1 C0.2.2.2.1 (sr_2 hZ) dX5_line_17 ?_
    refine y_ci h (y_rV (As := [.ref (Z.2.1 2)]) (rest := []) C0 hZ h (c_X5_isWordS l G Z ad _ h.2 2 (by decide) ((Tp.fr (M := []) hTp u_2 kSC_78 (by decide)))) k_X5_isWord q_724 q_5 q_722 kSC_77 rfl rfl rfl hl.1 rfl rfl (Nat.le_of_ble_eq_true rfl) dX5_line_19 ⟨Nat.le_of_ble_eq_true rfl, Nat.le_of_ble_eq_true rfl⟩ ⟨Nat.le_of_ble_eq_true rfl, Nat.le_of_ble_eq_true rfl⟩) (fun r_12 H locs ws_9 h u_10 p_11 => ?_)
    obtain ⟨e_13, e_14, e_15⟩ := p_11
    refine y_if_eq (tgt := 32) C0 dX5_line_22 (by decide) (fun c_16 => ?_) (fun c_16 => ?_)
    · -- 22
      refine lv_aload_n C0.1 C0.2.1 dX5_line_32 rfl (lv_at hl 0 rfl) ?_
      refine va_ldcS C0.1 C0.2.1 C0.2.2.2.1 (sr_3 hZ) dX5_line_33 ?_
      refine y_ci h (y_rV (As := [.ref (Z.2.1 3)]) (rest := []) C0 hZ h (c_X5_isWordS l G Z ad _ h.2 3 (by decide) ((Tp.fr (M := []) hTp (Fr.tr u_2 u_10) kSC_78 (by decide)))) k_X5_isWord q_724 q_5 q_722 kSC_77 rfl rfl rfl hl.1 rfl rfl (Nat.le_of_ble_eq_true rfl) dX5_line_35 ⟨Nat.le_of_ble_eq_true rfl, Nat.le_of_ble_eq_true rfl⟩ ⟨Nat.le_of_ble_eq_true rfl, Nat.le_of_ble_eq_true rfl⟩) (fun r_20 H locs ws_17 h u_18 p_19 => ?_)
      obtain ⟨e_21, e_22, e_23⟩ := p_19
      refine y_if_eq (tgt := 48) C0 dX5_line_38 (by decide) (fun c_24 => ?_) (fun c_24 => ?_)
      · -- 38
        refine lv_aload_n C0.1 C0.2.1 dX5_line_48 rfl (lv_at hl 0 rfl) ?_
        refine va_ldcS C0.1 C0.2.1 C0.2.2.2.1 (sr_4 hZ) dX5_line_49 ?_
        refine y_ci h (y_rV (As := [.ref (Z.2.1 4)]) (rest := []) C0 hZ h (c_X5_isWordS l G Z ad _ h.2 4 (by decide) ((Tp.fr (M := []) hTp (Fr.tr (Fr.tr u_2 u_10) u_18) kSC_78 (by decide)))) k_X5_isWord q_724 q_5 q_722 kSC_77 rfl rfl rfl hl.1 rfl rfl (Nat.le_of_ble_eq_true rfl) dX5_line_51 ⟨Nat.le_of_ble_eq_true rfl, Nat.le_of_ble_eq_true rfl⟩ ⟨Nat.le_of_ble_eq_true rfl, Nat.le_of_ble_eq_true rfl⟩) (fun r_28 H locs ws_25 h u_26 p_27 => ?_)
        obtain ⟨e_29, e_30, e_31⟩ := p_27
        refine y_if_eq (tgt := 64) C0 dX5_line_54 (by decide) (fun c_32 => ?_) (fun c_32 => ?_)
        · -- 54
          refine lv_aload_n C0.1 C0.2.1 dX5_line_64 rfl (lv_at hl 0 rfl) ?_
          refine va_ldcS C0.1 C0.2.1 C0.2.2.2.1 (sr_11 hZ) dX5_line_65 ?_
          refine y_ci h (y_rV (As := [.ref (Z.2.1 11)]) (rest := []) C0 hZ h (c_X5_isWordS l G Z ad _ h.2 11 (by decide) ((Tp.fr (M := []) hTp (Fr.tr (Fr.tr (Fr.tr u_2 u_10) u_18) u_26) kSC_78 (by decide)))) k_X5_isWord q_724 q_5 q_722 kSC_77 rfl rfl rfl hl.1 rfl rfl (Nat.le_of_ble_eq_true rfl) dX5_line_67 ⟨Nat.le_of_ble_eq_true rfl, Nat.le_of_ble_eq_true rfl⟩ ⟨Nat.le_of_ble_eq_true rfl, Nat.le_of_ble_eq_true rfl⟩) (fun r_36 H locs ws_33 h u_34 p_35 => ?_)
          obtain ⟨e_37, e_38, e_39⟩ := p_35
          refine y_if_eq (tgt := 92) C0 dX5_line_70 (by decide) (fun c_40 => ?_) (fun c_40 => ?_)
          · -- 70
            refine lv_aload_n C0.1 C0.2.1 dX5_line_92 rfl (lv_at hl 0 rfl) ?_
            refine va_ldcS C0.1 C0.2.1 C0.2.2.2.1 (sr_18 hZ) dX5_line_93 ?_
            refine y_ci h (y_rV (As := [.ref (Z.2.1 18)]) (rest := []) C0 hZ h (c_X5_isWordS l G Z ad _ h.2 18 (by decide) ((Tp.fr (M := []) hTp (Fr.tr (Fr.tr (Fr.tr (Fr.tr u_2 u_10) u_18) u_26) u_34) kSC_78 (by decide)))) k_X5_isWord q_724 q_5 q_722 kSC_77 rfl rfl rfl hl.1 rfl rfl (Nat.le_of_ble_eq_true rfl) dX5_line_95 ⟨Nat.le_of_ble_eq_true rfl, Nat.le_of_ble_eq_true rfl⟩ ⟨Nat.le_of_ble_eq_true rfl, Nat.le_of_ble_eq_true rfl⟩) (fun r_44 H locs ws_41 h u_42 p_43 => ?_)
            obtain ⟨e_45, e_46, e_47⟩ := p_43
            refine y_if_eq (tgt := 120) C0 dX5_line_98 (by decide) (fun c_48 => ?_) (fun c_48 => ?_)
            · -- 98
              refine lv_aload_n C0.1 C0.2.1 dX5_line_120 rfl (lv_at hl 0 rfl) ?_
              refine va_ldcS C0.1 C0.2.1 C0.2.2.2.1 (sr_14 hZ) dX5_line_121 ?_
              refine y_ci h (y_rV (As := [.ref (Z.2.1 14)]) (rest := []) C0 hZ h (c_X5_isWordS l G Z ad _ h.2 14 (by decide) ((Tp.fr (M := []) hTp (Fr.tr (Fr.tr (Fr.tr (Fr.tr (Fr.tr u_2 u_10) u_18) u_26) u_34) u_42) kSC_78 (by decide)))) k_X5_isWord q_724 q_5 q_722 kSC_77 rfl rfl rfl hl.1 rfl rfl (Nat.le_of_ble_eq_true rfl) dX5_line_123 ⟨Nat.le_of_ble_eq_true rfl, Nat.le_of_ble_eq_true rfl⟩ ⟨Nat.le_of_ble_eq_true rfl, Nat.le_of_ble_eq_true rfl⟩) (fun r_52 H locs ws_49 h u_50 p_51 => ?_)
              obtain ⟨e_53, e_54, e_55⟩ := p_51
              refine y_if_eq (tgt := 154) C0 dX5_line_126 (by decide) (fun c_56 => ?_) (fun c_56 => ?_)
              · -- 126
                refine lv_aload_n C0.1 C0.2.1 dX5_line_154 rfl (lv_at hl 0 rfl) ?_
                refine y_c1 (n := 2) C0 (by decide) dX5_line_155 (fun v_57 e_58 => ?_)
                refine y_cv h (y_rV (As := [.int v_57]) (rest := []) C0 hZ h (c_X5_failS l G Z ad _ h.2 v_57) k_X5_fail q_628 q_3 q_626 kSC_77 rfl rfl rfl hl.1 rfl rfl (Nat.le_of_ble_eq_true rfl) dX5_line_156 ⟨Nat.le_of_ble_eq_true rfl, Nat.le_of_ble_eq_true rfl⟩ ⟨Nat.le_of_ble_eq_true rfl, Nat.le_of_ble_eq_true rfl⟩) (fun H locs ws_59 h u_60 p_61 => ?_)
                have e_62 := p_61
                have hs_63 : aF 20 ws_1 = (aF 20 ws0) := (aF_fr u_2 kSC_20 (by decide))
                have hs_64 : aF 20 ws_9 = (aF 20 ws0) := (aF_fr u_10 kSC_20 (by decide)).trans hs_63
                have hs_65 : aF 20 ws_17 = (aF 20 ws0) := (aF_fr u_18 kSC_20 (by decide)).trans hs_64
                have hs_66 : aF 20 ws_25 = (aF 20 ws0) := (aF_fr u_26 kSC_20 (by decide)).trans hs_65
                have hs_67 : aF 20 ws_33 = (aF 20 ws0) := (aF_fr u_34 kSC_20 (by decide)).trans hs_66
                have hs_68 : aF 20 ws_41 = (aF 20 ws0) := (aF_fr u_42 kSC_20 (by decide)).trans hs_67
                have hs_69 : aF 20 ws_49 = (aF 20 ws0) := (aF_fr u_50 kSC_20 (by decide)).trans hs_68
                have hs_70 : aF 20 ws_59 = (aF 20 ws0) := (aF_fr u_60 kSC_20 (by decide)).trans hs_69
                have hs_71 : aF 29 ws_1 = (aF 29 ws0) := (aF_fr u_2 kSC_29 (by decide))
                have hs_72 : aF 29 ws_9 = (aF 29 ws0) := (aF_fr u_10 kSC_29 (by decide)).trans hs_71
                have hs_73 : aF 29 ws_17 = (aF 29 ws0) := (aF_fr u_18 kSC_29 (by decide)).trans hs_72
                have hs_74 : aF 29 ws_25 = (aF 29 ws0) := (aF_fr u_26 kSC_29 (by decide)).trans hs_73
                have hs_75 : aF 29 ws_33 = (aF 29 ws0) := (aF_fr u_34 kSC_29 (by decide)).trans hs_74
                have hs_76 : aF 29 ws_41 = (aF 29 ws0) := (aF_fr u_42 kSC_29 (by decide)).trans hs_75
                have hs_77 : aF 29 ws_49 = (aF 29 ws0) := (aF_fr u_50 kSC_29 (by decide)).trans hs_76
                have hs_78 : aF 29 ws_59 = (aF 29 ws0) := (aF_fr u_60 kSC_29 (by decide)).trans hs_77
                have hq_79 := e_7
                have hs_80 : aF 77 ws_1 = (aF 77 ws0) := (aF_fr u_2 kSC_77 (by decide))
                have hq_81 := e_15
                rw [hs_80] at hq_81
                have hs_82 : aF 77 ws_9 = (aF 77 ws0) := (aF_fr u_10 kSC_77 (by decide)).trans hs_80
                have hq_83 := e_23
                rw [hs_82] at hq_83
                have hs_84 : aF 77 ws_17 = (aF 77 ws0) := (aF_fr u_18 kSC_77 (by decide)).trans hs_82
                have hq_85 := e_31
                rw [hs_84] at hq_85
                have hs_86 : aF 77 ws_25 = (aF 77 ws0) := (aF_fr u_26 kSC_77 (by decide)).trans hs_84
                have hq_87 := e_39
                rw [hs_86] at hq_87
                have hs_88 : aF 77 ws_33 = (aF 77 ws0) := (aF_fr u_34 kSC_77 (by decide)).trans hs_86
                have hq_89 := e_47
                rw [hs_88] at hq_89
                have hs_90 : aF 77 ws_41 = (aF 77 ws0) := (aF_fr u_42 kSC_77 (by decide)).trans hs_88
                have hq_91 := e_55
                rw [hs_90] at hq_91
                have hs_92 : aF 77 ws_49 = (aF 77 ws0) := (aF_fr u_50 kSC_77 (by decide)).trans hs_90
                have hs_93 : aF 77 ws_59 = (failS 2 (aF 77 ws0)) := e_62.trans ((congrArg (fun s => failS v_57.toInt s) hs_92).trans (by rw [(o63_54 e_58)]))
                have hz_94 : (failS 2 (aF 77 ws0)) = lineS T (aF 20 ws0 5) (aF 20 ws0 6) (aF 29 ws0 7) (aF 77 ws0) := by unfold lineS; (repeat' split) <;> first | rfl | (exfalso; omega) | (congr 1 <;> omega) | (congr 2 <;> omega)
                have hs_95 : aF 77 ws_1 = (aF 77 ws0) := (aF_fr u_2 kSC_77 (by decide))
                have hs_96 : aF 77 ws_9 = (aF 77 ws0) := (aF_fr u_10 kSC_77 (by decide)).trans hs_95
                have hs_97 : aF 77 ws_17 = (aF 77 ws0) := (aF_fr u_18 kSC_77 (by decide)).trans hs_96
                have hs_98 : aF 77 ws_25 = (aF 77 ws0) := (aF_fr u_26 kSC_77 (by decide)).trans hs_97
                have hs_99 : aF 77 ws_33 = (aF 77 ws0) := (aF_fr u_34 kSC_77 (by decide)).trans hs_98
                have hs_100 : aF 77 ws_41 = (aF 77 ws0) := (aF_fr u_42 kSC_77 (by decide)).trans hs_99
                have hs_101 : aF 77 ws_49 = (aF 77 ws0) := (aF_fr u_50 kSC_77 (by decide)).trans hs_100
                have hs_102 : aF 77 ws_59 = (failS 2 (aF 77 ws0)) := e_62.trans ((congrArg (fun s => failS v_57.toInt s) hs_101).trans (by rw [(o63_54 e_58)]))
                have hs_103 : aF 29 ws_1 = (aF 29 ws0) := (aF_fr u_2 kSC_29 (by decide))
                have hs_104 : aF 29 ws_9 = (aF 29 ws0) := (aF_fr u_10 kSC_29 (by decide)).trans hs_103
                have hs_105 : aF 29 ws_17 = (aF 29 ws0) := (aF_fr u_18 kSC_29 (by decide)).trans hs_104
                have hs_106 : aF 29 ws_25 = (aF 29 ws0) := (aF_fr u_26 kSC_29 (by decide)).trans hs_105
                have hs_107 : aF 29 ws_33 = (aF 29 ws0) := (aF_fr u_34 kSC_29 (by decide)).trans hs_106
                have hs_108 : aF 29 ws_41 = (aF 29 ws0) := (aF_fr u_42 kSC_29 (by decide)).trans hs_107
                have hs_109 : aF 29 ws_49 = (aF 29 ws0) := (aF_fr u_50 kSC_29 (by decide)).trans hs_108
                have hs_110 : aF 29 ws_59 = (aF 29 ws0) := (aF_fr u_60 kSC_29 (by decide)).trans hs_109
                have hs_111 : aF 20 ws_1 = (aF 20 ws0) := (aF_fr u_2 kSC_20 (by decide))
                have hs_112 : aF 20 ws_9 = (aF 20 ws0) := (aF_fr u_10 kSC_20 (by decide)).trans hs_111
                have hs_113 : aF 20 ws_17 = (aF 20 ws0) := (aF_fr u_18 kSC_20 (by decide)).trans hs_112
                have hs_114 : aF 20 ws_25 = (aF 20 ws0) := (aF_fr u_26 kSC_20 (by decide)).trans hs_113
                have hs_115 : aF 20 ws_33 = (aF 20 ws0) := (aF_fr u_34 kSC_20 (by decide)).trans hs_114
                have hs_116 : aF 20 ws_41 = (aF 20 ws0) := (aF_fr u_42 kSC_20 (by decide)).trans hs_115
                have hs_117 : aF 20 ws_49 = (aF 20 ws0) := (aF_fr u_50 kSC_20 (by decide)).trans hs_116
                have hs_118 : aF 20 ws_59 = (aF 20 ws0) := (aF_fr u_60 kSC_20 (by decide)).trans hs_117
                have hz_119 : (aF 20 ws0) = upI (lineC T (aF 77 ws0) (aF 20 ws0)) 8 (aF 20 ws_59 8) := by rw [hs_118]; unfold lineC; (repeat' split) <;> first | (exfalso; omega) | exact (upI_id rfl).symm | (rw [upI_s]; done)
                have hs_120 : aF 77 ws_1 = (aF 77 ws0) := (aF_fr u_2 kSC_77 (by decide))
                have hs_121 : aF 77 ws_9 = (aF 77 ws0) := (aF_fr u_10 kSC_77 (by decide)).trans hs_120
                have hs_122 : aF 77 ws_17 = (aF 77 ws0) := (aF_fr u_18 kSC_77 (by decide)).trans hs_121
                have hs_123 : aF 77 ws_25 = (aF 77 ws0) := (aF_fr u_26 kSC_77 (by decide)).trans hs_122
                have hs_124 : aF 77 ws_33 = (aF 77 ws0) := (aF_fr u_34 kSC_77 (by decide)).trans hs_123
                have hs_125 : aF 77 ws_41 = (aF 77 ws0) := (aF_fr u_42 kSC_77 (by decide)).trans hs_124
                have hs_126 : aF 77 ws_49 = (aF 77 ws0) := (aF_fr u_50 kSC_77 (by decide)).trans hs_125
                have hs_127 : aF 77 ws_59 = (failS 2 (aF 77 ws0)) := e_62.trans ((congrArg (fun s => failS v_57.toInt s) hs_126).trans (by rw [(o63_54 e_58)]))
                have hs_128 : aF 20 ws_1 = (aF 20 ws0) := (aF_fr u_2 kSC_20 (by decide))
                have hs_129 : aF 20 ws_9 = (aF 20 ws0) := (aF_fr u_10 kSC_20 (by decide)).trans hs_128
                have hs_130 : aF 20 ws_17 = (aF 20 ws0) := (aF_fr u_18 kSC_20 (by decide)).trans hs_129
                have hs_131 : aF 20 ws_25 = (aF 20 ws0) := (aF_fr u_26 kSC_20 (by decide)).trans hs_130
                have hs_132 : aF 20 ws_33 = (aF 20 ws0) := (aF_fr u_34 kSC_20 (by decide)).trans hs_131
                have hs_133 : aF 20 ws_41 = (aF 20 ws0) := (aF_fr u_42 kSC_20 (by decide)).trans hs_132
                have hs_134 : aF 20 ws_49 = (aF 20 ws0) := (aF_fr u_50 kSC_20 (by decide)).trans hs_133
                have hs_135 : aF 20 ws_59 = (aF 20 ws0) := (aF_fr u_60 kSC_20 (by decide)).trans hs_134
                have hs_136 : aF 29 ws_1 = (aF 29 ws0) := (aF_fr u_2 kSC_29 (by decide))
                have hs_137 : aF 29 ws_9 = (aF 29 ws0) := (aF_fr u_10 kSC_29 (by decide)).trans hs_136
                have hs_138 : aF 29 ws_17 = (aF 29 ws0) := (aF_fr u_18 kSC_29 (by decide)).trans hs_137
                have hs_139 : aF 29 ws_25 = (aF 29 ws0) := (aF_fr u_26 kSC_29 (by decide)).trans hs_138
                have hs_140 : aF 29 ws_33 = (aF 29 ws0) := (aF_fr u_34 kSC_29 (by decide)).trans hs_139
                have hs_141 : aF 29 ws_41 = (aF 29 ws0) := (aF_fr u_42 kSC_29 (by decide)).trans hs_140
                have hs_142 : aF 29 ws_49 = (aF 29 ws0) := (aF_fr u_50 kSC_29 (by decide)).trans hs_141
                have hs_143 : aF 29 ws_59 = (aF 29 ws0) := (aF_fr u_60 kSC_29 (by decide)).trans hs_142
                have hz_144 : (aF 29 ws0) = upI (lineF T (aF 20 ws0 5) (aF 77 ws0) (aF 29 ws0)) 8 (aF 29 ws_59 8) := by rw [hs_143]; unfold lineF; (repeat' split) <;> first | (exfalso; omega) | exact (upI_id rfl).symm | (rw [upI_s]; done)
                have hs_145 : aF 20 ws_1 = (aF 20 ws0) := (aF_fr u_2 kSC_20 (by decide))
                have hs_146 : aF 20 ws_9 = (aF 20 ws0) := (aF_fr u_10 kSC_20 (by decide)).trans hs_145
                have hs_147 : aF 20 ws_17 = (aF 20 ws0) := (aF_fr u_18 kSC_20 (by decide)).trans hs_146
                have hs_148 : aF 20 ws_25 = (aF 20 ws0) := (aF_fr u_26 kSC_20 (by decide)).trans hs_147
                have hs_149 : aF 20 ws_33 = (aF 20 ws0) := (aF_fr u_34 kSC_20 (by decide)).trans hs_148
                have hs_150 : aF 20 ws_41 = (aF 20 ws0) := (aF_fr u_42 kSC_20 (by decide)).trans hs_149
                have hs_151 : aF 20 ws_49 = (aF 20 ws0) := (aF_fr u_50 kSC_20 (by decide)).trans hs_150
                have hs_152 : aF 20 ws_59 = (aF 20 ws0) := (aF_fr u_60 kSC_20 (by decide)).trans hs_151
                have hs_153 : aF 29 ws_1 = (aF 29 ws0) := (aF_fr u_2 kSC_29 (by decide))
                have hs_154 : aF 29 ws_9 = (aF 29 ws0) := (aF_fr u_10 kSC_29 (by decide)).trans hs_153
                have hs_155 : aF 29 ws_17 = (aF 29 ws0) := (aF_fr u_18 kSC_29 (by decide)).trans hs_154
                have hs_156 : aF 29 ws_25 = (aF 29 ws0) := (aF_fr u_26 kSC_29 (by decide)).trans hs_155
                have hs_157 : aF 29 ws_33 = (aF 29 ws0) := (aF_fr u_34 kSC_29 (by decide)).trans hs_156
                have hs_158 : aF 29 ws_41 = (aF 29 ws0) := (aF_fr u_42 kSC_29 (by decide)).trans hs_157
                have hs_159 : aF 29 ws_49 = (aF 29 ws0) := (aF_fr u_50 kSC_29 (by decide)).trans hs_158
                have hs_160 : aF 29 ws_59 = (aF 29 ws0) := (aF_fr u_60 kSC_29 (by decide)).trans hs_159
                have hs_161 : aF 77 ws_1 = (aF 77 ws0) := (aF_fr u_2 kSC_77 (by decide))
                have hs_162 : aF 77 ws_9 = (aF 77 ws0) := (aF_fr u_10 kSC_77 (by decide)).trans hs_161
                have hs_163 : aF 77 ws_17 = (aF 77 ws0) := (aF_fr u_18 kSC_77 (by decide)).trans hs_162
                have hs_164 : aF 77 ws_25 = (aF 77 ws0) := (aF_fr u_26 kSC_77 (by decide)).trans hs_163
                have hs_165 : aF 77 ws_33 = (aF 77 ws0) := (aF_fr u_34 kSC_77 (by decide)).trans hs_164
                have hs_166 : aF 77 ws_41 = (aF 77 ws0) := (aF_fr u_42 kSC_77 (by decide)).trans hs_165
                have hs_167 : aF 77 ws_49 = (aF 77 ws0) := (aF_fr u_50 kSC_77 (by decide)).trans hs_166
                have hs_168 : aF 77 ws_59 = (failS 2 (aF 77 ws0)) := e_62.trans ((congrArg (fun s => failS v_57.toInt s) hs_167).trans (by rw [(o63_54 e_58)]))
                rw [hQ]
                exact y_vret C0 h (Fr.tr (Fr.tr (Fr.tr (Fr.tr (Fr.tr (Fr.tr (Fr.tr (Fr.mono u_2 (by decide)) (Fr.mono u_10 (by decide))) (Fr.mono u_18 (by decide))) (Fr.mono u_26 (by decide))) (Fr.mono u_34 (by decide))) (Fr.mono u_42 (by decide))) (Fr.mono u_50 (by decide))) (Fr.mono u_60 (by decide))) ⟨(Eq.trans hs_93 hz_94), (Eq.trans hs_118 hz_119), (Eq.trans hs_143 hz_144), (Rel.fr (M := [16]) hR (Fr.tr (Fr.tr (Fr.tr (Fr.tr (Fr.tr (Fr.tr (Fr.tr (Fr.mono u_2 (by decide)) (Fr.mono u_10 (by decide))) (Fr.mono u_18 (by decide))) (Fr.mono u_26 (by decide))) (Fr.mono u_34 (by decide))) (Fr.mono u_42 (by decide))) (Fr.mono u_50 (by decide))) u_60) (by decide) (by decide))⟩ dX5_line_159
              · -- 126
                refine lv_aload_n C0.1 C0.2.1 dX5_line_129 rfl (lv_at hl 0 rfl) ?_
                refine y_cv h (y_rV (As := []) (rest := []) C0 hZ h (c_X5_advanceS l G Z ad _ h.2 ((Tp.fr (M := []) hTp (Fr.tr (Fr.tr (Fr.tr (Fr.tr (Fr.tr (Fr.tr u_2 u_10) u_18) u_26) u_34) u_42) u_50) kSC_78 (by decide)))) k_X5_advance q_616 q_0 q_614 kSC_77 rfl rfl rfl hl.1 rfl rfl (Nat.le_of_ble_eq_true rfl) dX5_line_130 ⟨Nat.le_of_ble_eq_true rfl, Nat.le_of_ble_eq_true rfl⟩ ⟨Nat.le_of_ble_eq_true rfl, Nat.le_of_ble_eq_true rfl⟩) (fun H locs ws_169 h u_170 p_171 => ?_)
                have e_172 := p_171
                refine lv_aload_n C0.1 C0.2.1 dX5_line_133 rfl (lv_at hl 0 rfl) ?_
                refine tg_X5_city C0 h kSC_77 q_370 dX5_line_134 ?_
                refine tg_X0_folk C0 h kSC_20 q_251 dX5_line_137 ?_
                refine lv_aload_n C0.1 C0.2.1 dX5_line_140 rfl (lv_at hl 0 rfl) ?_
                refine y_c1 (n := 0) C0 (by decide) dX5_line_141 (fun v_173 e_174 => ?_)
                refine y_c3 (n := 999) C0 (by decide) dX5_line_142 (fun v_175 e_176 => ?_)
                refine y_ci h (y_rV (As := [.int v_173, .int v_175]) (rest := [.ref (ad 29)]) C0 hZ h (c_X5_boundedeS l G Z ad _ h.2 v_173 v_175 (o63_17 e_174) (o63_18 e_174) (o63_96 e_176) (o63_97 e_176) ((Tp.fr (M := [16]) hTp (Fr.tr (Fr.tr (Fr.tr (Fr.tr (Fr.tr (Fr.tr (Fr.tr (Fr.mono u_2 (by decide)) (Fr.mono u_10 (by decide))) (Fr.mono u_18 (by decide))) (Fr.mono u_26 (by decide))) (Fr.mono u_34 (by decide))) (Fr.mono u_42 (by decide))) (Fr.mono u_50 (by decide))) u_170) kSC_78 (by decide)))) k_X5_bounded q_753 q_7 q_751 kSC_77 rfl rfl rfl hl.1 rfl rfl (Nat.le_of_ble_eq_true rfl) dX5_line_145 ⟨Nat.le_of_ble_eq_true rfl, Nat.le_of_ble_eq_true rfl⟩ ⟨Nat.le_of_ble_eq_true rfl, Nat.le_of_ble_eq_true rfl⟩) (fun r_180 H locs ws_177 h u_178 p_179 => ?_)
                obtain ⟨e_181, e_182, e_183, e_184⟩ := p_179
                refine tp_X1_hours C0 h kSC_29 q_222 (le_min r_180) (le_max r_180) dX5_line_148 (fun H locs ws_185 h u_186 => ?_)
                refine lv_goto (tgt := 159) C0.1 C0.2.1 dX5_line_151 (by decide) ?_
                have hs_187 : aF 20 ws_1 = (aF 20 ws0) := (aF_fr u_2 kSC_20 (by decide))
                have hs_188 : aF 20 ws_9 = (aF 20 ws0) := (aF_fr u_10 kSC_20 (by decide)).trans hs_187
                have hs_189 : aF 20 ws_17 = (aF 20 ws0) := (aF_fr u_18 kSC_20 (by decide)).trans hs_188
                have hs_190 : aF 20 ws_25 = (aF 20 ws0) := (aF_fr u_26 kSC_20 (by decide)).trans hs_189
                have hs_191 : aF 20 ws_33 = (aF 20 ws0) := (aF_fr u_34 kSC_20 (by decide)).trans hs_190
                have hs_192 : aF 20 ws_41 = (aF 20 ws0) := (aF_fr u_42 kSC_20 (by decide)).trans hs_191
                have hs_193 : aF 20 ws_49 = (aF 20 ws0) := (aF_fr u_50 kSC_20 (by decide)).trans hs_192
                have hs_194 : aF 20 ws_169 = (aF 20 ws0) := (aF_fr u_170 kSC_20 (by decide)).trans hs_193
                have hs_195 : aF 20 ws_177 = (aF 20 ws0) := (aF_fr u_178 kSC_20 (by decide)).trans hs_194
                have hs_196 : aF 20 ws_185 = (aF 20 ws0) := (aF_ud u_186.1 (kd_ne (S := SC q0) kSC_20 kSC_29 (by decide))).trans hs_195
                have hs_197 : aF 29 ws_1 = (aF 29 ws0) := (aF_fr u_2 kSC_29 (by decide))
                have hs_198 : aF 29 ws_9 = (aF 29 ws0) := (aF_fr u_10 kSC_29 (by decide)).trans hs_197
                have hs_199 : aF 29 ws_17 = (aF 29 ws0) := (aF_fr u_18 kSC_29 (by decide)).trans hs_198
                have hs_200 : aF 29 ws_25 = (aF 29 ws0) := (aF_fr u_26 kSC_29 (by decide)).trans hs_199
                have hs_201 : aF 29 ws_33 = (aF 29 ws0) := (aF_fr u_34 kSC_29 (by decide)).trans hs_200
                have hs_202 : aF 29 ws_41 = (aF 29 ws0) := (aF_fr u_42 kSC_29 (by decide)).trans hs_201
                have hs_203 : aF 29 ws_49 = (aF 29 ws0) := (aF_fr u_50 kSC_29 (by decide)).trans hs_202
                have hs_204 : aF 29 ws_169 = (aF 29 ws0) := (aF_fr u_170 kSC_29 (by decide)).trans hs_203
                have hs_205 : aF 29 ws_177 = (aF 29 ws0) := (aF_fr u_178 kSC_29 (by decide)).trans hs_204
                have hs_206 : aF 29 ws_185 = (upI (aF 29 ws0) 8 r_180.toInt) := (aF_up (by decide) u_186).trans (congrArg (fun s => upI s 8 r_180.toInt) hs_205)
                have hq_207 := e_7
                have hs_208 : aF 77 ws_1 = (aF 77 ws0) := (aF_fr u_2 kSC_77 (by decide))
                have hq_209 := e_15
                rw [hs_208] at hq_209
                have hs_210 : aF 77 ws_9 = (aF 77 ws0) := (aF_fr u_10 kSC_77 (by decide)).trans hs_208
                have hq_211 := e_23
                rw [hs_210] at hq_211
                have hs_212 : aF 77 ws_17 = (aF 77 ws0) := (aF_fr u_18 kSC_77 (by decide)).trans hs_210
                have hq_213 := e_31
                rw [hs_212] at hq_213
                have hs_214 : aF 77 ws_25 = (aF 77 ws0) := (aF_fr u_26 kSC_77 (by decide)).trans hs_212
                have hq_215 := e_39
                rw [hs_214] at hq_215
                have hs_216 : aF 77 ws_33 = (aF 77 ws0) := (aF_fr u_34 kSC_77 (by decide)).trans hs_214
                have hq_217 := e_47
                rw [hs_216] at hq_217
                have hs_218 : aF 77 ws_41 = (aF 77 ws0) := (aF_fr u_42 kSC_77 (by decide)).trans hs_216
                have hq_219 := e_55
                rw [hs_218] at hq_219
                have hs_220 : aF 77 ws_49 = (aF 77 ws0) := (aF_fr u_50 kSC_77 (by decide)).trans hs_218
                have hs_221 : aF 77 ws_169 = (advS T (aF 77 ws0)) := e_172.trans (congrArg (fun s => advS T s) hs_220)
                have hq_222 := e_184
                rw [hs_221] at hq_222
                rw [(o63_20 e_174)] at hq_222
                rw [(o63_98 e_176)] at hq_222
                have hs_223 : aF 77 ws_177 = (bndS T 0 999 (advS T (aF 77 ws0))) := e_183.trans ((congrArg (fun s => bndS T v_173.toInt v_175.toInt s) hs_221).trans (by rw [(o63_20 e_174), (o63_98 e_176)]))
                have hs_224 : aF 77 ws_185 = (bndS T 0 999 (advS T (aF 77 ws0))) := (aF_ud u_186.1 (kd_ne (S := SC q0) kSC_77 kSC_29 (by decide))).trans hs_223
                have hz_225 : (bndS T 0 999 (advS T (aF 77 ws0))) = lineS T (aF 20 ws0 5) (aF 20 ws0 6) (aF 29 ws0 7) (aF 77 ws0) := by unfold lineS; (repeat' split) <;> first | rfl | (exfalso; omega) | (congr 1 <;> omega) | (congr 2 <;> omega)
                have hs_226 : aF 77 ws_1 = (aF 77 ws0) := (aF_fr u_2 kSC_77 (by decide))
                have hs_227 : aF 77 ws_9 = (aF 77 ws0) := (aF_fr u_10 kSC_77 (by decide)).trans hs_226
                have hs_228 : aF 77 ws_17 = (aF 77 ws0) := (aF_fr u_18 kSC_77 (by decide)).trans hs_227
                have hs_229 : aF 77 ws_25 = (aF 77 ws0) := (aF_fr u_26 kSC_77 (by decide)).trans hs_228
                have hs_230 : aF 77 ws_33 = (aF 77 ws0) := (aF_fr u_34 kSC_77 (by decide)).trans hs_229
                have hs_231 : aF 77 ws_41 = (aF 77 ws0) := (aF_fr u_42 kSC_77 (by decide)).trans hs_230
                have hs_232 : aF 77 ws_49 = (aF 77 ws0) := (aF_fr u_50 kSC_77 (by decide)).trans hs_231
                have hs_233 : aF 77 ws_169 = (advS T (aF 77 ws0)) := e_172.trans (congrArg (fun s => advS T s) hs_232)
                have hs_234 : aF 77 ws_177 = (bndS T 0 999 (advS T (aF 77 ws0))) := e_183.trans ((congrArg (fun s => bndS T v_173.toInt v_175.toInt s) hs_233).trans (by rw [(o63_20 e_174), (o63_98 e_176)]))
                have hs_235 : aF 77 ws_185 = (bndS T 0 999 (advS T (aF 77 ws0))) := (aF_ud u_186.1 (kd_ne (S := SC q0) kSC_77 kSC_29 (by decide))).trans hs_234
                have hs_236 : aF 29 ws_1 = (aF 29 ws0) := (aF_fr u_2 kSC_29 (by decide))
                have hs_237 : aF 29 ws_9 = (aF 29 ws0) := (aF_fr u_10 kSC_29 (by decide)).trans hs_236
                have hs_238 : aF 29 ws_17 = (aF 29 ws0) := (aF_fr u_18 kSC_29 (by decide)).trans hs_237
                have hs_239 : aF 29 ws_25 = (aF 29 ws0) := (aF_fr u_26 kSC_29 (by decide)).trans hs_238
                have hs_240 : aF 29 ws_33 = (aF 29 ws0) := (aF_fr u_34 kSC_29 (by decide)).trans hs_239
                have hs_241 : aF 29 ws_41 = (aF 29 ws0) := (aF_fr u_42 kSC_29 (by decide)).trans hs_240
                have hs_242 : aF 29 ws_49 = (aF 29 ws0) := (aF_fr u_50 kSC_29 (by decide)).trans hs_241
                have hs_243 : aF 29 ws_169 = (aF 29 ws0) := (aF_fr u_170 kSC_29 (by decide)).trans hs_242
                have hs_244 : aF 29 ws_177 = (aF 29 ws0) := (aF_fr u_178 kSC_29 (by decide)).trans hs_243
                have hs_245 : aF 29 ws_185 = (upI (aF 29 ws0) 8 r_180.toInt) := (aF_up (by decide) u_186).trans (congrArg (fun s => upI s 8 r_180.toInt) hs_244)
                have hs_246 : aF 20 ws_1 = (aF 20 ws0) := (aF_fr u_2 kSC_20 (by decide))
                have hs_247 : aF 20 ws_9 = (aF 20 ws0) := (aF_fr u_10 kSC_20 (by decide)).trans hs_246
                have hs_248 : aF 20 ws_17 = (aF 20 ws0) := (aF_fr u_18 kSC_20 (by decide)).trans hs_247
                have hs_249 : aF 20 ws_25 = (aF 20 ws0) := (aF_fr u_26 kSC_20 (by decide)).trans hs_248
                have hs_250 : aF 20 ws_33 = (aF 20 ws0) := (aF_fr u_34 kSC_20 (by decide)).trans hs_249
                have hs_251 : aF 20 ws_41 = (aF 20 ws0) := (aF_fr u_42 kSC_20 (by decide)).trans hs_250
                have hs_252 : aF 20 ws_49 = (aF 20 ws0) := (aF_fr u_50 kSC_20 (by decide)).trans hs_251
                have hs_253 : aF 20 ws_169 = (aF 20 ws0) := (aF_fr u_170 kSC_20 (by decide)).trans hs_252
                have hs_254 : aF 20 ws_177 = (aF 20 ws0) := (aF_fr u_178 kSC_20 (by decide)).trans hs_253
                have hs_255 : aF 20 ws_185 = (aF 20 ws0) := (aF_ud u_186.1 (kd_ne (S := SC q0) kSC_20 kSC_29 (by decide))).trans hs_254
                have hz_256 : (aF 20 ws0) = upI (lineC T (aF 77 ws0) (aF 20 ws0)) 8 (aF 20 ws_185 8) := by rw [hs_255]; unfold lineC; (repeat' split) <;> first | (exfalso; omega) | exact (upI_id rfl).symm | (rw [upI_s]; done)
                have hs_257 : aF 77 ws_1 = (aF 77 ws0) := (aF_fr u_2 kSC_77 (by decide))
                have hs_258 : aF 77 ws_9 = (aF 77 ws0) := (aF_fr u_10 kSC_77 (by decide)).trans hs_257
                have hs_259 : aF 77 ws_17 = (aF 77 ws0) := (aF_fr u_18 kSC_77 (by decide)).trans hs_258
                have hs_260 : aF 77 ws_25 = (aF 77 ws0) := (aF_fr u_26 kSC_77 (by decide)).trans hs_259
                have hs_261 : aF 77 ws_33 = (aF 77 ws0) := (aF_fr u_34 kSC_77 (by decide)).trans hs_260
                have hs_262 : aF 77 ws_41 = (aF 77 ws0) := (aF_fr u_42 kSC_77 (by decide)).trans hs_261
                have hs_263 : aF 77 ws_49 = (aF 77 ws0) := (aF_fr u_50 kSC_77 (by decide)).trans hs_262
                have hs_264 : aF 77 ws_169 = (advS T (aF 77 ws0)) := e_172.trans (congrArg (fun s => advS T s) hs_263)
                have hs_265 : aF 77 ws_177 = (bndS T 0 999 (advS T (aF 77 ws0))) := e_183.trans ((congrArg (fun s => bndS T v_173.toInt v_175.toInt s) hs_264).trans (by rw [(o63_20 e_174), (o63_98 e_176)]))
                have hs_266 : aF 77 ws_185 = (bndS T 0 999 (advS T (aF 77 ws0))) := (aF_ud u_186.1 (kd_ne (S := SC q0) kSC_77 kSC_29 (by decide))).trans hs_265
                have hs_267 : aF 20 ws_1 = (aF 20 ws0) := (aF_fr u_2 kSC_20 (by decide))
                have hs_268 : aF 20 ws_9 = (aF 20 ws0) := (aF_fr u_10 kSC_20 (by decide)).trans hs_267
                have hs_269 : aF 20 ws_17 = (aF 20 ws0) := (aF_fr u_18 kSC_20 (by decide)).trans hs_268
                have hs_270 : aF 20 ws_25 = (aF 20 ws0) := (aF_fr u_26 kSC_20 (by decide)).trans hs_269
                have hs_271 : aF 20 ws_33 = (aF 20 ws0) := (aF_fr u_34 kSC_20 (by decide)).trans hs_270
                have hs_272 : aF 20 ws_41 = (aF 20 ws0) := (aF_fr u_42 kSC_20 (by decide)).trans hs_271
                have hs_273 : aF 20 ws_49 = (aF 20 ws0) := (aF_fr u_50 kSC_20 (by decide)).trans hs_272
                have hs_274 : aF 20 ws_169 = (aF 20 ws0) := (aF_fr u_170 kSC_20 (by decide)).trans hs_273
                have hs_275 : aF 20 ws_177 = (aF 20 ws0) := (aF_fr u_178 kSC_20 (by decide)).trans hs_274
                have hs_276 : aF 20 ws_185 = (aF 20 ws0) := (aF_ud u_186.1 (kd_ne (S := SC q0) kSC_20 kSC_29 (by decide))).trans hs_275
                have hs_277 : aF 29 ws_1 = (aF 29 ws0) := (aF_fr u_2 kSC_29 (by decide))
                have hs_278 : aF 29 ws_9 = (aF 29 ws0) := (aF_fr u_10 kSC_29 (by decide)).trans hs_277
                have hs_279 : aF 29 ws_17 = (aF 29 ws0) := (aF_fr u_18 kSC_29 (by decide)).trans hs_278
                have hs_280 : aF 29 ws_25 = (aF 29 ws0) := (aF_fr u_26 kSC_29 (by decide)).trans hs_279
                have hs_281 : aF 29 ws_33 = (aF 29 ws0) := (aF_fr u_34 kSC_29 (by decide)).trans hs_280
                have hs_282 : aF 29 ws_41 = (aF 29 ws0) := (aF_fr u_42 kSC_29 (by decide)).trans hs_281
                have hs_283 : aF 29 ws_49 = (aF 29 ws0) := (aF_fr u_50 kSC_29 (by decide)).trans hs_282
                have hs_284 : aF 29 ws_169 = (aF 29 ws0) := (aF_fr u_170 kSC_29 (by decide)).trans hs_283
                have hs_285 : aF 29 ws_177 = (aF 29 ws0) := (aF_fr u_178 kSC_29 (by decide)).trans hs_284
                have hs_286 : aF 29 ws_185 = (upI (aF 29 ws0) 8 r_180.toInt) := (aF_up (by decide) u_186).trans (congrArg (fun s => upI s 8 r_180.toInt) hs_285)
                have hz_287 : (upI (aF 29 ws0) 8 r_180.toInt) = upI (lineF T (aF 20 ws0 5) (aF 77 ws0) (aF 29 ws0)) 8 (aF 29 ws_185 8) := by rw [hs_286]; unfold lineF; (repeat' split) <;> first | (exfalso; omega) | exact (upI_id rfl).symm | (rw [upI_s]; done)
                have hs_288 : aF 20 ws_1 = (aF 20 ws0) := (aF_fr u_2 kSC_20 (by decide))
                have hs_289 : aF 20 ws_9 = (aF 20 ws0) := (aF_fr u_10 kSC_20 (by decide)).trans hs_288
                have hs_290 : aF 20 ws_17 = (aF 20 ws0) := (aF_fr u_18 kSC_20 (by decide)).trans hs_289
                have hs_291 : aF 20 ws_25 = (aF 20 ws0) := (aF_fr u_26 kSC_20 (by decide)).trans hs_290
                have hs_292 : aF 20 ws_33 = (aF 20 ws0) := (aF_fr u_34 kSC_20 (by decide)).trans hs_291
                have hs_293 : aF 20 ws_41 = (aF 20 ws0) := (aF_fr u_42 kSC_20 (by decide)).trans hs_292
                have hs_294 : aF 20 ws_49 = (aF 20 ws0) := (aF_fr u_50 kSC_20 (by decide)).trans hs_293
                have hs_295 : aF 20 ws_169 = (aF 20 ws0) := (aF_fr u_170 kSC_20 (by decide)).trans hs_294
                have hs_296 : aF 20 ws_177 = (aF 20 ws0) := (aF_fr u_178 kSC_20 (by decide)).trans hs_295
                have hs_297 : aF 20 ws_185 = (aF 20 ws0) := (aF_ud u_186.1 (kd_ne (S := SC q0) kSC_20 kSC_29 (by decide))).trans hs_296
                have hs_298 : aF 29 ws_1 = (aF 29 ws0) := (aF_fr u_2 kSC_29 (by decide))
                have hs_299 : aF 29 ws_9 = (aF 29 ws0) := (aF_fr u_10 kSC_29 (by decide)).trans hs_298
                have hs_300 : aF 29 ws_17 = (aF 29 ws0) := (aF_fr u_18 kSC_29 (by decide)).trans hs_299
                have hs_301 : aF 29 ws_25 = (aF 29 ws0) := (aF_fr u_26 kSC_29 (by decide)).trans hs_300
                have hs_302 : aF 29 ws_33 = (aF 29 ws0) := (aF_fr u_34 kSC_29 (by decide)).trans hs_301
                have hs_303 : aF 29 ws_41 = (aF 29 ws0) := (aF_fr u_42 kSC_29 (by decide)).trans hs_302
                have hs_304 : aF 29 ws_49 = (aF 29 ws0) := (aF_fr u_50 kSC_29 (by decide)).trans hs_303
                have hs_305 : aF 29 ws_169 = (aF 29 ws0) := (aF_fr u_170 kSC_29 (by decide)).trans hs_304
                have hs_306 : aF 29 ws_177 = (aF 29 ws0) := (aF_fr u_178 kSC_29 (by decide)).trans hs_305
                have hs_307 : aF 29 ws_185 = (upI (aF 29 ws0) 8 r_180.toInt) := (aF_up (by decide) u_186).trans (congrArg (fun s => upI s 8 r_180.toInt) hs_306)
                have hs_308 : aF 77 ws_1 = (aF 77 ws0) := (aF_fr u_2 kSC_77 (by decide))
                have hs_309 : aF 77 ws_9 = (aF 77 ws0) := (aF_fr u_10 kSC_77 (by decide)).trans hs_308
                have hs_310 : aF 77 ws_17 = (aF 77 ws0) := (aF_fr u_18 kSC_77 (by decide)).trans hs_309
                have hs_311 : aF 77 ws_25 = (aF 77 ws0) := (aF_fr u_26 kSC_77 (by decide)).trans hs_310
                have hs_312 : aF 77 ws_33 = (aF 77 ws0) := (aF_fr u_34 kSC_77 (by decide)).trans hs_311
                have hs_313 : aF 77 ws_41 = (aF 77 ws0) := (aF_fr u_42 kSC_77 (by decide)).trans hs_312
                have hs_314 : aF 77 ws_49 = (aF 77 ws0) := (aF_fr u_50 kSC_77 (by decide)).trans hs_313
                have hs_315 : aF 77 ws_169 = (advS T (aF 77 ws0)) := e_172.trans (congrArg (fun s => advS T s) hs_314)
                have hs_316 : aF 77 ws_177 = (bndS T 0 999 (advS T (aF 77 ws0))) := e_183.trans ((congrArg (fun s => bndS T v_173.toInt v_175.toInt s) hs_315).trans (by rw [(o63_20 e_174), (o63_98 e_176)]))
                have hs_317 : aF 77 ws_185 = (bndS T 0 999 (advS T (aF 77 ws0))) := (aF_ud u_186.1 (kd_ne (S := SC q0) kSC_77 kSC_29 (by decide))).trans hs_316
                rw [hQ]
                exact y_vret C0 h (Fr.tr (Fr.tr (Fr.tr (Fr.tr (Fr.tr (Fr.tr (Fr.tr (Fr.tr (Fr.tr (Fr.mono u_2 (by decide)) (Fr.mono u_10 (by decide))) (Fr.mono u_18 (by decide))) (Fr.mono u_26 (by decide))) (Fr.mono u_34 (by decide))) (Fr.mono u_42 (by decide))) (Fr.mono u_50 (by decide))) (Fr.mono u_170 (by decide))) (Fr.mono u_178 (by decide))) (Fr.up u_186.1 kSC_29 (by decide))) ⟨(Eq.trans hs_224 hz_225), (Eq.trans hs_255 hz_256), (Eq.trans hs_286 hz_287), (Rel.fr (M := [6, 16]) hR (Fr.tr (Fr.tr (Fr.tr (Fr.tr (Fr.tr (Fr.tr (Fr.tr (Fr.tr (Fr.tr (Fr.mono u_2 (by decide)) (Fr.mono u_10 (by decide))) (Fr.mono u_18 (by decide))) (Fr.mono u_26 (by decide))) (Fr.mono u_34 (by decide))) (Fr.mono u_42 (by decide))) (Fr.mono u_50 (by decide))) (Fr.mono u_170 (by decide))) (Fr.mono u_178 (by decide))) (Fr.up u_186.1 kSC_29 (by decide))) (by decide) (by decide))⟩ dX5_line_159
            · -- 98
              refine lv_aload_n C0.1 C0.2.1 dX5_line_101 rfl (lv_at hl 0 rfl) ?_
              refine lv_aload_n C0.1 C0.2.1 dX5_line_102 rfl (lv_at hl 0 rfl) ?_
              refine tg_X5_city C0 h kSC_77 q_370 dX5_line_103 ?_
              refine tg_X0_mayLaw C0 h kSC_20 q_246 dX5_line_106 ?_
              refine y_cv h (y_rV (As := [.ref (ad 25)]) (rest := []) C0 hZ h (c_X5_beginLawS l G Z ad _ h.2 25 kSC_25 ((Tp.fr (M := []) hTp (Fr.tr (Fr.tr (Fr.tr (Fr.tr (Fr.tr u_2 u_10) u_18) u_26) u_34) u_42) kSC_78 (by decide)))) k_X5_beginLaw q_807 q_13 q_805 kSC_77 rfl rfl rfl hl.1 rfl rfl (Nat.le_of_ble_eq_true rfl) dX5_line_109 ⟨Nat.le_of_ble_eq_true rfl, Nat.le_of_ble_eq_true rfl⟩ ⟨Nat.le_of_ble_eq_true rfl, Nat.le_of_ble_eq_true rfl⟩) (fun H locs ws_318 h u_319 p_320 => ?_)
              have e_321 := p_320
              refine lv_aload_n C0.1 C0.2.1 dX5_line_112 rfl (lv_at hl 0 rfl) ?_
              refine y_c1 (n := 0) C0 (by decide) dX5_line_113 (fun v_322 e_323 => ?_)
              refine y_cv h (y_rV (As := [.int v_322]) (rest := []) C0 hZ h (c_X5_truth_0S l G Z ad _ h.2 v_322 (o63_17 e_323) (o63_18 e_323) ((Tp.fr (M := [2, 16]) hTp (Fr.tr (Fr.tr (Fr.tr (Fr.tr (Fr.tr (Fr.tr (Fr.mono u_2 (by decide)) (Fr.mono u_10 (by decide))) (Fr.mono u_18 (by decide))) (Fr.mono u_26 (by decide))) (Fr.mono u_34 (by decide))) (Fr.mono u_42 (by decide))) u_319) kSC_78 (by decide)))) k_X5_truth q_843 q_19 q_841 kSC_77 rfl rfl rfl hl.1 rfl rfl (Nat.le_of_ble_eq_true rfl) dX5_line_114 ⟨Nat.le_of_ble_eq_true rfl, Nat.le_of_ble_eq_true rfl⟩ ⟨Nat.le_of_ble_eq_true rfl, Nat.le_of_ble_eq_true rfl⟩) (fun H locs ws_324 h u_325 p_326 => ?_)
              have e_327 := p_326
              refine lv_goto (tgt := 159) C0.1 C0.2.1 dX5_line_117 (by decide) ?_
              have hs_328 : aF 20 ws_1 = (aF 20 ws0) := (aF_fr u_2 kSC_20 (by decide))
              have hs_329 : aF 20 ws_9 = (aF 20 ws0) := (aF_fr u_10 kSC_20 (by decide)).trans hs_328
              have hs_330 : aF 20 ws_17 = (aF 20 ws0) := (aF_fr u_18 kSC_20 (by decide)).trans hs_329
              have hs_331 : aF 20 ws_25 = (aF 20 ws0) := (aF_fr u_26 kSC_20 (by decide)).trans hs_330
              have hs_332 : aF 20 ws_33 = (aF 20 ws0) := (aF_fr u_34 kSC_20 (by decide)).trans hs_331
              have hs_333 : aF 20 ws_41 = (aF 20 ws0) := (aF_fr u_42 kSC_20 (by decide)).trans hs_332
              have hs_334 : aF 20 ws_318 = (aF 20 ws0) := (aF_fr u_319 kSC_20 (by decide)).trans hs_333
              have hs_335 : aF 20 ws_324 = (aF 20 ws0) := (aF_fr u_325 kSC_20 (by decide)).trans hs_334
              have hs_336 : aF 29 ws_1 = (aF 29 ws0) := (aF_fr u_2 kSC_29 (by decide))
              have hs_337 : aF 29 ws_9 = (aF 29 ws0) := (aF_fr u_10 kSC_29 (by decide)).trans hs_336
              have hs_338 : aF 29 ws_17 = (aF 29 ws0) := (aF_fr u_18 kSC_29 (by decide)).trans hs_337
              have hs_339 : aF 29 ws_25 = (aF 29 ws0) := (aF_fr u_26 kSC_29 (by decide)).trans hs_338
              have hs_340 : aF 29 ws_33 = (aF 29 ws0) := (aF_fr u_34 kSC_29 (by decide)).trans hs_339
              have hs_341 : aF 29 ws_41 = (aF 29 ws0) := (aF_fr u_42 kSC_29 (by decide)).trans hs_340
              have hs_342 : aF 29 ws_318 = (aF 29 ws0) := (aF_fr u_319 kSC_29 (by decide)).trans hs_341
              have hs_343 : aF 29 ws_324 = (aF 29 ws0) := (aF_fr u_325 kSC_29 (by decide)).trans hs_342
              have hq_344 := e_7
              have hs_345 : aF 77 ws_1 = (aF 77 ws0) := (aF_fr u_2 kSC_77 (by decide))
              have hq_346 := e_15
              rw [hs_345] at hq_346
              have hs_347 : aF 77 ws_9 = (aF 77 ws0) := (aF_fr u_10 kSC_77 (by decide)).trans hs_345
              have hq_348 := e_23
              rw [hs_347] at hq_348
              have hs_349 : aF 77 ws_17 = (aF 77 ws0) := (aF_fr u_18 kSC_77 (by decide)).trans hs_347
              have hq_350 := e_31
              rw [hs_349] at hq_350
              have hs_351 : aF 77 ws_25 = (aF 77 ws0) := (aF_fr u_26 kSC_77 (by decide)).trans hs_349
              have hq_352 := e_39
              rw [hs_351] at hq_352
              have hs_353 : aF 77 ws_33 = (aF 77 ws0) := (aF_fr u_34 kSC_77 (by decide)).trans hs_351
              have hq_354 := e_47
              rw [hs_353] at hq_354
              have hs_355 : aF 77 ws_41 = (aF 77 ws0) := (aF_fr u_42 kSC_77 (by decide)).trans hs_353
              have hs_356 : aF 77 ws_318 = (bgS T (aF 77 ws0)) := e_321.trans (congrArg (fun s => bgS T s) hs_355)
              have hs_357 : aF 77 ws_324 = (truthL T (unitD T 6) (bgS T (aF 77 ws0))) := e_327.trans (congrArg (fun s => truthL T (unitD T 6) s) hs_356)
              have hz_358 : (truthL T (unitD T 6) (bgS T (aF 77 ws0))) = lineS T (aF 20 ws0 5) (aF 20 ws0 6) (aF 29 ws0 7) (aF 77 ws0) := by unfold lineS; (repeat' split) <;> first | rfl | (exfalso; omega) | (congr 1 <;> omega) | (congr 2 <;> omega)
              have hs_359 : aF 77 ws_1 = (aF 77 ws0) := (aF_fr u_2 kSC_77 (by decide))
              have hs_360 : aF 77 ws_9 = (aF 77 ws0) := (aF_fr u_10 kSC_77 (by decide)).trans hs_359
              have hs_361 : aF 77 ws_17 = (aF 77 ws0) := (aF_fr u_18 kSC_77 (by decide)).trans hs_360
              have hs_362 : aF 77 ws_25 = (aF 77 ws0) := (aF_fr u_26 kSC_77 (by decide)).trans hs_361
              have hs_363 : aF 77 ws_33 = (aF 77 ws0) := (aF_fr u_34 kSC_77 (by decide)).trans hs_362
              have hs_364 : aF 77 ws_41 = (aF 77 ws0) := (aF_fr u_42 kSC_77 (by decide)).trans hs_363
              have hs_365 : aF 77 ws_318 = (bgS T (aF 77 ws0)) := e_321.trans (congrArg (fun s => bgS T s) hs_364)
              have hs_366 : aF 77 ws_324 = (truthL T (unitD T 6) (bgS T (aF 77 ws0))) := e_327.trans (congrArg (fun s => truthL T (unitD T 6) s) hs_365)
              have hs_367 : aF 29 ws_1 = (aF 29 ws0) := (aF_fr u_2 kSC_29 (by decide))
              have hs_368 : aF 29 ws_9 = (aF 29 ws0) := (aF_fr u_10 kSC_29 (by decide)).trans hs_367
              have hs_369 : aF 29 ws_17 = (aF 29 ws0) := (aF_fr u_18 kSC_29 (by decide)).trans hs_368
              have hs_370 : aF 29 ws_25 = (aF 29 ws0) := (aF_fr u_26 kSC_29 (by decide)).trans hs_369
              have hs_371 : aF 29 ws_33 = (aF 29 ws0) := (aF_fr u_34 kSC_29 (by decide)).trans hs_370
              have hs_372 : aF 29 ws_41 = (aF 29 ws0) := (aF_fr u_42 kSC_29 (by decide)).trans hs_371
              have hs_373 : aF 29 ws_318 = (aF 29 ws0) := (aF_fr u_319 kSC_29 (by decide)).trans hs_372
              have hs_374 : aF 29 ws_324 = (aF 29 ws0) := (aF_fr u_325 kSC_29 (by decide)).trans hs_373
              have hs_375 : aF 20 ws_1 = (aF 20 ws0) := (aF_fr u_2 kSC_20 (by decide))
              have hs_376 : aF 20 ws_9 = (aF 20 ws0) := (aF_fr u_10 kSC_20 (by decide)).trans hs_375
              have hs_377 : aF 20 ws_17 = (aF 20 ws0) := (aF_fr u_18 kSC_20 (by decide)).trans hs_376
              have hs_378 : aF 20 ws_25 = (aF 20 ws0) := (aF_fr u_26 kSC_20 (by decide)).trans hs_377
              have hs_379 : aF 20 ws_33 = (aF 20 ws0) := (aF_fr u_34 kSC_20 (by decide)).trans hs_378
              have hs_380 : aF 20 ws_41 = (aF 20 ws0) := (aF_fr u_42 kSC_20 (by decide)).trans hs_379
              have hs_381 : aF 20 ws_318 = (aF 20 ws0) := (aF_fr u_319 kSC_20 (by decide)).trans hs_380
              have hs_382 : aF 20 ws_324 = (aF 20 ws0) := (aF_fr u_325 kSC_20 (by decide)).trans hs_381
              have hz_383 : (aF 20 ws0) = upI (lineC T (aF 77 ws0) (aF 20 ws0)) 8 (aF 20 ws_324 8) := by rw [hs_382]; unfold lineC; (repeat' split) <;> first | (exfalso; omega) | exact (upI_id rfl).symm | (rw [upI_s]; done)
              have hs_384 : aF 77 ws_1 = (aF 77 ws0) := (aF_fr u_2 kSC_77 (by decide))
              have hs_385 : aF 77 ws_9 = (aF 77 ws0) := (aF_fr u_10 kSC_77 (by decide)).trans hs_384
              have hs_386 : aF 77 ws_17 = (aF 77 ws0) := (aF_fr u_18 kSC_77 (by decide)).trans hs_385
              have hs_387 : aF 77 ws_25 = (aF 77 ws0) := (aF_fr u_26 kSC_77 (by decide)).trans hs_386
              have hs_388 : aF 77 ws_33 = (aF 77 ws0) := (aF_fr u_34 kSC_77 (by decide)).trans hs_387
              have hs_389 : aF 77 ws_41 = (aF 77 ws0) := (aF_fr u_42 kSC_77 (by decide)).trans hs_388
              have hs_390 : aF 77 ws_318 = (bgS T (aF 77 ws0)) := e_321.trans (congrArg (fun s => bgS T s) hs_389)
              have hs_391 : aF 77 ws_324 = (truthL T (unitD T 6) (bgS T (aF 77 ws0))) := e_327.trans (congrArg (fun s => truthL T (unitD T 6) s) hs_390)
              have hs_392 : aF 20 ws_1 = (aF 20 ws0) := (aF_fr u_2 kSC_20 (by decide))
              have hs_393 : aF 20 ws_9 = (aF 20 ws0) := (aF_fr u_10 kSC_20 (by decide)).trans hs_392
              have hs_394 : aF 20 ws_17 = (aF 20 ws0) := (aF_fr u_18 kSC_20 (by decide)).trans hs_393
              have hs_395 : aF 20 ws_25 = (aF 20 ws0) := (aF_fr u_26 kSC_20 (by decide)).trans hs_394
              have hs_396 : aF 20 ws_33 = (aF 20 ws0) := (aF_fr u_34 kSC_20 (by decide)).trans hs_395
              have hs_397 : aF 20 ws_41 = (aF 20 ws0) := (aF_fr u_42 kSC_20 (by decide)).trans hs_396
              have hs_398 : aF 20 ws_318 = (aF 20 ws0) := (aF_fr u_319 kSC_20 (by decide)).trans hs_397
              have hs_399 : aF 20 ws_324 = (aF 20 ws0) := (aF_fr u_325 kSC_20 (by decide)).trans hs_398
              have hs_400 : aF 29 ws_1 = (aF 29 ws0) := (aF_fr u_2 kSC_29 (by decide))
              have hs_401 : aF 29 ws_9 = (aF 29 ws0) := (aF_fr u_10 kSC_29 (by decide)).trans hs_400
              have hs_402 : aF 29 ws_17 = (aF 29 ws0) := (aF_fr u_18 kSC_29 (by decide)).trans hs_401
              have hs_403 : aF 29 ws_25 = (aF 29 ws0) := (aF_fr u_26 kSC_29 (by decide)).trans hs_402
              have hs_404 : aF 29 ws_33 = (aF 29 ws0) := (aF_fr u_34 kSC_29 (by decide)).trans hs_403
              have hs_405 : aF 29 ws_41 = (aF 29 ws0) := (aF_fr u_42 kSC_29 (by decide)).trans hs_404
              have hs_406 : aF 29 ws_318 = (aF 29 ws0) := (aF_fr u_319 kSC_29 (by decide)).trans hs_405
              have hs_407 : aF 29 ws_324 = (aF 29 ws0) := (aF_fr u_325 kSC_29 (by decide)).trans hs_406
              have hz_408 : (aF 29 ws0) = upI (lineF T (aF 20 ws0 5) (aF 77 ws0) (aF 29 ws0)) 8 (aF 29 ws_324 8) := by rw [hs_407]; unfold lineF; (repeat' split) <;> first | (exfalso; omega) | exact (upI_id rfl).symm | (rw [upI_s]; done)
              have hs_409 : aF 20 ws_1 = (aF 20 ws0) := (aF_fr u_2 kSC_20 (by decide))
              have hs_410 : aF 20 ws_9 = (aF 20 ws0) := (aF_fr u_10 kSC_20 (by decide)).trans hs_409
              have hs_411 : aF 20 ws_17 = (aF 20 ws0) := (aF_fr u_18 kSC_20 (by decide)).trans hs_410
              have hs_412 : aF 20 ws_25 = (aF 20 ws0) := (aF_fr u_26 kSC_20 (by decide)).trans hs_411
              have hs_413 : aF 20 ws_33 = (aF 20 ws0) := (aF_fr u_34 kSC_20 (by decide)).trans hs_412
              have hs_414 : aF 20 ws_41 = (aF 20 ws0) := (aF_fr u_42 kSC_20 (by decide)).trans hs_413
              have hs_415 : aF 20 ws_318 = (aF 20 ws0) := (aF_fr u_319 kSC_20 (by decide)).trans hs_414
              have hs_416 : aF 20 ws_324 = (aF 20 ws0) := (aF_fr u_325 kSC_20 (by decide)).trans hs_415
              have hs_417 : aF 29 ws_1 = (aF 29 ws0) := (aF_fr u_2 kSC_29 (by decide))
              have hs_418 : aF 29 ws_9 = (aF 29 ws0) := (aF_fr u_10 kSC_29 (by decide)).trans hs_417
              have hs_419 : aF 29 ws_17 = (aF 29 ws0) := (aF_fr u_18 kSC_29 (by decide)).trans hs_418
              have hs_420 : aF 29 ws_25 = (aF 29 ws0) := (aF_fr u_26 kSC_29 (by decide)).trans hs_419
              have hs_421 : aF 29 ws_33 = (aF 29 ws0) := (aF_fr u_34 kSC_29 (by decide)).trans hs_420
              have hs_422 : aF 29 ws_41 = (aF 29 ws0) := (aF_fr u_42 kSC_29 (by decide)).trans hs_421
              have hs_423 : aF 29 ws_318 = (aF 29 ws0) := (aF_fr u_319 kSC_29 (by decide)).trans hs_422
              have hs_424 : aF 29 ws_324 = (aF 29 ws0) := (aF_fr u_325 kSC_29 (by decide)).trans hs_423
              have hs_425 : aF 77 ws_1 = (aF 77 ws0) := (aF_fr u_2 kSC_77 (by decide))
              have hs_426 : aF 77 ws_9 = (aF 77 ws0) := (aF_fr u_10 kSC_77 (by decide)).trans hs_425
              have hs_427 : aF 77 ws_17 = (aF 77 ws0) := (aF_fr u_18 kSC_77 (by decide)).trans hs_426
              have hs_428 : aF 77 ws_25 = (aF 77 ws0) := (aF_fr u_26 kSC_77 (by decide)).trans hs_427
              have hs_429 : aF 77 ws_33 = (aF 77 ws0) := (aF_fr u_34 kSC_77 (by decide)).trans hs_428
              have hs_430 : aF 77 ws_41 = (aF 77 ws0) := (aF_fr u_42 kSC_77 (by decide)).trans hs_429
              have hs_431 : aF 77 ws_318 = (bgS T (aF 77 ws0)) := e_321.trans (congrArg (fun s => bgS T s) hs_430)
              have hs_432 : aF 77 ws_324 = (truthL T (unitD T 6) (bgS T (aF 77 ws0))) := e_327.trans (congrArg (fun s => truthL T (unitD T 6) s) hs_431)
              rw [hQ]
              exact y_vret C0 h (Fr.tr (Fr.tr (Fr.tr (Fr.tr (Fr.tr (Fr.tr (Fr.tr (Fr.mono u_2 (by decide)) (Fr.mono u_10 (by decide))) (Fr.mono u_18 (by decide))) (Fr.mono u_26 (by decide))) (Fr.mono u_34 (by decide))) (Fr.mono u_42 (by decide))) (Fr.mono u_319 (by decide))) (Fr.mono u_325 (by decide))) ⟨(Eq.trans hs_357 hz_358), (Eq.trans hs_382 hz_383), (Eq.trans hs_407 hz_408), (Rel.fr (M := [2, 3, 16]) hR (Fr.tr (Fr.tr (Fr.tr (Fr.tr (Fr.tr (Fr.tr (Fr.tr (Fr.mono u_2 (by decide)) (Fr.mono u_10 (by decide))) (Fr.mono u_18 (by decide))) (Fr.mono u_26 (by decide))) (Fr.mono u_34 (by decide))) (Fr.mono u_42 (by decide))) (Fr.mono u_319 (by decide))) u_325) (by decide) (by decide))⟩ dX5_line_159
          · -- 70
            refine lv_aload_n C0.1 C0.2.1 dX5_line_73 rfl (lv_at hl 0 rfl) ?_
            refine lv_aload_n C0.1 C0.2.1 dX5_line_74 rfl (lv_at hl 0 rfl) ?_
            refine tg_X5_city C0 h kSC_77 q_370 dX5_line_75 ?_
            refine tg_X0_priceLaw C0 h kSC_20 q_243 dX5_line_78 ?_
            refine y_cv h (y_rV (As := [.ref (ad 21)]) (rest := []) C0 hZ h (c_X5_beginLawS l G Z ad _ h.2 21 kSC_21 ((Tp.fr (M := []) hTp (Fr.tr (Fr.tr (Fr.tr (Fr.tr u_2 u_10) u_18) u_26) u_34) kSC_78 (by decide)))) k_X5_beginLaw q_807 q_13 q_805 kSC_77 rfl rfl rfl hl.1 rfl rfl (Nat.le_of_ble_eq_true rfl) dX5_line_81 ⟨Nat.le_of_ble_eq_true rfl, Nat.le_of_ble_eq_true rfl⟩ ⟨Nat.le_of_ble_eq_true rfl, Nat.le_of_ble_eq_true rfl⟩) (fun H locs ws_433 h u_434 p_435 => ?_)
            have e_436 := p_435
            refine lv_aload_n C0.1 C0.2.1 dX5_line_84 rfl (lv_at hl 0 rfl) ?_
            refine y_c1 (n := 0) C0 (by decide) dX5_line_85 (fun v_437 e_438 => ?_)
            refine y_cv h (y_rV (As := [.int v_437]) (rest := []) C0 hZ h (c_X5_sum_0S l G Z ad _ h.2 v_437 (o63_17 e_438) (o63_18 e_438) ((Tp.fr (M := [2, 16]) hTp (Fr.tr (Fr.tr (Fr.tr (Fr.tr (Fr.tr (Fr.mono u_2 (by decide)) (Fr.mono u_10 (by decide))) (Fr.mono u_18 (by decide))) (Fr.mono u_26 (by decide))) (Fr.mono u_34 (by decide))) u_434) kSC_78 (by decide)))) k_X5_sum q_816 q_15 q_814 kSC_77 rfl rfl rfl hl.1 rfl rfl (Nat.le_of_ble_eq_true rfl) dX5_line_86 ⟨Nat.le_of_ble_eq_true rfl, Nat.le_of_ble_eq_true rfl⟩ ⟨Nat.le_of_ble_eq_true rfl, Nat.le_of_ble_eq_true rfl⟩) (fun H locs ws_439 h u_440 p_441 => ?_)
            have e_442 := p_441
            refine lv_goto (tgt := 159) C0.1 C0.2.1 dX5_line_89 (by decide) ?_
            have hs_443 : aF 20 ws_1 = (aF 20 ws0) := (aF_fr u_2 kSC_20 (by decide))
            have hs_444 : aF 20 ws_9 = (aF 20 ws0) := (aF_fr u_10 kSC_20 (by decide)).trans hs_443
            have hs_445 : aF 20 ws_17 = (aF 20 ws0) := (aF_fr u_18 kSC_20 (by decide)).trans hs_444
            have hs_446 : aF 20 ws_25 = (aF 20 ws0) := (aF_fr u_26 kSC_20 (by decide)).trans hs_445
            have hs_447 : aF 20 ws_33 = (aF 20 ws0) := (aF_fr u_34 kSC_20 (by decide)).trans hs_446
            have hs_448 : aF 20 ws_433 = (aF 20 ws0) := (aF_fr u_434 kSC_20 (by decide)).trans hs_447
            have hs_449 : aF 20 ws_439 = (aF 20 ws0) := (aF_fr u_440 kSC_20 (by decide)).trans hs_448
            have hs_450 : aF 29 ws_1 = (aF 29 ws0) := (aF_fr u_2 kSC_29 (by decide))
            have hs_451 : aF 29 ws_9 = (aF 29 ws0) := (aF_fr u_10 kSC_29 (by decide)).trans hs_450
            have hs_452 : aF 29 ws_17 = (aF 29 ws0) := (aF_fr u_18 kSC_29 (by decide)).trans hs_451
            have hs_453 : aF 29 ws_25 = (aF 29 ws0) := (aF_fr u_26 kSC_29 (by decide)).trans hs_452
            have hs_454 : aF 29 ws_33 = (aF 29 ws0) := (aF_fr u_34 kSC_29 (by decide)).trans hs_453
            have hs_455 : aF 29 ws_433 = (aF 29 ws0) := (aF_fr u_434 kSC_29 (by decide)).trans hs_454
            have hs_456 : aF 29 ws_439 = (aF 29 ws0) := (aF_fr u_440 kSC_29 (by decide)).trans hs_455
            have hq_457 := e_7
            have hs_458 : aF 77 ws_1 = (aF 77 ws0) := (aF_fr u_2 kSC_77 (by decide))
            have hq_459 := e_15
            rw [hs_458] at hq_459
            have hs_460 : aF 77 ws_9 = (aF 77 ws0) := (aF_fr u_10 kSC_77 (by decide)).trans hs_458
            have hq_461 := e_23
            rw [hs_460] at hq_461
            have hs_462 : aF 77 ws_17 = (aF 77 ws0) := (aF_fr u_18 kSC_77 (by decide)).trans hs_460
            have hq_463 := e_31
            rw [hs_462] at hq_463
            have hs_464 : aF 77 ws_25 = (aF 77 ws0) := (aF_fr u_26 kSC_77 (by decide)).trans hs_462
            have hq_465 := e_39
            rw [hs_464] at hq_465
            have hs_466 : aF 77 ws_33 = (aF 77 ws0) := (aF_fr u_34 kSC_77 (by decide)).trans hs_464
            have hs_467 : aF 77 ws_433 = (bgS T (aF 77 ws0)) := e_436.trans (congrArg (fun s => bgS T s) hs_466)
            have hs_468 : aF 77 ws_439 = (sumL T (atomD T 6) (bgS T (aF 77 ws0))) := e_442.trans (congrArg (fun s => sumL T (atomD T 6) s) hs_467)
            have hz_469 : (sumL T (atomD T 6) (bgS T (aF 77 ws0))) = lineS T (aF 20 ws0 5) (aF 20 ws0 6) (aF 29 ws0 7) (aF 77 ws0) := by unfold lineS; (repeat' split) <;> first | rfl | (exfalso; omega) | (congr 1 <;> omega) | (congr 2 <;> omega)
            have hs_470 : aF 77 ws_1 = (aF 77 ws0) := (aF_fr u_2 kSC_77 (by decide))
            have hs_471 : aF 77 ws_9 = (aF 77 ws0) := (aF_fr u_10 kSC_77 (by decide)).trans hs_470
            have hs_472 : aF 77 ws_17 = (aF 77 ws0) := (aF_fr u_18 kSC_77 (by decide)).trans hs_471
            have hs_473 : aF 77 ws_25 = (aF 77 ws0) := (aF_fr u_26 kSC_77 (by decide)).trans hs_472
            have hs_474 : aF 77 ws_33 = (aF 77 ws0) := (aF_fr u_34 kSC_77 (by decide)).trans hs_473
            have hs_475 : aF 77 ws_433 = (bgS T (aF 77 ws0)) := e_436.trans (congrArg (fun s => bgS T s) hs_474)
            have hs_476 : aF 77 ws_439 = (sumL T (atomD T 6) (bgS T (aF 77 ws0))) := e_442.trans (congrArg (fun s => sumL T (atomD T 6) s) hs_475)
            have hs_477 : aF 29 ws_1 = (aF 29 ws0) := (aF_fr u_2 kSC_29 (by decide))
            have hs_478 : aF 29 ws_9 = (aF 29 ws0) := (aF_fr u_10 kSC_29 (by decide)).trans hs_477
            have hs_479 : aF 29 ws_17 = (aF 29 ws0) := (aF_fr u_18 kSC_29 (by decide)).trans hs_478
            have hs_480 : aF 29 ws_25 = (aF 29 ws0) := (aF_fr u_26 kSC_29 (by decide)).trans hs_479
            have hs_481 : aF 29 ws_33 = (aF 29 ws0) := (aF_fr u_34 kSC_29 (by decide)).trans hs_480
            have hs_482 : aF 29 ws_433 = (aF 29 ws0) := (aF_fr u_434 kSC_29 (by decide)).trans hs_481
            have hs_483 : aF 29 ws_439 = (aF 29 ws0) := (aF_fr u_440 kSC_29 (by decide)).trans hs_482
            have hs_484 : aF 20 ws_1 = (aF 20 ws0) := (aF_fr u_2 kSC_20 (by decide))
            have hs_485 : aF 20 ws_9 = (aF 20 ws0) := (aF_fr u_10 kSC_20 (by decide)).trans hs_484
            have hs_486 : aF 20 ws_17 = (aF 20 ws0) := (aF_fr u_18 kSC_20 (by decide)).trans hs_485
            have hs_487 : aF 20 ws_25 = (aF 20 ws0) := (aF_fr u_26 kSC_20 (by decide)).trans hs_486
            have hs_488 : aF 20 ws_33 = (aF 20 ws0) := (aF_fr u_34 kSC_20 (by decide)).trans hs_487
            have hs_489 : aF 20 ws_433 = (aF 20 ws0) := (aF_fr u_434 kSC_20 (by decide)).trans hs_488
            have hs_490 : aF 20 ws_439 = (aF 20 ws0) := (aF_fr u_440 kSC_20 (by decide)).trans hs_489
            have hz_491 : (aF 20 ws0) = upI (lineC T (aF 77 ws0) (aF 20 ws0)) 8 (aF 20 ws_439 8) := by rw [hs_490]; unfold lineC; (repeat' split) <;> first | (exfalso; omega) | exact (upI_id rfl).symm | (rw [upI_s]; done)
            have hs_492 : aF 77 ws_1 = (aF 77 ws0) := (aF_fr u_2 kSC_77 (by decide))
            have hs_493 : aF 77 ws_9 = (aF 77 ws0) := (aF_fr u_10 kSC_77 (by decide)).trans hs_492
            have hs_494 : aF 77 ws_17 = (aF 77 ws0) := (aF_fr u_18 kSC_77 (by decide)).trans hs_493
            have hs_495 : aF 77 ws_25 = (aF 77 ws0) := (aF_fr u_26 kSC_77 (by decide)).trans hs_494
            have hs_496 : aF 77 ws_33 = (aF 77 ws0) := (aF_fr u_34 kSC_77 (by decide)).trans hs_495
            have hs_497 : aF 77 ws_433 = (bgS T (aF 77 ws0)) := e_436.trans (congrArg (fun s => bgS T s) hs_496)
            have hs_498 : aF 77 ws_439 = (sumL T (atomD T 6) (bgS T (aF 77 ws0))) := e_442.trans (congrArg (fun s => sumL T (atomD T 6) s) hs_497)
            have hs_499 : aF 20 ws_1 = (aF 20 ws0) := (aF_fr u_2 kSC_20 (by decide))
            have hs_500 : aF 20 ws_9 = (aF 20 ws0) := (aF_fr u_10 kSC_20 (by decide)).trans hs_499
            have hs_501 : aF 20 ws_17 = (aF 20 ws0) := (aF_fr u_18 kSC_20 (by decide)).trans hs_500
            have hs_502 : aF 20 ws_25 = (aF 20 ws0) := (aF_fr u_26 kSC_20 (by decide)).trans hs_501
            have hs_503 : aF 20 ws_33 = (aF 20 ws0) := (aF_fr u_34 kSC_20 (by decide)).trans hs_502
            have hs_504 : aF 20 ws_433 = (aF 20 ws0) := (aF_fr u_434 kSC_20 (by decide)).trans hs_503
            have hs_505 : aF 20 ws_439 = (aF 20 ws0) := (aF_fr u_440 kSC_20 (by decide)).trans hs_504
            have hs_506 : aF 29 ws_1 = (aF 29 ws0) := (aF_fr u_2 kSC_29 (by decide))
            have hs_507 : aF 29 ws_9 = (aF 29 ws0) := (aF_fr u_10 kSC_29 (by decide)).trans hs_506
            have hs_508 : aF 29 ws_17 = (aF 29 ws0) := (aF_fr u_18 kSC_29 (by decide)).trans hs_507
            have hs_509 : aF 29 ws_25 = (aF 29 ws0) := (aF_fr u_26 kSC_29 (by decide)).trans hs_508
            have hs_510 : aF 29 ws_33 = (aF 29 ws0) := (aF_fr u_34 kSC_29 (by decide)).trans hs_509
            have hs_511 : aF 29 ws_433 = (aF 29 ws0) := (aF_fr u_434 kSC_29 (by decide)).trans hs_510
            have hs_512 : aF 29 ws_439 = (aF 29 ws0) := (aF_fr u_440 kSC_29 (by decide)).trans hs_511
            have hz_513 : (aF 29 ws0) = upI (lineF T (aF 20 ws0 5) (aF 77 ws0) (aF 29 ws0)) 8 (aF 29 ws_439 8) := by rw [hs_512]; unfold lineF; (repeat' split) <;> first | (exfalso; omega) | exact (upI_id rfl).symm | (rw [upI_s]; done)
            have hs_514 : aF 20 ws_1 = (aF 20 ws0) := (aF_fr u_2 kSC_20 (by decide))
            have hs_515 : aF 20 ws_9 = (aF 20 ws0) := (aF_fr u_10 kSC_20 (by decide)).trans hs_514
            have hs_516 : aF 20 ws_17 = (aF 20 ws0) := (aF_fr u_18 kSC_20 (by decide)).trans hs_515
            have hs_517 : aF 20 ws_25 = (aF 20 ws0) := (aF_fr u_26 kSC_20 (by decide)).trans hs_516
            have hs_518 : aF 20 ws_33 = (aF 20 ws0) := (aF_fr u_34 kSC_20 (by decide)).trans hs_517
            have hs_519 : aF 20 ws_433 = (aF 20 ws0) := (aF_fr u_434 kSC_20 (by decide)).trans hs_518
            have hs_520 : aF 20 ws_439 = (aF 20 ws0) := (aF_fr u_440 kSC_20 (by decide)).trans hs_519
            have hs_521 : aF 29 ws_1 = (aF 29 ws0) := (aF_fr u_2 kSC_29 (by decide))
            have hs_522 : aF 29 ws_9 = (aF 29 ws0) := (aF_fr u_10 kSC_29 (by decide)).trans hs_521
            have hs_523 : aF 29 ws_17 = (aF 29 ws0) := (aF_fr u_18 kSC_29 (by decide)).trans hs_522
            have hs_524 : aF 29 ws_25 = (aF 29 ws0) := (aF_fr u_26 kSC_29 (by decide)).trans hs_523
            have hs_525 : aF 29 ws_33 = (aF 29 ws0) := (aF_fr u_34 kSC_29 (by decide)).trans hs_524
            have hs_526 : aF 29 ws_433 = (aF 29 ws0) := (aF_fr u_434 kSC_29 (by decide)).trans hs_525
            have hs_527 : aF 29 ws_439 = (aF 29 ws0) := (aF_fr u_440 kSC_29 (by decide)).trans hs_526
            have hs_528 : aF 77 ws_1 = (aF 77 ws0) := (aF_fr u_2 kSC_77 (by decide))
            have hs_529 : aF 77 ws_9 = (aF 77 ws0) := (aF_fr u_10 kSC_77 (by decide)).trans hs_528
            have hs_530 : aF 77 ws_17 = (aF 77 ws0) := (aF_fr u_18 kSC_77 (by decide)).trans hs_529
            have hs_531 : aF 77 ws_25 = (aF 77 ws0) := (aF_fr u_26 kSC_77 (by decide)).trans hs_530
            have hs_532 : aF 77 ws_33 = (aF 77 ws0) := (aF_fr u_34 kSC_77 (by decide)).trans hs_531
            have hs_533 : aF 77 ws_433 = (bgS T (aF 77 ws0)) := e_436.trans (congrArg (fun s => bgS T s) hs_532)
            have hs_534 : aF 77 ws_439 = (sumL T (atomD T 6) (bgS T (aF 77 ws0))) := e_442.trans (congrArg (fun s => sumL T (atomD T 6) s) hs_533)
            rw [hQ]
            exact y_vret C0 h (Fr.tr (Fr.tr (Fr.tr (Fr.tr (Fr.tr (Fr.tr (Fr.mono u_2 (by decide)) (Fr.mono u_10 (by decide))) (Fr.mono u_18 (by decide))) (Fr.mono u_26 (by decide))) (Fr.mono u_34 (by decide))) (Fr.mono u_434 (by decide))) (Fr.mono u_440 (by decide))) ⟨(Eq.trans hs_468 hz_469), (Eq.trans hs_490 hz_491), (Eq.trans hs_512 hz_513), (Rel.fr (M := [2, 3, 16]) hR (Fr.tr (Fr.tr (Fr.tr (Fr.tr (Fr.tr (Fr.tr (Fr.mono u_2 (by decide)) (Fr.mono u_10 (by decide))) (Fr.mono u_18 (by decide))) (Fr.mono u_26 (by decide))) (Fr.mono u_34 (by decide))) (Fr.mono u_434 (by decide))) u_440) (by decide) (by decide))⟩ dX5_line_159
        · -- 54
          refine lv_aload_n C0.1 C0.2.1 dX5_line_57 rfl (lv_at hl 0 rfl) ?_
          refine y_cv h (y_rV (As := []) (rest := []) C0 hZ h (c_X5_personLineS l G Z ad _ h.2 ((Tp.fr (M := []) hTp (Fr.tr (Fr.tr (Fr.tr u_2 u_10) u_18) u_26) kSC_78 (by decide)))) k_X5_personLine q_788 q_11 q_786 kSC_77 rfl rfl rfl hl.1 rfl rfl (Nat.le_of_ble_eq_true rfl) dX5_line_58 ⟨Nat.le_of_ble_eq_true rfl, Nat.le_of_ble_eq_true rfl⟩ ⟨Nat.le_of_ble_eq_true rfl, Nat.le_of_ble_eq_true rfl⟩) (fun H locs ws_535 h u_536 p_537 => ?_)
          obtain ⟨e_538, e_539⟩ := p_537
          refine lv_goto (tgt := 159) C0.1 C0.2.1 dX5_line_61 (by decide) ?_
          have hs_540 : aF 20 ws_1 = (aF 20 ws0) := (aF_fr u_2 kSC_20 (by decide))
          have hs_541 : aF 20 ws_9 = (aF 20 ws0) := (aF_fr u_10 kSC_20 (by decide)).trans hs_540
          have hs_542 : aF 20 ws_17 = (aF 20 ws0) := (aF_fr u_18 kSC_20 (by decide)).trans hs_541
          have hs_543 : aF 20 ws_25 = (aF 20 ws0) := (aF_fr u_26 kSC_20 (by decide)).trans hs_542
          have hs_544 : aF 20 ws_535 = (aF 20 ws0) := (aF_fr u_536 kSC_20 (by decide)).trans hs_543
          have hs_545 : aF 29 ws_1 = (aF 29 ws0) := (aF_fr u_2 kSC_29 (by decide))
          have hs_546 : aF 29 ws_9 = (aF 29 ws0) := (aF_fr u_10 kSC_29 (by decide)).trans hs_545
          have hs_547 : aF 29 ws_17 = (aF 29 ws0) := (aF_fr u_18 kSC_29 (by decide)).trans hs_546
          have hs_548 : aF 29 ws_25 = (aF 29 ws0) := (aF_fr u_26 kSC_29 (by decide)).trans hs_547
          have hs_549 : aF 20 ws_1 = (aF 20 ws0) := (aF_fr u_2 kSC_20 (by decide))
          have hs_550 : aF 20 ws_9 = (aF 20 ws0) := (aF_fr u_10 kSC_20 (by decide)).trans hs_549
          have hs_551 : aF 20 ws_17 = (aF 20 ws0) := (aF_fr u_18 kSC_20 (by decide)).trans hs_550
          have hs_552 : aF 20 ws_25 = (aF 20 ws0) := (aF_fr u_26 kSC_20 (by decide)).trans hs_551
          have hs_553 : aF 29 ws_535 = (prF ((aF 20 ws0) 5) (aF 29 ws0)) := e_539.trans ((congrArg (fun s => prF (aF 20 ws_25 5) s) hs_548).trans (by rw [(show aF 20 ws_25 5 = (aF 20 ws0) 5 from congrFun hs_552 5)]))
          have hq_554 := e_7
          have hs_555 : aF 77 ws_1 = (aF 77 ws0) := (aF_fr u_2 kSC_77 (by decide))
          have hq_556 := e_15
          rw [hs_555] at hq_556
          have hs_557 : aF 77 ws_9 = (aF 77 ws0) := (aF_fr u_10 kSC_77 (by decide)).trans hs_555
          have hq_558 := e_23
          rw [hs_557] at hq_558
          have hs_559 : aF 77 ws_17 = (aF 77 ws0) := (aF_fr u_18 kSC_77 (by decide)).trans hs_557
          have hq_560 := e_31
          rw [hs_559] at hq_560
          have hs_561 : aF 77 ws_25 = (aF 77 ws0) := (aF_fr u_26 kSC_77 (by decide)).trans hs_559
          have hs_562 : aF 20 ws_1 = (aF 20 ws0) := (aF_fr u_2 kSC_20 (by decide))
          have hs_563 : aF 20 ws_9 = (aF 20 ws0) := (aF_fr u_10 kSC_20 (by decide)).trans hs_562
          have hs_564 : aF 20 ws_17 = (aF 20 ws0) := (aF_fr u_18 kSC_20 (by decide)).trans hs_563
          have hs_565 : aF 20 ws_25 = (aF 20 ws0) := (aF_fr u_26 kSC_20 (by decide)).trans hs_564
          have hs_566 : aF 20 ws_1 = (aF 20 ws0) := (aF_fr u_2 kSC_20 (by decide))
          have hs_567 : aF 20 ws_9 = (aF 20 ws0) := (aF_fr u_10 kSC_20 (by decide)).trans hs_566
          have hs_568 : aF 20 ws_17 = (aF 20 ws0) := (aF_fr u_18 kSC_20 (by decide)).trans hs_567
          have hs_569 : aF 20 ws_25 = (aF 20 ws0) := (aF_fr u_26 kSC_20 (by decide)).trans hs_568
          have hs_570 : aF 29 ws_1 = (aF 29 ws0) := (aF_fr u_2 kSC_29 (by decide))
          have hs_571 : aF 29 ws_9 = (aF 29 ws0) := (aF_fr u_10 kSC_29 (by decide)).trans hs_570
          have hs_572 : aF 29 ws_17 = (aF 29 ws0) := (aF_fr u_18 kSC_29 (by decide)).trans hs_571
          have hs_573 : aF 29 ws_25 = (aF 29 ws0) := (aF_fr u_26 kSC_29 (by decide)).trans hs_572
          have hs_574 : aF 77 ws_535 = (prS T ((aF 20 ws0) 5) ((aF 20 ws0) 6) ((aF 29 ws0) 7) (aF 77 ws0)) := e_538.trans ((congrArg (fun s => prS T (aF 20 ws_25 5) (aF 20 ws_25 6) (aF 29 ws_25 7) s) hs_561).trans (by rw [(show aF 20 ws_25 5 = (aF 20 ws0) 5 from congrFun hs_565 5), (show aF 20 ws_25 6 = (aF 20 ws0) 6 from congrFun hs_569 6), (show aF 29 ws_25 7 = (aF 29 ws0) 7 from congrFun hs_573 7)]))
          have hz_575 : (prS T ((aF 20 ws0) 5) ((aF 20 ws0) 6) ((aF 29 ws0) 7) (aF 77 ws0)) = lineS T (aF 20 ws0 5) (aF 20 ws0 6) (aF 29 ws0 7) (aF 77 ws0) := by unfold lineS; (repeat' split) <;> first | rfl | (exfalso; omega) | (congr 1 <;> omega) | (congr 2 <;> omega)
          have hs_576 : aF 77 ws_1 = (aF 77 ws0) := (aF_fr u_2 kSC_77 (by decide))
          have hs_577 : aF 77 ws_9 = (aF 77 ws0) := (aF_fr u_10 kSC_77 (by decide)).trans hs_576
          have hs_578 : aF 77 ws_17 = (aF 77 ws0) := (aF_fr u_18 kSC_77 (by decide)).trans hs_577
          have hs_579 : aF 77 ws_25 = (aF 77 ws0) := (aF_fr u_26 kSC_77 (by decide)).trans hs_578
          have hs_580 : aF 20 ws_1 = (aF 20 ws0) := (aF_fr u_2 kSC_20 (by decide))
          have hs_581 : aF 20 ws_9 = (aF 20 ws0) := (aF_fr u_10 kSC_20 (by decide)).trans hs_580
          have hs_582 : aF 20 ws_17 = (aF 20 ws0) := (aF_fr u_18 kSC_20 (by decide)).trans hs_581
          have hs_583 : aF 20 ws_25 = (aF 20 ws0) := (aF_fr u_26 kSC_20 (by decide)).trans hs_582
          have hs_584 : aF 20 ws_1 = (aF 20 ws0) := (aF_fr u_2 kSC_20 (by decide))
          have hs_585 : aF 20 ws_9 = (aF 20 ws0) := (aF_fr u_10 kSC_20 (by decide)).trans hs_584
          have hs_586 : aF 20 ws_17 = (aF 20 ws0) := (aF_fr u_18 kSC_20 (by decide)).trans hs_585
          have hs_587 : aF 20 ws_25 = (aF 20 ws0) := (aF_fr u_26 kSC_20 (by decide)).trans hs_586
          have hs_588 : aF 29 ws_1 = (aF 29 ws0) := (aF_fr u_2 kSC_29 (by decide))
          have hs_589 : aF 29 ws_9 = (aF 29 ws0) := (aF_fr u_10 kSC_29 (by decide)).trans hs_588
          have hs_590 : aF 29 ws_17 = (aF 29 ws0) := (aF_fr u_18 kSC_29 (by decide)).trans hs_589
          have hs_591 : aF 29 ws_25 = (aF 29 ws0) := (aF_fr u_26 kSC_29 (by decide)).trans hs_590
          have hs_592 : aF 77 ws_535 = (prS T ((aF 20 ws0) 5) ((aF 20 ws0) 6) ((aF 29 ws0) 7) (aF 77 ws0)) := e_538.trans ((congrArg (fun s => prS T (aF 20 ws_25 5) (aF 20 ws_25 6) (aF 29 ws_25 7) s) hs_579).trans (by rw [(show aF 20 ws_25 5 = (aF 20 ws0) 5 from congrFun hs_583 5), (show aF 20 ws_25 6 = (aF 20 ws0) 6 from congrFun hs_587 6), (show aF 29 ws_25 7 = (aF 29 ws0) 7 from congrFun hs_591 7)]))
          have hs_593 : aF 29 ws_1 = (aF 29 ws0) := (aF_fr u_2 kSC_29 (by decide))
          have hs_594 : aF 29 ws_9 = (aF 29 ws0) := (aF_fr u_10 kSC_29 (by decide)).trans hs_593
          have hs_595 : aF 29 ws_17 = (aF 29 ws0) := (aF_fr u_18 kSC_29 (by decide)).trans hs_594
          have hs_596 : aF 29 ws_25 = (aF 29 ws0) := (aF_fr u_26 kSC_29 (by decide)).trans hs_595
          have hs_597 : aF 20 ws_1 = (aF 20 ws0) := (aF_fr u_2 kSC_20 (by decide))
          have hs_598 : aF 20 ws_9 = (aF 20 ws0) := (aF_fr u_10 kSC_20 (by decide)).trans hs_597
          have hs_599 : aF 20 ws_17 = (aF 20 ws0) := (aF_fr u_18 kSC_20 (by decide)).trans hs_598
          have hs_600 : aF 20 ws_25 = (aF 20 ws0) := (aF_fr u_26 kSC_20 (by decide)).trans hs_599
          have hs_601 : aF 29 ws_535 = (prF ((aF 20 ws0) 5) (aF 29 ws0)) := e_539.trans ((congrArg (fun s => prF (aF 20 ws_25 5) s) hs_596).trans (by rw [(show aF 20 ws_25 5 = (aF 20 ws0) 5 from congrFun hs_600 5)]))
          have hs_602 : aF 20 ws_1 = (aF 20 ws0) := (aF_fr u_2 kSC_20 (by decide))
          have hs_603 : aF 20 ws_9 = (aF 20 ws0) := (aF_fr u_10 kSC_20 (by decide)).trans hs_602
          have hs_604 : aF 20 ws_17 = (aF 20 ws0) := (aF_fr u_18 kSC_20 (by decide)).trans hs_603
          have hs_605 : aF 20 ws_25 = (aF 20 ws0) := (aF_fr u_26 kSC_20 (by decide)).trans hs_604
          have hs_606 : aF 20 ws_535 = (aF 20 ws0) := (aF_fr u_536 kSC_20 (by decide)).trans hs_605
          have hz_607 : (aF 20 ws0) = upI (lineC T (aF 77 ws0) (aF 20 ws0)) 8 (aF 20 ws_535 8) := by rw [hs_606]; unfold lineC; (repeat' split) <;> first | (exfalso; omega) | exact (upI_id rfl).symm | (rw [upI_s]; done)
          have hs_608 : aF 77 ws_1 = (aF 77 ws0) := (aF_fr u_2 kSC_77 (by decide))
          have hs_609 : aF 77 ws_9 = (aF 77 ws0) := (aF_fr u_10 kSC_77 (by decide)).trans hs_608
          have hs_610 : aF 77 ws_17 = (aF 77 ws0) := (aF_fr u_18 kSC_77 (by decide)).trans hs_609
          have hs_611 : aF 77 ws_25 = (aF 77 ws0) := (aF_fr u_26 kSC_77 (by decide)).trans hs_610
          have hs_612 : aF 20 ws_1 = (aF 20 ws0) := (aF_fr u_2 kSC_20 (by decide))
          have hs_613 : aF 20 ws_9 = (aF 20 ws0) := (aF_fr u_10 kSC_20 (by decide)).trans hs_612
          have hs_614 : aF 20 ws_17 = (aF 20 ws0) := (aF_fr u_18 kSC_20 (by decide)).trans hs_613
          have hs_615 : aF 20 ws_25 = (aF 20 ws0) := (aF_fr u_26 kSC_20 (by decide)).trans hs_614
          have hs_616 : aF 20 ws_1 = (aF 20 ws0) := (aF_fr u_2 kSC_20 (by decide))
          have hs_617 : aF 20 ws_9 = (aF 20 ws0) := (aF_fr u_10 kSC_20 (by decide)).trans hs_616
          have hs_618 : aF 20 ws_17 = (aF 20 ws0) := (aF_fr u_18 kSC_20 (by decide)).trans hs_617
          have hs_619 : aF 20 ws_25 = (aF 20 ws0) := (aF_fr u_26 kSC_20 (by decide)).trans hs_618
          have hs_620 : aF 29 ws_1 = (aF 29 ws0) := (aF_fr u_2 kSC_29 (by decide))
          have hs_621 : aF 29 ws_9 = (aF 29 ws0) := (aF_fr u_10 kSC_29 (by decide)).trans hs_620
          have hs_622 : aF 29 ws_17 = (aF 29 ws0) := (aF_fr u_18 kSC_29 (by decide)).trans hs_621
          have hs_623 : aF 29 ws_25 = (aF 29 ws0) := (aF_fr u_26 kSC_29 (by decide)).trans hs_622
          have hs_624 : aF 77 ws_535 = (prS T ((aF 20 ws0) 5) ((aF 20 ws0) 6) ((aF 29 ws0) 7) (aF 77 ws0)) := e_538.trans ((congrArg (fun s => prS T (aF 20 ws_25 5) (aF 20 ws_25 6) (aF 29 ws_25 7) s) hs_611).trans (by rw [(show aF 20 ws_25 5 = (aF 20 ws0) 5 from congrFun hs_615 5), (show aF 20 ws_25 6 = (aF 20 ws0) 6 from congrFun hs_619 6), (show aF 29 ws_25 7 = (aF 29 ws0) 7 from congrFun hs_623 7)]))
          have hs_625 : aF 20 ws_1 = (aF 20 ws0) := (aF_fr u_2 kSC_20 (by decide))
          have hs_626 : aF 20 ws_9 = (aF 20 ws0) := (aF_fr u_10 kSC_20 (by decide)).trans hs_625
          have hs_627 : aF 20 ws_17 = (aF 20 ws0) := (aF_fr u_18 kSC_20 (by decide)).trans hs_626
          have hs_628 : aF 20 ws_25 = (aF 20 ws0) := (aF_fr u_26 kSC_20 (by decide)).trans hs_627
          have hs_629 : aF 20 ws_535 = (aF 20 ws0) := (aF_fr u_536 kSC_20 (by decide)).trans hs_628
          have hs_630 : aF 29 ws_1 = (aF 29 ws0) := (aF_fr u_2 kSC_29 (by decide))
          have hs_631 : aF 29 ws_9 = (aF 29 ws0) := (aF_fr u_10 kSC_29 (by decide)).trans hs_630
          have hs_632 : aF 29 ws_17 = (aF 29 ws0) := (aF_fr u_18 kSC_29 (by decide)).trans hs_631
          have hs_633 : aF 29 ws_25 = (aF 29 ws0) := (aF_fr u_26 kSC_29 (by decide)).trans hs_632
          have hs_634 : aF 20 ws_1 = (aF 20 ws0) := (aF_fr u_2 kSC_20 (by decide))
          have hs_635 : aF 20 ws_9 = (aF 20 ws0) := (aF_fr u_10 kSC_20 (by decide)).trans hs_634
          have hs_636 : aF 20 ws_17 = (aF 20 ws0) := (aF_fr u_18 kSC_20 (by decide)).trans hs_635
          have hs_637 : aF 20 ws_25 = (aF 20 ws0) := (aF_fr u_26 kSC_20 (by decide)).trans hs_636
          have hs_638 : aF 29 ws_535 = (prF ((aF 20 ws0) 5) (aF 29 ws0)) := e_539.trans ((congrArg (fun s => prF (aF 20 ws_25 5) s) hs_633).trans (by rw [(show aF 20 ws_25 5 = (aF 20 ws0) 5 from congrFun hs_637 5)]))
          have hz_639 : (prF ((aF 20 ws0) 5) (aF 29 ws0)) = upI (lineF T (aF 20 ws0 5) (aF 77 ws0) (aF 29 ws0)) 8 (aF 29 ws_535 8) := by rw [hs_638]; unfold lineF; (repeat' split) <;> first | (exfalso; omega) | exact (upI_id rfl).symm | (rw [upI_s]; done)
          have hs_640 : aF 20 ws_1 = (aF 20 ws0) := (aF_fr u_2 kSC_20 (by decide))
          have hs_641 : aF 20 ws_9 = (aF 20 ws0) := (aF_fr u_10 kSC_20 (by decide)).trans hs_640
          have hs_642 : aF 20 ws_17 = (aF 20 ws0) := (aF_fr u_18 kSC_20 (by decide)).trans hs_641
          have hs_643 : aF 20 ws_25 = (aF 20 ws0) := (aF_fr u_26 kSC_20 (by decide)).trans hs_642
          have hs_644 : aF 20 ws_535 = (aF 20 ws0) := (aF_fr u_536 kSC_20 (by decide)).trans hs_643
          have hs_645 : aF 29 ws_1 = (aF 29 ws0) := (aF_fr u_2 kSC_29 (by decide))
          have hs_646 : aF 29 ws_9 = (aF 29 ws0) := (aF_fr u_10 kSC_29 (by decide)).trans hs_645
          have hs_647 : aF 29 ws_17 = (aF 29 ws0) := (aF_fr u_18 kSC_29 (by decide)).trans hs_646
          have hs_648 : aF 29 ws_25 = (aF 29 ws0) := (aF_fr u_26 kSC_29 (by decide)).trans hs_647
          have hs_649 : aF 20 ws_1 = (aF 20 ws0) := (aF_fr u_2 kSC_20 (by decide))
          have hs_650 : aF 20 ws_9 = (aF 20 ws0) := (aF_fr u_10 kSC_20 (by decide)).trans hs_649
          have hs_651 : aF 20 ws_17 = (aF 20 ws0) := (aF_fr u_18 kSC_20 (by decide)).trans hs_650
          have hs_652 : aF 20 ws_25 = (aF 20 ws0) := (aF_fr u_26 kSC_20 (by decide)).trans hs_651
          have hs_653 : aF 29 ws_535 = (prF ((aF 20 ws0) 5) (aF 29 ws0)) := e_539.trans ((congrArg (fun s => prF (aF 20 ws_25 5) s) hs_648).trans (by rw [(show aF 20 ws_25 5 = (aF 20 ws0) 5 from congrFun hs_652 5)]))
          have hs_654 : aF 77 ws_1 = (aF 77 ws0) := (aF_fr u_2 kSC_77 (by decide))
          have hs_655 : aF 77 ws_9 = (aF 77 ws0) := (aF_fr u_10 kSC_77 (by decide)).trans hs_654
          have hs_656 : aF 77 ws_17 = (aF 77 ws0) := (aF_fr u_18 kSC_77 (by decide)).trans hs_655
          have hs_657 : aF 77 ws_25 = (aF 77 ws0) := (aF_fr u_26 kSC_77 (by decide)).trans hs_656
          have hs_658 : aF 20 ws_1 = (aF 20 ws0) := (aF_fr u_2 kSC_20 (by decide))
          have hs_659 : aF 20 ws_9 = (aF 20 ws0) := (aF_fr u_10 kSC_20 (by decide)).trans hs_658
          have hs_660 : aF 20 ws_17 = (aF 20 ws0) := (aF_fr u_18 kSC_20 (by decide)).trans hs_659
          have hs_661 : aF 20 ws_25 = (aF 20 ws0) := (aF_fr u_26 kSC_20 (by decide)).trans hs_660
          have hs_662 : aF 20 ws_1 = (aF 20 ws0) := (aF_fr u_2 kSC_20 (by decide))
          have hs_663 : aF 20 ws_9 = (aF 20 ws0) := (aF_fr u_10 kSC_20 (by decide)).trans hs_662
          have hs_664 : aF 20 ws_17 = (aF 20 ws0) := (aF_fr u_18 kSC_20 (by decide)).trans hs_663
          have hs_665 : aF 20 ws_25 = (aF 20 ws0) := (aF_fr u_26 kSC_20 (by decide)).trans hs_664
          have hs_666 : aF 29 ws_1 = (aF 29 ws0) := (aF_fr u_2 kSC_29 (by decide))
          have hs_667 : aF 29 ws_9 = (aF 29 ws0) := (aF_fr u_10 kSC_29 (by decide)).trans hs_666
          have hs_668 : aF 29 ws_17 = (aF 29 ws0) := (aF_fr u_18 kSC_29 (by decide)).trans hs_667
          have hs_669 : aF 29 ws_25 = (aF 29 ws0) := (aF_fr u_26 kSC_29 (by decide)).trans hs_668
          have hs_670 : aF 77 ws_535 = (prS T ((aF 20 ws0) 5) ((aF 20 ws0) 6) ((aF 29 ws0) 7) (aF 77 ws0)) := e_538.trans ((congrArg (fun s => prS T (aF 20 ws_25 5) (aF 20 ws_25 6) (aF 29 ws_25 7) s) hs_657).trans (by rw [(show aF 20 ws_25 5 = (aF 20 ws0) 5 from congrFun hs_661 5), (show aF 20 ws_25 6 = (aF 20 ws0) 6 from congrFun hs_665 6), (show aF 29 ws_25 7 = (aF 29 ws0) 7 from congrFun hs_669 7)]))
          rw [hQ]
          exact y_vret C0 h (Fr.tr (Fr.tr (Fr.tr (Fr.tr (Fr.mono u_2 (by decide)) (Fr.mono u_10 (by decide))) (Fr.mono u_18 (by decide))) (Fr.mono u_26 (by decide))) (Fr.mono u_536 (by decide))) ⟨(Eq.trans hs_574 hz_575), (Eq.trans hs_606 hz_607), (Eq.trans hs_638 hz_639), (Rel.fr (M := [6, 7, 8, 9, 10, 16]) hR (Fr.tr (Fr.tr (Fr.tr (Fr.tr (Fr.mono u_2 (by decide)) (Fr.mono u_10 (by decide))) (Fr.mono u_18 (by decide))) (Fr.mono u_26 (by decide))) u_536) (by decide) (by decide))⟩ dX5_line_159
      · -- 38
        refine lv_aload_n C0.1 C0.2.1 dX5_line_41 rfl (lv_at hl 0 rfl) ?_
        refine y_cv h (y_rV (As := []) (rest := []) C0 hZ h (c_X5_freeLineS l G Z ad _ h.2 ((Tp.fr (M := []) hTp (Fr.tr (Fr.tr u_2 u_10) u_18) kSC_78 (by decide)))) k_X5_freeLine q_779 q_10 q_777 kSC_77 rfl rfl rfl hl.1 rfl rfl (Nat.le_of_ble_eq_true rfl) dX5_line_42 ⟨Nat.le_of_ble_eq_true rfl, Nat.le_of_ble_eq_true rfl⟩ ⟨Nat.le_of_ble_eq_true rfl, Nat.le_of_ble_eq_true rfl⟩) (fun H locs ws_671 h u_672 p_673 => ?_)
        obtain ⟨e_674, e_675⟩ := p_673
        refine lv_goto (tgt := 159) C0.1 C0.2.1 dX5_line_45 (by decide) ?_
        have hs_676 : aF 20 ws_1 = (aF 20 ws0) := (aF_fr u_2 kSC_20 (by decide))
        have hs_677 : aF 20 ws_9 = (aF 20 ws0) := (aF_fr u_10 kSC_20 (by decide)).trans hs_676
        have hs_678 : aF 20 ws_17 = (aF 20 ws0) := (aF_fr u_18 kSC_20 (by decide)).trans hs_677
        have hs_679 : aF 20 ws_671 = (upI (aF 20 ws0) 8 (aF 20 ws_671 8)) := e_675.trans (congrArg (fun s => upI s 8 (aF 20 ws_671 8)) hs_678)
        have hs_680 : aF 29 ws_1 = (aF 29 ws0) := (aF_fr u_2 kSC_29 (by decide))
        have hs_681 : aF 29 ws_9 = (aF 29 ws0) := (aF_fr u_10 kSC_29 (by decide)).trans hs_680
        have hs_682 : aF 29 ws_17 = (aF 29 ws0) := (aF_fr u_18 kSC_29 (by decide)).trans hs_681
        have hs_683 : aF 29 ws_671 = (aF 29 ws0) := (aF_fr u_672 kSC_29 (by decide)).trans hs_682
        have hq_684 := e_7
        have hs_685 : aF 77 ws_1 = (aF 77 ws0) := (aF_fr u_2 kSC_77 (by decide))
        have hq_686 := e_15
        rw [hs_685] at hq_686
        have hs_687 : aF 77 ws_9 = (aF 77 ws0) := (aF_fr u_10 kSC_77 (by decide)).trans hs_685
        have hq_688 := e_23
        rw [hs_687] at hq_688
        have hs_689 : aF 77 ws_17 = (aF 77 ws0) := (aF_fr u_18 kSC_77 (by decide)).trans hs_687
        have hs_690 : aF 20 ws_1 = (aF 20 ws0) := (aF_fr u_2 kSC_20 (by decide))
        have hs_691 : aF 20 ws_9 = (aF 20 ws0) := (aF_fr u_10 kSC_20 (by decide)).trans hs_690
        have hs_692 : aF 20 ws_17 = (aF 20 ws0) := (aF_fr u_18 kSC_20 (by decide)).trans hs_691
        have hs_693 : aF 20 ws_1 = (aF 20 ws0) := (aF_fr u_2 kSC_20 (by decide))
        have hs_694 : aF 20 ws_9 = (aF 20 ws0) := (aF_fr u_10 kSC_20 (by decide)).trans hs_693
        have hs_695 : aF 20 ws_17 = (aF 20 ws0) := (aF_fr u_18 kSC_20 (by decide)).trans hs_694
        have hs_696 : aF 77 ws_671 = (crS T ((aF 20 ws0) 5) ((aF 20 ws0) 6) (aF 77 ws0)) := e_674.trans ((congrArg (fun s => crS T (aF 20 ws_17 5) (aF 20 ws_17 6) s) hs_689).trans (by rw [(show aF 20 ws_17 5 = (aF 20 ws0) 5 from congrFun hs_692 5), (show aF 20 ws_17 6 = (aF 20 ws0) 6 from congrFun hs_695 6)]))
        have hz_697 : (crS T ((aF 20 ws0) 5) ((aF 20 ws0) 6) (aF 77 ws0)) = lineS T (aF 20 ws0 5) (aF 20 ws0 6) (aF 29 ws0 7) (aF 77 ws0) := by unfold lineS; (repeat' split) <;> first | rfl | (exfalso; omega) | (congr 1 <;> omega) | (congr 2 <;> omega)
        have hs_698 : aF 77 ws_1 = (aF 77 ws0) := (aF_fr u_2 kSC_77 (by decide))
        have hs_699 : aF 77 ws_9 = (aF 77 ws0) := (aF_fr u_10 kSC_77 (by decide)).trans hs_698
        have hs_700 : aF 77 ws_17 = (aF 77 ws0) := (aF_fr u_18 kSC_77 (by decide)).trans hs_699
        have hs_701 : aF 20 ws_1 = (aF 20 ws0) := (aF_fr u_2 kSC_20 (by decide))
        have hs_702 : aF 20 ws_9 = (aF 20 ws0) := (aF_fr u_10 kSC_20 (by decide)).trans hs_701
        have hs_703 : aF 20 ws_17 = (aF 20 ws0) := (aF_fr u_18 kSC_20 (by decide)).trans hs_702
        have hs_704 : aF 20 ws_1 = (aF 20 ws0) := (aF_fr u_2 kSC_20 (by decide))
        have hs_705 : aF 20 ws_9 = (aF 20 ws0) := (aF_fr u_10 kSC_20 (by decide)).trans hs_704
        have hs_706 : aF 20 ws_17 = (aF 20 ws0) := (aF_fr u_18 kSC_20 (by decide)).trans hs_705
        have hs_707 : aF 77 ws_671 = (crS T ((aF 20 ws0) 5) ((aF 20 ws0) 6) (aF 77 ws0)) := e_674.trans ((congrArg (fun s => crS T (aF 20 ws_17 5) (aF 20 ws_17 6) s) hs_700).trans (by rw [(show aF 20 ws_17 5 = (aF 20 ws0) 5 from congrFun hs_703 5), (show aF 20 ws_17 6 = (aF 20 ws0) 6 from congrFun hs_706 6)]))
        have hs_708 : aF 29 ws_1 = (aF 29 ws0) := (aF_fr u_2 kSC_29 (by decide))
        have hs_709 : aF 29 ws_9 = (aF 29 ws0) := (aF_fr u_10 kSC_29 (by decide)).trans hs_708
        have hs_710 : aF 29 ws_17 = (aF 29 ws0) := (aF_fr u_18 kSC_29 (by decide)).trans hs_709
        have hs_711 : aF 29 ws_671 = (aF 29 ws0) := (aF_fr u_672 kSC_29 (by decide)).trans hs_710
        have hs_712 : aF 20 ws_1 = (aF 20 ws0) := (aF_fr u_2 kSC_20 (by decide))
        have hs_713 : aF 20 ws_9 = (aF 20 ws0) := (aF_fr u_10 kSC_20 (by decide)).trans hs_712
        have hs_714 : aF 20 ws_17 = (aF 20 ws0) := (aF_fr u_18 kSC_20 (by decide)).trans hs_713
        have hs_715 : aF 20 ws_671 = (upI (aF 20 ws0) 8 (aF 20 ws_671 8)) := e_675.trans (congrArg (fun s => upI s 8 (aF 20 ws_671 8)) hs_714)
        have hz_716 : (upI (aF 20 ws0) 8 (aF 20 ws_671 8)) = upI (lineC T (aF 77 ws0) (aF 20 ws0)) 8 (aF 20 ws_671 8) := by rw [hs_715]; unfold lineC; (repeat' split) <;> first | (exfalso; omega) | exact (upI_id rfl).symm | (rw [upI_s]; done)
        have hs_717 : aF 77 ws_1 = (aF 77 ws0) := (aF_fr u_2 kSC_77 (by decide))
        have hs_718 : aF 77 ws_9 = (aF 77 ws0) := (aF_fr u_10 kSC_77 (by decide)).trans hs_717
        have hs_719 : aF 77 ws_17 = (aF 77 ws0) := (aF_fr u_18 kSC_77 (by decide)).trans hs_718
        have hs_720 : aF 20 ws_1 = (aF 20 ws0) := (aF_fr u_2 kSC_20 (by decide))
        have hs_721 : aF 20 ws_9 = (aF 20 ws0) := (aF_fr u_10 kSC_20 (by decide)).trans hs_720
        have hs_722 : aF 20 ws_17 = (aF 20 ws0) := (aF_fr u_18 kSC_20 (by decide)).trans hs_721
        have hs_723 : aF 20 ws_1 = (aF 20 ws0) := (aF_fr u_2 kSC_20 (by decide))
        have hs_724 : aF 20 ws_9 = (aF 20 ws0) := (aF_fr u_10 kSC_20 (by decide)).trans hs_723
        have hs_725 : aF 20 ws_17 = (aF 20 ws0) := (aF_fr u_18 kSC_20 (by decide)).trans hs_724
        have hs_726 : aF 77 ws_671 = (crS T ((aF 20 ws0) 5) ((aF 20 ws0) 6) (aF 77 ws0)) := e_674.trans ((congrArg (fun s => crS T (aF 20 ws_17 5) (aF 20 ws_17 6) s) hs_719).trans (by rw [(show aF 20 ws_17 5 = (aF 20 ws0) 5 from congrFun hs_722 5), (show aF 20 ws_17 6 = (aF 20 ws0) 6 from congrFun hs_725 6)]))
        have hs_727 : aF 20 ws_1 = (aF 20 ws0) := (aF_fr u_2 kSC_20 (by decide))
        have hs_728 : aF 20 ws_9 = (aF 20 ws0) := (aF_fr u_10 kSC_20 (by decide)).trans hs_727
        have hs_729 : aF 20 ws_17 = (aF 20 ws0) := (aF_fr u_18 kSC_20 (by decide)).trans hs_728
        have hs_730 : aF 20 ws_671 = (upI (aF 20 ws0) 8 (aF 20 ws_671 8)) := e_675.trans (congrArg (fun s => upI s 8 (aF 20 ws_671 8)) hs_729)
        have hs_731 : aF 29 ws_1 = (aF 29 ws0) := (aF_fr u_2 kSC_29 (by decide))
        have hs_732 : aF 29 ws_9 = (aF 29 ws0) := (aF_fr u_10 kSC_29 (by decide)).trans hs_731
        have hs_733 : aF 29 ws_17 = (aF 29 ws0) := (aF_fr u_18 kSC_29 (by decide)).trans hs_732
        have hs_734 : aF 29 ws_671 = (aF 29 ws0) := (aF_fr u_672 kSC_29 (by decide)).trans hs_733
        have hz_735 : (aF 29 ws0) = upI (lineF T (aF 20 ws0 5) (aF 77 ws0) (aF 29 ws0)) 8 (aF 29 ws_671 8) := by rw [hs_734]; unfold lineF; (repeat' split) <;> first | (exfalso; omega) | exact (upI_id rfl).symm | (rw [upI_s]; done)
        have hs_736 : aF 20 ws_1 = (aF 20 ws0) := (aF_fr u_2 kSC_20 (by decide))
        have hs_737 : aF 20 ws_9 = (aF 20 ws0) := (aF_fr u_10 kSC_20 (by decide)).trans hs_736
        have hs_738 : aF 20 ws_17 = (aF 20 ws0) := (aF_fr u_18 kSC_20 (by decide)).trans hs_737
        have hs_739 : aF 20 ws_671 = (upI (aF 20 ws0) 8 (aF 20 ws_671 8)) := e_675.trans (congrArg (fun s => upI s 8 (aF 20 ws_671 8)) hs_738)
        have hs_740 : aF 29 ws_1 = (aF 29 ws0) := (aF_fr u_2 kSC_29 (by decide))
        have hs_741 : aF 29 ws_9 = (aF 29 ws0) := (aF_fr u_10 kSC_29 (by decide)).trans hs_740
        have hs_742 : aF 29 ws_17 = (aF 29 ws0) := (aF_fr u_18 kSC_29 (by decide)).trans hs_741
        have hs_743 : aF 29 ws_671 = (aF 29 ws0) := (aF_fr u_672 kSC_29 (by decide)).trans hs_742
        have hs_744 : aF 77 ws_1 = (aF 77 ws0) := (aF_fr u_2 kSC_77 (by decide))
        have hs_745 : aF 77 ws_9 = (aF 77 ws0) := (aF_fr u_10 kSC_77 (by decide)).trans hs_744
        have hs_746 : aF 77 ws_17 = (aF 77 ws0) := (aF_fr u_18 kSC_77 (by decide)).trans hs_745
        have hs_747 : aF 20 ws_1 = (aF 20 ws0) := (aF_fr u_2 kSC_20 (by decide))
        have hs_748 : aF 20 ws_9 = (aF 20 ws0) := (aF_fr u_10 kSC_20 (by decide)).trans hs_747
        have hs_749 : aF 20 ws_17 = (aF 20 ws0) := (aF_fr u_18 kSC_20 (by decide)).trans hs_748
        have hs_750 : aF 20 ws_1 = (aF 20 ws0) := (aF_fr u_2 kSC_20 (by decide))
        have hs_751 : aF 20 ws_9 = (aF 20 ws0) := (aF_fr u_10 kSC_20 (by decide)).trans hs_750
        have hs_752 : aF 20 ws_17 = (aF 20 ws0) := (aF_fr u_18 kSC_20 (by decide)).trans hs_751
        have hs_753 : aF 77 ws_671 = (crS T ((aF 20 ws0) 5) ((aF 20 ws0) 6) (aF 77 ws0)) := e_674.trans ((congrArg (fun s => crS T (aF 20 ws_17 5) (aF 20 ws_17 6) s) hs_746).trans (by rw [(show aF 20 ws_17 5 = (aF 20 ws0) 5 from congrFun hs_749 5), (show aF 20 ws_17 6 = (aF 20 ws0) 6 from congrFun hs_752 6)]))
        rw [hQ]
        exact y_vret C0 h (Fr.tr (Fr.tr (Fr.tr (Fr.mono u_2 (by decide)) (Fr.mono u_10 (by decide))) (Fr.mono u_18 (by decide))) (Fr.mono u_672 (by decide))) ⟨(Eq.trans hs_696 hz_697), (Eq.trans hs_715 hz_716), (Eq.trans hs_734 hz_735), (Rel.fr (M := [1, 16]) hR (Fr.tr (Fr.tr (Fr.tr (Fr.mono u_2 (by decide)) (Fr.mono u_10 (by decide))) (Fr.mono u_18 (by decide))) u_672) (by decide) (by decide))⟩ dX5_line_159
    · -- 22
      refine lv_aload_n C0.1 C0.2.1 dX5_line_25 rfl (lv_at hl 0 rfl) ?_
      refine y_cv h (y_rV (As := []) (rest := []) C0 hZ h (c_X5_wallLineS l G Z ad _ h.2 (Rel.fr (M := []) hR (Fr.tr u_2 u_10) (by decide) (by decide)) ((Tp.fr (M := []) hTp (Fr.tr u_2 u_10) kSC_78 (by decide)))) k_X5_wallLine q_762 q_8 q_760 kSC_77 rfl rfl rfl hl.1 rfl rfl (Nat.le_of_ble_eq_true rfl) dX5_line_26 ⟨Nat.le_of_ble_eq_true rfl, Nat.le_of_ble_eq_true rfl⟩ ⟨Nat.le_of_ble_eq_true rfl, Nat.le_of_ble_eq_true rfl⟩) (fun H locs ws_754 h u_755 p_756 => ?_)
      obtain ⟨e_757, e_758⟩ := p_756
      refine lv_goto (tgt := 159) C0.1 C0.2.1 dX5_line_29 (by decide) ?_
      have hs_759 : aF 20 ws_1 = (aF 20 ws0) := (aF_fr u_2 kSC_20 (by decide))
      have hs_760 : aF 20 ws_9 = (aF 20 ws0) := (aF_fr u_10 kSC_20 (by decide)).trans hs_759
      have hs_761 : aF 20 ws_754 = (aF 20 ws0) := (aF_fr u_755 kSC_20 (by decide)).trans hs_760
      have hs_762 : aF 29 ws_1 = (aF 29 ws0) := (aF_fr u_2 kSC_29 (by decide))
      have hs_763 : aF 29 ws_9 = (aF 29 ws0) := (aF_fr u_10 kSC_29 (by decide)).trans hs_762
      have hs_764 : aF 29 ws_754 = (aF 29 ws0) := (aF_fr u_755 kSC_29 (by decide)).trans hs_763
      have hq_765 := e_7
      have hs_766 : aF 77 ws_1 = (aF 77 ws0) := (aF_fr u_2 kSC_77 (by decide))
      have hq_767 := e_15
      rw [hs_766] at hq_767
      have hs_768 : aF 77 ws_9 = (aF 77 ws0) := (aF_fr u_10 kSC_77 (by decide)).trans hs_766
      have hs_769 : aF 20 ws_1 = (aF 20 ws0) := (aF_fr u_2 kSC_20 (by decide))
      have hs_770 : aF 20 ws_9 = (aF 20 ws0) := (aF_fr u_10 kSC_20 (by decide)).trans hs_769
      have hs_771 : aF 20 ws_1 = (aF 20 ws0) := (aF_fr u_2 kSC_20 (by decide))
      have hs_772 : aF 20 ws_9 = (aF 20 ws0) := (aF_fr u_10 kSC_20 (by decide)).trans hs_771
      have hs_773 : aF 77 ws_754 = (bndS T 0 3 (crS T ((aF 20 ws0) 5) ((aF 20 ws0) 6) (aF 77 ws0))) := e_757.trans ((congrArg (fun s => bndS T 0 3 (crS T (aF 20 ws_9 5) (aF 20 ws_9 6) s)) hs_768).trans (by rw [(show aF 20 ws_9 5 = (aF 20 ws0) 5 from congrFun hs_770 5), (show aF 20 ws_9 6 = (aF 20 ws0) 6 from congrFun hs_772 6)]))
      have hz_774 : (bndS T 0 3 (crS T ((aF 20 ws0) 5) ((aF 20 ws0) 6) (aF 77 ws0))) = lineS T (aF 20 ws0 5) (aF 20 ws0 6) (aF 29 ws0 7) (aF 77 ws0) := by unfold lineS; (repeat' split) <;> first | rfl | (exfalso; omega) | (congr 1 <;> omega) | (congr 2 <;> omega)
      have hs_775 : aF 77 ws_1 = (aF 77 ws0) := (aF_fr u_2 kSC_77 (by decide))
      have hs_776 : aF 77 ws_9 = (aF 77 ws0) := (aF_fr u_10 kSC_77 (by decide)).trans hs_775
      have hs_777 : aF 20 ws_1 = (aF 20 ws0) := (aF_fr u_2 kSC_20 (by decide))
      have hs_778 : aF 20 ws_9 = (aF 20 ws0) := (aF_fr u_10 kSC_20 (by decide)).trans hs_777
      have hs_779 : aF 20 ws_1 = (aF 20 ws0) := (aF_fr u_2 kSC_20 (by decide))
      have hs_780 : aF 20 ws_9 = (aF 20 ws0) := (aF_fr u_10 kSC_20 (by decide)).trans hs_779
      have hs_781 : aF 77 ws_754 = (bndS T 0 3 (crS T ((aF 20 ws0) 5) ((aF 20 ws0) 6) (aF 77 ws0))) := e_757.trans ((congrArg (fun s => bndS T 0 3 (crS T (aF 20 ws_9 5) (aF 20 ws_9 6) s)) hs_776).trans (by rw [(show aF 20 ws_9 5 = (aF 20 ws0) 5 from congrFun hs_778 5), (show aF 20 ws_9 6 = (aF 20 ws0) 6 from congrFun hs_780 6)]))
      have hs_782 : aF 29 ws_1 = (aF 29 ws0) := (aF_fr u_2 kSC_29 (by decide))
      have hs_783 : aF 29 ws_9 = (aF 29 ws0) := (aF_fr u_10 kSC_29 (by decide)).trans hs_782
      have hs_784 : aF 29 ws_754 = (aF 29 ws0) := (aF_fr u_755 kSC_29 (by decide)).trans hs_783
      have hs_785 : aF 20 ws_1 = (aF 20 ws0) := (aF_fr u_2 kSC_20 (by decide))
      have hs_786 : aF 20 ws_9 = (aF 20 ws0) := (aF_fr u_10 kSC_20 (by decide)).trans hs_785
      have hs_787 : aF 20 ws_754 = (aF 20 ws0) := (aF_fr u_755 kSC_20 (by decide)).trans hs_786
      have hz_788 : (aF 20 ws0) = upI (lineC T (aF 77 ws0) (aF 20 ws0)) 8 (aF 20 ws_754 8) := by rw [hs_787]; unfold lineC; (repeat' split) <;> first | (exfalso; omega) | exact (upI_id rfl).symm | (rw [upI_s]; done)
      have hs_789 : aF 77 ws_1 = (aF 77 ws0) := (aF_fr u_2 kSC_77 (by decide))
      have hs_790 : aF 77 ws_9 = (aF 77 ws0) := (aF_fr u_10 kSC_77 (by decide)).trans hs_789
      have hs_791 : aF 20 ws_1 = (aF 20 ws0) := (aF_fr u_2 kSC_20 (by decide))
      have hs_792 : aF 20 ws_9 = (aF 20 ws0) := (aF_fr u_10 kSC_20 (by decide)).trans hs_791
      have hs_793 : aF 20 ws_1 = (aF 20 ws0) := (aF_fr u_2 kSC_20 (by decide))
      have hs_794 : aF 20 ws_9 = (aF 20 ws0) := (aF_fr u_10 kSC_20 (by decide)).trans hs_793
      have hs_795 : aF 77 ws_754 = (bndS T 0 3 (crS T ((aF 20 ws0) 5) ((aF 20 ws0) 6) (aF 77 ws0))) := e_757.trans ((congrArg (fun s => bndS T 0 3 (crS T (aF 20 ws_9 5) (aF 20 ws_9 6) s)) hs_790).trans (by rw [(show aF 20 ws_9 5 = (aF 20 ws0) 5 from congrFun hs_792 5), (show aF 20 ws_9 6 = (aF 20 ws0) 6 from congrFun hs_794 6)]))
      have hs_796 : aF 20 ws_1 = (aF 20 ws0) := (aF_fr u_2 kSC_20 (by decide))
      have hs_797 : aF 20 ws_9 = (aF 20 ws0) := (aF_fr u_10 kSC_20 (by decide)).trans hs_796
      have hs_798 : aF 20 ws_754 = (aF 20 ws0) := (aF_fr u_755 kSC_20 (by decide)).trans hs_797
      have hs_799 : aF 29 ws_1 = (aF 29 ws0) := (aF_fr u_2 kSC_29 (by decide))
      have hs_800 : aF 29 ws_9 = (aF 29 ws0) := (aF_fr u_10 kSC_29 (by decide)).trans hs_799
      have hs_801 : aF 29 ws_754 = (aF 29 ws0) := (aF_fr u_755 kSC_29 (by decide)).trans hs_800
      have hz_802 : (aF 29 ws0) = upI (lineF T (aF 20 ws0 5) (aF 77 ws0) (aF 29 ws0)) 8 (aF 29 ws_754 8) := by rw [hs_801]; unfold lineF; (repeat' split) <;> first | (exfalso; omega) | exact (upI_id rfl).symm | (rw [upI_s]; done)
      have hs_803 : aF 20 ws_1 = (aF 20 ws0) := (aF_fr u_2 kSC_20 (by decide))
      have hs_804 : aF 20 ws_9 = (aF 20 ws0) := (aF_fr u_10 kSC_20 (by decide)).trans hs_803
      have hs_805 : aF 20 ws_754 = (aF 20 ws0) := (aF_fr u_755 kSC_20 (by decide)).trans hs_804
      have hs_806 : aF 29 ws_1 = (aF 29 ws0) := (aF_fr u_2 kSC_29 (by decide))
      have hs_807 : aF 29 ws_9 = (aF 29 ws0) := (aF_fr u_10 kSC_29 (by decide)).trans hs_806
      have hs_808 : aF 29 ws_754 = (aF 29 ws0) := (aF_fr u_755 kSC_29 (by decide)).trans hs_807
      have hs_809 : aF 77 ws_1 = (aF 77 ws0) := (aF_fr u_2 kSC_77 (by decide))
      have hs_810 : aF 77 ws_9 = (aF 77 ws0) := (aF_fr u_10 kSC_77 (by decide)).trans hs_809
      have hs_811 : aF 20 ws_1 = (aF 20 ws0) := (aF_fr u_2 kSC_20 (by decide))
      have hs_812 : aF 20 ws_9 = (aF 20 ws0) := (aF_fr u_10 kSC_20 (by decide)).trans hs_811
      have hs_813 : aF 20 ws_1 = (aF 20 ws0) := (aF_fr u_2 kSC_20 (by decide))
      have hs_814 : aF 20 ws_9 = (aF 20 ws0) := (aF_fr u_10 kSC_20 (by decide)).trans hs_813
      have hs_815 : aF 77 ws_754 = (bndS T 0 3 (crS T ((aF 20 ws0) 5) ((aF 20 ws0) 6) (aF 77 ws0))) := e_757.trans ((congrArg (fun s => bndS T 0 3 (crS T (aF 20 ws_9 5) (aF 20 ws_9 6) s)) hs_810).trans (by rw [(show aF 20 ws_9 5 = (aF 20 ws0) 5 from congrFun hs_812 5), (show aF 20 ws_9 6 = (aF 20 ws0) 6 from congrFun hs_814 6)]))
      rw [hQ]
      exact y_vret C0 h (Fr.tr (Fr.tr (Fr.mono u_2 (by decide)) (Fr.mono u_10 (by decide))) (Fr.mono u_755 (by decide))) ⟨(Eq.trans hs_773 hz_774), (Eq.trans hs_787 hz_788), (Eq.trans hs_801 hz_802), e_758⟩ dX5_line_159
  · -- 6
    refine lv_aload_n C0.1 C0.2.1 dX5_line_9 rfl (lv_at hl 0 rfl) ?_
    refine y_cv h (y_rV (As := []) (rest := []) C0 hZ h (c_X5_cityLineS l G Z ad _ h.2 (Rel.fr (M := []) hR u_2 (by decide) (by decide)) ((Tp.fr (M := []) hTp u_2 kSC_78 (by decide)))) k_X5_cityLine q_749 q_6 q_747 kSC_77 rfl rfl rfl hl.1 rfl rfl (Nat.le_of_ble_eq_true rfl) dX5_line_10 ⟨Nat.le_of_ble_eq_true rfl, Nat.le_of_ble_eq_true rfl⟩ ⟨Nat.le_of_ble_eq_true rfl, Nat.le_of_ble_eq_true rfl⟩) (fun H locs ws_816 h u_817 p_818 => ?_)
    obtain ⟨e_819, e_820, e_821⟩ := p_818
    refine lv_goto (tgt := 159) C0.1 C0.2.1 dX5_line_13 (by decide) ?_
    have hs_822 : aF 20 ws_1 = (aF 20 ws0) := (aF_fr u_2 kSC_20 (by decide))
    have hq_823 := e_7
    have hs_824 : aF 77 ws_1 = (aF 77 ws0) := (aF_fr u_2 kSC_77 (by decide))
    have hs_825 : aF 20 ws_816 = (ctC T (aF 77 ws0) (aF 20 ws0)) := e_820.trans ((congrArg (fun s => ctC T (aF 77 ws_1) s) hs_822).trans (by rw [hs_824]))
    have hs_826 : aF 29 ws_1 = (aF 29 ws0) := (aF_fr u_2 kSC_29 (by decide))
    have hs_827 : aF 29 ws_816 = (aF 29 ws0) := (aF_fr u_817 kSC_29 (by decide)).trans hs_826
    have hs_828 : aF 77 ws_1 = (aF 77 ws0) := (aF_fr u_2 kSC_77 (by decide))
    have hs_829 : aF 20 ws_1 = (aF 20 ws0) := (aF_fr u_2 kSC_20 (by decide))
    have hs_830 : aF 77 ws_816 = (ctS T ((aF 20 ws0) 5) (aF 77 ws0)) := e_819.trans ((congrArg (fun s => ctS T (aF 20 ws_1 5) s) hs_828).trans (by rw [(show aF 20 ws_1 5 = (aF 20 ws0) 5 from congrFun hs_829 5)]))
    have hz_831 : (ctS T ((aF 20 ws0) 5) (aF 77 ws0)) = lineS T (aF 20 ws0 5) (aF 20 ws0 6) (aF 29 ws0 7) (aF 77 ws0) := by unfold lineS; (repeat' split) <;> first | rfl | (exfalso; omega) | (congr 1 <;> omega) | (congr 2 <;> omega)
    have hs_832 : aF 77 ws_1 = (aF 77 ws0) := (aF_fr u_2 kSC_77 (by decide))
    have hs_833 : aF 20 ws_1 = (aF 20 ws0) := (aF_fr u_2 kSC_20 (by decide))
    have hs_834 : aF 77 ws_816 = (ctS T ((aF 20 ws0) 5) (aF 77 ws0)) := e_819.trans ((congrArg (fun s => ctS T (aF 20 ws_1 5) s) hs_832).trans (by rw [(show aF 20 ws_1 5 = (aF 20 ws0) 5 from congrFun hs_833 5)]))
    have hs_835 : aF 29 ws_1 = (aF 29 ws0) := (aF_fr u_2 kSC_29 (by decide))
    have hs_836 : aF 29 ws_816 = (aF 29 ws0) := (aF_fr u_817 kSC_29 (by decide)).trans hs_835
    have hs_837 : aF 20 ws_1 = (aF 20 ws0) := (aF_fr u_2 kSC_20 (by decide))
    have hs_838 : aF 77 ws_1 = (aF 77 ws0) := (aF_fr u_2 kSC_77 (by decide))
    have hs_839 : aF 20 ws_816 = (ctC T (aF 77 ws0) (aF 20 ws0)) := e_820.trans ((congrArg (fun s => ctC T (aF 77 ws_1) s) hs_837).trans (by rw [hs_838]))
    have hz_840 : (ctC T (aF 77 ws0) (aF 20 ws0)) = upI (lineC T (aF 77 ws0) (aF 20 ws0)) 8 (aF 20 ws_816 8) := by rw [hs_839]; unfold lineC; (repeat' split) <;> first | (exfalso; omega) | exact (upI_id rfl).symm | (rw [upI_s]; done)
    have hs_841 : aF 77 ws_1 = (aF 77 ws0) := (aF_fr u_2 kSC_77 (by decide))
    have hs_842 : aF 20 ws_1 = (aF 20 ws0) := (aF_fr u_2 kSC_20 (by decide))
    have hs_843 : aF 77 ws_816 = (ctS T ((aF 20 ws0) 5) (aF 77 ws0)) := e_819.trans ((congrArg (fun s => ctS T (aF 20 ws_1 5) s) hs_841).trans (by rw [(show aF 20 ws_1 5 = (aF 20 ws0) 5 from congrFun hs_842 5)]))
    have hs_844 : aF 20 ws_1 = (aF 20 ws0) := (aF_fr u_2 kSC_20 (by decide))
    have hs_845 : aF 77 ws_1 = (aF 77 ws0) := (aF_fr u_2 kSC_77 (by decide))
    have hs_846 : aF 20 ws_816 = (ctC T (aF 77 ws0) (aF 20 ws0)) := e_820.trans ((congrArg (fun s => ctC T (aF 77 ws_1) s) hs_844).trans (by rw [hs_845]))
    have hs_847 : aF 29 ws_1 = (aF 29 ws0) := (aF_fr u_2 kSC_29 (by decide))
    have hs_848 : aF 29 ws_816 = (aF 29 ws0) := (aF_fr u_817 kSC_29 (by decide)).trans hs_847
    have hz_849 : (aF 29 ws0) = upI (lineF T (aF 20 ws0 5) (aF 77 ws0) (aF 29 ws0)) 8 (aF 29 ws_816 8) := by rw [hs_848]; unfold lineF; (repeat' split) <;> first | (exfalso; omega) | exact (upI_id rfl).symm | (rw [upI_s]; done)
    have hs_850 : aF 20 ws_1 = (aF 20 ws0) := (aF_fr u_2 kSC_20 (by decide))
    have hs_851 : aF 77 ws_1 = (aF 77 ws0) := (aF_fr u_2 kSC_77 (by decide))
    have hs_852 : aF 20 ws_816 = (ctC T (aF 77 ws0) (aF 20 ws0)) := e_820.trans ((congrArg (fun s => ctC T (aF 77 ws_1) s) hs_850).trans (by rw [hs_851]))
    have hs_853 : aF 29 ws_1 = (aF 29 ws0) := (aF_fr u_2 kSC_29 (by decide))
    have hs_854 : aF 29 ws_816 = (aF 29 ws0) := (aF_fr u_817 kSC_29 (by decide)).trans hs_853
    have hs_855 : aF 77 ws_1 = (aF 77 ws0) := (aF_fr u_2 kSC_77 (by decide))
    have hs_856 : aF 20 ws_1 = (aF 20 ws0) := (aF_fr u_2 kSC_20 (by decide))
    have hs_857 : aF 77 ws_816 = (ctS T ((aF 20 ws0) 5) (aF 77 ws0)) := e_819.trans ((congrArg (fun s => ctS T (aF 20 ws_1 5) s) hs_855).trans (by rw [(show aF 20 ws_1 5 = (aF 20 ws0) 5 from congrFun hs_856 5)]))
    rw [hQ]
    exact y_vret C0 h (Fr.tr (Fr.mono u_2 (by decide)) (Fr.mono u_817 (by decide))) ⟨(Eq.trans hs_830 hz_831), (Eq.trans hs_839 hz_840), (Eq.trans hs_848 hz_849), e_821⟩ dX5_line_159
