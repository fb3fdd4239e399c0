theorem tb_1 {w : Cond} (i : Nat) (h : tables_1_1[i]? = some w) : w ∈ lw_tbl := by
  have h := List.mem_of_getElem? h
  exact (List.mem_append_right _ (List.mem_append_left _ h) : w ∈ k2_sels lw_privs ++ tables_1)
theorem tb_2 {w : Cond} (i : Nat) (h : tables_1_2[i]? = some w) : w ∈ lw_tbl := by
  have h := List.mem_of_getElem? h
  exact (List.mem_append_right _ (List.mem_append_right _ (List.mem_append_left _ h)) : w ∈ k2_sels lw_privs ++ tables_1)
theorem tb_3 {w : Cond} (i : Nat) (h : tables_1_3[i]? = some w) : w ∈ lw_tbl := by
  have h := List.mem_of_getElem? h
  exact (List.mem_append_right _ (List.mem_append_right _ (List.mem_append_right _ (List.mem_append_left _ h))) : w ∈ k2_sels lw_privs ++ tables_1)
theorem tb_4 {w : Cond} (i : Nat) (h : tables_1_4[i]? = some w) : w ∈ lw_tbl := by
  have h := List.mem_of_getElem? h
  exact (List.mem_append_right _ (List.mem_append_right _ (List.mem_append_right _ (List.mem_append_right _ (List.mem_append_left _ h)))) : w ∈ k2_sels lw_privs ++ tables_1)
theorem tb_5 {w : Cond} (i : Nat) (h : tables_1_5[i]? = some w) : w ∈ lw_tbl := by
  have h := List.mem_of_getElem? h
  exact (List.mem_append_right _ (List.mem_append_right _ (List.mem_append_right _ (List.mem_append_right _ (List.mem_append_right _ (List.mem_append_left _ h))))) : w ∈ k2_sels lw_privs ++ tables_1)
theorem tb_6 {w : Cond} (i : Nat) (h : tables_1_6[i]? = some w) : w ∈ lw_tbl := by
  have h := List.mem_of_getElem? h
  exact (List.mem_append_right _ (List.mem_append_right _ (List.mem_append_right _ (List.mem_append_right _ (List.mem_append_right _ (List.mem_append_right _ (List.mem_append_left _ h)))))) : w ∈ k2_sels lw_privs ++ tables_1)
theorem tb_7 {w : Cond} (i : Nat) (h : tables_1_7[i]? = some w) : w ∈ lw_tbl := by
  have h := List.mem_of_getElem? h
  exact (List.mem_append_right _ (List.mem_append_right _ (List.mem_append_right _ (List.mem_append_right _ (List.mem_append_right _ (List.mem_append_right _ (List.mem_append_right _ (List.mem_append_left _ h))))))) : w ∈ k2_sels lw_privs ++ tables_1)
theorem tb_8 {w : Cond} (i : Nat) (h : tables_1_8[i]? = some w) : w ∈ lw_tbl := by
  have h := List.mem_of_getElem? h
  exact (List.mem_append_right _ (List.mem_append_right _ (List.mem_append_right _ (List.mem_append_right _ (List.mem_append_right _ (List.mem_append_right _ (List.mem_append_right _ (List.mem_append_right _ (List.mem_append_left _ h)))))))) : w ∈ k2_sels lw_privs ++ tables_1)
theorem tb_9 {w : Cond} (i : Nat) (h : tables_1_9[i]? = some w) : w ∈ lw_tbl := by
  have h := List.mem_of_getElem? h
  exact (List.mem_append_right _ (List.mem_append_right _ (List.mem_append_right _ (List.mem_append_right _ (List.mem_append_right _ (List.mem_append_right _ (List.mem_append_right _ (List.mem_append_right _ (List.mem_append_right _ (h))))))))) : w ∈ k2_sels lw_privs ++ tables_1)
/-! what is only read, at the start -/
def fl_1 : List Cond := flatC (Jvm.Cond.and given_1 narrow_1)
theorem fl_at {args : Array Value} {s : State} (h : (Jvm.Cond.and given_1 narrow_1).before args s = true) (k : Nat) {c : Cond} (e : fl_1[k]? = some c) : c.before args s = true := flat_of_before _ h _ (List.mem_of_getElem? e)
def tmS (i : Nat) : Term := .string (strPool.getD i ("", 0, 0)).1 (strPool.getD i ("", 0, 0)).2.1
def pEx : List Nat := [55, 71, 80, 90, 101, 115, 129, 143, 159, 175, 193, 212, 232, 249, 267, 289, 311, 335, 360, 385, 411, 438, 465]
def pCo : List Nat := [56, 72, 81, 91, 102, 116, 130, 144, 160, 176, 194, 213, 233, 250, 268, 290, 312, 336, 361, 386, 412, 439, 466]
def pAr : List Nat := [57, 73, 82, 92, 103, 117, 131, 145, 161, 177, 195, 214, 234, 251, 269, 291, 313, 337, 362, 387, 413, 440, 467]
def pLe : List Nat := [58, 74, 83, 93, 104, 118, 132, 146, 162, 178, 196, 215, 235, 252, 270, 292, 314, 338, 363, 388, 414, 441, 468]
def pEl : List (List Nat) := [[59, 60, 61, 62, 63, 64, 65, 66, 67, 68, 69, 70], [75, 76, 77, 78], [84, 85, 86, 87], [94, 95, 96, 97], [105, 106, 107, 108, 109, 110], [119, 120, 121, 122, 123], [133, 134, 135, 136], [147, 148, 149, 150, 151], [163, 164, 165, 166], [179, 180, 181, 182, 183], [197, 198, 199, 200, 201], [216, 217, 218, 219, 220], [236], [253], [271, 272, 273, 274], [293, 294, 295], [315, 316, 317, 318], [339, 340, 341, 342], [364, 365, 366], [389, 390, 391], [415, 416, 417], [442, 443], [469, 470, 471, 472, 473, 474, 475, 476, 477, 478, 479, 480, 481, 482, 483, 484, 485, 486, 487, 488, 489, 490, 491, 492, 493, 494, 495, 496, 497, 498, 499, 500, 501, 502, 503, 504, 505, 506, 507, 508, 509, 510, 511, 512, 513, 514, 515, 516, 517, 518, 519, 520, 521, 522, 523, 524, 525, 526, 527, 528, 529, 530, 531, 532, 533, 534, 535, 536, 537, 538, 539, 540, 541, 542, 543, 544, 545, 546, 547, 548, 549, 550, 551, 552, 553, 554, 555, 556, 557, 558, 559, 560, 561, 562, 563, 564, 565, 566, 567, 568, 569]]
def pNe : List (List Nat) := [[0, 79, 88, 98, 111, 124, 137, 152, 167, 184, 202, 221, 237, 254, 275, 296, 319, 343, 367, 392, 418, 444, 570], [0, 0, 89, 99, 112, 125, 138, 153, 168, 185, 203, 222, 238, 255, 276, 297, 320, 344, 368, 393, 419, 445, 571], [0, 0, 0, 100, 113, 126, 139, 154, 169, 186, 204, 223, 239, 256, 277, 298, 321, 345, 369, 394, 420, 446, 572], [0, 0, 0, 0, 114, 127, 140, 155, 170, 187, 205, 224, 240, 257, 278, 299, 322, 346, 370, 395, 421, 447, 573], [0, 0, 0, 0, 0, 128, 141, 156, 171, 188, 206, 225, 241, 258, 279, 300, 323, 347, 371, 396, 422, 448, 574], [0, 0, 0, 0, 0, 0, 142, 157, 172, 189, 207, 226, 242, 259, 280, 301, 324, 348, 372, 397, 423, 449, 575], [0, 0, 0, 0, 0, 0, 0, 158, 173, 190, 208, 227, 243, 260, 281, 302, 325, 349, 373, 398, 424, 450, 576], [0, 0, 0, 0, 0, 0, 0, 0, 174, 191, 209, 228, 244, 261, 282, 303, 326, 350, 374, 399, 425, 451, 577], [0, 0, 0, 0, 0, 0, 0, 0, 0, 192, 210, 229, 245, 262, 283, 304, 327, 351, 375, 400, 426, 452, 578], [0, 0, 0, 0, 0, 0, 0, 0, 0, 0, 211, 230, 246, 263, 284, 305, 328, 352, 376, 401, 427, 453, 579], [0, 0, 0, 0, 0, 0, 0, 0, 0, 0, 0, 231, 247, 264, 285, 306, 329, 353, 377, 402, 428, 454, 580], [0, 0, 0, 0, 0, 0, 0, 0, 0, 0, 0, 0, 248, 265, 286, 307, 330, 354, 378, 403, 429, 455, 581], [0, 0, 0, 0, 0, 0, 0, 0, 0, 0, 0, 0, 0, 266, 287, 308, 331, 355, 379, 404, 430, 456, 582], [0, 0, 0, 0, 0, 0, 0, 0, 0, 0, 0, 0, 0, 0, 288, 309, 332, 356, 380, 405, 431, 457, 583], [0, 0, 0, 0, 0, 0, 0, 0, 0, 0, 0, 0, 0, 0, 0, 310, 333, 357, 381, 406, 432, 458, 584], [0, 0, 0, 0, 0, 0, 0, 0, 0, 0, 0, 0, 0, 0, 0, 0, 334, 358, 382, 407, 433, 459, 585], [0, 0, 0, 0, 0, 0, 0, 0, 0, 0, 0, 0, 0, 0, 0, 0, 0, 359, 383, 408, 434, 460, 586], [0, 0, 0, 0, 0, 0, 0, 0, 0, 0, 0, 0, 0, 0, 0, 0, 0, 0, 384, 409, 435, 461, 587], [0, 0, 0, 0, 0, 0, 0, 0, 0, 0, 0, 0, 0, 0, 0, 0, 0, 0, 0, 410, 436, 462, 588], [0, 0, 0, 0, 0, 0, 0, 0, 0, 0, 0, 0, 0, 0, 0, 0, 0, 0, 0, 0, 437, 463, 589], [0, 0, 0, 0, 0, 0, 0, 0, 0, 0, 0, 0, 0, 0, 0, 0, 0, 0, 0, 0, 0, 464, 590], [0, 0, 0, 0, 0, 0, 0, 0, 0, 0, 0, 0, 0, 0, 0, 0, 0, 0, 0, 0, 0, 0, 591], [0, 0, 0, 0, 0, 0, 0, 0, 0, 0, 0, 0, 0, 0, 0, 0, 0, 0, 0, 0, 0, 0, 0]]
theorem st_ln : ∀ i : Nat, i < 23 → strLen.getD i 0 < 2 ^ 31 := by decide +kernel
theorem st_ex : ∀ i : Nat, i < 23 → fl_1[pEx.getD i 0]? = some (Cond.exactly (tmS i) "java/lang/String") := by decide +kernel
theorem st_co : ∀ i : Nat, i < 23 → fl_1[pCo.getD i 0]? = some (Cond.eq (.field (tmS i) "java/lang/String" "coder" "B") (.int 0)) := by decide +kernel
theorem st_ar : ∀ i : Nat, i < 23 → fl_1[pAr.getD i 0]? = some (Cond.arrayOf (.field (tmS i) "java/lang/String" "value" "[B") .byte) := by decide +kernel
theorem st_le : ∀ i : Nat, i < 23 → fl_1[pLe.getD i 0]? = some (Cond.eq (.length (.field (tmS i) "java/lang/String" "value" "[B")) (.int (Int32.ofNat (strLen.getD i 0)))) := by decide +kernel
theorem st_el : ∀ i : Nat, i < 23 → ∀ j : Nat, j < strLen.getD i 0 → fl_1[(pEl.getD i []).getD j 0]? = some (Cond.eq (.elem (.field (tmS i) "java/lang/String" "value" "[B") (.int (Int32.ofNat j))) (.int ((strByt.getD i []).getD j 0))) := by decide +kernel
theorem st_ne : ∀ i : Nat, i < 23 → ∀ j : Nat, j < 23 → i < j → fl_1[(pNe.getD i []).getD j 0]? = some (Cond.not (Cond.eq (tmS i) (tmS j))) := by decide +kernel
theorem st_t : ∀ j : Nat, j < 4 → fl_1[([12, 13, 14, 15] : List Nat).getD j 0]? = some (Cond.eq (.elem (.static "LeftTurns" "TURNED" "[I") (.int (Int32.ofNat j))) (.int (tTurn j))) := by decide +kernel
theorem ro_eqR {args : Array Value} {s : State} {t u : Term} {a : Nat} (h : (Cond.eq t u).before args s = true) (ht : t.eval args s none [] s = some (.ref a)) : u.eval args s none [] s = some (.ref a) := by
  cases hv : u.eval args s none [] s with
  | none => simp [Cond.before, Cond.holds, Cond.value, ht, hv] at h
  | some w =>
    simp only [Cond.before, Cond.holds, Cond.value, ht, hv] at h
    cases w <;> simp_all
theorem va_Xof {args : Array Value} {s : State} {tm : Term} {N : Nat} {f : Nat → Int32} (hN : N < 2 ^ 31) (harr : (Cond.arrayOf tm .int).before args s = true) (hlen : (Term.length tm).eval args s none [] s = some (.int (Int32.ofNat N))) (hel : ∀ j : Nat, j < N → (Term.elem tm (.int (Int32.ofNat j))).eval args s none [] s = some (.int (f j))) : ∃ t : Nat, tm.eval args s none [] s = some (.ref t) ∧ va_X t N f s s.heap ∧ t < s.heap.size := by
  obtain ⟨t, ht, cell, hcell, hof, hkn, hle, hsz, hel', -⟩ := va_Tof (A := fun _ => False) (f := fun j => .int (f j)) hN harr hlen hel (fun _ _ h => h)
  have hlt : cell.slots.size < 2 ^ 31 := by
    have hv := hlen
    obtain ⟨t2, cell2, ht2, hat, -⟩ := Term.length_spec hlen
    cases ht.symm.trans ht2
    obtain ⟨hc2, -, -, -⟩ := State.arrayAt?_spec hat
    cases hcell.symm.trans hc2
    simp only [Term.eval, ht, hat, Option.bind_eq_bind, Option.bind_some] at hv
    by_cases hlt : cell.slots.size < 2147483648
    · exact hlt
    · simp [hlt] at hv
  have e : cell.slots.size = N := by
    have h1 : (nI cell.slots.size).toInt = (nI N).toInt := congrArg Int32.toInt hsz
    rw [nI_toInt hlt, nI_toInt hN] at h1
    omega
  exact ⟨t, ht, ⟨cell, hcell, hof, hkn, e, hel'⟩, (Array.getElem?_eq_some_iff.mp hcell).1⟩
set_option maxRecDepth 100000 in
theorem ro_start {args : Array Value} {s : State} {A : Nat → Prop} (hts : ∀ w ∈ lw_tbl, w.before args s = true) (hgv : (Jvm.Cond.and given_1 narrow_1).before args s = true) (hA : ∀ a : Nat, a < s.heap.size → ¬ A a) : ∃ Z : RZ, Ro Z A s s.heap := by
  obtain ⟨t, ht, hX, hlt⟩ := va_Xof (tm := .static "LeftTurns" "TURNED" "[I") (N := 4) (f := tTurn) (by decide) (fl_at hgv 10 rfl) (va_eqt (fl_at hgv 11 rfl)) (fun j hj => va_eqt (fl_at hgv _ (st_t j hj)))
  obtain ⟨adK, adV, hS, hev⟩ := vk_Sof (N := 23) (tm := tmS) (len := strLen) (byt := strByt) (A := A) st_ln (fun i hi => fl_at hgv _ (st_ex i hi)) (fun i hi => fl_at hgv _ (st_co i hi)) (fun i hi => fl_at hgv _ (st_ar i hi)) (fun i hi => fl_at hgv _ (st_le i hi)) (fun i hi j hj => fl_at hgv _ (st_el i hi j hj)) (fun i j hi hj hij => by
    rcases Nat.lt_or_gt_of_ne hij with h | h
    · exact Or.inl (fl_at hgv _ (st_ne i hi j hj h))
    · exact Or.inr (fl_at hgv _ (st_ne j hj i hi h))) hA
  refine ⟨(t, adK, adV), ⟨va_Zref (hts _ (tb_4 125 rfl)) (hts _ (tb_1 1 rfl)) ht hA, hX, hlt, hA t hlt⟩, hS, va_Zof (hts _ (tb_3 40 rfl)) (hts _ (tb_1 15 rfl)) (va_eqi (fl_at hgv 4 rfl)) hA, va_Zqof (hts _ (tb_3 83 rfl)) (hts _ (tb_1 19 rfl)) (fl_at hgv 5 rfl) hA, ?_, va_Nw.of rfl (hts _ (tb_4 124 rfl)), va_Nw.of rfl (hts _ (tb_5 31 rfl)), va_Nw.of rfl (hts _ (tb_5 103 rfl))⟩
  intro k q hq
  match k, hq with
  | 0, hq => cases hq; exact vk_R.of (hts _ (tb_3 26 rfl)) (hev 0 (by decide))
  | 1, hq => cases hq; exact vk_R.of (hts _ (tb_3 117 rfl)) (hev 1 (by decide))
  | 2, hq => cases hq; exact vk_R.of (hts _ (tb_3 155 rfl)) (hev 2 (by decide))
  | 3, hq => cases hq; exact vk_R.of (hts _ (tb_3 172 rfl)) (hev 3 (by decide))
  | 4, hq => cases hq; exact vk_R.of (hts _ (tb_3 181 rfl)) (hev 4 (by decide))
  | 5, hq => cases hq; exact vk_R.of (hts _ (tb_3 190 rfl)) (hev 5 (by decide))
  | 6, hq => cases hq; exact vk_R.of (hts _ (tb_3 191 rfl)) (hev 6 (by decide))
  | 7, hq => cases hq; exact vk_R.of (hts _ (tb_3 192 rfl)) (hev 7 (by decide))
  | 8, hq => cases hq; exact vk_R.of (hts _ (tb_3 193 rfl)) (hev 8 (by decide))
  | 9, hq => cases hq; exact vk_R.of (hts _ (tb_3 194 rfl)) (hev 9 (by decide))
  | 10, hq => cases hq; exact vk_R.of (hts _ (tb_3 195 rfl)) (hev 10 (by decide))
  | 11, hq => cases hq; exact vk_R.of (hts _ (tb_3 200 rfl)) (hev 11 (by decide))
  | 12, hq => cases hq; exact vk_R.of (hts _ (tb_3 230 rfl)) (hev 12 (by decide))
  | 13, hq => cases hq; exact vk_R.of (hts _ (tb_3 231 rfl)) (hev 13 (by decide))
  | 14, hq => cases hq; exact vk_R.of (hts _ (tb_3 232 rfl)) (hev 14 (by decide))
  | 15, hq => cases hq; exact vk_R.of (hts _ (tb_3 233 rfl)) (hev 15 (by decide))
  | 16, hq => cases hq; exact vk_R.of (hts _ (tb_3 234 rfl)) (hev 16 (by decide))
  | 17, hq => cases hq; exact vk_R.of (hts _ (tb_3 235 rfl)) (hev 17 (by decide))
  | 18, hq => cases hq; exact vk_R.of (hts _ (tb_3 236 rfl)) (hev 18 (by decide))
  | 19, hq => cases hq; exact vk_R.of (hts _ (tb_4 9 rfl)) (hev 19 (by decide))
  | 20, hq => cases hq; exact vk_R.of (hts _ (tb_4 10 rfl)) (hev 20 (by decide))
  | 21, hq => cases hq; exact vk_R.of (hts _ (tb_4 11 rfl)) (hev 21 (by decide))
  | 22, hq => cases hq; exact vk_R.of (hts _ (tb_7 33 rfl)) (hev 22 (by decide))
  | 23, hq => cases hq; exact vk_R.of (hts _ (tb_7 39 rfl)) (ro_eqR (fl_at hgv 608 rfl) (hev 0 (by decide)))
  | k + 24, hq => simp [strPool] at hq
