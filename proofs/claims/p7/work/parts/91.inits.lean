/-! the constructors' parts: all cells are kept -/
def adl (l : List Nat) : Nat → Nat := fun k => l.getD k 0
theorem upd00 (k : Nat) : upd (fun _ => 0) k 0 = (fun _ => (0 : Int32)) := by
  funext j
  unfold upd
  split <;> rfl
theorem dX4_init_0 : decode cX4_init 0 = .ok (.aload_n 0, 1) := by decide +kernel
theorem dX4_init_1 : decode cX4_init 1 = .ok (.invokespecial 3, 3) := by decide +kernel
theorem dX4_init_4 : decode cX4_init 4 = .ok (.aload_n 0, 1) := by decide +kernel
theorem dX4_init_5 : decode cX4_init 5 = .ok (.sipush 900, 3) := by decide +kernel
theorem dX4_init_8 : decode cX4_init 8 = .ok (.newarray .int, 2) := by decide +kernel
theorem dX4_init_10 : decode cX4_init 10 = .ok (.putfield 9, 3) := by decide +kernel
theorem dX4_init_13 : decode cX4_init 13 = .ok (.aload_n 0, 1) := by decide +kernel
theorem dX4_init_14 : decode cX4_init 14 = .ok (.bipush 64, 2) := by decide +kernel
theorem dX4_init_16 : decode cX4_init 16 = .ok (.newarray .int, 2) := by decide +kernel
theorem dX4_init_18 : decode cX4_init 18 = .ok (.putfield 15, 3) := by decide +kernel
theorem dX4_init_21 : decode cX4_init 21 = .ok (.aload_n 0, 1) := by decide +kernel
theorem dX4_init_22 : decode cX4_init 22 = .ok (.bipush 6, 2) := by decide +kernel
theorem dX4_init_24 : decode cX4_init 24 = .ok (.newarray .int, 2) := by decide +kernel
theorem dX4_init_26 : decode cX4_init 26 = .ok (.putfield 18, 3) := by decide +kernel
theorem dX4_init_29 : decode cX4_init 29 = .ok (.return_, 1) := by decide +kernel
theorem dX1_init_0 : decode cX1_init 0 = .ok (.aload_n 0, 1) := by decide +kernel
theorem dX1_init_1 : decode cX1_init 1 = .ok (.invokespecial 3, 3) := by decide +kernel
theorem dX1_init_4 : decode cX1_init 4 = .ok (.aload_n 0, 1) := by decide +kernel
theorem dX1_init_5 : decode cX1_init 5 = .ok (.iconst 5, 1) := by decide +kernel
theorem dX1_init_6 : decode cX1_init 6 = .ok (.newarray .int, 2) := by decide +kernel
theorem dX1_init_8 : decode cX1_init 8 = .ok (.putfield 9, 3) := by decide +kernel
theorem dX1_init_11 : decode cX1_init 11 = .ok (.aload_n 0, 1) := by decide +kernel
theorem dX1_init_12 : decode cX1_init 12 = .ok (.iconst 5, 1) := by decide +kernel
theorem dX1_init_13 : decode cX1_init 13 = .ok (.newarray .int, 2) := by decide +kernel
theorem dX1_init_15 : decode cX1_init 15 = .ok (.putfield 15, 3) := by decide +kernel
theorem dX1_init_18 : decode cX1_init 18 = .ok (.aload_n 0, 1) := by decide +kernel
theorem dX1_init_19 : decode cX1_init 19 = .ok (.iconst 5, 1) := by decide +kernel
theorem dX1_init_20 : decode cX1_init 20 = .ok (.newarray .int, 2) := by decide +kernel
theorem dX1_init_22 : decode cX1_init 22 = .ok (.putfield 18, 3) := by decide +kernel
theorem dX1_init_25 : decode cX1_init 25 = .ok (.aload_n 0, 1) := by decide +kernel
theorem dX1_init_26 : decode cX1_init 26 = .ok (.iconst 5, 1) := by decide +kernel
theorem dX1_init_27 : decode cX1_init 27 = .ok (.newarray .int, 2) := by decide +kernel
theorem dX1_init_29 : decode cX1_init 29 = .ok (.putfield 21, 3) := by decide +kernel
theorem dX1_init_32 : decode cX1_init 32 = .ok (.aload_n 0, 1) := by decide +kernel
theorem dX1_init_33 : decode cX1_init 33 = .ok (.iconst 5, 1) := by decide +kernel
theorem dX1_init_34 : decode cX1_init 34 = .ok (.newarray .int, 2) := by decide +kernel
theorem dX1_init_36 : decode cX1_init 36 = .ok (.putfield 24, 3) := by decide +kernel
theorem dX1_init_39 : decode cX1_init 39 = .ok (.aload_n 0, 1) := by decide +kernel
theorem dX1_init_40 : decode cX1_init 40 = .ok (.bipush 25, 2) := by decide +kernel
theorem dX1_init_42 : decode cX1_init 42 = .ok (.newarray .int, 2) := by decide +kernel
theorem dX1_init_44 : decode cX1_init 44 = .ok (.putfield 27, 3) := by decide +kernel
theorem dX1_init_47 : decode cX1_init 47 = .ok (.aload_n 0, 1) := by decide +kernel
theorem dX1_init_48 : decode cX1_init 48 = .ok (.bipush 25, 2) := by decide +kernel
theorem dX1_init_50 : decode cX1_init 50 = .ok (.newarray .int, 2) := by decide +kernel
theorem dX1_init_52 : decode cX1_init 52 = .ok (.putfield 30, 3) := by decide +kernel
theorem dX1_init_55 : decode cX1_init 55 = .ok (.return_, 1) := by decide +kernel
theorem dX0_init_0 : decode cX0_init 0 = .ok (.aload_n 0, 1) := by decide +kernel
theorem dX0_init_1 : decode cX0_init 1 = .ok (.invokespecial 3, 3) := by decide +kernel
theorem dX0_init_4 : decode cX0_init 4 = .ok (.aload_n 0, 1) := by decide +kernel
theorem dX0_init_5 : decode cX0_init 5 = .ok (.new 9, 3) := by decide +kernel
theorem dX0_init_8 : decode cX0_init 8 = .ok (.dup, 1) := by decide +kernel
theorem dX0_init_9 : decode cX0_init 9 = .ok (.invokespecial 11, 3) := by decide +kernel
theorem dX0_init_12 : decode cX0_init 12 = .ok (.putfield 12, 3) := by decide +kernel
theorem dX0_init_15 : decode cX0_init 15 = .ok (.aload_n 0, 1) := by decide +kernel
theorem dX0_init_16 : decode cX0_init 16 = .ok (.new 9, 3) := by decide +kernel
theorem dX0_init_19 : decode cX0_init 19 = .ok (.dup, 1) := by decide +kernel
theorem dX0_init_20 : decode cX0_init 20 = .ok (.invokespecial 11, 3) := by decide +kernel
theorem dX0_init_23 : decode cX0_init 23 = .ok (.putfield 18, 3) := by decide +kernel
theorem dX0_init_26 : decode cX0_init 26 = .ok (.aload_n 0, 1) := by decide +kernel
theorem dX0_init_27 : decode cX0_init 27 = .ok (.new 21, 3) := by decide +kernel
theorem dX0_init_30 : decode cX0_init 30 = .ok (.dup, 1) := by decide +kernel
theorem dX0_init_31 : decode cX0_init 31 = .ok (.invokespecial 23, 3) := by decide +kernel
theorem dX0_init_34 : decode cX0_init 34 = .ok (.putfield 24, 3) := by decide +kernel
theorem dX0_init_37 : decode cX0_init 37 = .ok (.aload_n 0, 1) := by decide +kernel
theorem dX0_init_38 : decode cX0_init 38 = .ok (.iconst 4, 1) := by decide +kernel
theorem dX0_init_39 : decode cX0_init 39 = .ok (.newarray .int, 2) := by decide +kernel
theorem dX0_init_41 : decode cX0_init 41 = .ok (.putfield 28, 3) := by decide +kernel
theorem dX0_init_44 : decode cX0_init 44 = .ok (.aload_n 0, 1) := by decide +kernel
theorem dX0_init_45 : decode cX0_init 45 = .ok (.iconst 4, 1) := by decide +kernel
theorem dX0_init_46 : decode cX0_init 46 = .ok (.newarray .int, 2) := by decide +kernel
theorem dX0_init_48 : decode cX0_init 48 = .ok (.putfield 32, 3) := by decide +kernel
theorem dX0_init_51 : decode cX0_init 51 = .ok (.return_, 1) := by decide +kernel
theorem dX2_init_0 : decode cX2_init 0 = .ok (.aload_n 0, 1) := by decide +kernel
theorem dX2_init_1 : decode cX2_init 1 = .ok (.invokespecial 3, 3) := by decide +kernel
theorem dX2_init_4 : decode cX2_init 4 = .ok (.aload_n 0, 1) := by decide +kernel
theorem dX2_init_5 : decode cX2_init 5 = .ok (.sipush 240, 3) := by decide +kernel
theorem dX2_init_8 : decode cX2_init 8 = .ok (.newarray .int, 2) := by decide +kernel
theorem dX2_init_10 : decode cX2_init 10 = .ok (.putfield 11, 3) := by decide +kernel
theorem dX2_init_13 : decode cX2_init 13 = .ok (.aload_n 0, 1) := by decide +kernel
theorem dX2_init_14 : decode cX2_init 14 = .ok (.sipush 960, 3) := by decide +kernel
theorem dX2_init_17 : decode cX2_init 17 = .ok (.newarray .int, 2) := by decide +kernel
theorem dX2_init_19 : decode cX2_init 19 = .ok (.putfield 15, 3) := by decide +kernel
theorem dX2_init_22 : decode cX2_init 22 = .ok (.aload_n 0, 1) := by decide +kernel
theorem dX2_init_23 : decode cX2_init 23 = .ok (.sipush 960, 3) := by decide +kernel
theorem dX2_init_26 : decode cX2_init 26 = .ok (.newarray .int, 2) := by decide +kernel
theorem dX2_init_28 : decode cX2_init 28 = .ok (.putfield 18, 3) := by decide +kernel
theorem dX2_init_31 : decode cX2_init 31 = .ok (.aload_n 0, 1) := by decide +kernel
theorem dX2_init_32 : decode cX2_init 32 = .ok (.aload_n 1, 1) := by decide +kernel
theorem dX2_init_33 : decode cX2_init 33 = .ok (.putfield 21, 3) := by decide +kernel
theorem dX2_init_36 : decode cX2_init 36 = .ok (.return_, 1) := by decide +kernel
theorem dX8_init_0 : decode cX8_init 0 = .ok (.aload_n 0, 1) := by decide +kernel
theorem dX8_init_1 : decode cX8_init 1 = .ok (.invokespecial 3, 3) := by decide +kernel
theorem dX8_init_4 : decode cX8_init 4 = .ok (.aload_n 0, 1) := by decide +kernel
theorem dX8_init_5 : decode cX8_init 5 = .ok (.sipush 484, 3) := by decide +kernel
theorem dX8_init_8 : decode cX8_init 8 = .ok (.newarray .int, 2) := by decide +kernel
theorem dX8_init_10 : decode cX8_init 10 = .ok (.putfield 11, 3) := by decide +kernel
theorem dX8_init_13 : decode cX8_init 13 = .ok (.aload_n 0, 1) := by decide +kernel
theorem dX8_init_14 : decode cX8_init 14 = .ok (.sipush 484, 3) := by decide +kernel
theorem dX8_init_17 : decode cX8_init 17 = .ok (.newarray .int, 2) := by decide +kernel
theorem dX8_init_19 : decode cX8_init 19 = .ok (.putfield 15, 3) := by decide +kernel
theorem dX8_init_22 : decode cX8_init 22 = .ok (.aload_n 0, 1) := by decide +kernel
theorem dX8_init_23 : decode cX8_init 23 = .ok (.bipush 121, 2) := by decide +kernel
theorem dX8_init_25 : decode cX8_init 25 = .ok (.newarray .int, 2) := by decide +kernel
theorem dX8_init_27 : decode cX8_init 27 = .ok (.putfield 18, 3) := by decide +kernel
theorem dX8_init_30 : decode cX8_init 30 = .ok (.aload_n 0, 1) := by decide +kernel
theorem dX8_init_31 : decode cX8_init 31 = .ok (.aload_n 1, 1) := by decide +kernel
theorem dX8_init_32 : decode cX8_init 32 = .ok (.putfield 21, 3) := by decide +kernel
theorem dX8_init_35 : decode cX8_init 35 = .ok (.aload_n 0, 1) := by decide +kernel
theorem dX8_init_36 : decode cX8_init 36 = .ok (.aload_n 2, 1) := by decide +kernel
theorem dX8_init_37 : decode cX8_init 37 = .ok (.putfield 25, 3) := by decide +kernel
theorem dX8_init_40 : decode cX8_init 40 = .ok (.return_, 1) := by decide +kernel
theorem dX7_init_0 : decode cX7_init 0 = .ok (.aload_n 0, 1) := by decide +kernel
theorem dX7_init_1 : decode cX7_init 1 = .ok (.invokespecial 3, 3) := by decide +kernel
theorem dX7_init_4 : decode cX7_init 4 = .ok (.aload_n 0, 1) := by decide +kernel
theorem dX7_init_5 : decode cX7_init 5 = .ok (.sipush 14400, 3) := by decide +kernel
theorem dX7_init_8 : decode cX7_init 8 = .ok (.newarray .int, 2) := by decide +kernel
theorem dX7_init_10 : decode cX7_init 10 = .ok (.putfield 9, 3) := by decide +kernel
theorem dX7_init_13 : decode cX7_init 13 = .ok (.aload_n 0, 1) := by decide +kernel
theorem dX7_init_14 : decode cX7_init 14 = .ok (.bipush 60, 2) := by decide +kernel
theorem dX7_init_16 : decode cX7_init 16 = .ok (.newarray .int, 2) := by decide +kernel
theorem dX7_init_18 : decode cX7_init 18 = .ok (.putfield 15, 3) := by decide +kernel
theorem dX7_init_21 : decode cX7_init 21 = .ok (.aload_n 0, 1) := by decide +kernel
theorem dX7_init_22 : decode cX7_init 22 = .ok (.aload_n 1, 1) := by decide +kernel
theorem dX7_init_23 : decode cX7_init 23 = .ok (.putfield 18, 3) := by decide +kernel
theorem dX7_init_26 : decode cX7_init 26 = .ok (.aload_n 0, 1) := by decide +kernel
theorem dX7_init_27 : decode cX7_init 27 = .ok (.aload_n 2, 1) := by decide +kernel
theorem dX7_init_28 : decode cX7_init 28 = .ok (.putfield 22, 3) := by decide +kernel
theorem dX7_init_31 : decode cX7_init 31 = .ok (.aload_n 0, 1) := by decide +kernel
theorem dX7_init_32 : decode cX7_init 32 = .ok (.aload_n 3, 1) := by decide +kernel
theorem dX7_init_33 : decode cX7_init 33 = .ok (.putfield 26, 3) := by decide +kernel
theorem dX7_init_36 : decode cX7_init 36 = .ok (.return_, 1) := by decide +kernel
theorem dX5_init_0 : decode cX5_init 0 = .ok (.aload_n 0, 1) := by decide +kernel
theorem dX5_init_1 : decode cX5_init 1 = .ok (.invokespecial 3, 3) := by decide +kernel
theorem dX5_init_4 : decode cX5_init 4 = .ok (.aload_n 0, 1) := by decide +kernel
theorem dX5_init_5 : decode cX5_init 5 = .ok (.sipush 900, 3) := by decide +kernel
theorem dX5_init_8 : decode cX5_init 8 = .ok (.newarray .byte, 2) := by decide +kernel
theorem dX5_init_10 : decode cX5_init 10 = .ok (.putfield 9, 3) := by decide +kernel
theorem dX5_init_13 : decode cX5_init 13 = .ok (.aload_n 0, 1) := by decide +kernel
theorem dX5_init_14 : decode cX5_init 14 = .ok (.iconst (-1), 1) := by decide +kernel
theorem dX5_init_15 : decode cX5_init 15 = .ok (.putfield 15, 3) := by decide +kernel
theorem dX5_init_18 : decode cX5_init 18 = .ok (.aload_n 0, 1) := by decide +kernel
theorem dX5_init_19 : decode cX5_init 19 = .ok (.aload_n 1, 1) := by decide +kernel
theorem dX5_init_20 : decode cX5_init 20 = .ok (.putfield 19, 3) := by decide +kernel
theorem dX5_init_23 : decode cX5_init 23 = .ok (.aload_n 0, 1) := by decide +kernel
theorem dX5_init_24 : decode cX5_init 24 = .ok (.aload_n 1, 1) := by decide +kernel
theorem dX5_init_25 : decode cX5_init 25 = .ok (.getfield 23, 3) := by decide +kernel
theorem dX5_init_28 : decode cX5_init 28 = .ok (.putfield 29, 3) := by decide +kernel
theorem dX5_init_31 : decode cX5_init 31 = .ok (.return_, 1) := by decide +kernel
theorem dX6_init_0 : decode cX6_init 0 = .ok (.aload_n 0, 1) := by decide +kernel
theorem dX6_init_1 : decode cX6_init 1 = .ok (.invokespecial 3, 3) := by decide +kernel
theorem dX6_init_4 : decode cX6_init 4 = .ok (.aload_n 0, 1) := by decide +kernel
theorem dX6_init_5 : decode cX6_init 5 = .ok (.iconst 4, 1) := by decide +kernel
theorem dX6_init_6 : decode cX6_init 6 = .ok (.newarray .int, 2) := by decide +kernel
theorem dX6_init_8 : decode cX6_init 8 = .ok (.putfield 9, 3) := by decide +kernel
theorem dX6_init_11 : decode cX6_init 11 = .ok (.aload_n 0, 1) := by decide +kernel
theorem dX6_init_12 : decode cX6_init 12 = .ok (.iconst 4, 1) := by decide +kernel
theorem dX6_init_13 : decode cX6_init 13 = .ok (.newarray .int, 2) := by decide +kernel
theorem dX6_init_15 : decode cX6_init 15 = .ok (.putfield 15, 3) := by decide +kernel
theorem dX6_init_18 : decode cX6_init 18 = .ok (.aload_n 0, 1) := by decide +kernel
theorem dX6_init_19 : decode cX6_init 19 = .ok (.iconst 4, 1) := by decide +kernel
theorem dX6_init_20 : decode cX6_init 20 = .ok (.newarray .int, 2) := by decide +kernel
theorem dX6_init_22 : decode cX6_init 22 = .ok (.putfield 18, 3) := by decide +kernel
theorem dX6_init_25 : decode cX6_init 25 = .ok (.aload_n 0, 1) := by decide +kernel
theorem dX6_init_26 : decode cX6_init 26 = .ok (.aload_n 1, 1) := by decide +kernel
theorem dX6_init_27 : decode cX6_init 27 = .ok (.putfield 21, 3) := by decide +kernel
theorem dX6_init_30 : decode cX6_init 30 = .ok (.aload_n 0, 1) := by decide +kernel
theorem dX6_init_31 : decode cX6_init 31 = .ok (.aload_n 2, 1) := by decide +kernel
theorem dX6_init_32 : decode cX6_init 32 = .ok (.putfield 25, 3) := by decide +kernel
theorem dX6_init_35 : decode cX6_init 35 = .ok (.return_, 1) := by decide +kernel
theorem dX9_init_0 : decode cX9_init 0 = .ok (.aload_n 0, 1) := by decide +kernel
theorem dX9_init_1 : decode cX9_init 1 = .ok (.invokespecial 5, 3) := by decide +kernel
theorem dX9_init_4 : decode cX9_init 4 = .ok (.aload_n 0, 1) := by decide +kernel
theorem dX9_init_5 : decode cX9_init 5 = .ok (.iconst 2, 1) := by decide +kernel
theorem dX9_init_6 : decode cX9_init 6 = .ok (.sipush 4100, 3) := by decide +kernel
theorem dX9_init_9 : decode cX9_init 9 = .ok (.multianewarray 11 2, 4) := by decide +kernel
theorem dX9_init_13 : decode cX9_init 13 = .ok (.putfield 13, 3) := by decide +kernel
theorem dX9_init_16 : decode cX9_init 16 = .ok (.aload_n 0, 1) := by decide +kernel
theorem dX9_init_17 : decode cX9_init 17 = .ok (.iconst 2, 1) := by decide +kernel
theorem dX9_init_18 : decode cX9_init 18 = .ok (.bipush 100, 2) := by decide +kernel
theorem dX9_init_20 : decode cX9_init 20 = .ok (.multianewarray 16 2, 4) := by decide +kernel
theorem dX9_init_24 : decode cX9_init 24 = .ok (.putfield 18, 3) := by decide +kernel
theorem dX9_init_27 : decode cX9_init 27 = .ok (.aload_n 0, 1) := by decide +kernel
theorem dX9_init_28 : decode cX9_init 28 = .ok (.iconst 2, 1) := by decide +kernel
theorem dX9_init_29 : decode cX9_init 29 = .ok (.bipush 100, 2) := by decide +kernel
theorem dX9_init_31 : decode cX9_init 31 = .ok (.multianewarray 16 2, 4) := by decide +kernel
theorem dX9_init_35 : decode cX9_init 35 = .ok (.putfield 21, 3) := by decide +kernel
theorem dX9_init_38 : decode cX9_init 38 = .ok (.aload_n 0, 1) := by decide +kernel
theorem dX9_init_39 : decode cX9_init 39 = .ok (.aload_n 1, 1) := by decide +kernel
theorem dX9_init_40 : decode cX9_init 40 = .ok (.putfield 24, 3) := by decide +kernel
theorem dX9_init_43 : decode cX9_init 43 = .ok (.aload_n 0, 1) := by decide +kernel
theorem dX9_init_44 : decode cX9_init 44 = .ok (.aload_n 2, 1) := by decide +kernel
theorem dX9_init_45 : decode cX9_init 45 = .ok (.putfield 28, 3) := by decide +kernel
theorem dX9_init_48 : decode cX9_init 48 = .ok (.return_, 1) := by decide +kernel
theorem dX3_init_0 : decode cX3_init 0 = .ok (.aload_n 0, 1) := by decide +kernel
theorem dX3_init_1 : decode cX3_init 1 = .ok (.invokespecial 3, 3) := by decide +kernel
theorem dX3_init_4 : decode cX3_init 4 = .ok (.aload_n 0, 1) := by decide +kernel
theorem dX3_init_5 : decode cX3_init 5 = .ok (.sipush 12400, 3) := by decide +kernel
theorem dX3_init_8 : decode cX3_init 8 = .ok (.newarray .int, 2) := by decide +kernel
theorem dX3_init_10 : decode cX3_init 10 = .ok (.putfield 11, 3) := by decide +kernel
theorem dX3_init_13 : decode cX3_init 13 = .ok (.aload_n 0, 1) := by decide +kernel
theorem dX3_init_14 : decode cX3_init 14 = .ok (.sipush 400, 3) := by decide +kernel
theorem dX3_init_17 : decode cX3_init 17 = .ok (.newarray .int, 2) := by decide +kernel
theorem dX3_init_19 : decode cX3_init 19 = .ok (.putfield 15, 3) := by decide +kernel
theorem dX3_init_22 : decode cX3_init 22 = .ok (.aload_n 0, 1) := by decide +kernel
theorem dX3_init_23 : decode cX3_init 23 = .ok (.aload_n 1, 1) := by decide +kernel
theorem dX3_init_24 : decode cX3_init 24 = .ok (.putfield 18, 3) := by decide +kernel
theorem dX3_init_27 : decode cX3_init 27 = .ok (.return_, 1) := by decide +kernel
theorem dX10_init_0 : decode cX10_init 0 = .ok (.aload_n 0, 1) := by decide +kernel
theorem dX10_init_1 : decode cX10_init 1 = .ok (.invokespecial 3, 3) := by decide +kernel
theorem dX10_init_4 : decode cX10_init 4 = .ok (.aload_n 0, 1) := by decide +kernel
theorem dX10_init_5 : decode cX10_init 5 = .ok (.bipush 40, 2) := by decide +kernel
theorem dX10_init_7 : decode cX10_init 7 = .ok (.newarray .long, 2) := by decide +kernel
theorem dX10_init_9 : decode cX10_init 9 = .ok (.putfield 11, 3) := by decide +kernel
theorem dX10_init_12 : decode cX10_init 12 = .ok (.aload_n 0, 1) := by decide +kernel
theorem dX10_init_13 : decode cX10_init 13 = .ok (.iconst (-1), 1) := by decide +kernel
theorem dX10_init_14 : decode cX10_init 14 = .ok (.putfield 15, 3) := by decide +kernel
theorem dX10_init_17 : decode cX10_init 17 = .ok (.return_, 1) := by decide +kernel
theorem dX12_init_0 : decode cX12_init 0 = .ok (.aload_n 0, 1) := by decide +kernel
theorem dX12_init_1 : decode cX12_init 1 = .ok (.invokespecial 7, 3) := by decide +kernel
theorem dX12_init_4 : decode cX12_init 4 = .ok (.aload_n 0, 1) := by decide +kernel
theorem dX12_init_5 : decode cX12_init 5 = .ok (.sipush 5322, 3) := by decide +kernel
theorem dX12_init_8 : decode cX12_init 8 = .ok (.newarray .int, 2) := by decide +kernel
theorem dX12_init_10 : decode cX12_init 10 = .ok (.putfield 13, 3) := by decide +kernel
theorem dX12_init_13 : decode cX12_init 13 = .ok (.aload_n 0, 1) := by decide +kernel
theorem dX12_init_14 : decode cX12_init 14 = .ok (.iconst 2, 1) := by decide +kernel
theorem dX12_init_15 : decode cX12_init 15 = .ok (.newarray .boolean, 2) := by decide +kernel
theorem dX12_init_17 : decode cX12_init 17 = .ok (.putfield 17, 3) := by decide +kernel
theorem dX12_init_20 : decode cX12_init 20 = .ok (.aload_n 0, 1) := by decide +kernel
theorem dX12_init_21 : decode cX12_init 21 = .ok (.sipush 900, 3) := by decide +kernel
theorem dX12_init_24 : decode cX12_init 24 = .ok (.newarray .int, 2) := by decide +kernel
theorem dX12_init_26 : decode cX12_init 26 = .ok (.putfield 21, 3) := by decide +kernel
theorem dX12_init_29 : decode cX12_init 29 = .ok (.aload_n 0, 1) := by decide +kernel
theorem dX12_init_30 : decode cX12_init 30 = .ok (.sipush 1774, 3) := by decide +kernel
theorem dX12_init_33 : decode cX12_init 33 = .ok (.newarray .int, 2) := by decide +kernel
theorem dX12_init_35 : decode cX12_init 35 = .ok (.putfield 24, 3) := by decide +kernel
theorem dX12_init_38 : decode cX12_init 38 = .ok (.aload_n 0, 1) := by decide +kernel
theorem dX12_init_39 : decode cX12_init 39 = .ok (.iconst (-1), 1) := by decide +kernel
theorem dX12_init_40 : decode cX12_init 40 = .ok (.putfield 27, 3) := by decide +kernel
theorem dX12_init_43 : decode cX12_init 43 = .ok (.aload_n 0, 1) := by decide +kernel
theorem dX12_init_44 : decode cX12_init 44 = .ok (.sipush 900, 3) := by decide +kernel
theorem dX12_init_47 : decode cX12_init 47 = .ok (.newarray .int, 2) := by decide +kernel
theorem dX12_init_49 : decode cX12_init 49 = .ok (.putfield 30, 3) := by decide +kernel
theorem dX12_init_52 : decode cX12_init 52 = .ok (.aload_n 0, 1) := by decide +kernel
theorem dX12_init_53 : decode cX12_init 53 = .ok (.bipush 76, 2) := by decide +kernel
theorem dX12_init_55 : decode cX12_init 55 = .ok (.newarray .int, 2) := by decide +kernel
theorem dX12_init_57 : decode cX12_init 57 = .ok (.putfield 33, 3) := by decide +kernel
theorem dX12_init_60 : decode cX12_init 60 = .ok (.aload_n 0, 1) := by decide +kernel
theorem dX12_init_61 : decode cX12_init 61 = .ok (.bipush 76, 2) := by decide +kernel
theorem dX12_init_63 : decode cX12_init 63 = .ok (.newarray .int, 2) := by decide +kernel
theorem dX12_init_65 : decode cX12_init 65 = .ok (.putfield 36, 3) := by decide +kernel
theorem dX12_init_68 : decode cX12_init 68 = .ok (.aload_n 0, 1) := by decide +kernel
theorem dX12_init_69 : decode cX12_init 69 = .ok (.sipush 6100, 3) := by decide +kernel
theorem dX12_init_72 : decode cX12_init 72 = .ok (.newarray .int, 2) := by decide +kernel
theorem dX12_init_74 : decode cX12_init 74 = .ok (.putfield 39, 3) := by decide +kernel
theorem dX12_init_77 : decode cX12_init 77 = .ok (.aload_n 0, 1) := by decide +kernel
theorem dX12_init_78 : decode cX12_init 78 = .ok (.sipush 6100, 3) := by decide +kernel
theorem dX12_init_81 : decode cX12_init 81 = .ok (.newarray .int, 2) := by decide +kernel
theorem dX12_init_83 : decode cX12_init 83 = .ok (.putfield 42, 3) := by decide +kernel
theorem dX12_init_86 : decode cX12_init 86 = .ok (.aload_n 0, 1) := by decide +kernel
theorem dX12_init_87 : decode cX12_init 87 = .ok (.sipush 6100, 3) := by decide +kernel
theorem dX12_init_90 : decode cX12_init 90 = .ok (.newarray .int, 2) := by decide +kernel
theorem dX12_init_92 : decode cX12_init 92 = .ok (.putfield 45, 3) := by decide +kernel
theorem dX12_init_95 : decode cX12_init 95 = .ok (.aload_n 0, 1) := by decide +kernel
theorem dX12_init_96 : decode cX12_init 96 = .ok (.sipush 6100, 3) := by decide +kernel
theorem dX12_init_99 : decode cX12_init 99 = .ok (.newarray .boolean, 2) := by decide +kernel
theorem dX12_init_101 : decode cX12_init 101 = .ok (.putfield 48, 3) := by decide +kernel
theorem dX12_init_104 : decode cX12_init 104 = .ok (.aload_n 0, 1) := by decide +kernel
theorem dX12_init_105 : decode cX12_init 105 = .ok (.sipush 1525, 3) := by decide +kernel
theorem dX12_init_108 : decode cX12_init 108 = .ok (.newarray .boolean, 2) := by decide +kernel
theorem dX12_init_110 : decode cX12_init 110 = .ok (.putfield 51, 3) := by decide +kernel
theorem dX12_init_113 : decode cX12_init 113 = .ok (.aload_n 0, 1) := by decide +kernel
theorem dX12_init_114 : decode cX12_init 114 = .ok (.bipush 60, 2) := by decide +kernel
theorem dX12_init_116 : decode cX12_init 116 = .ok (.newarray .int, 2) := by decide +kernel
theorem dX12_init_118 : decode cX12_init 118 = .ok (.putfield 54, 3) := by decide +kernel
theorem dX12_init_121 : decode cX12_init 121 = .ok (.aload_n 0, 1) := by decide +kernel
theorem dX12_init_122 : decode cX12_init 122 = .ok (.sipush 4100, 3) := by decide +kernel
theorem dX12_init_125 : decode cX12_init 125 = .ok (.newarray .long, 2) := by decide +kernel
theorem dX12_init_127 : decode cX12_init 127 = .ok (.putfield 57, 3) := by decide +kernel
theorem dX12_init_130 : decode cX12_init 130 = .ok (.aload_n 0, 1) := by decide +kernel
theorem dX12_init_131 : decode cX12_init 131 = .ok (.sipush 4100, 3) := by decide +kernel
theorem dX12_init_134 : decode cX12_init 134 = .ok (.newarray .long, 2) := by decide +kernel
theorem dX12_init_136 : decode cX12_init 136 = .ok (.putfield 61, 3) := by decide +kernel
theorem dX12_init_139 : decode cX12_init 139 = .ok (.aload_n 0, 1) := by decide +kernel
theorem dX12_init_140 : decode cX12_init 140 = .ok (.bipush 100, 2) := by decide +kernel
theorem dX12_init_142 : decode cX12_init 142 = .ok (.newarray .boolean, 2) := by decide +kernel
theorem dX12_init_144 : decode cX12_init 144 = .ok (.putfield 64, 3) := by decide +kernel
theorem dX12_init_147 : decode cX12_init 147 = .ok (.aload_n 0, 1) := by decide +kernel
theorem dX12_init_148 : decode cX12_init 148 = .ok (.bipush 100, 2) := by decide +kernel
theorem dX12_init_150 : decode cX12_init 150 = .ok (.newarray .boolean, 2) := by decide +kernel
theorem dX12_init_152 : decode cX12_init 152 = .ok (.putfield 67, 3) := by decide +kernel
theorem dX12_init_155 : decode cX12_init 155 = .ok (.aload_n 0, 1) := by decide +kernel
theorem dX12_init_156 : decode cX12_init 156 = .ok (.iconst 4, 1) := by decide +kernel
theorem dX12_init_157 : decode cX12_init 157 = .ok (.newarray .int, 2) := by decide +kernel
theorem dX12_init_159 : decode cX12_init 159 = .ok (.putfield 70, 3) := by decide +kernel
theorem dX12_init_162 : decode cX12_init 162 = .ok (.aload_n 0, 1) := by decide +kernel
theorem dX12_init_163 : decode cX12_init 163 = .ok (.iconst 4, 1) := by decide +kernel
theorem dX12_init_164 : decode cX12_init 164 = .ok (.newarray .int, 2) := by decide +kernel
theorem dX12_init_166 : decode cX12_init 166 = .ok (.putfield 73, 3) := by decide +kernel
theorem dX12_init_169 : decode cX12_init 169 = .ok (.aload_n 0, 1) := by decide +kernel
theorem dX12_init_170 : decode cX12_init 170 = .ok (.sipush 1100, 3) := by decide +kernel
theorem dX12_init_173 : decode cX12_init 173 = .ok (.newarray .boolean, 2) := by decide +kernel
theorem dX12_init_175 : decode cX12_init 175 = .ok (.putfield 76, 3) := by decide +kernel
theorem dX12_init_178 : decode cX12_init 178 = .ok (.aload_n 0, 1) := by decide +kernel
theorem dX12_init_179 : decode cX12_init 179 = .ok (.sipush 1100, 3) := by decide +kernel
theorem dX12_init_182 : decode cX12_init 182 = .ok (.newarray .boolean, 2) := by decide +kernel
theorem dX12_init_184 : decode cX12_init 184 = .ok (.putfield 79, 3) := by decide +kernel
theorem dX12_init_187 : decode cX12_init 187 = .ok (.aload_n 0, 1) := by decide +kernel
theorem dX12_init_188 : decode cX12_init 188 = .ok (.sipush 10000, 3) := by decide +kernel
theorem dX12_init_191 : decode cX12_init 191 = .ok (.newarray .byte, 2) := by decide +kernel
theorem dX12_init_193 : decode cX12_init 193 = .ok (.putfield 82, 3) := by decide +kernel
theorem dX12_init_196 : decode cX12_init 196 = .ok (.aload_n 0, 1) := by decide +kernel
theorem dX12_init_197 : decode cX12_init 197 = .ok (.iconst 4, 1) := by decide +kernel
theorem dX12_init_198 : decode cX12_init 198 = .ok (.newarray .int, 2) := by decide +kernel
theorem dX12_init_200 : decode cX12_init 200 = .ok (.dup, 1) := by decide +kernel
theorem dX12_init_201 : decode cX12_init 201 = .ok (.iconst 0, 1) := by decide +kernel
theorem dX12_init_202 : decode cX12_init 202 = .ok (.iconst (-1), 1) := by decide +kernel
theorem dX12_init_203 : decode cX12_init 203 = .ok (.iastore, 1) := by decide +kernel
theorem dX12_init_204 : decode cX12_init 204 = .ok (.dup, 1) := by decide +kernel
theorem dX12_init_205 : decode cX12_init 205 = .ok (.iconst 1, 1) := by decide +kernel
theorem dX12_init_206 : decode cX12_init 206 = .ok (.iconst (-1), 1) := by decide +kernel
theorem dX12_init_207 : decode cX12_init 207 = .ok (.iastore, 1) := by decide +kernel
theorem dX12_init_208 : decode cX12_init 208 = .ok (.dup, 1) := by decide +kernel
theorem dX12_init_209 : decode cX12_init 209 = .ok (.iconst 2, 1) := by decide +kernel
theorem dX12_init_210 : decode cX12_init 210 = .ok (.iconst (-1), 1) := by decide +kernel
theorem dX12_init_211 : decode cX12_init 211 = .ok (.iastore, 1) := by decide +kernel
theorem dX12_init_212 : decode cX12_init 212 = .ok (.dup, 1) := by decide +kernel
theorem dX12_init_213 : decode cX12_init 213 = .ok (.iconst 3, 1) := by decide +kernel
theorem dX12_init_214 : decode cX12_init 214 = .ok (.iconst (-1), 1) := by decide +kernel
theorem dX12_init_215 : decode cX12_init 215 = .ok (.iastore, 1) := by decide +kernel
theorem dX12_init_216 : decode cX12_init 216 = .ok (.putfield 86, 3) := by decide +kernel
theorem dX12_init_219 : decode cX12_init 219 = .ok (.aload_n 0, 1) := by decide +kernel
theorem dX12_init_220 : decode cX12_init 220 = .ok (.iconst 4, 1) := by decide +kernel
theorem dX12_init_221 : decode cX12_init 221 = .ok (.newarray .int, 2) := by decide +kernel
theorem dX12_init_223 : decode cX12_init 223 = .ok (.putfield 89, 3) := by decide +kernel
theorem dX12_init_226 : decode cX12_init 226 = .ok (.aload_n 0, 1) := by decide +kernel
theorem dX12_init_227 : decode cX12_init 227 = .ok (.sipush 160, 3) := by decide +kernel
theorem dX12_init_230 : decode cX12_init 230 = .ok (.newarray .long, 2) := by decide +kernel
theorem dX12_init_232 : decode cX12_init 232 = .ok (.putfield 92, 3) := by decide +kernel
theorem dX12_init_235 : decode cX12_init 235 = .ok (.aload_n 0, 1) := by decide +kernel
theorem dX12_init_236 : decode cX12_init 236 = .ok (.getfield 13, 3) := by decide +kernel
theorem dX12_init_239 : decode cX12_init 239 = .ok (.invokestatic 95, 3) := by decide +kernel
theorem dX12_init_242 : decode cX12_init 242 = .ok (.return_, 1) := by decide +kernel
set_option maxHeartbeats 4000000 in
set_option maxRecDepth 100000 in
theorem c_X4_init (l : Launch) (G : GG) (a : Nat) : Mt l yX4_init cX4_init 1 none 1 3 970 G [.ref a] [(a, .inr (4, [.null, .null, .null, .int 0, .int 0]))] (Rv (S := (Nat → Nat)) G (fun _ => True) (fun u => [(a, .inr (4, [.ref (u 0), .ref (u 1), .ref (u 2), .int 0, .int 0])), (u 0, .inl (G.2 1, 900, .inl (fun _ => 0))), (u 1, .inl (G.2 1, 64, .inl (fun _ => 0))), (u 2, .inl (G.2 1, 6, .inl (fun _ => 0)))])) := by
  refine Mt.start (by decide) (Nat.le_of_ble_eq_true rfl) ?_
  intro p e s m below meth c A ls C0 hini h hl
  have C0 : Cx p s m _ meth c RX4 cX4_init 1 none := C0
  obtain ⟨hx, hb, hml, hown, hts, -⟩ := id C0
  have hl : lv_has ls 1 [(0, .ref a)] := hl
  have hini : meth.name = "<init>" := hini
  refine lv_aload_n hx hb dX4_init_0 rfl (lv_at hl 0 rfl) ?_
  refine m_objInit C0 hl.1 q_166 q_153 q_154 dX4_init_1 (Nat.le_of_ble_eq_true rfl) (Nat.le_of_ble_eq_true rfl) ?_
  refine lv_aload_n hx hb dX4_init_4 rfl (lv_at hl 0 rfl) ?_
  refine lv_sipush (v := 900) hx hb dX4_init_5 (by decide) ?_
  refine m_newa (atype := .int) (ty := .int) (a0 := (900, .inl (fun _ => 0))) C0 h 1 rfl rfl rfl q_183 (fun _ => rfl) (by decide) (by decide) (Nat.le_of_ble_eq_true rfl) (Nat.le_of_ble_eq_true rfl) (Nat.le_of_ble_eq_true rfl) dX4_init_8 (fun qz_1 H h => ?_)
  have h : Wd G A s _ _ [(a, .inr (4, [.null, .null, .null, .int 0, .int 0])), (qz_1, .inl (G.2 1, 900, .inl (fun _ => 0)))] := h
  refine f_X4_code (ws' := [(a, .inr (4, [.ref qz_1, .null, .null, .int 0, .int 0])), (qz_1, .inl (G.2 1, 900, .inl (fun _ => 0)))]) C0 h hini 0 q_167 rfl (Nat.le_of_ble_eq_true rfl) rfl rfl rfl dX4_init_10 (fun H locs h => ?_)
  refine lv_aload_n hx hb dX4_init_13 rfl (lv_at hl 0 rfl) ?_
  refine lv_bipush (v := 64) hx hb dX4_init_14 (by decide) ?_
  refine m_newa (atype := .int) (ty := .int) (a0 := (64, .inl (fun _ => 0))) C0 h 1 rfl rfl rfl q_183 (fun _ => rfl) (by decide) (by decide) (Nat.le_of_ble_eq_true rfl) (Nat.le_of_ble_eq_true rfl) (Nat.le_of_ble_eq_true rfl) dX4_init_16 (fun qz_2 H h => ?_)
  have h : Wd G A s _ _ [(a, .inr (4, [.ref qz_1, .null, .null, .int 0, .int 0])), (qz_1, .inl (G.2 1, 900, .inl (fun _ => 0))), (qz_2, .inl (G.2 1, 64, .inl (fun _ => 0)))] := h
  refine f_X4_stack (ws' := [(a, .inr (4, [.ref qz_1, .ref qz_2, .null, .int 0, .int 0])), (qz_1, .inl (G.2 1, 900, .inl (fun _ => 0))), (qz_2, .inl (G.2 1, 64, .inl (fun _ => 0)))]) C0 h hini 0 q_168 rfl (Nat.le_of_ble_eq_true rfl) rfl rfl rfl dX4_init_18 (fun H locs h => ?_)
  refine lv_aload_n hx hb dX4_init_21 rfl (lv_at hl 0 rfl) ?_
  refine lv_bipush (v := 6) hx hb dX4_init_22 (by decide) ?_
  refine m_newa (atype := .int) (ty := .int) (a0 := (6, .inl (fun _ => 0))) C0 h 1 rfl rfl rfl q_183 (fun _ => rfl) (by decide) (by decide) (Nat.le_of_ble_eq_true rfl) (Nat.le_of_ble_eq_true rfl) (Nat.le_of_ble_eq_true rfl) dX4_init_24 (fun qz_3 H h => ?_)
  have h : Wd G A s _ _ [(a, .inr (4, [.ref qz_1, .ref qz_2, .null, .int 0, .int 0])), (qz_1, .inl (G.2 1, 900, .inl (fun _ => 0))), (qz_2, .inl (G.2 1, 64, .inl (fun _ => 0))), (qz_3, .inl (G.2 1, 6, .inl (fun _ => 0)))] := h
  refine f_X4_names (ws' := [(a, .inr (4, [.ref qz_1, .ref qz_2, .ref qz_3, .int 0, .int 0])), (qz_1, .inl (G.2 1, 900, .inl (fun _ => 0))), (qz_2, .inl (G.2 1, 64, .inl (fun _ => 0))), (qz_3, .inl (G.2 1, 6, .inl (fun _ => 0)))]) C0 h hini 0 q_169 rfl (Nat.le_of_ble_eq_true rfl) rfl rfl rfl dX4_init_26 (fun H locs h => ?_)
  exact m_vret (adl [qz_1, qz_2, qz_3]) C0 h [0, 1, 2, 3] (by decide) rfl trivial (Nat.le_of_ble_eq_true rfl) (Nat.le_of_ble_eq_true rfl) dX4_init_29
set_option maxHeartbeats 4000000 in
set_option maxRecDepth 100000 in
theorem c_X1_init (l : Launch) (G : GG) (a : Nat) : Mt l yX1_init cX1_init 1 none 1 7 75 G [.ref a] [(a, .inr (1, [.null, .null, .null, .null, .null, .null, .null, .int 0, .int 0]))] (Rv (S := (Nat → Nat)) G (fun _ => True) (fun u => [(a, .inr (1, [.ref (u 0), .ref (u 1), .ref (u 2), .ref (u 3), .ref (u 4), .ref (u 5), .ref (u 6), .int 0, .int 0])), (u 0, .inl (G.2 1, 5, .inl (fun _ => 0))), (u 1, .inl (G.2 1, 5, .inl (fun _ => 0))), (u 2, .inl (G.2 1, 5, .inl (fun _ => 0))), (u 3, .inl (G.2 1, 5, .inl (fun _ => 0))), (u 4, .inl (G.2 1, 5, .inl (fun _ => 0))), (u 5, .inl (G.2 1, 25, .inl (fun _ => 0))), (u 6, .inl (G.2 1, 25, .inl (fun _ => 0)))])) := by
  refine Mt.start (by decide) (Nat.le_of_ble_eq_true rfl) ?_
  intro p e s m below meth c A ls C0 hini h hl
  have C0 : Cx p s m _ meth c RX1 cX1_init 1 none := C0
  obtain ⟨hx, hb, hml, hown, hts, -⟩ := id C0
  have hl : lv_has ls 1 [(0, .ref a)] := hl
  have hini : meth.name = "<init>" := hini
  refine lv_aload_n hx hb dX1_init_0 rfl (lv_at hl 0 rfl) ?_
  refine m_objInit C0 hl.1 q_189 q_153 q_154 dX1_init_1 (Nat.le_of_ble_eq_true rfl) (Nat.le_of_ble_eq_true rfl) ?_
  refine lv_aload_n hx hb dX1_init_4 rfl (lv_at hl 0 rfl) ?_
  refine lv_iconst (v := 5) hx hb dX1_init_5 (by decide) ?_
  refine m_newa (atype := .int) (ty := .int) (a0 := (5, .inl (fun _ => 0))) C0 h 1 rfl rfl rfl q_183 (fun _ => rfl) (by decide) (by decide) (Nat.le_of_ble_eq_true rfl) (Nat.le_of_ble_eq_true rfl) (Nat.le_of_ble_eq_true rfl) dX1_init_6 (fun qz_1 H h => ?_)
  have h : Wd G A s _ _ [(a, .inr (1, [.null, .null, .null, .null, .null, .null, .null, .int 0, .int 0])), (qz_1, .inl (G.2 1, 5, .inl (fun _ => 0)))] := h
  refine f_X1_at (ws' := [(a, .inr (1, [.ref qz_1, .null, .null, .null, .null, .null, .null, .int 0, .int 0])), (qz_1, .inl (G.2 1, 5, .inl (fun _ => 0)))]) C0 h hini 0 q_190 rfl (Nat.le_of_ble_eq_true rfl) rfl rfl rfl dX1_init_8 (fun H locs h => ?_)
  refine lv_aload_n hx hb dX1_init_11 rfl (lv_at hl 0 rfl) ?_
  refine lv_iconst (v := 5) hx hb dX1_init_12 (by decide) ?_
  refine m_newa (atype := .int) (ty := .int) (a0 := (5, .inl (fun _ => 0))) C0 h 1 rfl rfl rfl q_183 (fun _ => rfl) (by decide) (by decide) (Nat.le_of_ble_eq_true rfl) (Nat.le_of_ble_eq_true rfl) (Nat.le_of_ble_eq_true rfl) dX1_init_13 (fun qz_2 H h => ?_)
  have h : Wd G A s _ _ [(a, .inr (1, [.ref qz_1, .null, .null, .null, .null, .null, .null, .int 0, .int 0])), (qz_1, .inl (G.2 1, 5, .inl (fun _ => 0))), (qz_2, .inl (G.2 1, 5, .inl (fun _ => 0)))] := h
  refine f_X1_heads (ws' := [(a, .inr (1, [.ref qz_1, .ref qz_2, .null, .null, .null, .null, .null, .int 0, .int 0])), (qz_1, .inl (G.2 1, 5, .inl (fun _ => 0))), (qz_2, .inl (G.2 1, 5, .inl (fun _ => 0)))]) C0 h hini 0 q_193 rfl (Nat.le_of_ble_eq_true rfl) rfl rfl rfl dX1_init_15 (fun H locs h => ?_)
  refine lv_aload_n hx hb dX1_init_18 rfl (lv_at hl 0 rfl) ?_
  refine lv_iconst (v := 5) hx hb dX1_init_19 (by decide) ?_
  refine m_newa (atype := .int) (ty := .int) (a0 := (5, .inl (fun _ => 0))) C0 h 1 rfl rfl rfl q_183 (fun _ => rfl) (by decide) (by decide) (Nat.le_of_ble_eq_true rfl) (Nat.le_of_ble_eq_true rfl) (Nat.le_of_ble_eq_true rfl) dX1_init_20 (fun qz_3 H h => ?_)
  have h : Wd G A s _ _ [(a, .inr (1, [.ref qz_1, .ref qz_2, .null, .null, .null, .null, .null, .int 0, .int 0])), (qz_1, .inl (G.2 1, 5, .inl (fun _ => 0))), (qz_2, .inl (G.2 1, 5, .inl (fun _ => 0))), (qz_3, .inl (G.2 1, 5, .inl (fun _ => 0)))] := h
  refine f_X1_lefts (ws' := [(a, .inr (1, [.ref qz_1, .ref qz_2, .ref qz_3, .null, .null, .null, .null, .int 0, .int 0])), (qz_1, .inl (G.2 1, 5, .inl (fun _ => 0))), (qz_2, .inl (G.2 1, 5, .inl (fun _ => 0))), (qz_3, .inl (G.2 1, 5, .inl (fun _ => 0)))]) C0 h hini 0 q_196 rfl (Nat.le_of_ble_eq_true rfl) rfl rfl rfl dX1_init_22 (fun H locs h => ?_)
  refine lv_aload_n hx hb dX1_init_25 rfl (lv_at hl 0 rfl) ?_
  refine lv_iconst (v := 5) hx hb dX1_init_26 (by decide) ?_
  refine m_newa (atype := .int) (ty := .int) (a0 := (5, .inl (fun _ => 0))) C0 h 1 rfl rfl rfl q_183 (fun _ => rfl) (by decide) (by decide) (Nat.le_of_ble_eq_true rfl) (Nat.le_of_ble_eq_true rfl) (Nat.le_of_ble_eq_true rfl) dX1_init_27 (fun qz_4 H h => ?_)
  have h : Wd G A s _ _ [(a, .inr (1, [.ref qz_1, .ref qz_2, .ref qz_3, .null, .null, .null, .null, .int 0, .int 0])), (qz_1, .inl (G.2 1, 5, .inl (fun _ => 0))), (qz_2, .inl (G.2 1, 5, .inl (fun _ => 0))), (qz_3, .inl (G.2 1, 5, .inl (fun _ => 0))), (qz_4, .inl (G.2 1, 5, .inl (fun _ => 0)))] := h
  refine f_X1_coins (ws' := [(a, .inr (1, [.ref qz_1, .ref qz_2, .ref qz_3, .ref qz_4, .null, .null, .null, .int 0, .int 0])), (qz_1, .inl (G.2 1, 5, .inl (fun _ => 0))), (qz_2, .inl (G.2 1, 5, .inl (fun _ => 0))), (qz_3, .inl (G.2 1, 5, .inl (fun _ => 0))), (qz_4, .inl (G.2 1, 5, .inl (fun _ => 0)))]) C0 h hini 0 q_199 rfl (Nat.le_of_ble_eq_true rfl) rfl rfl rfl dX1_init_29 (fun H locs h => ?_)
  refine lv_aload_n hx hb dX1_init_32 rfl (lv_at hl 0 rfl) ?_
  refine lv_iconst (v := 5) hx hb dX1_init_33 (by decide) ?_
  refine m_newa (atype := .int) (ty := .int) (a0 := (5, .inl (fun _ => 0))) C0 h 1 rfl rfl rfl q_183 (fun _ => rfl) (by decide) (by decide) (Nat.le_of_ble_eq_true rfl) (Nat.le_of_ble_eq_true rfl) (Nat.le_of_ble_eq_true rfl) dX1_init_34 (fun qz_5 H h => ?_)
  have h : Wd G A s _ _ [(a, .inr (1, [.ref qz_1, .ref qz_2, .ref qz_3, .ref qz_4, .null, .null, .null, .int 0, .int 0])), (qz_1, .inl (G.2 1, 5, .inl (fun _ => 0))), (qz_2, .inl (G.2 1, 5, .inl (fun _ => 0))), (qz_3, .inl (G.2 1, 5, .inl (fun _ => 0))), (qz_4, .inl (G.2 1, 5, .inl (fun _ => 0))), (qz_5, .inl (G.2 1, 5, .inl (fun _ => 0)))] := h
  refine f_X1_used (ws' := [(a, .inr (1, [.ref qz_1, .ref qz_2, .ref qz_3, .ref qz_4, .ref qz_5, .null, .null, .int 0, .int 0])), (qz_1, .inl (G.2 1, 5, .inl (fun _ => 0))), (qz_2, .inl (G.2 1, 5, .inl (fun _ => 0))), (qz_3, .inl (G.2 1, 5, .inl (fun _ => 0))), (qz_4, .inl (G.2 1, 5, .inl (fun _ => 0))), (qz_5, .inl (G.2 1, 5, .inl (fun _ => 0)))]) C0 h hini 0 q_202 rfl (Nat.le_of_ble_eq_true rfl) rfl rfl rfl dX1_init_36 (fun H locs h => ?_)
  refine lv_aload_n hx hb dX1_init_39 rfl (lv_at hl 0 rfl) ?_
  refine lv_bipush (v := 25) hx hb dX1_init_40 (by decide) ?_
  refine m_newa (atype := .int) (ty := .int) (a0 := (25, .inl (fun _ => 0))) C0 h 1 rfl rfl rfl q_183 (fun _ => rfl) (by decide) (by decide) (Nat.le_of_ble_eq_true rfl) (Nat.le_of_ble_eq_true rfl) (Nat.le_of_ble_eq_true rfl) dX1_init_42 (fun qz_6 H h => ?_)
  have h : Wd G A s _ _ [(a, .inr (1, [.ref qz_1, .ref qz_2, .ref qz_3, .ref qz_4, .ref qz_5, .null, .null, .int 0, .int 0])), (qz_1, .inl (G.2 1, 5, .inl (fun _ => 0))), (qz_2, .inl (G.2 1, 5, .inl (fun _ => 0))), (qz_3, .inl (G.2 1, 5, .inl (fun _ => 0))), (qz_4, .inl (G.2 1, 5, .inl (fun _ => 0))), (qz_5, .inl (G.2 1, 5, .inl (fun _ => 0))), (qz_6, .inl (G.2 1, 25, .inl (fun _ => 0)))] := h
  refine f_X1_sold (ws' := [(a, .inr (1, [.ref qz_1, .ref qz_2, .ref qz_3, .ref qz_4, .ref qz_5, .ref qz_6, .null, .int 0, .int 0])), (qz_1, .inl (G.2 1, 5, .inl (fun _ => 0))), (qz_2, .inl (G.2 1, 5, .inl (fun _ => 0))), (qz_3, .inl (G.2 1, 5, .inl (fun _ => 0))), (qz_4, .inl (G.2 1, 5, .inl (fun _ => 0))), (qz_5, .inl (G.2 1, 5, .inl (fun _ => 0))), (qz_6, .inl (G.2 1, 25, .inl (fun _ => 0)))]) C0 h hini 0 q_205 rfl (Nat.le_of_ble_eq_true rfl) rfl rfl rfl dX1_init_44 (fun H locs h => ?_)
  refine lv_aload_n hx hb dX1_init_47 rfl (lv_at hl 0 rfl) ?_
  refine lv_bipush (v := 25) hx hb dX1_init_48 (by decide) ?_
  refine m_newa (atype := .int) (ty := .int) (a0 := (25, .inl (fun _ => 0))) C0 h 1 rfl rfl rfl q_183 (fun _ => rfl) (by decide) (by decide) (Nat.le_of_ble_eq_true rfl) (Nat.le_of_ble_eq_true rfl) (Nat.le_of_ble_eq_true rfl) dX1_init_50 (fun qz_7 H h => ?_)
  have h : Wd G A s _ _ [(a, .inr (1, [.ref qz_1, .ref qz_2, .ref qz_3, .ref qz_4, .ref qz_5, .ref qz_6, .null, .int 0, .int 0])), (qz_1, .inl (G.2 1, 5, .inl (fun _ => 0))), (qz_2, .inl (G.2 1, 5, .inl (fun _ => 0))), (qz_3, .inl (G.2 1, 5, .inl (fun _ => 0))), (qz_4, .inl (G.2 1, 5, .inl (fun _ => 0))), (qz_5, .inl (G.2 1, 5, .inl (fun _ => 0))), (qz_6, .inl (G.2 1, 25, .inl (fun _ => 0))), (qz_7, .inl (G.2 1, 25, .inl (fun _ => 0)))] := h
  refine f_X1_fogEnds (ws' := [(a, .inr (1, [.ref qz_1, .ref qz_2, .ref qz_3, .ref qz_4, .ref qz_5, .ref qz_6, .ref qz_7, .int 0, .int 0])), (qz_1, .inl (G.2 1, 5, .inl (fun _ => 0))), (qz_2, .inl (G.2 1, 5, .inl (fun _ => 0))), (qz_3, .inl (G.2 1, 5, .inl (fun _ => 0))), (qz_4, .inl (G.2 1, 5, .inl (fun _ => 0))), (qz_5, .inl (G.2 1, 5, .inl (fun _ => 0))), (qz_6, .inl (G.2 1, 25, .inl (fun _ => 0))), (qz_7, .inl (G.2 1, 25, .inl (fun _ => 0)))]) C0 h hini 0 q_210 rfl (Nat.le_of_ble_eq_true rfl) rfl rfl rfl dX1_init_52 (fun H locs h => ?_)
  exact m_vret (adl [qz_1, qz_2, qz_3, qz_4, qz_5, qz_6, qz_7]) C0 h [0, 1, 2, 3, 4, 5, 6, 7] (by decide) rfl trivial (Nat.le_of_ble_eq_true rfl) (Nat.le_of_ble_eq_true rfl) dX1_init_55
set_option maxHeartbeats 4000000 in
set_option maxRecDepth 100000 in
theorem c_X0_init (l : Launch) (G : GG) (a : Nat) : Mt l yX0_init cX0_init 1 none 2 20 3000 G [.ref a] [(a, .inr (0, [.null, .null, .null, .null, .null, .int 0, .int 0, .int 0, .int 0]))] (Rv (S := (Nat → Nat)) G (fun _ => True) (fun u => [(a, .inr (0, [.ref (u 0), .ref (u 4), .ref (u 8), .ref (u 16), .ref (u 17), .int 0, .int 0, .int 0, .int 0])), (u 0, .inr (4, [.ref (u 1), .ref (u 2), .ref (u 3), .int 0, .int 0])), (u 1, .inl (G.2 1, 900, .inl (fun _ => 0))), (u 2, .inl (G.2 1, 64, .inl (fun _ => 0))), (u 3, .inl (G.2 1, 6, .inl (fun _ => 0))), (u 4, .inr (4, [.ref (u 5), .ref (u 6), .ref (u 7), .int 0, .int 0])), (u 5, .inl (G.2 1, 900, .inl (fun _ => 0))), (u 6, .inl (G.2 1, 64, .inl (fun _ => 0))), (u 7, .inl (G.2 1, 6, .inl (fun _ => 0))), (u 8, .inr (1, [.ref (u 9), .ref (u 10), .ref (u 11), .ref (u 12), .ref (u 13), .ref (u 14), .ref (u 15), .int 0, .int 0])), (u 9, .inl (G.2 1, 5, .inl (fun _ => 0))), (u 10, .inl (G.2 1, 5, .inl (fun _ => 0))), (u 11, .inl (G.2 1, 5, .inl (fun _ => 0))), (u 12, .inl (G.2 1, 5, .inl (fun _ => 0))), (u 13, .inl (G.2 1, 5, .inl (fun _ => 0))), (u 14, .inl (G.2 1, 25, .inl (fun _ => 0))), (u 15, .inl (G.2 1, 25, .inl (fun _ => 0))), (u 16, .inl (G.2 1, 4, .inl (fun _ => 0))), (u 17, .inl (G.2 1, 4, .inl (fun _ => 0)))])) := by
  refine Mt.start (by decide) (Nat.le_of_ble_eq_true rfl) ?_
  intro p e s m below meth c A ls C0 hini h hl
  have C0 : Cx p s m _ meth c RX0 cX0_init 1 none := C0
  obtain ⟨hx, hb, hml, hown, hts, -⟩ := id C0
  have hl : lv_has ls 1 [(0, .ref a)] := hl
  have hini : meth.name = "<init>" := hini
  refine lv_aload_n hx hb dX0_init_0 rfl (lv_at hl 0 rfl) ?_
  refine m_objInit C0 hl.1 q_160 q_153 q_154 dX0_init_1 (Nat.le_of_ble_eq_true rfl) (Nat.le_of_ble_eq_true rfl) ?_
  refine lv_aload_n hx hb dX0_init_4 rfl (lv_at hl 0 rfl) ?_
  refine m_new (ci := 4) (fs := [.null, .null, .null, .int 0, .int 0]) C0 h tyX4 tyX4_ok rfl gd_X4 q_161 q_162 q_127 (fun j hj => by rcases (show j = 0 ∨ j = 1 ∨ j = 2 ∨ j = 3 ∨ j = 4 by omega) with rfl | rfl | rfl | rfl | rfl <;> rfl) (Nat.le_of_ble_eq_true rfl) (Nat.le_of_ble_eq_true rfl) dX0_init_5 (fun qz_1 H h => ?_)
  have h : Wd G A s _ _ [(a, .inr (0, [.null, .null, .null, .null, .null, .int 0, .int 0, .int 0, .int 0])), (qz_1, .inr (4, [.null, .null, .null, .int 0, .int 0]))] := h
  refine lv_dup hx hb dX0_init_8 rfl ?_
  refine m_clv (wr := [(a, .inr (0, [.null, .null, .null, .null, .null, .int 0, .int 0, .int 0, .int 0]))]) h (m_rIN (As := []) (rest := [.ref qz_1, .ref a]) C0 h (c_X4_init l G qz_1) k_X4_init rfl q_164 C0.2.2.2.2.2.2.2.2.1 [1] (by decide) rfl hl.1 rfl rfl (Nat.le_of_ble_eq_true rfl) dX0_init_9 ⟨Nat.le_of_ble_eq_true rfl, Nat.le_of_ble_eq_true rfl⟩ ⟨Nat.le_of_ble_eq_true rfl, Nat.le_of_ble_eq_true rfl⟩) [1] [0] rfl rfl (by decide) (by decide) (fun u_2 H locs hp_3 h => ?_)
  have h : Wd G A s _ _ [(a, .inr (0, [.null, .null, .null, .null, .null, .int 0, .int 0, .int 0, .int 0])), (qz_1, .inr (4, [.ref (u_2 0), .ref (u_2 1), .ref (u_2 2), .int 0, .int 0])), (u_2 0, .inl (G.2 1, 900, .inl (fun _ => 0))), (u_2 1, .inl (G.2 1, 64, .inl (fun _ => 0))), (u_2 2, .inl (G.2 1, 6, .inl (fun _ => 0)))] := h
  refine f_X0_priceLaw (ws' := [(a, .inr (0, [.ref qz_1, .null, .null, .null, .null, .int 0, .int 0, .int 0, .int 0])), (qz_1, .inr (4, [.ref (u_2 0), .ref (u_2 1), .ref (u_2 2), .int 0, .int 0])), (u_2 0, .inl (G.2 1, 900, .inl (fun _ => 0))), (u_2 1, .inl (G.2 1, 64, .inl (fun _ => 0))), (u_2 2, .inl (G.2 1, 6, .inl (fun _ => 0)))]) C0 h hini 0 q_242 rfl (Nat.le_of_ble_eq_true rfl) rfl rfl rfl dX0_init_12 (fun H locs h => ?_)
  refine lv_aload_n hx hb dX0_init_15 rfl (lv_at hl 0 rfl) ?_
  refine m_new (ci := 4) (fs := [.null, .null, .null, .int 0, .int 0]) C0 h tyX4 tyX4_ok rfl gd_X4 q_161 q_162 q_127 (fun j hj => by rcases (show j = 0 ∨ j = 1 ∨ j = 2 ∨ j = 3 ∨ j = 4 by omega) with rfl | rfl | rfl | rfl | rfl <;> rfl) (Nat.le_of_ble_eq_true rfl) (Nat.le_of_ble_eq_true rfl) dX0_init_16 (fun qz_4 H h => ?_)
  have h : Wd G A s _ _ [(a, .inr (0, [.ref qz_1, .null, .null, .null, .null, .int 0, .int 0, .int 0, .int 0])), (qz_1, .inr (4, [.ref (u_2 0), .ref (u_2 1), .ref (u_2 2), .int 0, .int 0])), (u_2 0, .inl (G.2 1, 900, .inl (fun _ => 0))), (u_2 1, .inl (G.2 1, 64, .inl (fun _ => 0))), (u_2 2, .inl (G.2 1, 6, .inl (fun _ => 0))), (qz_4, .inr (4, [.null, .null, .null, .int 0, .int 0]))] := h
  refine lv_dup hx hb dX0_init_19 rfl ?_
  refine m_clv (wr := [(a, .inr (0, [.ref qz_1, .null, .null, .null, .null, .int 0, .int 0, .int 0, .int 0])), (qz_1, .inr (4, [.ref (u_2 0), .ref (u_2 1), .ref (u_2 2), .int 0, .int 0])), (u_2 0, .inl (G.2 1, 900, .inl (fun _ => 0))), (u_2 1, .inl (G.2 1, 64, .inl (fun _ => 0))), (u_2 2, .inl (G.2 1, 6, .inl (fun _ => 0)))]) h (m_rIN (As := []) (rest := [.ref qz_4, .ref a]) C0 h (c_X4_init l G qz_4) k_X4_init rfl q_164 C0.2.2.2.2.2.2.2.2.1 [5] (by decide) rfl hl.1 rfl rfl (Nat.le_of_ble_eq_true rfl) dX0_init_20 ⟨Nat.le_of_ble_eq_true rfl, Nat.le_of_ble_eq_true rfl⟩ ⟨Nat.le_of_ble_eq_true rfl, Nat.le_of_ble_eq_true rfl⟩) [5] [0, 1, 2, 3, 4] rfl rfl (by decide) (by decide) (fun u_5 H locs hp_6 h => ?_)
  have h : Wd G A s _ _ [(a, .inr (0, [.ref qz_1, .null, .null, .null, .null, .int 0, .int 0, .int 0, .int 0])), (qz_1, .inr (4, [.ref (u_2 0), .ref (u_2 1), .ref (u_2 2), .int 0, .int 0])), (u_2 0, .inl (G.2 1, 900, .inl (fun _ => 0))), (u_2 1, .inl (G.2 1, 64, .inl (fun _ => 0))), (u_2 2, .inl (G.2 1, 6, .inl (fun _ => 0))), (qz_4, .inr (4, [.ref (u_5 0), .ref (u_5 1), .ref (u_5 2), .int 0, .int 0])), (u_5 0, .inl (G.2 1, 900, .inl (fun _ => 0))), (u_5 1, .inl (G.2 1, 64, .inl (fun _ => 0))), (u_5 2, .inl (G.2 1, 6, .inl (fun _ => 0)))] := h
  refine f_X0_mayLaw (ws' := [(a, .inr (0, [.ref qz_1, .ref qz_4, .null, .null, .null, .int 0, .int 0, .int 0, .int 0])), (qz_1, .inr (4, [.ref (u_2 0), .ref (u_2 1), .ref (u_2 2), .int 0, .int 0])), (u_2 0, .inl (G.2 1, 900, .inl (fun _ => 0))), (u_2 1, .inl (G.2 1, 64, .inl (fun _ => 0))), (u_2 2, .inl (G.2 1, 6, .inl (fun _ => 0))), (qz_4, .inr (4, [.ref (u_5 0), .ref (u_5 1), .ref (u_5 2), .int 0, .int 0])), (u_5 0, .inl (G.2 1, 900, .inl (fun _ => 0))), (u_5 1, .inl (G.2 1, 64, .inl (fun _ => 0))), (u_5 2, .inl (G.2 1, 6, .inl (fun _ => 0)))]) C0 h hini 0 q_244 rfl (Nat.le_of_ble_eq_true rfl) rfl rfl rfl dX0_init_23 (fun H locs h => ?_)
  refine lv_aload_n hx hb dX0_init_26 rfl (lv_at hl 0 rfl) ?_
  refine m_new (ci := 1) (fs := [.null, .null, .null, .null, .null, .null, .null, .int 0, .int 0]) C0 h tyX1 tyX1_ok rfl gd_X1 q_184 q_185 q_128 (fun j hj => by rcases (show j = 0 ∨ j = 1 ∨ j = 2 ∨ j = 3 ∨ j = 4 ∨ j = 5 ∨ j = 6 ∨ j = 7 ∨ j = 8 by omega) with rfl | rfl | rfl | rfl | rfl | rfl | rfl | rfl | rfl <;> rfl) (Nat.le_of_ble_eq_true rfl) (Nat.le_of_ble_eq_true rfl) dX0_init_27 (fun qz_7 H h => ?_)
  have h : Wd G A s _ _ [(a, .inr (0, [.ref qz_1, .ref qz_4, .null, .null, .null, .int 0, .int 0, .int 0, .int 0])), (qz_1, .inr (4, [.ref (u_2 0), .ref (u_2 1), .ref (u_2 2), .int 0, .int 0])), (u_2 0, .inl (G.2 1, 900, .inl (fun _ => 0))), (u_2 1, .inl (G.2 1, 64, .inl (fun _ => 0))), (u_2 2, .inl (G.2 1, 6, .inl (fun _ => 0))), (qz_4, .inr (4, [.ref (u_5 0), .ref (u_5 1), .ref (u_5 2), .int 0, .int 0])), (u_5 0, .inl (G.2 1, 900, .inl (fun _ => 0))), (u_5 1, .inl (G.2 1, 64, .inl (fun _ => 0))), (u_5 2, .inl (G.2 1, 6, .inl (fun _ => 0))), (qz_7, .inr (1, [.null, .null, .null, .null, .null, .null, .null, .int 0, .int 0]))] := h
  refine lv_dup hx hb dX0_init_30 rfl ?_
  refine m_clv (wr := [(a, .inr (0, [.ref qz_1, .ref qz_4, .null, .null, .null, .int 0, .int 0, .int 0, .int 0])), (qz_1, .inr (4, [.ref (u_2 0), .ref (u_2 1), .ref (u_2 2), .int 0, .int 0])), (u_2 0, .inl (G.2 1, 900, .inl (fun _ => 0))), (u_2 1, .inl (G.2 1, 64, .inl (fun _ => 0))), (u_2 2, .inl (G.2 1, 6, .inl (fun _ => 0))), (qz_4, .inr (4, [.ref (u_5 0), .ref (u_5 1), .ref (u_5 2), .int 0, .int 0])), (u_5 0, .inl (G.2 1, 900, .inl (fun _ => 0))), (u_5 1, .inl (G.2 1, 64, .inl (fun _ => 0))), (u_5 2, .inl (G.2 1, 6, .inl (fun _ => 0)))]) h (m_rIN (As := []) (rest := [.ref qz_7, .ref a]) C0 h (c_X1_init l G qz_7) k_X1_init rfl q_187 C0.2.2.2.2.2.2.2.2.2.1 [9] (by decide) rfl hl.1 rfl rfl (Nat.le_of_ble_eq_true rfl) dX0_init_31 ⟨Nat.le_of_ble_eq_true rfl, Nat.le_of_ble_eq_true rfl⟩ ⟨Nat.le_of_ble_eq_true rfl, Nat.le_of_ble_eq_true rfl⟩) [9] [0, 1, 2, 3, 4, 5, 6, 7, 8] rfl rfl (by decide) (by decide) (fun u_8 H locs hp_9 h => ?_)
  have h : Wd G A s _ _ [(a, .inr (0, [.ref qz_1, .ref qz_4, .null, .null, .null, .int 0, .int 0, .int 0, .int 0])), (qz_1, .inr (4, [.ref (u_2 0), .ref (u_2 1), .ref (u_2 2), .int 0, .int 0])), (u_2 0, .inl (G.2 1, 900, .inl (fun _ => 0))), (u_2 1, .inl (G.2 1, 64, .inl (fun _ => 0))), (u_2 2, .inl (G.2 1, 6, .inl (fun _ => 0))), (qz_4, .inr (4, [.ref (u_5 0), .ref (u_5 1), .ref (u_5 2), .int 0, .int 0])), (u_5 0, .inl (G.2 1, 900, .inl (fun _ => 0))), (u_5 1, .inl (G.2 1, 64, .inl (fun _ => 0))), (u_5 2, .inl (G.2 1, 6, .inl (fun _ => 0))), (qz_7, .inr (1, [.ref (u_8 0), .ref (u_8 1), .ref (u_8 2), .ref (u_8 3), .ref (u_8 4), .ref (u_8 5), .ref (u_8 6), .int 0, .int 0])), (u_8 0, .inl (G.2 1, 5, .inl (fun _ => 0))), (u_8 1, .inl (G.2 1, 5, .inl (fun _ => 0))), (u_8 2, .inl (G.2 1, 5, .inl (fun _ => 0))), (u_8 3, .inl (G.2 1, 5, .inl (fun _ => 0))), (u_8 4, .inl (G.2 1, 5, .inl (fun _ => 0))), (u_8 5, .inl (G.2 1, 25, .inl (fun _ => 0))), (u_8 6, .inl (G.2 1, 25, .inl (fun _ => 0)))] := h
  refine f_X0_folk (ws' := [(a, .inr (0, [.ref qz_1, .ref qz_4, .ref qz_7, .null, .null, .int 0, .int 0, .int 0, .int 0])), (qz_1, .inr (4, [.ref (u_2 0), .ref (u_2 1), .ref (u_2 2), .int 0, .int 0])), (u_2 0, .inl (G.2 1, 900, .inl (fun _ => 0))), (u_2 1, .inl (G.2 1, 64, .inl (fun _ => 0))), (u_2 2, .inl (G.2 1, 6, .inl (fun _ => 0))), (qz_4, .inr (4, [.ref (u_5 0), .ref (u_5 1), .ref (u_5 2), .int 0, .int 0])), (u_5 0, .inl (G.2 1, 900, .inl (fun _ => 0))), (u_5 1, .inl (G.2 1, 64, .inl (fun _ => 0))), (u_5 2, .inl (G.2 1, 6, .inl (fun _ => 0))), (qz_7, .inr (1, [.ref (u_8 0), .ref (u_8 1), .ref (u_8 2), .ref (u_8 3), .ref (u_8 4), .ref (u_8 5), .ref (u_8 6), .int 0, .int 0])), (u_8 0, .inl (G.2 1, 5, .inl (fun _ => 0))), (u_8 1, .inl (G.2 1, 5, .inl (fun _ => 0))), (u_8 2, .inl (G.2 1, 5, .inl (fun _ => 0))), (u_8 3, .inl (G.2 1, 5, .inl (fun _ => 0))), (u_8 4, .inl (G.2 1, 5, .inl (fun _ => 0))), (u_8 5, .inl (G.2 1, 25, .inl (fun _ => 0))), (u_8 6, .inl (G.2 1, 25, .inl (fun _ => 0)))]) C0 h hini 0 q_247 rfl (Nat.le_of_ble_eq_true rfl) rfl rfl rfl dX0_init_34 (fun H locs h => ?_)
  refine lv_aload_n hx hb dX0_init_37 rfl (lv_at hl 0 rfl) ?_
  refine lv_iconst (v := 4) hx hb dX0_init_38 (by decide) ?_
  refine m_newa (atype := .int) (ty := .int) (a0 := (4, .inl (fun _ => 0))) C0 h 1 rfl rfl rfl q_183 (fun _ => rfl) (by decide) (by decide) (Nat.le_of_ble_eq_true rfl) (Nat.le_of_ble_eq_true rfl) (Nat.le_of_ble_eq_true rfl) dX0_init_39 (fun qz_10 H h => ?_)
  have h : Wd G A s _ _ [(a, .inr (0, [.ref qz_1, .ref qz_4, .ref qz_7, .null, .null, .int 0, .int 0, .int 0, .int 0])), (qz_1, .inr (4, [.ref (u_2 0), .ref (u_2 1), .ref (u_2 2), .int 0, .int 0])), (u_2 0, .inl (G.2 1, 900, .inl (fun _ => 0))), (u_2 1, .inl (G.2 1, 64, .inl (fun _ => 0))), (u_2 2, .inl (G.2 1, 6, .inl (fun _ => 0))), (qz_4, .inr (4, [.ref (u_5 0), .ref (u_5 1), .ref (u_5 2), .int 0, .int 0])), (u_5 0, .inl (G.2 1, 900, .inl (fun _ => 0))), (u_5 1, .inl (G.2 1, 64, .inl (fun _ => 0))), (u_5 2, .inl (G.2 1, 6, .inl (fun _ => 0))), (qz_7, .inr (1, [.ref (u_8 0), .ref (u_8 1), .ref (u_8 2), .ref (u_8 3), .ref (u_8 4), .ref (u_8 5), .ref (u_8 6), .int 0, .int 0])), (u_8 0, .inl (G.2 1, 5, .inl (fun _ => 0))), (u_8 1, .inl (G.2 1, 5, .inl (fun _ => 0))), (u_8 2, .inl (G.2 1, 5, .inl (fun _ => 0))), (u_8 3, .inl (G.2 1, 5, .inl (fun _ => 0))), (u_8 4, .inl (G.2 1, 5, .inl (fun _ => 0))), (u_8 5, .inl (G.2 1, 25, .inl (fun _ => 0))), (u_8 6, .inl (G.2 1, 25, .inl (fun _ => 0))), (qz_10, .inl (G.2 1, 4, .inl (fun _ => 0)))] := h
  refine f_X0_streets (ws' := [(a, .inr (0, [.ref qz_1, .ref qz_4, .ref qz_7, .ref qz_10, .null, .int 0, .int 0, .int 0, .int 0])), (qz_1, .inr (4, [.ref (u_2 0), .ref (u_2 1), .ref (u_2 2), .int 0, .int 0])), (u_2 0, .inl (G.2 1, 900, .inl (fun _ => 0))), (u_2 1, .inl (G.2 1, 64, .inl (fun _ => 0))), (u_2 2, .inl (G.2 1, 6, .inl (fun _ => 0))), (qz_4, .inr (4, [.ref (u_5 0), .ref (u_5 1), .ref (u_5 2), .int 0, .int 0])), (u_5 0, .inl (G.2 1, 900, .inl (fun _ => 0))), (u_5 1, .inl (G.2 1, 64, .inl (fun _ => 0))), (u_5 2, .inl (G.2 1, 6, .inl (fun _ => 0))), (qz_7, .inr (1, [.ref (u_8 0), .ref (u_8 1), .ref (u_8 2), .ref (u_8 3), .ref (u_8 4), .ref (u_8 5), .ref (u_8 6), .int 0, .int 0])), (u_8 0, .inl (G.2 1, 5, .inl (fun _ => 0))), (u_8 1, .inl (G.2 1, 5, .inl (fun _ => 0))), (u_8 2, .inl (G.2 1, 5, .inl (fun _ => 0))), (u_8 3, .inl (G.2 1, 5, .inl (fun _ => 0))), (u_8 4, .inl (G.2 1, 5, .inl (fun _ => 0))), (u_8 5, .inl (G.2 1, 25, .inl (fun _ => 0))), (u_8 6, .inl (G.2 1, 25, .inl (fun _ => 0))), (qz_10, .inl (G.2 1, 4, .inl (fun _ => 0)))]) C0 h hini 0 q_252 rfl (Nat.le_of_ble_eq_true rfl) rfl rfl rfl dX0_init_41 (fun H locs h => ?_)
  refine lv_aload_n hx hb dX0_init_44 rfl (lv_at hl 0 rfl) ?_
  refine lv_iconst (v := 4) hx hb dX0_init_45 (by decide) ?_
  refine m_newa (atype := .int) (ty := .int) (a0 := (4, .inl (fun _ => 0))) C0 h 1 rfl rfl rfl q_183 (fun _ => rfl) (by decide) (by decide) (Nat.le_of_ble_eq_true rfl) (Nat.le_of_ble_eq_true rfl) (Nat.le_of_ble_eq_true rfl) dX0_init_46 (fun qz_11 H h => ?_)
  have h : Wd G A s _ _ [(a, .inr (0, [.ref qz_1, .ref qz_4, .ref qz_7, .ref qz_10, .null, .int 0, .int 0, .int 0, .int 0])), (qz_1, .inr (4, [.ref (u_2 0), .ref (u_2 1), .ref (u_2 2), .int 0, .int 0])), (u_2 0, .inl (G.2 1, 900, .inl (fun _ => 0))), (u_2 1, .inl (G.2 1, 64, .inl (fun _ => 0))), (u_2 2, .inl (G.2 1, 6, .inl (fun _ => 0))), (qz_4, .inr (4, [.ref (u_5 0), .ref (u_5 1), .ref (u_5 2), .int 0, .int 0])), (u_5 0, .inl (G.2 1, 900, .inl (fun _ => 0))), (u_5 1, .inl (G.2 1, 64, .inl (fun _ => 0))), (u_5 2, .inl (G.2 1, 6, .inl (fun _ => 0))), (qz_7, .inr (1, [.ref (u_8 0), .ref (u_8 1), .ref (u_8 2), .ref (u_8 3), .ref (u_8 4), .ref (u_8 5), .ref (u_8 6), .int 0, .int 0])), (u_8 0, .inl (G.2 1, 5, .inl (fun _ => 0))), (u_8 1, .inl (G.2 1, 5, .inl (fun _ => 0))), (u_8 2, .inl (G.2 1, 5, .inl (fun _ => 0))), (u_8 3, .inl (G.2 1, 5, .inl (fun _ => 0))), (u_8 4, .inl (G.2 1, 5, .inl (fun _ => 0))), (u_8 5, .inl (G.2 1, 25, .inl (fun _ => 0))), (u_8 6, .inl (G.2 1, 25, .inl (fun _ => 0))), (qz_10, .inl (G.2 1, 4, .inl (fun _ => 0))), (qz_11, .inl (G.2 1, 4, .inl (fun _ => 0)))] := h
  refine f_X0_strides (ws' := [(a, .inr (0, [.ref qz_1, .ref qz_4, .ref qz_7, .ref qz_10, .ref qz_11, .int 0, .int 0, .int 0, .int 0])), (qz_1, .inr (4, [.ref (u_2 0), .ref (u_2 1), .ref (u_2 2), .int 0, .int 0])), (u_2 0, .inl (G.2 1, 900, .inl (fun _ => 0))), (u_2 1, .inl (G.2 1, 64, .inl (fun _ => 0))), (u_2 2, .inl (G.2 1, 6, .inl (fun _ => 0))), (qz_4, .inr (4, [.ref (u_5 0), .ref (u_5 1), .ref (u_5 2), .int 0, .int 0])), (u_5 0, .inl (G.2 1, 900, .inl (fun _ => 0))), (u_5 1, .inl (G.2 1, 64, .inl (fun _ => 0))), (u_5 2, .inl (G.2 1, 6, .inl (fun _ => 0))), (qz_7, .inr (1, [.ref (u_8 0), .ref (u_8 1), .ref (u_8 2), .ref (u_8 3), .ref (u_8 4), .ref (u_8 5), .ref (u_8 6), .int 0, .int 0])), (u_8 0, .inl (G.2 1, 5, .inl (fun _ => 0))), (u_8 1, .inl (G.2 1, 5, .inl (fun _ => 0))), (u_8 2, .inl (G.2 1, 5, .inl (fun _ => 0))), (u_8 3, .inl (G.2 1, 5, .inl (fun _ => 0))), (u_8 4, .inl (G.2 1, 5, .inl (fun _ => 0))), (u_8 5, .inl (G.2 1, 25, .inl (fun _ => 0))), (u_8 6, .inl (G.2 1, 25, .inl (fun _ => 0))), (qz_10, .inl (G.2 1, 4, .inl (fun _ => 0))), (qz_11, .inl (G.2 1, 4, .inl (fun _ => 0)))]) C0 h hini 0 q_255 rfl (Nat.le_of_ble_eq_true rfl) rfl rfl rfl dX0_init_48 (fun H locs h => ?_)
  exact m_vret (adl [qz_1, u_2 0, u_2 1, u_2 2, qz_4, u_5 0, u_5 1, u_5 2, qz_7, u_8 0, u_8 1, u_8 2, u_8 3, u_8 4, u_8 5, u_8 6, qz_10, qz_11]) C0 h [0, 1, 2, 3, 4, 5, 6, 7, 8, 9, 10, 11, 12, 13, 14, 15, 16, 17, 18] (by decide) rfl trivial (Nat.le_of_ble_eq_true rfl) (Nat.le_of_ble_eq_true rfl) dX0_init_51
set_option maxHeartbeats 4000000 in
set_option maxRecDepth 100000 in
theorem c_X2_init (l : Launch) (G : GG) (a : Nat) (c0 : Nat) : Mt l yX2_init cX2_init 2 none 1 3 2160 G [.ref a, .ref c0] [(a, .inr (2, [.null, .null, .null, .null, .int 0]))] (Rv (S := (Nat → Nat)) G (fun _ => True) (fun u => [(a, .inr (2, [.ref c0, .ref (u 0), .ref (u 1), .ref (u 2), .int 0])), (u 0, .inl (G.2 1, 240, .inl (fun _ => 0))), (u 1, .inl (G.2 1, 960, .inl (fun _ => 0))), (u 2, .inl (G.2 1, 960, .inl (fun _ => 0)))])) := by
  refine Mt.start (by decide) (Nat.le_of_ble_eq_true rfl) ?_
  intro p e s m below meth c A ls C0 hini h hl
  have C0 : Cx p s m _ meth c RX2 cX2_init 2 none := C0
  obtain ⟨hx, hb, hml, hown, hts, -⟩ := id C0
  have hl : lv_has ls 2 [(0, .ref a), (1, .ref c0)] := hl
  have hini : meth.name = "<init>" := hini
  refine lv_aload_n hx hb dX2_init_0 rfl (lv_at hl 0 rfl) ?_
  refine m_objInit C0 hl.1 q_291 q_153 q_154 dX2_init_1 (Nat.le_of_ble_eq_true rfl) (Nat.le_of_ble_eq_true rfl) ?_
  refine lv_aload_n hx hb dX2_init_4 rfl (lv_at hl 0 rfl) ?_
  refine lv_sipush (v := 240) hx hb dX2_init_5 (by decide) ?_
  refine m_newa (atype := .int) (ty := .int) (a0 := (240, .inl (fun _ => 0))) C0 h 1 rfl rfl rfl q_183 (fun _ => rfl) (by decide) (by decide) (Nat.le_of_ble_eq_true rfl) (Nat.le_of_ble_eq_true rfl) (Nat.le_of_ble_eq_true rfl) dX2_init_8 (fun qz_1 H h => ?_)
  have h : Wd G A s _ _ [(a, .inr (2, [.null, .null, .null, .null, .int 0])), (qz_1, .inl (G.2 1, 240, .inl (fun _ => 0)))] := h
  refine f_X2_free (ws' := [(a, .inr (2, [.null, .ref qz_1, .null, .null, .int 0])), (qz_1, .inl (G.2 1, 240, .inl (fun _ => 0)))]) C0 h hini 0 q_293 rfl (Nat.le_of_ble_eq_true rfl) rfl rfl rfl dX2_init_10 (fun H locs h => ?_)
  refine lv_aload_n hx hb dX2_init_13 rfl (lv_at hl 0 rfl) ?_
  refine lv_sipush (v := 960) hx hb dX2_init_14 (by decide) ?_
  refine m_newa (atype := .int) (ty := .int) (a0 := (960, .inl (fun _ => 0))) C0 h 1 rfl rfl rfl q_183 (fun _ => rfl) (by decide) (by decide) (Nat.le_of_ble_eq_true rfl) (Nat.le_of_ble_eq_true rfl) (Nat.le_of_ble_eq_true rfl) dX2_init_17 (fun qz_2 H h => ?_)
  have h : Wd G A s _ _ [(a, .inr (2, [.null, .ref qz_1, .null, .null, .int 0])), (qz_1, .inl (G.2 1, 240, .inl (fun _ => 0))), (qz_2, .inl (G.2 1, 960, .inl (fun _ => 0)))] := h
  refine f_X2_asked (ws' := [(a, .inr (2, [.null, .ref qz_1, .ref qz_2, .null, .int 0])), (qz_1, .inl (G.2 1, 240, .inl (fun _ => 0))), (qz_2, .inl (G.2 1, 960, .inl (fun _ => 0)))]) C0 h hini 0 q_294 rfl (Nat.le_of_ble_eq_true rfl) rfl rfl rfl dX2_init_19 (fun H locs h => ?_)
  refine lv_aload_n hx hb dX2_init_22 rfl (lv_at hl 0 rfl) ?_
  refine lv_sipush (v := 960) hx hb dX2_init_23 (by decide) ?_
  refine m_newa (atype := .int) (ty := .int) (a0 := (960, .inl (fun _ => 0))) C0 h 1 rfl rfl rfl q_183 (fun _ => rfl) (by decide) (by decide) (Nat.le_of_ble_eq_true rfl) (Nat.le_of_ble_eq_true rfl) (Nat.le_of_ble_eq_true rfl) dX2_init_26 (fun qz_3 H h => ?_)
  have h : Wd G A s _ _ [(a, .inr (2, [.null, .ref qz_1, .ref qz_2, .null, .int 0])), (qz_1, .inl (G.2 1, 240, .inl (fun _ => 0))), (qz_2, .inl (G.2 1, 960, .inl (fun _ => 0))), (qz_3, .inl (G.2 1, 960, .inl (fun _ => 0)))] := h
  refine f_X2_allowed (ws' := [(a, .inr (2, [.null, .ref qz_1, .ref qz_2, .ref qz_3, .int 0])), (qz_1, .inl (G.2 1, 240, .inl (fun _ => 0))), (qz_2, .inl (G.2 1, 960, .inl (fun _ => 0))), (qz_3, .inl (G.2 1, 960, .inl (fun _ => 0)))]) C0 h hini 0 q_295 rfl (Nat.le_of_ble_eq_true rfl) rfl rfl rfl dX2_init_28 (fun H locs h => ?_)
  refine lv_aload_n hx hb dX2_init_31 rfl (lv_at hl 0 rfl) ?_
  refine lv_aload_n hx hb dX2_init_32 rfl (lv_at hl 1 rfl) ?_
  refine f_X2_city (ws' := [(a, .inr (2, [.ref c0, .ref qz_1, .ref qz_2, .ref qz_3, .int 0])), (qz_1, .inl (G.2 1, 240, .inl (fun _ => 0))), (qz_2, .inl (G.2 1, 960, .inl (fun _ => 0))), (qz_3, .inl (G.2 1, 960, .inl (fun _ => 0)))]) C0 h hini 0 q_292 rfl (Nat.le_of_ble_eq_true rfl) rfl rfl rfl dX2_init_33 (fun H locs h => ?_)
  exact m_vret (adl [qz_1, qz_2, qz_3]) C0 h [0, 1, 2, 3] (by decide) rfl trivial (Nat.le_of_ble_eq_true rfl) (Nat.le_of_ble_eq_true rfl) dX2_init_36
set_option maxHeartbeats 4000000 in
set_option maxRecDepth 100000 in
theorem c_X8_init (l : Launch) (G : GG) (a : Nat) (c0 : Nat) (c1 : Nat) : Mt l yX8_init cX8_init 3 none 1 3 1100 G [.ref a, .ref c0, .ref c1] [(a, .inr (8, [.null, .null, .null, .null, .int 0, .int 0, .null]))] (Rv (S := (Nat → Nat)) G (fun _ => True) (fun u => [(a, .inr (8, [.ref c0, .ref c1, .ref (u 0), .ref (u 1), .int 0, .int 0, .ref (u 2)])), (u 0, .inl (G.2 1, 484, .inl (fun _ => 0))), (u 1, .inl (G.2 1, 484, .inl (fun _ => 0))), (u 2, .inl (G.2 1, 121, .inl (fun _ => 0)))])) := by
  refine Mt.start (by decide) (Nat.le_of_ble_eq_true rfl) ?_
  intro p e s m below meth c A ls C0 hini h hl
  have C0 : Cx p s m _ meth c RX8 cX8_init 3 none := C0
  obtain ⟨hx, hb, hml, hown, hts, -⟩ := id C0
  have hl : lv_has ls 3 [(0, .ref a), (1, .ref c0), (2, .ref c1)] := hl
  have hini : meth.name = "<init>" := hini
  refine lv_aload_n hx hb dX8_init_0 rfl (lv_at hl 0 rfl) ?_
  refine m_objInit C0 hl.1 q_313 q_153 q_154 dX8_init_1 (Nat.le_of_ble_eq_true rfl) (Nat.le_of_ble_eq_true rfl) ?_
  refine lv_aload_n hx hb dX8_init_4 rfl (lv_at hl 0 rfl) ?_
  refine lv_sipush (v := 484) hx hb dX8_init_5 (by decide) ?_
  refine m_newa (atype := .int) (ty := .int) (a0 := (484, .inl (fun _ => 0))) C0 h 1 rfl rfl rfl q_183 (fun _ => rfl) (by decide) (by decide) (Nat.le_of_ble_eq_true rfl) (Nat.le_of_ble_eq_true rfl) (Nat.le_of_ble_eq_true rfl) dX8_init_8 (fun qz_1 H h => ?_)
  have h : Wd G A s _ _ [(a, .inr (8, [.null, .null, .null, .null, .int 0, .int 0, .null])), (qz_1, .inl (G.2 1, 484, .inl (fun _ => 0)))] := h
  refine p_X8_sets (ws' := [(a, .inr (8, [.null, .null, .ref qz_1, .null, .int 0, .int 0, .null])), (qz_1, .inl (G.2 1, 484, .inl (fun _ => 0)))]) C0 h 0 q_316 rfl (Nat.le_of_ble_eq_true rfl) rfl rfl rfl dX8_init_10 (fun H locs h => ?_)
  refine lv_aload_n hx hb dX8_init_13 rfl (lv_at hl 0 rfl) ?_
  refine lv_sipush (v := 484) hx hb dX8_init_14 (by decide) ?_
  refine m_newa (atype := .int) (ty := .int) (a0 := (484, .inl (fun _ => 0))) C0 h 1 rfl rfl rfl q_183 (fun _ => rfl) (by decide) (by decide) (Nat.le_of_ble_eq_true rfl) (Nat.le_of_ble_eq_true rfl) (Nat.le_of_ble_eq_true rfl) dX8_init_17 (fun qz_2 H h => ?_)
  have h : Wd G A s _ _ [(a, .inr (8, [.null, .null, .ref qz_1, .null, .int 0, .int 0, .null])), (qz_1, .inl (G.2 1, 484, .inl (fun _ => 0))), (qz_2, .inl (G.2 1, 484, .inl (fun _ => 0)))] := h
  refine p_X8_nexts (ws' := [(a, .inr (8, [.null, .null, .ref qz_1, .ref qz_2, .int 0, .int 0, .null])), (qz_1, .inl (G.2 1, 484, .inl (fun _ => 0))), (qz_2, .inl (G.2 1, 484, .inl (fun _ => 0)))]) C0 h 0 q_317 rfl (Nat.le_of_ble_eq_true rfl) rfl rfl rfl dX8_init_19 (fun H locs h => ?_)
  refine lv_aload_n hx hb dX8_init_22 rfl (lv_at hl 0 rfl) ?_
  refine lv_bipush (v := 121) hx hb dX8_init_23 (by decide) ?_
  refine m_newa (atype := .int) (ty := .int) (a0 := (121, .inl (fun _ => 0))) C0 h 1 rfl rfl rfl q_183 (fun _ => rfl) (by decide) (by decide) (Nat.le_of_ble_eq_true rfl) (Nat.le_of_ble_eq_true rfl) (Nat.le_of_ble_eq_true rfl) dX8_init_25 (fun qz_3 H h => ?_)
  have h : Wd G A s _ _ [(a, .inr (8, [.null, .null, .ref qz_1, .ref qz_2, .int 0, .int 0, .null])), (qz_1, .inl (G.2 1, 484, .inl (fun _ => 0))), (qz_2, .inl (G.2 1, 484, .inl (fun _ => 0))), (qz_3, .inl (G.2 1, 121, .inl (fun _ => 0)))] := h
  refine f_X8_reached (ws' := [(a, .inr (8, [.null, .null, .ref qz_1, .ref qz_2, .int 0, .int 0, .ref qz_3])), (qz_1, .inl (G.2 1, 484, .inl (fun _ => 0))), (qz_2, .inl (G.2 1, 484, .inl (fun _ => 0))), (qz_3, .inl (G.2 1, 121, .inl (fun _ => 0)))]) C0 h hini 0 q_320 rfl (Nat.le_of_ble_eq_true rfl) rfl rfl rfl dX8_init_27 (fun H locs h => ?_)
  refine lv_aload_n hx hb dX8_init_30 rfl (lv_at hl 0 rfl) ?_
  refine lv_aload_n hx hb dX8_init_31 rfl (lv_at hl 1 rfl) ?_
  refine f_X8_city (ws' := [(a, .inr (8, [.ref c0, .null, .ref qz_1, .ref qz_2, .int 0, .int 0, .ref qz_3])), (qz_1, .inl (G.2 1, 484, .inl (fun _ => 0))), (qz_2, .inl (G.2 1, 484, .inl (fun _ => 0))), (qz_3, .inl (G.2 1, 121, .inl (fun _ => 0)))]) C0 h hini 0 q_314 rfl (Nat.le_of_ble_eq_true rfl) rfl rfl rfl dX8_init_32 (fun H locs h => ?_)
  refine lv_aload_n hx hb dX8_init_35 rfl (lv_at hl 0 rfl) ?_
  refine lv_aload_n hx hb dX8_init_36 rfl (lv_at hl 2 rfl) ?_
  refine f_X8_forecast (ws' := [(a, .inr (8, [.ref c0, .ref c1, .ref qz_1, .ref qz_2, .int 0, .int 0, .ref qz_3])), (qz_1, .inl (G.2 1, 484, .inl (fun _ => 0))), (qz_2, .inl (G.2 1, 484, .inl (fun _ => 0))), (qz_3, .inl (G.2 1, 121, .inl (fun _ => 0)))]) C0 h hini 0 q_315 rfl (Nat.le_of_ble_eq_true rfl) rfl rfl rfl dX8_init_37 (fun H locs h => ?_)
  exact m_vret (adl [qz_1, qz_2, qz_3]) C0 h [0, 1, 2, 3] (by decide) rfl trivial (Nat.le_of_ble_eq_true rfl) (Nat.le_of_ble_eq_true rfl) dX8_init_40
set_option maxHeartbeats 4000000 in
set_option maxRecDepth 100000 in
theorem c_X7_init (l : Launch) (G : GG) (a : Nat) (c0 : Nat) (c1 : Nat) (c2 : Nat) : Mt l yX7_init cX7_init 4 none 1 2 14500 G [.ref a, .ref c0, .ref c1, .ref c2] [(a, .inr (7, [.null, .null, .null, .null, .null, .int 0, .int 0]))] (Rv (S := (Nat → Nat)) G (fun _ => True) (fun u => [(a, .inr (7, [.ref c0, .ref c1, .ref c2, .ref (u 0), .ref (u 1), .int 0, .int 0])), (u 0, .inl (G.2 1, 14400, .inl (fun _ => 0))), (u 1, .inl (G.2 1, 60, .inl (fun _ => 0)))])) := by
  refine Mt.start (by decide) (Nat.le_of_ble_eq_true rfl) ?_
  intro p e s m below meth c A ls C0 hini h hl
  have C0 : Cx p s m _ meth c RX7 cX7_init 4 none := C0
  obtain ⟨hx, hb, hml, hown, hts, -⟩ := id C0
  have hl : lv_has ls 4 [(0, .ref a), (1, .ref c0), (2, .ref c1), (3, .ref c2)] := hl
  have hini : meth.name = "<init>" := hini
  refine lv_aload_n hx hb dX7_init_0 rfl (lv_at hl 0 rfl) ?_
  refine m_objInit C0 hl.1 q_341 q_153 q_154 dX7_init_1 (Nat.le_of_ble_eq_true rfl) (Nat.le_of_ble_eq_true rfl) ?_
  refine lv_aload_n hx hb dX7_init_4 rfl (lv_at hl 0 rfl) ?_
  refine lv_sipush (v := 14400) hx hb dX7_init_5 (by decide) ?_
  refine m_newa (atype := .int) (ty := .int) (a0 := (14400, .inl (fun _ => 0))) C0 h 1 rfl rfl rfl q_183 (fun _ => rfl) (by decide) (by decide) (Nat.le_of_ble_eq_true rfl) (Nat.le_of_ble_eq_true rfl) (Nat.le_of_ble_eq_true rfl) dX7_init_8 (fun qz_1 H h => ?_)
  have h : Wd G A s _ _ [(a, .inr (7, [.null, .null, .null, .null, .null, .int 0, .int 0])), (qz_1, .inl (G.2 1, 14400, .inl (fun _ => 0)))] := h
  refine f_X7_back (ws' := [(a, .inr (7, [.null, .null, .null, .ref qz_1, .null, .int 0, .int 0])), (qz_1, .inl (G.2 1, 14400, .inl (fun _ => 0)))]) C0 h hini 0 q_345 rfl (Nat.le_of_ble_eq_true rfl) rfl rfl rfl dX7_init_10 (fun H locs h => ?_)
  refine lv_aload_n hx hb dX7_init_13 rfl (lv_at hl 0 rfl) ?_
  refine lv_bipush (v := 60) hx hb dX7_init_14 (by decide) ?_
  refine m_newa (atype := .int) (ty := .int) (a0 := (60, .inl (fun _ => 0))) C0 h 1 rfl rfl rfl q_183 (fun _ => rfl) (by decide) (by decide) (Nat.le_of_ble_eq_true rfl) (Nat.le_of_ble_eq_true rfl) (Nat.le_of_ble_eq_true rfl) dX7_init_16 (fun qz_2 H h => ?_)
  have h : Wd G A s _ _ [(a, .inr (7, [.null, .null, .null, .ref qz_1, .null, .int 0, .int 0])), (qz_1, .inl (G.2 1, 14400, .inl (fun _ => 0))), (qz_2, .inl (G.2 1, 60, .inl (fun _ => 0)))] := h
  refine f_X7_turns (ws' := [(a, .inr (7, [.null, .null, .null, .ref qz_1, .ref qz_2, .int 0, .int 0])), (qz_1, .inl (G.2 1, 14400, .inl (fun _ => 0))), (qz_2, .inl (G.2 1, 60, .inl (fun _ => 0)))]) C0 h hini 0 q_346 rfl (Nat.le_of_ble_eq_true rfl) rfl rfl rfl dX7_init_18 (fun H locs h => ?_)
  refine lv_aload_n hx hb dX7_init_21 rfl (lv_at hl 0 rfl) ?_
  refine lv_aload_n hx hb dX7_init_22 rfl (lv_at hl 1 rfl) ?_
  refine f_X7_city (ws' := [(a, .inr (7, [.ref c0, .null, .null, .ref qz_1, .ref qz_2, .int 0, .int 0])), (qz_1, .inl (G.2 1, 14400, .inl (fun _ => 0))), (qz_2, .inl (G.2 1, 60, .inl (fun _ => 0)))]) C0 h hini 0 q_342 rfl (Nat.le_of_ble_eq_true rfl) rfl rfl rfl dX7_init_23 (fun H locs h => ?_)
  refine lv_aload_n hx hb dX7_init_26 rfl (lv_at hl 0 rfl) ?_
  refine lv_aload_n hx hb dX7_init_27 rfl (lv_at hl 2 rfl) ?_
  refine f_X7_forecast (ws' := [(a, .inr (7, [.ref c0, .ref c1, .null, .ref qz_1, .ref qz_2, .int 0, .int 0])), (qz_1, .inl (G.2 1, 14400, .inl (fun _ => 0))), (qz_2, .inl (G.2 1, 60, .inl (fun _ => 0)))]) C0 h hini 0 q_343 rfl (Nat.le_of_ble_eq_true rfl) rfl rfl rfl dX7_init_28 (fun H locs h => ?_)
  refine lv_aload_n hx hb dX7_init_31 rfl (lv_at hl 0 rfl) ?_
  refine lv_aload_n hx hb dX7_init_32 rfl (lv_at hl 3 rfl) ?_
  refine f_X7_spread (ws' := [(a, .inr (7, [.ref c0, .ref c1, .ref c2, .ref qz_1, .ref qz_2, .int 0, .int 0])), (qz_1, .inl (G.2 1, 14400, .inl (fun _ => 0))), (qz_2, .inl (G.2 1, 60, .inl (fun _ => 0)))]) C0 h hini 0 q_344 rfl (Nat.le_of_ble_eq_true rfl) rfl rfl rfl dX7_init_33 (fun H locs h => ?_)
  exact m_vret (adl [qz_1, qz_2]) C0 h [0, 1, 2] (by decide) rfl trivial (Nat.le_of_ble_eq_true rfl) (Nat.le_of_ble_eq_true rfl) dX7_init_36
set_option maxHeartbeats 4000000 in
set_option maxRecDepth 100000 in
theorem c_X5_init (l : Launch) (G : GG) (a : Nat) (c0 : Nat) (e0 : Nat) (e1 : Nat) (e2 : Nat) (e3 : Nat) (e4 : Nat) : Mt l yX5_init cX5_init 2 none 1 1 900 G [.ref a, .ref c0] [(a, .inr (5, [.null, .null, .int 0, .int 0, .int 0, .int 0, .int 0, .int 0, .int 0, .int 0, .null])), (c0, .inr (0, [.ref e0, .ref e1, .ref e2, .ref e3, .ref e4, .int 0, .int 0, .int 0, .int 0]))] (Rv (S := (Nat → Nat)) G (fun _ => True) (fun u => [(c0, .inr (0, [.ref e0, .ref e1, .ref e2, .ref e3, .ref e4, .int 0, .int 0, .int 0, .int 0])), (a, .inr (5, [.ref c0, .ref (u 0), .int 0, .int 0, .int 0, .int 0, .int 0, .int 0, .int 0, .int (-1), .ref e0])), (u 0, .inl (G.2 0, 900, .inl (fun _ => 0)))])) := by
  refine Mt.start (by decide) (Nat.le_of_ble_eq_true rfl) ?_
  intro p e s m below meth c A ls C0 hini h hl
  have C0 : Cx p s m _ meth c RX5 cX5_init 2 none := C0
  obtain ⟨hx, hb, hml, hown, hts, -⟩ := id C0
  have hl : lv_has ls 2 [(0, .ref a), (1, .ref c0)] := hl
  have hini : meth.name = "<init>" := hini
  refine lv_aload_n hx hb dX5_init_0 rfl (lv_at hl 0 rfl) ?_
  refine m_objInit C0 hl.1 q_369 q_153 q_154 dX5_init_1 (Nat.le_of_ble_eq_true rfl) (Nat.le_of_ble_eq_true rfl) ?_
  refine lv_aload_n hx hb dX5_init_4 rfl (lv_at hl 0 rfl) ?_
  refine lv_sipush (v := 900) hx hb dX5_init_5 (by decide) ?_
  refine m_newa (atype := .byte) (ty := .byte) (a0 := (900, .inl (fun _ => 0))) C0 h 0 rfl rfl rfl q_404 (fun _ => rfl) (by decide) (by decide) (Nat.le_of_ble_eq_true rfl) (Nat.le_of_ble_eq_true rfl) (Nat.le_of_ble_eq_true rfl) dX5_init_8 (fun qz_1 H h => ?_)
  have h : Wd G A s _ _ [(a, .inr (5, [.null, .null, .int 0, .int 0, .int 0, .int 0, .int 0, .int 0, .int 0, .int 0, .null])), (c0, .inr (0, [.ref e0, .ref e1, .ref e2, .ref e3, .ref e4, .int 0, .int 0, .int 0, .int 0])), (qz_1, .inl (G.2 0, 900, .inl (fun _ => 0)))] := h
  refine f_X5_tape (ws' := [(a, .inr (5, [.null, .ref qz_1, .int 0, .int 0, .int 0, .int 0, .int 0, .int 0, .int 0, .int 0, .null])), (c0, .inr (0, [.ref e0, .ref e1, .ref e2, .ref e3, .ref e4, .int 0, .int 0, .int 0, .int 0])), (qz_1, .inl (G.2 0, 900, .inl (fun _ => 0)))]) C0 h hini 0 q_371 rfl (Nat.le_of_ble_eq_true rfl) rfl rfl rfl dX5_init_10 (fun H locs h => ?_)
  refine lv_aload_n hx hb dX5_init_13 rfl (lv_at hl 0 rfl) ?_
  refine lv_iconst (v := (-1)) hx hb dX5_init_14 (by decide) ?_
  refine p_X5_place (ws' := [(a, .inr (5, [.null, .ref qz_1, .int 0, .int 0, .int 0, .int 0, .int 0, .int 0, .int 0, .int (-1), .null])), (c0, .inr (0, [.ref e0, .ref e1, .ref e2, .ref e3, .ref e4, .int 0, .int 0, .int 0, .int 0])), (qz_1, .inl (G.2 0, 900, .inl (fun _ => 0)))]) C0 h 0 q_379 rfl (Nat.le_of_ble_eq_true rfl) rfl rfl rfl dX5_init_15 (fun H locs h => ?_)
  refine lv_aload_n hx hb dX5_init_18 rfl (lv_at hl 0 rfl) ?_
  refine lv_aload_n hx hb dX5_init_19 rfl (lv_at hl 1 rfl) ?_
  refine f_X5_city (ws' := [(a, .inr (5, [.ref c0, .ref qz_1, .int 0, .int 0, .int 0, .int 0, .int 0, .int 0, .int 0, .int (-1), .null])), (c0, .inr (0, [.ref e0, .ref e1, .ref e2, .ref e3, .ref e4, .int 0, .int 0, .int 0, .int 0])), (qz_1, .inl (G.2 0, 900, .inl (fun _ => 0)))]) C0 h hini 0 q_370 rfl (Nat.le_of_ble_eq_true rfl) rfl rfl rfl dX5_init_20 (fun H locs h => ?_)
  refine lv_aload_n hx hb dX5_init_23 rfl (lv_at hl 0 rfl) ?_
  refine lv_aload_n hx hb dX5_init_24 rfl (lv_at hl 1 rfl) ?_
  refine g_X0_priceLaw C0 h 1 q_243 rfl rfl dX5_init_25 ?_
  refine p_X5_law (ws' := [(a, .inr (5, [.ref c0, .ref qz_1, .int 0, .int 0, .int 0, .int 0, .int 0, .int 0, .int 0, .int (-1), .ref e0])), (c0, .inr (0, [.ref e0, .ref e1, .ref e2, .ref e3, .ref e4, .int 0, .int 0, .int 0, .int 0])), (qz_1, .inl (G.2 0, 900, .inl (fun _ => 0)))]) C0 h 0 q_380 rfl (Nat.le_of_ble_eq_true rfl) rfl rfl rfl dX5_init_28 (fun H locs h => ?_)
  exact m_vret (adl [qz_1]) C0 h [1, 0, 2] (by decide) rfl trivial (Nat.le_of_ble_eq_true rfl) (Nat.le_of_ble_eq_true rfl) dX5_init_31
set_option maxHeartbeats 4000000 in
set_option maxRecDepth 100000 in
theorem c_X6_init (l : Launch) (G : GG) (a : Nat) (c0 : Nat) (c1 : Nat) : Mt l yX6_init cX6_init 3 none 1 3 12 G [.ref a, .ref c0, .ref c1] [(a, .inr (6, [.null, .null, .null, .null, .null, .int 0, .int 0, .int 0, .int 0, .int 0]))] (Rv (S := (Nat → Nat)) G (fun _ => True) (fun u => [(a, .inr (6, [.ref c0, .ref c1, .ref (u 0), .ref (u 1), .ref (u 2), .int 0, .int 0, .int 0, .int 0, .int 0])), (u 0, .inl (G.2 1, 4, .inl (fun _ => 0))), (u 1, .inl (G.2 1, 4, .inl (fun _ => 0))), (u 2, .inl (G.2 1, 4, .inl (fun _ => 0)))])) := by
  refine Mt.start (by decide) (Nat.le_of_ble_eq_true rfl) ?_
  intro p e s m below meth c A ls C0 hini h hl
  have C0 : Cx p s m _ meth c RX6 cX6_init 3 none := C0
  obtain ⟨hx, hb, hml, hown, hts, -⟩ := id C0
  have hl : lv_has ls 3 [(0, .ref a), (1, .ref c0), (2, .ref c1)] := hl
  have hini : meth.name = "<init>" := hini
  refine lv_aload_n hx hb dX6_init_0 rfl (lv_at hl 0 rfl) ?_
  refine m_objInit C0 hl.1 q_410 q_153 q_154 dX6_init_1 (Nat.le_of_ble_eq_true rfl) (Nat.le_of_ble_eq_true rfl) ?_
  refine lv_aload_n hx hb dX6_init_4 rfl (lv_at hl 0 rfl) ?_
  refine lv_iconst (v := 4) hx hb dX6_init_5 (by decide) ?_
  refine m_newa (atype := .int) (ty := .int) (a0 := (4, .inl (fun _ => 0))) C0 h 1 rfl rfl rfl q_183 (fun _ => rfl) (by decide) (by decide) (Nat.le_of_ble_eq_true rfl) (Nat.le_of_ble_eq_true rfl) (Nat.le_of_ble_eq_true rfl) dX6_init_6 (fun qz_1 H h => ?_)
  have h : Wd G A s _ _ [(a, .inr (6, [.null, .null, .null, .null, .null, .int 0, .int 0, .int 0, .int 0, .int 0])), (qz_1, .inl (G.2 1, 4, .inl (fun _ => 0)))] := h
  refine f_X6_stops (ws' := [(a, .inr (6, [.null, .null, .ref qz_1, .null, .null, .int 0, .int 0, .int 0, .int 0, .int 0])), (qz_1, .inl (G.2 1, 4, .inl (fun _ => 0)))]) C0 h hini 0 q_413 rfl (Nat.le_of_ble_eq_true rfl) rfl rfl rfl dX6_init_8 (fun H locs h => ?_)
  refine lv_aload_n hx hb dX6_init_11 rfl (lv_at hl 0 rfl) ?_
  refine lv_iconst (v := 4) hx hb dX6_init_12 (by decide) ?_
  refine m_newa (atype := .int) (ty := .int) (a0 := (4, .inl (fun _ => 0))) C0 h 1 rfl rfl rfl q_183 (fun _ => rfl) (by decide) (by decide) (Nat.le_of_ble_eq_true rfl) (Nat.le_of_ble_eq_true rfl) (Nat.le_of_ble_eq_true rfl) dX6_init_13 (fun qz_2 H h => ?_)
  have h : Wd G A s _ _ [(a, .inr (6, [.null, .null, .ref qz_1, .null, .null, .int 0, .int 0, .int 0, .int 0, .int 0])), (qz_1, .inl (G.2 1, 4, .inl (fun _ => 0))), (qz_2, .inl (G.2 1, 4, .inl (fun _ => 0)))] := h
  refine f_X6_order (ws' := [(a, .inr (6, [.null, .null, .ref qz_1, .ref qz_2, .null, .int 0, .int 0, .int 0, .int 0, .int 0])), (qz_1, .inl (G.2 1, 4, .inl (fun _ => 0))), (qz_2, .inl (G.2 1, 4, .inl (fun _ => 0)))]) C0 h hini 0 q_414 rfl (Nat.le_of_ble_eq_true rfl) rfl rfl rfl dX6_init_15 (fun H locs h => ?_)
  refine lv_aload_n hx hb dX6_init_18 rfl (lv_at hl 0 rfl) ?_
  refine lv_iconst (v := 4) hx hb dX6_init_19 (by decide) ?_
  refine m_newa (atype := .int) (ty := .int) (a0 := (4, .inl (fun _ => 0))) C0 h 1 rfl rfl rfl q_183 (fun _ => rfl) (by decide) (by decide) (Nat.le_of_ble_eq_true rfl) (Nat.le_of_ble_eq_true rfl) (Nat.le_of_ble_eq_true rfl) dX6_init_20 (fun qz_3 H h => ?_)
  have h : Wd G A s _ _ [(a, .inr (6, [.null, .null, .ref qz_1, .ref qz_2, .null, .int 0, .int 0, .int 0, .int 0, .int 0])), (qz_1, .inl (G.2 1, 4, .inl (fun _ => 0))), (qz_2, .inl (G.2 1, 4, .inl (fun _ => 0))), (qz_3, .inl (G.2 1, 4, .inl (fun _ => 0)))] := h
  refine f_X6_bestOrder (ws' := [(a, .inr (6, [.null, .null, .ref qz_1, .ref qz_2, .ref qz_3, .int 0, .int 0, .int 0, .int 0, .int 0])), (qz_1, .inl (G.2 1, 4, .inl (fun _ => 0))), (qz_2, .inl (G.2 1, 4, .inl (fun _ => 0))), (qz_3, .inl (G.2 1, 4, .inl (fun _ => 0)))]) C0 h hini 0 q_415 rfl (Nat.le_of_ble_eq_true rfl) rfl rfl rfl dX6_init_22 (fun H locs h => ?_)
  refine lv_aload_n hx hb dX6_init_25 rfl (lv_at hl 0 rfl) ?_
  refine lv_aload_n hx hb dX6_init_26 rfl (lv_at hl 1 rfl) ?_
  refine f_X6_spread (ws' := [(a, .inr (6, [.ref c0, .null, .ref qz_1, .ref qz_2, .ref qz_3, .int 0, .int 0, .int 0, .int 0, .int 0])), (qz_1, .inl (G.2 1, 4, .inl (fun _ => 0))), (qz_2, .inl (G.2 1, 4, .inl (fun _ => 0))), (qz_3, .inl (G.2 1, 4, .inl (fun _ => 0)))]) C0 h hini 0 q_411 rfl (Nat.le_of_ble_eq_true rfl) rfl rfl rfl dX6_init_27 (fun H locs h => ?_)
  refine lv_aload_n hx hb dX6_init_30 rfl (lv_at hl 0 rfl) ?_
  refine lv_aload_n hx hb dX6_init_31 rfl (lv_at hl 2 rfl) ?_
  refine f_X6_routes (ws' := [(a, .inr (6, [.ref c0, .ref c1, .ref qz_1, .ref qz_2, .ref qz_3, .int 0, .int 0, .int 0, .int 0, .int 0])), (qz_1, .inl (G.2 1, 4, .inl (fun _ => 0))), (qz_2, .inl (G.2 1, 4, .inl (fun _ => 0))), (qz_3, .inl (G.2 1, 4, .inl (fun _ => 0)))]) C0 h hini 0 q_412 rfl (Nat.le_of_ble_eq_true rfl) rfl rfl rfl dX6_init_32 (fun H locs h => ?_)
  exact m_vret (adl [qz_1, qz_2, qz_3]) C0 h [0, 1, 2, 3] (by decide) rfl trivial (Nat.le_of_ble_eq_true rfl) (Nat.le_of_ble_eq_true rfl) dX6_init_35
set_option maxHeartbeats 4000000 in
set_option maxRecDepth 100000 in
theorem c_X9_init (l : Launch) (G : GG) (a : Nat) (c0 : Nat) (c1 : Nat) : Mt l yX9_init cX9_init 3 none 1 9 9000 G [.ref a, .ref c0, .ref c1] [(a, .inr (9, [.null, .null, .null, .null, .null]))] (Rv (S := (Nat → Nat)) G (fun _ => True) (fun u => [(a, .inr (9, [.ref c0, .ref c1, .ref (u 0), .ref (u 3), .ref (u 6)])), (u 0, .inl (G.2 8, 2, .inr (.inr (.inr (.inr (fun i => if i = 0 then some (u 1) else if i = 1 then some (u 2) else none)))))), (u 1, .inl (G.2 2, 4100, .inr (.inl (fun _ => 0)))), (u 2, .inl (G.2 2, 4100, .inr (.inl (fun _ => 0)))), (u 3, .inl (G.2 7, 2, .inr (.inr (.inr (.inr (fun i => if i = 0 then some (u 4) else if i = 1 then some (u 5) else none)))))), (u 4, .inl (G.2 1, 100, .inl (fun _ => 0))), (u 5, .inl (G.2 1, 100, .inl (fun _ => 0))), (u 6, .inl (G.2 7, 2, .inr (.inr (.inr (.inr (fun i => if i = 0 then some (u 7) else if i = 1 then some (u 8) else none)))))), (u 7, .inl (G.2 1, 100, .inl (fun _ => 0))), (u 8, .inl (G.2 1, 100, .inl (fun _ => 0)))])) := by
  refine Mt.start (by decide) (Nat.le_of_ble_eq_true rfl) ?_
  intro p e s m below meth c A ls C0 hini h hl
  have C0 : Cx p s m _ meth c RX9 cX9_init 3 none := C0
  obtain ⟨hx, hb, hml, hown, hts, -⟩ := id C0
  have hl : lv_has ls 3 [(0, .ref a), (1, .ref c0), (2, .ref c1)] := hl
  have hini : meth.name = "<init>" := hini
  refine lv_aload_n hx hb dX9_init_0 rfl (lv_at hl 0 rfl) ?_
  refine m_objInit C0 hl.1 q_447 q_153 q_154 dX9_init_1 (Nat.le_of_ble_eq_true rfl) (Nat.le_of_ble_eq_true rfl) ?_
  refine lv_aload_n hx hb dX9_init_4 rfl (lv_at hl 0 rfl) ?_
  refine lv_iconst (v := 2) hx hb dX9_init_5 (by decide) ?_
  refine lv_sipush (v := 4100) hx hb dX9_init_6 (by decide) ?_
  refine m_mna2 (ty := .long) (z := (4100, .inr (.inl (fun _ => 0)))) C0 h 8 2 rfl rfl (fun _ => (h.1.2 2 _ rfl).2) (by have e : ("[" ++ (FieldType.array .long).toString) = "[[J" := (by decide); rw [e]; exact q_448) C0.2.2.2.2.2.2.2.2.2.2.2.2.2.2.2.2.2 q_468 (by decide) (by decide) (Nat.le_of_ble_eq_true rfl) (Nat.le_of_ble_eq_true rfl) rfl rfl (fun _ => arrV_new _ _ _) (Nat.le_of_ble_eq_true rfl) (Nat.le_of_ble_eq_true rfl) dX9_init_9 (fun qz_1 qz_2 qz_3 H h => ?_)
  have h : Wd G A s _ _ [(a, .inr (9, [.null, .null, .null, .null, .null])), (qz_1, .inl (G.2 8, 2, .inr (.inr (.inr (.inr (fun i => if i = 0 then some qz_2 else if i = 1 then some qz_3 else none)))))), (qz_2, .inl (G.2 2, 4100, .inr (.inl (fun _ => 0)))), (qz_3, .inl (G.2 2, 4100, .inr (.inl (fun _ => 0))))] := h
  refine f_X9_ways (ws' := [(a, .inr (9, [.null, .null, .ref qz_1, .null, .null])), (qz_1, .inl (G.2 8, 2, .inr (.inr (.inr (.inr (fun i => if i = 0 then some qz_2 else if i = 1 then some qz_3 else none)))))), (qz_2, .inl (G.2 2, 4100, .inr (.inl (fun _ => 0)))), (qz_3, .inl (G.2 2, 4100, .inr (.inl (fun _ => 0))))]) C0 h hini 0 q_454 rfl (Nat.le_of_ble_eq_true rfl) rfl rfl rfl dX9_init_13 (fun H locs h => ?_)
  refine lv_aload_n hx hb dX9_init_16 rfl (lv_at hl 0 rfl) ?_
  refine lv_iconst (v := 2) hx hb dX9_init_17 (by decide) ?_
  refine lv_bipush (v := 100) hx hb dX9_init_18 (by decide) ?_
  refine m_mna2 (ty := .int) (z := (100, .inl (fun _ => 0))) C0 h 7 1 rfl rfl (fun _ => (h.1.2 1 _ rfl).2) (by have e : ("[" ++ (FieldType.array .int).toString) = "[[I" := (by decide); rw [e]; exact q_450) C0.2.2.2.2.2.2.2.2.2.2.2.2.2.2.2.2.1 q_183 (by decide) (by decide) (Nat.le_of_ble_eq_true rfl) (Nat.le_of_ble_eq_true rfl) rfl rfl (fun _ => arrV_new _ _ _) (Nat.le_of_ble_eq_true rfl) (Nat.le_of_ble_eq_true rfl) dX9_init_20 (fun qz_4 qz_5 qz_6 H h => ?_)
  have h : Wd G A s _ _ [(a, .inr (9, [.null, .null, .ref qz_1, .null, .null])), (qz_1, .inl (G.2 8, 2, .inr (.inr (.inr (.inr (fun i => if i = 0 then some qz_2 else if i = 1 then some qz_3 else none)))))), (qz_2, .inl (G.2 2, 4100, .inr (.inl (fun _ => 0)))), (qz_3, .inl (G.2 2, 4100, .inr (.inl (fun _ => 0)))), (qz_4, .inl (G.2 7, 2, .inr (.inr (.inr (.inr (fun i => if i = 0 then some qz_5 else if i = 1 then some qz_6 else none)))))), (qz_5, .inl (G.2 1, 100, .inl (fun _ => 0))), (qz_6, .inl (G.2 1, 100, .inl (fun _ => 0)))] := h
  refine f_X9_most (ws' := [(a, .inr (9, [.null, .null, .ref qz_1, .ref qz_4, .null])), (qz_1, .inl (G.2 8, 2, .inr (.inr (.inr (.inr (fun i => if i = 0 then some qz_2 else if i = 1 then some qz_3 else none)))))), (qz_2, .inl (G.2 2, 4100, .inr (.inl (fun _ => 0)))), (qz_3, .inl (G.2 2, 4100, .inr (.inl (fun _ => 0)))), (qz_4, .inl (G.2 7, 2, .inr (.inr (.inr (.inr (fun i => if i = 0 then some qz_5 else if i = 1 then some qz_6 else none)))))), (qz_5, .inl (G.2 1, 100, .inl (fun _ => 0))), (qz_6, .inl (G.2 1, 100, .inl (fun _ => 0)))]) C0 h hini 0 q_455 rfl (Nat.le_of_ble_eq_true rfl) rfl rfl rfl dX9_init_24 (fun H locs h => ?_)
  refine lv_aload_n hx hb dX9_init_27 rfl (lv_at hl 0 rfl) ?_
  refine lv_iconst (v := 2) hx hb dX9_init_28 (by decide) ?_
  refine lv_bipush (v := 100) hx hb dX9_init_29 (by decide) ?_
  refine m_mna2 (ty := .int) (z := (100, .inl (fun _ => 0))) C0 h 7 1 rfl rfl (fun _ => (h.1.2 1 _ rfl).2) (by have e : ("[" ++ (FieldType.array .int).toString) = "[[I" := (by decide); rw [e]; exact q_450) C0.2.2.2.2.2.2.2.2.2.2.2.2.2.2.2.2.1 q_183 (by decide) (by decide) (Nat.le_of_ble_eq_true rfl) (Nat.le_of_ble_eq_true rfl) rfl rfl (fun _ => arrV_new _ _ _) (Nat.le_of_ble_eq_true rfl) (Nat.le_of_ble_eq_true rfl) dX9_init_31 (fun qz_7 qz_8 qz_9 H h => ?_)
  have h : Wd G A s _ _ [(a, .inr (9, [.null, .null, .ref qz_1, .ref qz_4, .null])), (qz_1, .inl (G.2 8, 2, .inr (.inr (.inr (.inr (fun i => if i = 0 then some qz_2 else if i = 1 then some qz_3 else none)))))), (qz_2, .inl (G.2 2, 4100, .inr (.inl (fun _ => 0)))), (qz_3, .inl (G.2 2, 4100, .inr (.inl (fun _ => 0)))), (qz_4, .inl (G.2 7, 2, .inr (.inr (.inr (.inr (fun i => if i = 0 then some qz_5 else if i = 1 then some qz_6 else none)))))), (qz_5, .inl (G.2 1, 100, .inl (fun _ => 0))), (qz_6, .inl (G.2 1, 100, .inl (fun _ => 0))), (qz_7, .inl (G.2 7, 2, .inr (.inr (.inr (.inr (fun i => if i = 0 then some qz_8 else if i = 1 then some qz_9 else none)))))), (qz_8, .inl (G.2 1, 100, .inl (fun _ => 0))), (qz_9, .inl (G.2 1, 100, .inl (fun _ => 0)))] := h
  refine f_X9_coins (ws' := [(a, .inr (9, [.null, .null, .ref qz_1, .ref qz_4, .ref qz_7])), (qz_1, .inl (G.2 8, 2, .inr (.inr (.inr (.inr (fun i => if i = 0 then some qz_2 else if i = 1 then some qz_3 else none)))))), (qz_2, .inl (G.2 2, 4100, .inr (.inl (fun _ => 0)))), (qz_3, .inl (G.2 2, 4100, .inr (.inl (fun _ => 0)))), (qz_4, .inl (G.2 7, 2, .inr (.inr (.inr (.inr (fun i => if i = 0 then some qz_5 else if i = 1 then some qz_6 else none)))))), (qz_5, .inl (G.2 1, 100, .inl (fun _ => 0))), (qz_6, .inl (G.2 1, 100, .inl (fun _ => 0))), (qz_7, .inl (G.2 7, 2, .inr (.inr (.inr (.inr (fun i => if i = 0 then some qz_8 else if i = 1 then some qz_9 else none)))))), (qz_8, .inl (G.2 1, 100, .inl (fun _ => 0))), (qz_9, .inl (G.2 1, 100, .inl (fun _ => 0)))]) C0 h hini 0 q_456 rfl (Nat.le_of_ble_eq_true rfl) rfl rfl rfl dX9_init_35 (fun H locs h => ?_)
  refine lv_aload_n hx hb dX9_init_38 rfl (lv_at hl 0 rfl) ?_
  refine lv_aload_n hx hb dX9_init_39 rfl (lv_at hl 1 rfl) ?_
  refine f_X9_city (ws' := [(a, .inr (9, [.ref c0, .null, .ref qz_1, .ref qz_4, .ref qz_7])), (qz_1, .inl (G.2 8, 2, .inr (.inr (.inr (.inr (fun i => if i = 0 then some qz_2 else if i = 1 then some qz_3 else none)))))), (qz_2, .inl (G.2 2, 4100, .inr (.inl (fun _ => 0)))), (qz_3, .inl (G.2 2, 4100, .inr (.inl (fun _ => 0)))), (qz_4, .inl (G.2 7, 2, .inr (.inr (.inr (.inr (fun i => if i = 0 then some qz_5 else if i = 1 then some qz_6 else none)))))), (qz_5, .inl (G.2 1, 100, .inl (fun _ => 0))), (qz_6, .inl (G.2 1, 100, .inl (fun _ => 0))), (qz_7, .inl (G.2 7, 2, .inr (.inr (.inr (.inr (fun i => if i = 0 then some qz_8 else if i = 1 then some qz_9 else none)))))), (qz_8, .inl (G.2 1, 100, .inl (fun _ => 0))), (qz_9, .inl (G.2 1, 100, .inl (fun _ => 0)))]) C0 h hini 0 q_452 rfl (Nat.le_of_ble_eq_true rfl) rfl rfl rfl dX9_init_40 (fun H locs h => ?_)
  refine lv_aload_n hx hb dX9_init_43 rfl (lv_at hl 0 rfl) ?_
  refine lv_aload_n hx hb dX9_init_44 rfl (lv_at hl 2 rfl) ?_
  refine f_X9_forecast (ws' := [(a, .inr (9, [.ref c0, .ref c1, .ref qz_1, .ref qz_4, .ref qz_7])), (qz_1, .inl (G.2 8, 2, .inr (.inr (.inr (.inr (fun i => if i = 0 then some qz_2 else if i = 1 then some qz_3 else none)))))), (qz_2, .inl (G.2 2, 4100, .inr (.inl (fun _ => 0)))), (qz_3, .inl (G.2 2, 4100, .inr (.inl (fun _ => 0)))), (qz_4, .inl (G.2 7, 2, .inr (.inr (.inr (.inr (fun i => if i = 0 then some qz_5 else if i = 1 then some qz_6 else none)))))), (qz_5, .inl (G.2 1, 100, .inl (fun _ => 0))), (qz_6, .inl (G.2 1, 100, .inl (fun _ => 0))), (qz_7, .inl (G.2 7, 2, .inr (.inr (.inr (.inr (fun i => if i = 0 then some qz_8 else if i = 1 then some qz_9 else none)))))), (qz_8, .inl (G.2 1, 100, .inl (fun _ => 0))), (qz_9, .inl (G.2 1, 100, .inl (fun _ => 0)))]) C0 h hini 0 q_453 rfl (Nat.le_of_ble_eq_true rfl) rfl rfl rfl dX9_init_45 (fun H locs h => ?_)
  exact m_vret (adl [qz_1, qz_2, qz_3, qz_4, qz_5, qz_6, qz_7, qz_8, qz_9]) C0 h [0, 1, 2, 3, 4, 5, 6, 7, 8, 9] (by decide) rfl trivial (Nat.le_of_ble_eq_true rfl) (Nat.le_of_ble_eq_true rfl) dX9_init_48
set_option maxHeartbeats 4000000 in
set_option maxRecDepth 100000 in
theorem c_X3_init (l : Launch) (G : GG) (a : Nat) (c0 : Nat) : Mt l yX3_init cX3_init 2 none 1 2 12900 G [.ref a, .ref c0] [(a, .inr (3, [.null, .null, .null, .int 0, .int 0]))] (Rv (S := (Nat → Nat)) G (fun _ => True) (fun u => [(a, .inr (3, [.ref c0, .ref (u 0), .ref (u 1), .int 0, .int 0])), (u 0, .inl (G.2 1, 12400, .inl (fun _ => 0))), (u 1, .inl (G.2 1, 400, .inl (fun _ => 0)))])) := by
  refine Mt.start (by decide) (Nat.le_of_ble_eq_true rfl) ?_
  intro p e s m below meth c A ls C0 hini h hl
  have C0 : Cx p s m _ meth c RX3 cX3_init 2 none := C0
  obtain ⟨hx, hb, hml, hown, hts, -⟩ := id C0
  have hl : lv_has ls 2 [(0, .ref a), (1, .ref c0)] := hl
  have hini : meth.name = "<init>" := hini
  refine lv_aload_n hx hb dX3_init_0 rfl (lv_at hl 0 rfl) ?_
  refine m_objInit C0 hl.1 q_474 q_153 q_154 dX3_init_1 (Nat.le_of_ble_eq_true rfl) (Nat.le_of_ble_eq_true rfl) ?_
  refine lv_aload_n hx hb dX3_init_4 rfl (lv_at hl 0 rfl) ?_
  refine lv_sipush (v := 12400) hx hb dX3_init_5 (by decide) ?_
  refine m_newa (atype := .int) (ty := .int) (a0 := (12400, .inl (fun _ => 0))) C0 h 1 rfl rfl rfl q_183 (fun _ => rfl) (by decide) (by decide) (Nat.le_of_ble_eq_true rfl) (Nat.le_of_ble_eq_true rfl) (Nat.le_of_ble_eq_true rfl) dX3_init_8 (fun qz_1 H h => ?_)
  have h : Wd G A s _ _ [(a, .inr (3, [.null, .null, .null, .int 0, .int 0])), (qz_1, .inl (G.2 1, 12400, .inl (fun _ => 0)))] := h
  refine f_X3_catching (ws' := [(a, .inr (3, [.null, .ref qz_1, .null, .int 0, .int 0])), (qz_1, .inl (G.2 1, 12400, .inl (fun _ => 0)))]) C0 h hini 0 q_476 rfl (Nat.le_of_ble_eq_true rfl) rfl rfl rfl dX3_init_10 (fun H locs h => ?_)
  refine lv_aload_n hx hb dX3_init_13 rfl (lv_at hl 0 rfl) ?_
  refine lv_sipush (v := 400) hx hb dX3_init_14 (by decide) ?_
  refine m_newa (atype := .int) (ty := .int) (a0 := (400, .inl (fun _ => 0))) C0 h 1 rfl rfl rfl q_183 (fun _ => rfl) (by decide) (by decide) (Nat.le_of_ble_eq_true rfl) (Nat.le_of_ble_eq_true rfl) (Nat.le_of_ble_eq_true rfl) dX3_init_17 (fun qz_2 H h => ?_)
  have h : Wd G A s _ _ [(a, .inr (3, [.null, .ref qz_1, .null, .int 0, .int 0])), (qz_1, .inl (G.2 1, 12400, .inl (fun _ => 0))), (qz_2, .inl (G.2 1, 400, .inl (fun _ => 0)))] := h
  refine f_X3_inTurn (ws' := [(a, .inr (3, [.null, .ref qz_1, .ref qz_2, .int 0, .int 0])), (qz_1, .inl (G.2 1, 12400, .inl (fun _ => 0))), (qz_2, .inl (G.2 1, 400, .inl (fun _ => 0)))]) C0 h hini 0 q_477 rfl (Nat.le_of_ble_eq_true rfl) rfl rfl rfl dX3_init_19 (fun H locs h => ?_)
  refine lv_aload_n hx hb dX3_init_22 rfl (lv_at hl 0 rfl) ?_
  refine lv_aload_n hx hb dX3_init_23 rfl (lv_at hl 1 rfl) ?_
  refine f_X3_city (ws' := [(a, .inr (3, [.ref c0, .ref qz_1, .ref qz_2, .int 0, .int 0])), (qz_1, .inl (G.2 1, 12400, .inl (fun _ => 0))), (qz_2, .inl (G.2 1, 400, .inl (fun _ => 0)))]) C0 h hini 0 q_475 rfl (Nat.le_of_ble_eq_true rfl) rfl rfl rfl dX3_init_24 (fun H locs h => ?_)
  exact m_vret (adl [qz_1, qz_2]) C0 h [0, 1, 2] (by decide) rfl trivial (Nat.le_of_ble_eq_true rfl) (Nat.le_of_ble_eq_true rfl) dX3_init_27
set_option maxHeartbeats 4000000 in
set_option maxRecDepth 100000 in
theorem c_X10_init (l : Launch) (G : GG) (a : Nat) : Mt l yX10_init cX10_init 1 none 1 1 40 G [.ref a] [(a, .inr (10, [.null, .int 0, .int 0]))] (Rv (S := (Nat → Nat)) G (fun _ => True) (fun u => [(a, .inr (10, [.ref (u 0), .int 0, .int (-1)])), (u 0, .inl (G.2 2, 40, .inr (.inl (fun _ => 0))))])) := by
  refine Mt.start (by decide) (Nat.le_of_ble_eq_true rfl) ?_
  intro p e s m below meth c A ls C0 hini h hl
  have C0 : Cx p s m _ meth c RX10 cX10_init 1 none := C0
  obtain ⟨hx, hb, hml, hown, hts, -⟩ := id C0
  have hl : lv_has ls 1 [(0, .ref a)] := hl
  have hini : meth.name = "<init>" := hini
  refine lv_aload_n hx hb dX10_init_0 rfl (lv_at hl 0 rfl) ?_
  refine m_objInit C0 hl.1 q_497 q_153 q_154 dX10_init_1 (Nat.le_of_ble_eq_true rfl) (Nat.le_of_ble_eq_true rfl) ?_
  refine lv_aload_n hx hb dX10_init_4 rfl (lv_at hl 0 rfl) ?_
  refine lv_bipush (v := 40) hx hb dX10_init_5 (by decide) ?_
  refine m_newa (atype := .long) (ty := .long) (a0 := (40, .inr (.inl (fun _ => 0)))) C0 h 2 rfl rfl rfl q_468 (fun _ => rfl) (by decide) (by decide) (Nat.le_of_ble_eq_true rfl) (Nat.le_of_ble_eq_true rfl) (Nat.le_of_ble_eq_true rfl) dX10_init_7 (fun qz_1 H h => ?_)
  have h : Wd G A s _ _ [(a, .inr (10, [.null, .int 0, .int 0])), (qz_1, .inl (G.2 2, 40, .inr (.inl (fun _ => 0))))] := h
  refine f_X10_values (ws' := [(a, .inr (10, [.ref qz_1, .int 0, .int 0])), (qz_1, .inl (G.2 2, 40, .inr (.inl (fun _ => 0))))]) C0 h hini 0 q_498 rfl (Nat.le_of_ble_eq_true rfl) rfl rfl rfl dX10_init_9 (fun H locs h => ?_)
  refine lv_aload_n hx hb dX10_init_12 rfl (lv_at hl 0 rfl) ?_
  refine lv_iconst (v := (-1)) hx hb dX10_init_13 (by decide) ?_
  refine p_X10_size (ws' := [(a, .inr (10, [.ref qz_1, .int 0, .int (-1)])), (qz_1, .inl (G.2 2, 40, .inr (.inl (fun _ => 0))))]) C0 h 0 q_500 rfl (Nat.le_of_ble_eq_true rfl) rfl rfl rfl dX10_init_14 (fun H locs h => ?_)
  exact m_vret (adl [qz_1]) C0 h [0, 1] (by decide) rfl trivial (Nat.le_of_ble_eq_true rfl) (Nat.le_of_ble_eq_true rfl) dX10_init_17
set_option maxHeartbeats 4000000 in
set_option maxRecDepth 100000 in
theorem c_X12_plain_start (l : Launch) (G : GG) (a : Nat) : Mt l yX12_plain cX12_plain 2 none 0 0 0 G [.ref a] [(a, .inl (G.2 1, 5322, .inl (fun _ => 0)))] (Rv (S := Unit) G (fun _ => True) (fun _ => [(a, .inl (G.2 1, 5322, .inl (fun _ => 0)))])) := by
  refine Mt.start (by decide) (Nat.le_of_ble_eq_true rfl) ?_
  intro p e s m below meth c A ls C0 hini h hl
  have C0 : Cx p s m _ meth c RX12 cX12_plain 2 none := C0
  obtain ⟨hx, hb, hml, hown, hts, -⟩ := id C0
  have hl : lv_has ls 2 [(0, .ref a)] := hl
  refine lv_iconst (v := 0) hx hb dX12_plain_0 (by decide) ?_
  refine lv_istore_n (lv' := [(1, .int 0), (0, .ref a)]) hx hb dX12_plain_1 rfl hl (by decide) rfl (fun ls hl => ?_)
  have lp_2 : ∀ (n i : Nat) (H : Heap) (locs : List Loc) (ls : Array Slot), i + n = 1774 → Wd G A s H locs [(a, .inl (G.2 1, 5322, .inl (fun _ => 0)))] → lv_has ls 2 [(1, .int (nI i)), (0, .ref a)] → W p l e (rmd 0 0 0) s m ([.ref a]).toArray below meth c H locs 0 0 (MQ below ((Rv (S := Unit) G (fun _ => True) (fun _ => [(a, .inl (G.2 1, 5322, .inl (fun _ => 0)))])) A) ([.ref a]).toArray s 0 0 A) (F0 m 2 ls []) := by
    intro n
    induction n with
    | zero =>
      intro i H locs ls hn h hl
      refine lv_iload_n hx hb dX12_plain_2 rfl (lv_at hl 0 rfl) ?_
      refine lv_sipush (v := 1774) hx hb dX12_plain_3 (by decide) ?_
      refine lv_icmp_ge (tgt := 19) hx hb dX12_plain_6 (by decide) (fun c_1 => ?_) (fun c_1 => by exact absurd ((nI_leI (a := 1774) (b := i) (by omega) (by omega)).mpr (by omega)) c_1)
      exact m_vret () C0 h [0] (by decide) rfl trivial (Nat.le_of_ble_eq_true rfl) (Nat.le_of_ble_eq_true rfl) dX12_plain_19
    | succ n ih_2 =>
      intro i H locs ls hn h hl
      refine lv_iload_n hx hb dX12_plain_2 rfl (lv_at hl 0 rfl) ?_
      refine lv_sipush (v := 1774) hx hb dX12_plain_3 (by decide) ?_
      refine lv_icmp_ge (tgt := 19) hx hb dX12_plain_6 (by decide) (fun c_2 => by exact absurd ((nI_leI (a := 1774) (b := i) (by omega) (by omega)).mp c_2) (by omega)) (fun c_2 => ?_)
      refine lv_aload_n hx hb dX12_plain_9 rfl (lv_at hl 1 rfl) ?_
      refine lv_iload_n hx hb dX12_plain_10 rfl (lv_at hl 0 rfl) ?_
      refine lv_iconst (v := 0) hx hb dX12_plain_11 (by decide) ?_
      refine m_iast (ws' := [(a, .inl (G.2 1, 5322, .inl (upd (fun _ => 0) i 0)))]) C0 h 0 i rfl rfl (by omega) (by decide) rfl dX12_plain_12 (fun H locs h => ?_)
      refine lv_iinc (v := nI (i + 1)) (lv' := [(1, .int (nI (i + 1))), (0, .ref a)]) hx hb dX12_plain_13 hl (k := 0) rfl (nI_1 _) (by decide) rfl (fun ls hl => ?_)
      refine lv_goto (tgt := 2) hx hb dX12_plain_16 (by decide) ?_
      exact ih_2 (i + 1) _ _ _ (by omega) (by simpa only [upd00] using h) (lv_sub hl [0, 1] rfl)
  exact lp_2 (1774 - 0) 0 _ _ _ (by omega) h (lv_sub hl [0, 1] rfl)
set_option maxHeartbeats 4000000 in
set_option maxRecDepth 100000 in
theorem c_X12_init (l : Launch) (G : GG) (a : Nat) : Mt l yX12_init cX12_init 1 none 2 30 60000 G [.ref a] [(a, .inr (12, [.int 0, .null, .null, .null, .null, .int 0, .int 0, .int 0, .int 0, .int 0, .int 0, .int 0, .int 0, .int 0, .int 0, .null, .null, .int 0, .int 0, .int 0, .null, .null, .null, .null, .null, .null, .int 0, .null, .int 0, .null, .null, .null, .null, .null, .null, .int 0, .int 0, .int 0, .null, .null, .null, .null, .null, .null]))] (Rv (S := (Nat → Nat)) G (fun _ => True) (fun u => [(a, .inr (12, [.int 0, .ref (u 0), .ref (u 1), .ref (u 2), .ref (u 3), .int 0, .int 0, .int 0, .int 0, .int 0, .int 0, .int 0, .int 0, .int 0, .int (-1), .ref (u 4), .ref (u 5), .int 0, .int 0, .int 0, .ref (u 6), .ref (u 7), .ref (u 8), .ref (u 9), .ref (u 10), .ref (u 11), .int 0, .ref (u 12), .int 0, .ref (u 13), .ref (u 14), .ref (u 15), .ref (u 16), .ref (u 17), .ref (u 18), .int 0, .int 0, .int 0, .ref (u 19), .ref (u 20), .ref (u 21), .ref (u 22), .ref (u 23), .ref (u 24)])), (u 0, .inl (G.2 1, 5322, .inl (fun _ => 0))), (u 1, .inl (G.2 3, 2, .inl (fun _ => 0))), (u 2, .inl (G.2 1, 900, .inl (fun _ => 0))), (u 3, .inl (G.2 1, 1774, .inl (fun _ => 0))), (u 4, .inl (G.2 1, 900, .inl (fun _ => 0))), (u 5, .inl (G.2 1, 76, .inl (fun _ => 0))), (u 6, .inl (G.2 1, 76, .inl (fun _ => 0))), (u 7, .inl (G.2 1, 6100, .inl (fun _ => 0))), (u 8, .inl (G.2 1, 6100, .inl (fun _ => 0))), (u 9, .inl (G.2 1, 6100, .inl (fun _ => 0))), (u 10, .inl (G.2 3, 6100, .inl (fun _ => 0))), (u 11, .inl (G.2 3, 1525, .inl (fun _ => 0))), (u 12, .inl (G.2 1, 60, .inl (fun _ => 0))), (u 13, .inl (G.2 2, 4100, .inr (.inl (fun _ => 0)))), (u 14, .inl (G.2 2, 4100, .inr (.inl (fun _ => 0)))), (u 15, .inl (G.2 3, 100, .inl (fun _ => 0))), (u 16, .inl (G.2 3, 100, .inl (fun _ => 0))), (u 17, .inl (G.2 1, 4, .inl (fun _ => 0))), (u 18, .inl (G.2 1, 4, .inl (fun _ => 0))), (u 19, .inl (G.2 3, 1100, .inl (fun _ => 0))), (u 20, .inl (G.2 3, 1100, .inl (fun _ => 0))), (u 21, .inl (G.2 0, 10000, .inl (fun _ => 0))), (u 22, .inl (G.2 1, 4, .inl (upd (upd (upd (upd (fun _ => 0) 0 (-1)) 1 (-1)) 2 (-1)) 3 (-1)))), (u 23, .inl (G.2 1, 4, .inl (fun _ => 0))), (u 24, .inl (G.2 2, 160, .inr (.inl (fun _ => 0))))])) := by
  refine Mt.start (by decide) (Nat.le_of_ble_eq_true rfl) ?_
  intro p e s m below meth c A ls C0 hini h hl
  have C0 : Cx p s m _ meth c RX12 cX12_init 1 none := C0
  obtain ⟨hx, hb, hml, hown, hts, -⟩ := id C0
  have hl : lv_has ls 1 [(0, .ref a)] := hl
  have hini : meth.name = "<init>" := hini
  refine lv_aload_n hx hb dX12_init_0 rfl (lv_at hl 0 rfl) ?_
  refine m_objInit C0 hl.1 q_1434 q_153 q_154 dX12_init_1 (Nat.le_of_ble_eq_true rfl) (Nat.le_of_ble_eq_true rfl) ?_
  refine lv_aload_n hx hb dX12_init_4 rfl (lv_at hl 0 rfl) ?_
  refine lv_sipush (v := 5322) hx hb dX12_init_5 (by decide) ?_
  refine m_newa (atype := .int) (ty := .int) (a0 := (5322, .inl (fun _ => 0))) C0 h 1 rfl rfl rfl q_183 (fun _ => rfl) (by decide) (by decide) (Nat.le_of_ble_eq_true rfl) (Nat.le_of_ble_eq_true rfl) (Nat.le_of_ble_eq_true rfl) dX12_init_8 (fun qz_1 H h => ?_)
  have h : Wd G A s _ _ [(a, .inr (12, [.int 0, .null, .null, .null, .null, .int 0, .int 0, .int 0, .int 0, .int 0, .int 0, .int 0, .int 0, .int 0, .int 0, .null, .null, .int 0, .int 0, .int 0, .null, .null, .null, .null, .null, .null, .int 0, .null, .int 0, .null, .null, .null, .null, .null, .null, .int 0, .int 0, .int 0, .null, .null, .null, .null, .null, .null])), (qz_1, .inl (G.2 1, 5322, .inl (fun _ => 0)))] := h
  refine f_X12_all (ws' := [(a, .inr (12, [.int 0, .ref qz_1, .null, .null, .null, .int 0, .int 0, .int 0, .int 0, .int 0, .int 0, .int 0, .int 0, .int 0, .int 0, .null, .null, .int 0, .int 0, .int 0, .null, .null, .null, .null, .null, .null, .int 0, .null, .int 0, .null, .null, .null, .null, .null, .null, .int 0, .int 0, .int 0, .null, .null, .null, .null, .null, .null])), (qz_1, .inl (G.2 1, 5322, .inl (fun _ => 0)))]) C0 h hini 0 q_1439 rfl (Nat.le_of_ble_eq_true rfl) rfl rfl rfl dX12_init_10 (fun H locs h => ?_)
  refine lv_aload_n hx hb dX12_init_13 rfl (lv_at hl 0 rfl) ?_
  refine lv_iconst (v := 2) hx hb dX12_init_14 (by decide) ?_
  refine m_newa (atype := .boolean) (ty := .boolean) (a0 := (2, .inl (fun _ => 0))) C0 h 3 rfl rfl rfl q_573 (fun _ => rfl) (by decide) (by decide) (Nat.le_of_ble_eq_true rfl) (Nat.le_of_ble_eq_true rfl) (Nat.le_of_ble_eq_true rfl) dX12_init_15 (fun qz_2 H h => ?_)
  have h : Wd G A s _ _ [(a, .inr (12, [.int 0, .ref qz_1, .null, .null, .null, .int 0, .int 0, .int 0, .int 0, .int 0, .int 0, .int 0, .int 0, .int 0, .int 0, .null, .null, .int 0, .int 0, .int 0, .null, .null, .null, .null, .null, .null, .int 0, .null, .int 0, .null, .null, .null, .null, .null, .null, .int 0, .int 0, .int 0, .null, .null, .null, .null, .null, .null])), (qz_1, .inl (G.2 1, 5322, .inl (fun _ => 0))), (qz_2, .inl (G.2 3, 2, .inl (fun _ => 0)))] := h
  refine f_X12_hasImage (ws' := [(a, .inr (12, [.int 0, .ref qz_1, .ref qz_2, .null, .null, .int 0, .int 0, .int 0, .int 0, .int 0, .int 0, .int 0, .int 0, .int 0, .int 0, .null, .null, .int 0, .int 0, .int 0, .null, .null, .null, .null, .null, .null, .int 0, .null, .int 0, .null, .null, .null, .null, .null, .null, .int 0, .int 0, .int 0, .null, .null, .null, .null, .null, .null])), (qz_1, .inl (G.2 1, 5322, .inl (fun _ => 0))), (qz_2, .inl (G.2 3, 2, .inl (fun _ => 0)))]) C0 h hini 0 q_1440 rfl (Nat.le_of_ble_eq_true rfl) rfl rfl rfl dX12_init_17 (fun H locs h => ?_)
  refine lv_aload_n hx hb dX12_init_20 rfl (lv_at hl 0 rfl) ?_
  refine lv_sipush (v := 900) hx hb dX12_init_21 (by decide) ?_
  refine m_newa (atype := .int) (ty := .int) (a0 := (900, .inl (fun _ => 0))) C0 h 1 rfl rfl rfl q_183 (fun _ => rfl) (by decide) (by decide) (Nat.le_of_ble_eq_true rfl) (Nat.le_of_ble_eq_true rfl) (Nat.le_of_ble_eq_true rfl) dX12_init_24 (fun qz_3 H h => ?_)
  have h : Wd G A s _ _ [(a, .inr (12, [.int 0, .ref qz_1, .ref qz_2, .null, .null, .int 0, .int 0, .int 0, .int 0, .int 0, .int 0, .int 0, .int 0, .int 0, .int 0, .null, .null, .int 0, .int 0, .int 0, .null, .null, .null, .null, .null, .null, .int 0, .null, .int 0, .null, .null, .null, .null, .null, .null, .int 0, .int 0, .int 0, .null, .null, .null, .null, .null, .null])), (qz_1, .inl (G.2 1, 5322, .inl (fun _ => 0))), (qz_2, .inl (G.2 3, 2, .inl (fun _ => 0))), (qz_3, .inl (G.2 1, 900, .inl (fun _ => 0)))] := h
  refine f_X12_tape (ws' := [(a, .inr (12, [.int 0, .ref qz_1, .ref qz_2, .ref qz_3, .null, .int 0, .int 0, .int 0, .int 0, .int 0, .int 0, .int 0, .int 0, .int 0, .int 0, .null, .null, .int 0, .int 0, .int 0, .null, .null, .null, .null, .null, .null, .int 0, .null, .int 0, .null, .null, .null, .null, .null, .null, .int 0, .int 0, .int 0, .null, .null, .null, .null, .null, .null])), (qz_1, .inl (G.2 1, 5322, .inl (fun _ => 0))), (qz_2, .inl (G.2 3, 2, .inl (fun _ => 0))), (qz_3, .inl (G.2 1, 900, .inl (fun _ => 0)))]) C0 h hini 0 q_1441 rfl (Nat.le_of_ble_eq_true rfl) rfl rfl rfl dX12_init_26 (fun H locs h => ?_)
  refine lv_aload_n hx hb dX12_init_29 rfl (lv_at hl 0 rfl) ?_
  refine lv_sipush (v := 1774) hx hb dX12_init_30 (by decide) ?_
  refine m_newa (atype := .int) (ty := .int) (a0 := (1774, .inl (fun _ => 0))) C0 h 1 rfl rfl rfl q_183 (fun _ => rfl) (by decide) (by decide) (Nat.le_of_ble_eq_true rfl) (Nat.le_of_ble_eq_true rfl) (Nat.le_of_ble_eq_true rfl) dX12_init_33 (fun qz_4 H h => ?_)
  have h : Wd G A s _ _ [(a, .inr (12, [.int 0, .ref qz_1, .ref qz_2, .ref qz_3, .null, .int 0, .int 0, .int 0, .int 0, .int 0, .int 0, .int 0, .int 0, .int 0, .int 0, .null, .null, .int 0, .int 0, .int 0, .null, .null, .null, .null, .null, .null, .int 0, .null, .int 0, .null, .null, .null, .null, .null, .null, .int 0, .int 0, .int 0, .null, .null, .null, .null, .null, .null])), (qz_1, .inl (G.2 1, 5322, .inl (fun _ => 0))), (qz_2, .inl (G.2 3, 2, .inl (fun _ => 0))), (qz_3, .inl (G.2 1, 900, .inl (fun _ => 0))), (qz_4, .inl (G.2 1, 1774, .inl (fun _ => 0)))] := h
  refine f_X12_fresh (ws' := [(a, .inr (12, [.int 0, .ref qz_1, .ref qz_2, .ref qz_3, .ref qz_4, .int 0, .int 0, .int 0, .int 0, .int 0, .int 0, .int 0, .int 0, .int 0, .int 0, .null, .null, .int 0, .int 0, .int 0, .null, .null, .null, .null, .null, .null, .int 0, .null, .int 0, .null, .null, .null, .null, .null, .null, .int 0, .int 0, .int 0, .null, .null, .null, .null, .null, .null])), (qz_1, .inl (G.2 1, 5322, .inl (fun _ => 0))), (qz_2, .inl (G.2 3, 2, .inl (fun _ => 0))), (qz_3, .inl (G.2 1, 900, .inl (fun _ => 0))), (qz_4, .inl (G.2 1, 1774, .inl (fun _ => 0)))]) C0 h hini 0 q_1442 rfl (Nat.le_of_ble_eq_true rfl) rfl rfl rfl dX12_init_35 (fun H locs h => ?_)
  refine lv_aload_n hx hb dX12_init_38 rfl (lv_at hl 0 rfl) ?_
  refine lv_iconst (v := (-1)) hx hb dX12_init_39 (by decide) ?_
  refine p_X12_faultPlace (ws' := [(a, .inr (12, [.int 0, .ref qz_1, .ref qz_2, .ref qz_3, .ref qz_4, .int 0, .int 0, .int 0, .int 0, .int 0, .int 0, .int 0, .int 0, .int 0, .int (-1), .null, .null, .int 0, .int 0, .int 0, .null, .null, .null, .null, .null, .null, .int 0, .null, .int 0, .null, .null, .null, .null, .null, .null, .int 0, .int 0, .int 0, .null, .null, .null, .null, .null, .null])), (qz_1, .inl (G.2 1, 5322, .inl (fun _ => 0))), (qz_2, .inl (G.2 3, 2, .inl (fun _ => 0))), (qz_3, .inl (G.2 1, 900, .inl (fun _ => 0))), (qz_4, .inl (G.2 1, 1774, .inl (fun _ => 0)))]) C0 h 0 q_1452 rfl (Nat.le_of_ble_eq_true rfl) rfl rfl rfl dX12_init_40 (fun H locs h => ?_)
  refine lv_aload_n hx hb dX12_init_43 rfl (lv_at hl 0 rfl) ?_
  refine lv_sipush (v := 900) hx hb dX12_init_44 (by decide) ?_
  refine m_newa (atype := .int) (ty := .int) (a0 := (900, .inl (fun _ => 0))) C0 h 1 rfl rfl rfl q_183 (fun _ => rfl) (by decide) (by decide) (Nat.le_of_ble_eq_true rfl) (Nat.le_of_ble_eq_true rfl) (Nat.le_of_ble_eq_true rfl) dX12_init_47 (fun qz_5 H h => ?_)
  have h : Wd G A s _ _ [(a, .inr (12, [.int 0, .ref qz_1, .ref qz_2, .ref qz_3, .ref qz_4, .int 0, .int 0, .int 0, .int 0, .int 0, .int 0, .int 0, .int 0, .int 0, .int (-1), .null, .null, .int 0, .int 0, .int 0, .null, .null, .null, .null, .null, .null, .int 0, .null, .int 0, .null, .null, .null, .null, .null, .null, .int 0, .int 0, .int 0, .null, .null, .null, .null, .null, .null])), (qz_1, .inl (G.2 1, 5322, .inl (fun _ => 0))), (qz_2, .inl (G.2 3, 2, .inl (fun _ => 0))), (qz_3, .inl (G.2 1, 900, .inl (fun _ => 0))), (qz_4, .inl (G.2 1, 1774, .inl (fun _ => 0))), (qz_5, .inl (G.2 1, 900, .inl (fun _ => 0)))] := h
  refine f_X12_reckoned (ws' := [(a, .inr (12, [.int 0, .ref qz_1, .ref qz_2, .ref qz_3, .ref qz_4, .int 0, .int 0, .int 0, .int 0, .int 0, .int 0, .int 0, .int 0, .int 0, .int (-1), .ref qz_5, .null, .int 0, .int 0, .int 0, .null, .null, .null, .null, .null, .null, .int 0, .null, .int 0, .null, .null, .null, .null, .null, .null, .int 0, .int 0, .int 0, .null, .null, .null, .null, .null, .null])), (qz_1, .inl (G.2 1, 5322, .inl (fun _ => 0))), (qz_2, .inl (G.2 3, 2, .inl (fun _ => 0))), (qz_3, .inl (G.2 1, 900, .inl (fun _ => 0))), (qz_4, .inl (G.2 1, 1774, .inl (fun _ => 0))), (qz_5, .inl (G.2 1, 900, .inl (fun _ => 0)))]) C0 h hini 0 q_1453 rfl (Nat.le_of_ble_eq_true rfl) rfl rfl rfl dX12_init_49 (fun H locs h => ?_)
  refine lv_aload_n hx hb dX12_init_52 rfl (lv_at hl 0 rfl) ?_
  refine lv_bipush (v := 76) hx hb dX12_init_53 (by decide) ?_
  refine m_newa (atype := .int) (ty := .int) (a0 := (76, .inl (fun _ => 0))) C0 h 1 rfl rfl rfl q_183 (fun _ => rfl) (by decide) (by decide) (Nat.le_of_ble_eq_true rfl) (Nat.le_of_ble_eq_true rfl) (Nat.le_of_ble_eq_true rfl) dX12_init_55 (fun qz_6 H h => ?_)
  have h : Wd G A s _ _ [(a, .inr (12, [.int 0, .ref qz_1, .ref qz_2, .ref qz_3, .ref qz_4, .int 0, .int 0, .int 0, .int 0, .int 0, .int 0, .int 0, .int 0, .int 0, .int (-1), .ref qz_5, .null, .int 0, .int 0, .int 0, .null, .null, .null, .null, .null, .null, .int 0, .null, .int 0, .null, .null, .null, .null, .null, .null, .int 0, .int 0, .int 0, .null, .null, .null, .null, .null, .null])), (qz_1, .inl (G.2 1, 5322, .inl (fun _ => 0))), (qz_2, .inl (G.2 3, 2, .inl (fun _ => 0))), (qz_3, .inl (G.2 1, 900, .inl (fun _ => 0))), (qz_4, .inl (G.2 1, 1774, .inl (fun _ => 0))), (qz_5, .inl (G.2 1, 900, .inl (fun _ => 0))), (qz_6, .inl (G.2 1, 76, .inl (fun _ => 0)))] := h
  refine f_X12_was (ws' := [(a, .inr (12, [.int 0, .ref qz_1, .ref qz_2, .ref qz_3, .ref qz_4, .int 0, .int 0, .int 0, .int 0, .int 0, .int 0, .int 0, .int 0, .int 0, .int (-1), .ref qz_5, .ref qz_6, .int 0, .int 0, .int 0, .null, .null, .null, .null, .null, .null, .int 0, .null, .int 0, .null, .null, .null, .null, .null, .null, .int 0, .int 0, .int 0, .null, .null, .null, .null, .null, .null])), (qz_1, .inl (G.2 1, 5322, .inl (fun _ => 0))), (qz_2, .inl (G.2 3, 2, .inl (fun _ => 0))), (qz_3, .inl (G.2 1, 900, .inl (fun _ => 0))), (qz_4, .inl (G.2 1, 1774, .inl (fun _ => 0))), (qz_5, .inl (G.2 1, 900, .inl (fun _ => 0))), (qz_6, .inl (G.2 1, 76, .inl (fun _ => 0)))]) C0 h hini 0 q_1454 rfl (Nat.le_of_ble_eq_true rfl) rfl rfl rfl dX12_init_57 (fun H locs h => ?_)
  refine lv_aload_n hx hb dX12_init_60 rfl (lv_at hl 0 rfl) ?_
  refine lv_bipush (v := 76) hx hb dX12_init_61 (by decide) ?_
  refine m_newa (atype := .int) (ty := .int) (a0 := (76, .inl (fun _ => 0))) C0 h 1 rfl rfl rfl q_183 (fun _ => rfl) (by decide) (by decide) (Nat.le_of_ble_eq_true rfl) (Nat.le_of_ble_eq_true rfl) (Nat.le_of_ble_eq_true rfl) dX12_init_63 (fun qz_7 H h => ?_)
  have h : Wd G A s _ _ [(a, .inr (12, [.int 0, .ref qz_1, .ref qz_2, .ref qz_3, .ref qz_4, .int 0, .int 0, .int 0, .int 0, .int 0, .int 0, .int 0, .int 0, .int 0, .int (-1), .ref qz_5, .ref qz_6, .int 0, .int 0, .int 0, .null, .null, .null, .null, .null, .null, .int 0, .null, .int 0, .null, .null, .null, .null, .null, .null, .int 0, .int 0, .int 0, .null, .null, .null, .null, .null, .null])), (qz_1, .inl (G.2 1, 5322, .inl (fun _ => 0))), (qz_2, .inl (G.2 3, 2, .inl (fun _ => 0))), (qz_3, .inl (G.2 1, 900, .inl (fun _ => 0))), (qz_4, .inl (G.2 1, 1774, .inl (fun _ => 0))), (qz_5, .inl (G.2 1, 900, .inl (fun _ => 0))), (qz_6, .inl (G.2 1, 76, .inl (fun _ => 0))), (qz_7, .inl (G.2 1, 76, .inl (fun _ => 0)))] := h
  refine f_X12_ahead (ws' := [(a, .inr (12, [.int 0, .ref qz_1, .ref qz_2, .ref qz_3, .ref qz_4, .int 0, .int 0, .int 0, .int 0, .int 0, .int 0, .int 0, .int 0, .int 0, .int (-1), .ref qz_5, .ref qz_6, .int 0, .int 0, .int 0, .ref qz_7, .null, .null, .null, .null, .null, .int 0, .null, .int 0, .null, .null, .null, .null, .null, .null, .int 0, .int 0, .int 0, .null, .null, .null, .null, .null, .null])), (qz_1, .inl (G.2 1, 5322, .inl (fun _ => 0))), (qz_2, .inl (G.2 3, 2, .inl (fun _ => 0))), (qz_3, .inl (G.2 1, 900, .inl (fun _ => 0))), (qz_4, .inl (G.2 1, 1774, .inl (fun _ => 0))), (qz_5, .inl (G.2 1, 900, .inl (fun _ => 0))), (qz_6, .inl (G.2 1, 76, .inl (fun _ => 0))), (qz_7, .inl (G.2 1, 76, .inl (fun _ => 0)))]) C0 h hini 0 q_1458 rfl (Nat.le_of_ble_eq_true rfl) rfl rfl rfl dX12_init_65 (fun H locs h => ?_)
  refine lv_aload_n hx hb dX12_init_68 rfl (lv_at hl 0 rfl) ?_
  refine lv_sipush (v := 6100) hx hb dX12_init_69 (by decide) ?_
  refine m_newa (atype := .int) (ty := .int) (a0 := (6100, .inl (fun _ => 0))) C0 h 1 rfl rfl rfl q_183 (fun _ => rfl) (by decide) (by decide) (Nat.le_of_ble_eq_true rfl) (Nat.le_of_ble_eq_true rfl) (Nat.le_of_ble_eq_true rfl) dX12_init_72 (fun qz_8 H h => ?_)
  have h : Wd G A s _ _ [(a, .inr (12, [.int 0, .ref qz_1, .ref qz_2, .ref qz_3, .ref qz_4, .int 0, .int 0, .int 0, .int 0, .int 0, .int 0, .int 0, .int 0, .int 0, .int (-1), .ref qz_5, .ref qz_6, .int 0, .int 0, .int 0, .ref qz_7, .null, .null, .null, .null, .null, .int 0, .null, .int 0, .null, .null, .null, .null, .null, .null, .int 0, .int 0, .int 0, .null, .null, .null, .null, .null, .null])), (qz_1, .inl (G.2 1, 5322, .inl (fun _ => 0))), (qz_2, .inl (G.2 3, 2, .inl (fun _ => 0))), (qz_3, .inl (G.2 1, 900, .inl (fun _ => 0))), (qz_4, .inl (G.2 1, 1774, .inl (fun _ => 0))), (qz_5, .inl (G.2 1, 900, .inl (fun _ => 0))), (qz_6, .inl (G.2 1, 76, .inl (fun _ => 0))), (qz_7, .inl (G.2 1, 76, .inl (fun _ => 0))), (qz_8, .inl (G.2 1, 6100, .inl (fun _ => 0)))] := h
  refine f_X12_sofar (ws' := [(a, .inr (12, [.int 0, .ref qz_1, .ref qz_2, .ref qz_3, .ref qz_4, .int 0, .int 0, .int 0, .int 0, .int 0, .int 0, .int 0, .int 0, .int 0, .int (-1), .ref qz_5, .ref qz_6, .int 0, .int 0, .int 0, .ref qz_7, .ref qz_8, .null, .null, .null, .null, .int 0, .null, .int 0, .null, .null, .null, .null, .null, .null, .int 0, .int 0, .int 0, .null, .null, .null, .null, .null, .null])), (qz_1, .inl (G.2 1, 5322, .inl (fun _ => 0))), (qz_2, .inl (G.2 3, 2, .inl (fun _ => 0))), (qz_3, .inl (G.2 1, 900, .inl (fun _ => 0))), (qz_4, .inl (G.2 1, 1774, .inl (fun _ => 0))), (qz_5, .inl (G.2 1, 900, .inl (fun _ => 0))), (qz_6, .inl (G.2 1, 76, .inl (fun _ => 0))), (qz_7, .inl (G.2 1, 76, .inl (fun _ => 0))), (qz_8, .inl (G.2 1, 6100, .inl (fun _ => 0)))]) C0 h hini 0 q_1459 rfl (Nat.le_of_ble_eq_true rfl) rfl rfl rfl dX12_init_74 (fun H locs h => ?_)
  refine lv_aload_n hx hb dX12_init_77 rfl (lv_at hl 0 rfl) ?_
  refine lv_sipush (v := 6100) hx hb dX12_init_78 (by decide) ?_
  refine m_newa (atype := .int) (ty := .int) (a0 := (6100, .inl (fun _ => 0))) C0 h 1 rfl rfl rfl q_183 (fun _ => rfl) (by decide) (by decide) (Nat.le_of_ble_eq_true rfl) (Nat.le_of_ble_eq_true rfl) (Nat.le_of_ble_eq_true rfl) dX12_init_81 (fun qz_9 H h => ?_)
  have h : Wd G A s _ _ [(a, .inr (12, [.int 0, .ref qz_1, .ref qz_2, .ref qz_3, .ref qz_4, .int 0, .int 0, .int 0, .int 0, .int 0, .int 0, .int 0, .int 0, .int 0, .int (-1), .ref qz_5, .ref qz_6, .int 0, .int 0, .int 0, .ref qz_7, .ref qz_8, .null, .null, .null, .null, .int 0, .null, .int 0, .null, .null, .null, .null, .null, .null, .int 0, .int 0, .int 0, .null, .null, .null, .null, .null, .null])), (qz_1, .inl (G.2 1, 5322, .inl (fun _ => 0))), (qz_2, .inl (G.2 3, 2, .inl (fun _ => 0))), (qz_3, .inl (G.2 1, 900, .inl (fun _ => 0))), (qz_4, .inl (G.2 1, 1774, .inl (fun _ => 0))), (qz_5, .inl (G.2 1, 900, .inl (fun _ => 0))), (qz_6, .inl (G.2 1, 76, .inl (fun _ => 0))), (qz_7, .inl (G.2 1, 76, .inl (fun _ => 0))), (qz_8, .inl (G.2 1, 6100, .inl (fun _ => 0))), (qz_9, .inl (G.2 1, 6100, .inl (fun _ => 0)))] := h
  refine f_X12_still (ws' := [(a, .inr (12, [.int 0, .ref qz_1, .ref qz_2, .ref qz_3, .ref qz_4, .int 0, .int 0, .int 0, .int 0, .int 0, .int 0, .int 0, .int 0, .int 0, .int (-1), .ref qz_5, .ref qz_6, .int 0, .int 0, .int 0, .ref qz_7, .ref qz_8, .ref qz_9, .null, .null, .null, .int 0, .null, .int 0, .null, .null, .null, .null, .null, .null, .int 0, .int 0, .int 0, .null, .null, .null, .null, .null, .null])), (qz_1, .inl (G.2 1, 5322, .inl (fun _ => 0))), (qz_2, .inl (G.2 3, 2, .inl (fun _ => 0))), (qz_3, .inl (G.2 1, 900, .inl (fun _ => 0))), (qz_4, .inl (G.2 1, 1774, .inl (fun _ => 0))), (qz_5, .inl (G.2 1, 900, .inl (fun _ => 0))), (qz_6, .inl (G.2 1, 76, .inl (fun _ => 0))), (qz_7, .inl (G.2 1, 76, .inl (fun _ => 0))), (qz_8, .inl (G.2 1, 6100, .inl (fun _ => 0))), (qz_9, .inl (G.2 1, 6100, .inl (fun _ => 0)))]) C0 h hini 0 q_1460 rfl (Nat.le_of_ble_eq_true rfl) rfl rfl rfl dX12_init_83 (fun H locs h => ?_)
  refine lv_aload_n hx hb dX12_init_86 rfl (lv_at hl 0 rfl) ?_
  refine lv_sipush (v := 6100) hx hb dX12_init_87 (by decide) ?_
  refine m_newa (atype := .int) (ty := .int) (a0 := (6100, .inl (fun _ => 0))) C0 h 1 rfl rfl rfl q_183 (fun _ => rfl) (by decide) (by decide) (Nat.le_of_ble_eq_true rfl) (Nat.le_of_ble_eq_true rfl) (Nat.le_of_ble_eq_true rfl) dX12_init_90 (fun qz_10 H h => ?_)
  have h : Wd G A s _ _ [(a, .inr (12, [.int 0, .ref qz_1, .ref qz_2, .ref qz_3, .ref qz_4, .int 0, .int 0, .int 0, .int 0, .int 0, .int 0, .int 0, .int 0, .int 0, .int (-1), .ref qz_5, .ref qz_6, .int 0, .int 0, .int 0, .ref qz_7, .ref qz_8, .ref qz_9, .null, .null, .null, .int 0, .null, .int 0, .null, .null, .null, .null, .null, .null, .int 0, .int 0, .int 0, .null, .null, .null, .null, .null, .null])), (qz_1, .inl (G.2 1, 5322, .inl (fun _ => 0))), (qz_2, .inl (G.2 3, 2, .inl (fun _ => 0))), (qz_3, .inl (G.2 1, 900, .inl (fun _ => 0))), (qz_4, .inl (G.2 1, 1774, .inl (fun _ => 0))), (qz_5, .inl (G.2 1, 900, .inl (fun _ => 0))), (qz_6, .inl (G.2 1, 76, .inl (fun _ => 0))), (qz_7, .inl (G.2 1, 76, .inl (fun _ => 0))), (qz_8, .inl (G.2 1, 6100, .inl (fun _ => 0))), (qz_9, .inl (G.2 1, 6100, .inl (fun _ => 0))), (qz_10, .inl (G.2 1, 6100, .inl (fun _ => 0)))] := h
  refine f_X12_prices (ws' := [(a, .inr (12, [.int 0, .ref qz_1, .ref qz_2, .ref qz_3, .ref qz_4, .int 0, .int 0, .int 0, .int 0, .int 0, .int 0, .int 0, .int 0, .int 0, .int (-1), .ref qz_5, .ref qz_6, .int 0, .int 0, .int 0, .ref qz_7, .ref qz_8, .ref qz_9, .ref qz_10, .null, .null, .int 0, .null, .int 0, .null, .null, .null, .null, .null, .null, .int 0, .int 0, .int 0, .null, .null, .null, .null, .null, .null])), (qz_1, .inl (G.2 1, 5322, .inl (fun _ => 0))), (qz_2, .inl (G.2 3, 2, .inl (fun _ => 0))), (qz_3, .inl (G.2 1, 900, .inl (fun _ => 0))), (qz_4, .inl (G.2 1, 1774, .inl (fun _ => 0))), (qz_5, .inl (G.2 1, 900, .inl (fun _ => 0))), (qz_6, .inl (G.2 1, 76, .inl (fun _ => 0))), (qz_7, .inl (G.2 1, 76, .inl (fun _ => 0))), (qz_8, .inl (G.2 1, 6100, .inl (fun _ => 0))), (qz_9, .inl (G.2 1, 6100, .inl (fun _ => 0))), (qz_10, .inl (G.2 1, 6100, .inl (fun _ => 0)))]) C0 h hini 0 q_1461 rfl (Nat.le_of_ble_eq_true rfl) rfl rfl rfl dX12_init_92 (fun H locs h => ?_)
  refine lv_aload_n hx hb dX12_init_95 rfl (lv_at hl 0 rfl) ?_
  refine lv_sipush (v := 6100) hx hb dX12_init_96 (by decide) ?_
  refine m_newa (atype := .boolean) (ty := .boolean) (a0 := (6100, .inl (fun _ => 0))) C0 h 3 rfl rfl rfl q_573 (fun _ => rfl) (by decide) (by decide) (Nat.le_of_ble_eq_true rfl) (Nat.le_of_ble_eq_true rfl) (Nat.le_of_ble_eq_true rfl) dX12_init_99 (fun qz_11 H h => ?_)
  have h : Wd G A s _ _ [(a, .inr (12, [.int 0, .ref qz_1, .ref qz_2, .ref qz_3, .ref qz_4, .int 0, .int 0, .int 0, .int 0, .int 0, .int 0, .int 0, .int 0, .int 0, .int (-1), .ref qz_5, .ref qz_6, .int 0, .int 0, .int 0, .ref qz_7, .ref qz_8, .ref qz_9, .ref qz_10, .null, .null, .int 0, .null, .int 0, .null, .null, .null, .null, .null, .null, .int 0, .int 0, .int 0, .null, .null, .null, .null, .null, .null])), (qz_1, .inl (G.2 1, 5322, .inl (fun _ => 0))), (qz_2, .inl (G.2 3, 2, .inl (fun _ => 0))), (qz_3, .inl (G.2 1, 900, .inl (fun _ => 0))), (qz_4, .inl (G.2 1, 1774, .inl (fun _ => 0))), (qz_5, .inl (G.2 1, 900, .inl (fun _ => 0))), (qz_6, .inl (G.2 1, 76, .inl (fun _ => 0))), (qz_7, .inl (G.2 1, 76, .inl (fun _ => 0))), (qz_8, .inl (G.2 1, 6100, .inl (fun _ => 0))), (qz_9, .inl (G.2 1, 6100, .inl (fun _ => 0))), (qz_10, .inl (G.2 1, 6100, .inl (fun _ => 0))), (qz_11, .inl (G.2 3, 6100, .inl (fun _ => 0)))] := h
  refine f_X12_mays (ws' := [(a, .inr (12, [.int 0, .ref qz_1, .ref qz_2, .ref qz_3, .ref qz_4, .int 0, .int 0, .int 0, .int 0, .int 0, .int 0, .int 0, .int 0, .int 0, .int (-1), .ref qz_5, .ref qz_6, .int 0, .int 0, .int 0, .ref qz_7, .ref qz_8, .ref qz_9, .ref qz_10, .ref qz_11, .null, .int 0, .null, .int 0, .null, .null, .null, .null, .null, .null, .int 0, .int 0, .int 0, .null, .null, .null, .null, .null, .null])), (qz_1, .inl (G.2 1, 5322, .inl (fun _ => 0))), (qz_2, .inl (G.2 3, 2, .inl (fun _ => 0))), (qz_3, .inl (G.2 1, 900, .inl (fun _ => 0))), (qz_4, .inl (G.2 1, 1774, .inl (fun _ => 0))), (qz_5, .inl (G.2 1, 900, .inl (fun _ => 0))), (qz_6, .inl (G.2 1, 76, .inl (fun _ => 0))), (qz_7, .inl (G.2 1, 76, .inl (fun _ => 0))), (qz_8, .inl (G.2 1, 6100, .inl (fun _ => 0))), (qz_9, .inl (G.2 1, 6100, .inl (fun _ => 0))), (qz_10, .inl (G.2 1, 6100, .inl (fun _ => 0))), (qz_11, .inl (G.2 3, 6100, .inl (fun _ => 0)))]) C0 h hini 0 q_1462 rfl (Nat.le_of_ble_eq_true rfl) rfl rfl rfl dX12_init_101 (fun H locs h => ?_)
  refine lv_aload_n hx hb dX12_init_104 rfl (lv_at hl 0 rfl) ?_
  refine lv_sipush (v := 1525) hx hb dX12_init_105 (by decide) ?_
  refine m_newa (atype := .boolean) (ty := .boolean) (a0 := (1525, .inl (fun _ => 0))) C0 h 3 rfl rfl rfl q_573 (fun _ => rfl) (by decide) (by decide) (Nat.le_of_ble_eq_true rfl) (Nat.le_of_ble_eq_true rfl) (Nat.le_of_ble_eq_true rfl) dX12_init_108 (fun qz_12 H h => ?_)
  have h : Wd G A s _ _ [(a, .inr (12, [.int 0, .ref qz_1, .ref qz_2, .ref qz_3, .ref qz_4, .int 0, .int 0, .int 0, .int 0, .int 0, .int 0, .int 0, .int 0, .int 0, .int (-1), .ref qz_5, .ref qz_6, .int 0, .int 0, .int 0, .ref qz_7, .ref qz_8, .ref qz_9, .ref qz_10, .ref qz_11, .null, .int 0, .null, .int 0, .null, .null, .null, .null, .null, .null, .int 0, .int 0, .int 0, .null, .null, .null, .null, .null, .null])), (qz_1, .inl (G.2 1, 5322, .inl (fun _ => 0))), (qz_2, .inl (G.2 3, 2, .inl (fun _ => 0))), (qz_3, .inl (G.2 1, 900, .inl (fun _ => 0))), (qz_4, .inl (G.2 1, 1774, .inl (fun _ => 0))), (qz_5, .inl (G.2 1, 900, .inl (fun _ => 0))), (qz_6, .inl (G.2 1, 76, .inl (fun _ => 0))), (qz_7, .inl (G.2 1, 76, .inl (fun _ => 0))), (qz_8, .inl (G.2 1, 6100, .inl (fun _ => 0))), (qz_9, .inl (G.2 1, 6100, .inl (fun _ => 0))), (qz_10, .inl (G.2 1, 6100, .inl (fun _ => 0))), (qz_11, .inl (G.2 3, 6100, .inl (fun _ => 0))), (qz_12, .inl (G.2 3, 1525, .inl (fun _ => 0)))] := h
  refine f_X12_frees (ws' := [(a, .inr (12, [.int 0, .ref qz_1, .ref qz_2, .ref qz_3, .ref qz_4, .int 0, .int 0, .int 0, .int 0, .int 0, .int 0, .int 0, .int 0, .int 0, .int (-1), .ref qz_5, .ref qz_6, .int 0, .int 0, .int 0, .ref qz_7, .ref qz_8, .ref qz_9, .ref qz_10, .ref qz_11, .ref qz_12, .int 0, .null, .int 0, .null, .null, .null, .null, .null, .null, .int 0, .int 0, .int 0, .null, .null, .null, .null, .null, .null])), (qz_1, .inl (G.2 1, 5322, .inl (fun _ => 0))), (qz_2, .inl (G.2 3, 2, .inl (fun _ => 0))), (qz_3, .inl (G.2 1, 900, .inl (fun _ => 0))), (qz_4, .inl (G.2 1, 1774, .inl (fun _ => 0))), (qz_5, .inl (G.2 1, 900, .inl (fun _ => 0))), (qz_6, .inl (G.2 1, 76, .inl (fun _ => 0))), (qz_7, .inl (G.2 1, 76, .inl (fun _ => 0))), (qz_8, .inl (G.2 1, 6100, .inl (fun _ => 0))), (qz_9, .inl (G.2 1, 6100, .inl (fun _ => 0))), (qz_10, .inl (G.2 1, 6100, .inl (fun _ => 0))), (qz_11, .inl (G.2 3, 6100, .inl (fun _ => 0))), (qz_12, .inl (G.2 3, 1525, .inl (fun _ => 0)))]) C0 h hini 0 q_1463 rfl (Nat.le_of_ble_eq_true rfl) rfl rfl rfl dX12_init_110 (fun H locs h => ?_)
  refine lv_aload_n hx hb dX12_init_113 rfl (lv_at hl 0 rfl) ?_
  refine lv_bipush (v := 60) hx hb dX12_init_114 (by decide) ?_
  refine m_newa (atype := .int) (ty := .int) (a0 := (60, .inl (fun _ => 0))) C0 h 1 rfl rfl rfl q_183 (fun _ => rfl) (by decide) (by decide) (Nat.le_of_ble_eq_true rfl) (Nat.le_of_ble_eq_true rfl) (Nat.le_of_ble_eq_true rfl) dX12_init_116 (fun qz_13 H h => ?_)
  have h : Wd G A s _ _ [(a, .inr (12, [.int 0, .ref qz_1, .ref qz_2, .ref qz_3, .ref qz_4, .int 0, .int 0, .int 0, .int 0, .int 0, .int 0, .int 0, .int 0, .int 0, .int (-1), .ref qz_5, .ref qz_6, .int 0, .int 0, .int 0, .ref qz_7, .ref qz_8, .ref qz_9, .ref qz_10, .ref qz_11, .ref qz_12, .int 0, .null, .int 0, .null, .null, .null, .null, .null, .null, .int 0, .int 0, .int 0, .null, .null, .null, .null, .null, .null])), (qz_1, .inl (G.2 1, 5322, .inl (fun _ => 0))), (qz_2, .inl (G.2 3, 2, .inl (fun _ => 0))), (qz_3, .inl (G.2 1, 900, .inl (fun _ => 0))), (qz_4, .inl (G.2 1, 1774, .inl (fun _ => 0))), (qz_5, .inl (G.2 1, 900, .inl (fun _ => 0))), (qz_6, .inl (G.2 1, 76, .inl (fun _ => 0))), (qz_7, .inl (G.2 1, 76, .inl (fun _ => 0))), (qz_8, .inl (G.2 1, 6100, .inl (fun _ => 0))), (qz_9, .inl (G.2 1, 6100, .inl (fun _ => 0))), (qz_10, .inl (G.2 1, 6100, .inl (fun _ => 0))), (qz_11, .inl (G.2 3, 6100, .inl (fun _ => 0))), (qz_12, .inl (G.2 3, 1525, .inl (fun _ => 0))), (qz_13, .inl (G.2 1, 60, .inl (fun _ => 0)))] := h
  refine f_X12_turns (ws' := [(a, .inr (12, [.int 0, .ref qz_1, .ref qz_2, .ref qz_3, .ref qz_4, .int 0, .int 0, .int 0, .int 0, .int 0, .int 0, .int 0, .int 0, .int 0, .int (-1), .ref qz_5, .ref qz_6, .int 0, .int 0, .int 0, .ref qz_7, .ref qz_8, .ref qz_9, .ref qz_10, .ref qz_11, .ref qz_12, .int 0, .ref qz_13, .int 0, .null, .null, .null, .null, .null, .null, .int 0, .int 0, .int 0, .null, .null, .null, .null, .null, .null])), (qz_1, .inl (G.2 1, 5322, .inl (fun _ => 0))), (qz_2, .inl (G.2 3, 2, .inl (fun _ => 0))), (qz_3, .inl (G.2 1, 900, .inl (fun _ => 0))), (qz_4, .inl (G.2 1, 1774, .inl (fun _ => 0))), (qz_5, .inl (G.2 1, 900, .inl (fun _ => 0))), (qz_6, .inl (G.2 1, 76, .inl (fun _ => 0))), (qz_7, .inl (G.2 1, 76, .inl (fun _ => 0))), (qz_8, .inl (G.2 1, 6100, .inl (fun _ => 0))), (qz_9, .inl (G.2 1, 6100, .inl (fun _ => 0))), (qz_10, .inl (G.2 1, 6100, .inl (fun _ => 0))), (qz_11, .inl (G.2 3, 6100, .inl (fun _ => 0))), (qz_12, .inl (G.2 3, 1525, .inl (fun _ => 0))), (qz_13, .inl (G.2 1, 60, .inl (fun _ => 0)))]) C0 h hini 0 q_1465 rfl (Nat.le_of_ble_eq_true rfl) rfl rfl rfl dX12_init_118 (fun H locs h => ?_)
  refine lv_aload_n hx hb dX12_init_121 rfl (lv_at hl 0 rfl) ?_
  refine lv_sipush (v := 4100) hx hb dX12_init_122 (by decide) ?_
  refine m_newa (atype := .long) (ty := .long) (a0 := (4100, .inr (.inl (fun _ => 0)))) C0 h 2 rfl rfl rfl q_468 (fun _ => rfl) (by decide) (by decide) (Nat.le_of_ble_eq_true rfl) (Nat.le_of_ble_eq_true rfl) (Nat.le_of_ble_eq_true rfl) dX12_init_125 (fun qz_14 H h => ?_)
  have h : Wd G A s _ _ [(a, .inr (12, [.int 0, .ref qz_1, .ref qz_2, .ref qz_3, .ref qz_4, .int 0, .int 0, .int 0, .int 0, .int 0, .int 0, .int 0, .int 0, .int 0, .int (-1), .ref qz_5, .ref qz_6, .int 0, .int 0, .int 0, .ref qz_7, .ref qz_8, .ref qz_9, .ref qz_10, .ref qz_11, .ref qz_12, .int 0, .ref qz_13, .int 0, .null, .null, .null, .null, .null, .null, .int 0, .int 0, .int 0, .null, .null, .null, .null, .null, .null])), (qz_1, .inl (G.2 1, 5322, .inl (fun _ => 0))), (qz_2, .inl (G.2 3, 2, .inl (fun _ => 0))), (qz_3, .inl (G.2 1, 900, .inl (fun _ => 0))), (qz_4, .inl (G.2 1, 1774, .inl (fun _ => 0))), (qz_5, .inl (G.2 1, 900, .inl (fun _ => 0))), (qz_6, .inl (G.2 1, 76, .inl (fun _ => 0))), (qz_7, .inl (G.2 1, 76, .inl (fun _ => 0))), (qz_8, .inl (G.2 1, 6100, .inl (fun _ => 0))), (qz_9, .inl (G.2 1, 6100, .inl (fun _ => 0))), (qz_10, .inl (G.2 1, 6100, .inl (fun _ => 0))), (qz_11, .inl (G.2 3, 6100, .inl (fun _ => 0))), (qz_12, .inl (G.2 3, 1525, .inl (fun _ => 0))), (qz_13, .inl (G.2 1, 60, .inl (fun _ => 0))), (qz_14, .inl (G.2 2, 4100, .inr (.inl (fun _ => 0))))] := h
  refine f_X12_many (ws' := [(a, .inr (12, [.int 0, .ref qz_1, .ref qz_2, .ref qz_3, .ref qz_4, .int 0, .int 0, .int 0, .int 0, .int 0, .int 0, .int 0, .int 0, .int 0, .int (-1), .ref qz_5, .ref qz_6, .int 0, .int 0, .int 0, .ref qz_7, .ref qz_8, .ref qz_9, .ref qz_10, .ref qz_11, .ref qz_12, .int 0, .ref qz_13, .int 0, .ref qz_14, .null, .null, .null, .null, .null, .int 0, .int 0, .int 0, .null, .null, .null, .null, .null, .null])), (qz_1, .inl (G.2 1, 5322, .inl (fun _ => 0))), (qz_2, .inl (G.2 3, 2, .inl (fun _ => 0))), (qz_3, .inl (G.2 1, 900, .inl (fun _ => 0))), (qz_4, .inl (G.2 1, 1774, .inl (fun _ => 0))), (qz_5, .inl (G.2 1, 900, .inl (fun _ => 0))), (qz_6, .inl (G.2 1, 76, .inl (fun _ => 0))), (qz_7, .inl (G.2 1, 76, .inl (fun _ => 0))), (qz_8, .inl (G.2 1, 6100, .inl (fun _ => 0))), (qz_9, .inl (G.2 1, 6100, .inl (fun _ => 0))), (qz_10, .inl (G.2 1, 6100, .inl (fun _ => 0))), (qz_11, .inl (G.2 3, 6100, .inl (fun _ => 0))), (qz_12, .inl (G.2 3, 1525, .inl (fun _ => 0))), (qz_13, .inl (G.2 1, 60, .inl (fun _ => 0))), (qz_14, .inl (G.2 2, 4100, .inr (.inl (fun _ => 0))))]) C0 h hini 0 q_1467 rfl (Nat.le_of_ble_eq_true rfl) rfl rfl rfl dX12_init_127 (fun H locs h => ?_)
  refine lv_aload_n hx hb dX12_init_130 rfl (lv_at hl 0 rfl) ?_
  refine lv_sipush (v := 4100) hx hb dX12_init_131 (by decide) ?_
  refine m_newa (atype := .long) (ty := .long) (a0 := (4100, .inr (.inl (fun _ => 0)))) C0 h 2 rfl rfl rfl q_468 (fun _ => rfl) (by decide) (by decide) (Nat.le_of_ble_eq_true rfl) (Nat.le_of_ble_eq_true rfl) (Nat.le_of_ble_eq_true rfl) dX12_init_134 (fun qz_15 H h => ?_)
  have h : Wd G A s _ _ [(a, .inr (12, [.int 0, .ref qz_1, .ref qz_2, .ref qz_3, .ref qz_4, .int 0, .int 0, .int 0, .int 0, .int 0, .int 0, .int 0, .int 0, .int 0, .int (-1), .ref qz_5, .ref qz_6, .int 0, .int 0, .int 0, .ref qz_7, .ref qz_8, .ref qz_9, .ref qz_10, .ref qz_11, .ref qz_12, .int 0, .ref qz_13, .int 0, .ref qz_14, .null, .null, .null, .null, .null, .int 0, .int 0, .int 0, .null, .null, .null, .null, .null, .null])), (qz_1, .inl (G.2 1, 5322, .inl (fun _ => 0))), (qz_2, .inl (G.2 3, 2, .inl (fun _ => 0))), (qz_3, .inl (G.2 1, 900, .inl (fun _ => 0))), (qz_4, .inl (G.2 1, 1774, .inl (fun _ => 0))), (qz_5, .inl (G.2 1, 900, .inl (fun _ => 0))), (qz_6, .inl (G.2 1, 76, .inl (fun _ => 0))), (qz_7, .inl (G.2 1, 76, .inl (fun _ => 0))), (qz_8, .inl (G.2 1, 6100, .inl (fun _ => 0))), (qz_9, .inl (G.2 1, 6100, .inl (fun _ => 0))), (qz_10, .inl (G.2 1, 6100, .inl (fun _ => 0))), (qz_11, .inl (G.2 3, 6100, .inl (fun _ => 0))), (qz_12, .inl (G.2 3, 1525, .inl (fun _ => 0))), (qz_13, .inl (G.2 1, 60, .inl (fun _ => 0))), (qz_14, .inl (G.2 2, 4100, .inr (.inl (fun _ => 0)))), (qz_15, .inl (G.2 2, 4100, .inr (.inl (fun _ => 0))))] := h
  refine f_X12_manyThen (ws' := [(a, .inr (12, [.int 0, .ref qz_1, .ref qz_2, .ref qz_3, .ref qz_4, .int 0, .int 0, .int 0, .int 0, .int 0, .int 0, .int 0, .int 0, .int 0, .int (-1), .ref qz_5, .ref qz_6, .int 0, .int 0, .int 0, .ref qz_7, .ref qz_8, .ref qz_9, .ref qz_10, .ref qz_11, .ref qz_12, .int 0, .ref qz_13, .int 0, .ref qz_14, .ref qz_15, .null, .null, .null, .null, .int 0, .int 0, .int 0, .null, .null, .null, .null, .null, .null])), (qz_1, .inl (G.2 1, 5322, .inl (fun _ => 0))), (qz_2, .inl (G.2 3, 2, .inl (fun _ => 0))), (qz_3, .inl (G.2 1, 900, .inl (fun _ => 0))), (qz_4, .inl (G.2 1, 1774, .inl (fun _ => 0))), (qz_5, .inl (G.2 1, 900, .inl (fun _ => 0))), (qz_6, .inl (G.2 1, 76, .inl (fun _ => 0))), (qz_7, .inl (G.2 1, 76, .inl (fun _ => 0))), (qz_8, .inl (G.2 1, 6100, .inl (fun _ => 0))), (qz_9, .inl (G.2 1, 6100, .inl (fun _ => 0))), (qz_10, .inl (G.2 1, 6100, .inl (fun _ => 0))), (qz_11, .inl (G.2 3, 6100, .inl (fun _ => 0))), (qz_12, .inl (G.2 3, 1525, .inl (fun _ => 0))), (qz_13, .inl (G.2 1, 60, .inl (fun _ => 0))), (qz_14, .inl (G.2 2, 4100, .inr (.inl (fun _ => 0)))), (qz_15, .inl (G.2 2, 4100, .inr (.inl (fun _ => 0))))]) C0 h hini 0 q_1468 rfl (Nat.le_of_ble_eq_true rfl) rfl rfl rfl dX12_init_136 (fun H locs h => ?_)
  refine lv_aload_n hx hb dX12_init_139 rfl (lv_at hl 0 rfl) ?_
  refine lv_bipush (v := 100) hx hb dX12_init_140 (by decide) ?_
  refine m_newa (atype := .boolean) (ty := .boolean) (a0 := (100, .inl (fun _ => 0))) C0 h 3 rfl rfl rfl q_573 (fun _ => rfl) (by decide) (by decide) (Nat.le_of_ble_eq_true rfl) (Nat.le_of_ble_eq_true rfl) (Nat.le_of_ble_eq_true rfl) dX12_init_142 (fun qz_16 H h => ?_)
  have h : Wd G A s _ _ [(a, .inr (12, [.int 0, .ref qz_1, .ref qz_2, .ref qz_3, .ref qz_4, .int 0, .int 0, .int 0, .int 0, .int 0, .int 0, .int 0, .int 0, .int 0, .int (-1), .ref qz_5, .ref qz_6, .int 0, .int 0, .int 0, .ref qz_7, .ref qz_8, .ref qz_9, .ref qz_10, .ref qz_11, .ref qz_12, .int 0, .ref qz_13, .int 0, .ref qz_14, .ref qz_15, .null, .null, .null, .null, .int 0, .int 0, .int 0, .null, .null, .null, .null, .null, .null])), (qz_1, .inl (G.2 1, 5322, .inl (fun _ => 0))), (qz_2, .inl (G.2 3, 2, .inl (fun _ => 0))), (qz_3, .inl (G.2 1, 900, .inl (fun _ => 0))), (qz_4, .inl (G.2 1, 1774, .inl (fun _ => 0))), (qz_5, .inl (G.2 1, 900, .inl (fun _ => 0))), (qz_6, .inl (G.2 1, 76, .inl (fun _ => 0))), (qz_7, .inl (G.2 1, 76, .inl (fun _ => 0))), (qz_8, .inl (G.2 1, 6100, .inl (fun _ => 0))), (qz_9, .inl (G.2 1, 6100, .inl (fun _ => 0))), (qz_10, .inl (G.2 1, 6100, .inl (fun _ => 0))), (qz_11, .inl (G.2 3, 6100, .inl (fun _ => 0))), (qz_12, .inl (G.2 3, 1525, .inl (fun _ => 0))), (qz_13, .inl (G.2 1, 60, .inl (fun _ => 0))), (qz_14, .inl (G.2 2, 4100, .inr (.inl (fun _ => 0)))), (qz_15, .inl (G.2 2, 4100, .inr (.inl (fun _ => 0)))), (qz_16, .inl (G.2 3, 100, .inl (fun _ => 0)))] := h
  refine f_X12_met (ws' := [(a, .inr (12, [.int 0, .ref qz_1, .ref qz_2, .ref qz_3, .ref qz_4, .int 0, .int 0, .int 0, .int 0, .int 0, .int 0, .int 0, .int 0, .int 0, .int (-1), .ref qz_5, .ref qz_6, .int 0, .int 0, .int 0, .ref qz_7, .ref qz_8, .ref qz_9, .ref qz_10, .ref qz_11, .ref qz_12, .int 0, .ref qz_13, .int 0, .ref qz_14, .ref qz_15, .ref qz_16, .null, .null, .null, .int 0, .int 0, .int 0, .null, .null, .null, .null, .null, .null])), (qz_1, .inl (G.2 1, 5322, .inl (fun _ => 0))), (qz_2, .inl (G.2 3, 2, .inl (fun _ => 0))), (qz_3, .inl (G.2 1, 900, .inl (fun _ => 0))), (qz_4, .inl (G.2 1, 1774, .inl (fun _ => 0))), (qz_5, .inl (G.2 1, 900, .inl (fun _ => 0))), (qz_6, .inl (G.2 1, 76, .inl (fun _ => 0))), (qz_7, .inl (G.2 1, 76, .inl (fun _ => 0))), (qz_8, .inl (G.2 1, 6100, .inl (fun _ => 0))), (qz_9, .inl (G.2 1, 6100, .inl (fun _ => 0))), (qz_10, .inl (G.2 1, 6100, .inl (fun _ => 0))), (qz_11, .inl (G.2 3, 6100, .inl (fun _ => 0))), (qz_12, .inl (G.2 3, 1525, .inl (fun _ => 0))), (qz_13, .inl (G.2 1, 60, .inl (fun _ => 0))), (qz_14, .inl (G.2 2, 4100, .inr (.inl (fun _ => 0)))), (qz_15, .inl (G.2 2, 4100, .inr (.inl (fun _ => 0)))), (qz_16, .inl (G.2 3, 100, .inl (fun _ => 0)))]) C0 h hini 0 q_1469 rfl (Nat.le_of_ble_eq_true rfl) rfl rfl rfl dX12_init_144 (fun H locs h => ?_)
  refine lv_aload_n hx hb dX12_init_147 rfl (lv_at hl 0 rfl) ?_
  refine lv_bipush (v := 100) hx hb dX12_init_148 (by decide) ?_
  refine m_newa (atype := .boolean) (ty := .boolean) (a0 := (100, .inl (fun _ => 0))) C0 h 3 rfl rfl rfl q_573 (fun _ => rfl) (by decide) (by decide) (Nat.le_of_ble_eq_true rfl) (Nat.le_of_ble_eq_true rfl) (Nat.le_of_ble_eq_true rfl) dX12_init_150 (fun qz_17 H h => ?_)
  have h : Wd G A s _ _ [(a, .inr (12, [.int 0, .ref qz_1, .ref qz_2, .ref qz_3, .ref qz_4, .int 0, .int 0, .int 0, .int 0, .int 0, .int 0, .int 0, .int 0, .int 0, .int (-1), .ref qz_5, .ref qz_6, .int 0, .int 0, .int 0, .ref qz_7, .ref qz_8, .ref qz_9, .ref qz_10, .ref qz_11, .ref qz_12, .int 0, .ref qz_13, .int 0, .ref qz_14, .ref qz_15, .ref qz_16, .null, .null, .null, .int 0, .int 0, .int 0, .null, .null, .null, .null, .null, .null])), (qz_1, .inl (G.2 1, 5322, .inl (fun _ => 0))), (qz_2, .inl (G.2 3, 2, .inl (fun _ => 0))), (qz_3, .inl (G.2 1, 900, .inl (fun _ => 0))), (qz_4, .inl (G.2 1, 1774, .inl (fun _ => 0))), (qz_5, .inl (G.2 1, 900, .inl (fun _ => 0))), (qz_6, .inl (G.2 1, 76, .inl (fun _ => 0))), (qz_7, .inl (G.2 1, 76, .inl (fun _ => 0))), (qz_8, .inl (G.2 1, 6100, .inl (fun _ => 0))), (qz_9, .inl (G.2 1, 6100, .inl (fun _ => 0))), (qz_10, .inl (G.2 1, 6100, .inl (fun _ => 0))), (qz_11, .inl (G.2 3, 6100, .inl (fun _ => 0))), (qz_12, .inl (G.2 3, 1525, .inl (fun _ => 0))), (qz_13, .inl (G.2 1, 60, .inl (fun _ => 0))), (qz_14, .inl (G.2 2, 4100, .inr (.inl (fun _ => 0)))), (qz_15, .inl (G.2 2, 4100, .inr (.inl (fun _ => 0)))), (qz_16, .inl (G.2 3, 100, .inl (fun _ => 0))), (qz_17, .inl (G.2 3, 100, .inl (fun _ => 0)))] := h
  refine f_X12_metThen (ws' := [(a, .inr (12, [.int 0, .ref qz_1, .ref qz_2, .ref qz_3, .ref qz_4, .int 0, .int 0, .int 0, .int 0, .int 0, .int 0, .int 0, .int 0, .int 0, .int (-1), .ref qz_5, .ref qz_6, .int 0, .int 0, .int 0, .ref qz_7, .ref qz_8, .ref qz_9, .ref qz_10, .ref qz_11, .ref qz_12, .int 0, .ref qz_13, .int 0, .ref qz_14, .ref qz_15, .ref qz_16, .ref qz_17, .null, .null, .int 0, .int 0, .int 0, .null, .null, .null, .null, .null, .null])), (qz_1, .inl (G.2 1, 5322, .inl (fun _ => 0))), (qz_2, .inl (G.2 3, 2, .inl (fun _ => 0))), (qz_3, .inl (G.2 1, 900, .inl (fun _ => 0))), (qz_4, .inl (G.2 1, 1774, .inl (fun _ => 0))), (qz_5, .inl (G.2 1, 900, .inl (fun _ => 0))), (qz_6, .inl (G.2 1, 76, .inl (fun _ => 0))), (qz_7, .inl (G.2 1, 76, .inl (fun _ => 0))), (qz_8, .inl (G.2 1, 6100, .inl (fun _ => 0))), (qz_9, .inl (G.2 1, 6100, .inl (fun _ => 0))), (qz_10, .inl (G.2 1, 6100, .inl (fun _ => 0))), (qz_11, .inl (G.2 3, 6100, .inl (fun _ => 0))), (qz_12, .inl (G.2 3, 1525, .inl (fun _ => 0))), (qz_13, .inl (G.2 1, 60, .inl (fun _ => 0))), (qz_14, .inl (G.2 2, 4100, .inr (.inl (fun _ => 0)))), (qz_15, .inl (G.2 2, 4100, .inr (.inl (fun _ => 0)))), (qz_16, .inl (G.2 3, 100, .inl (fun _ => 0))), (qz_17, .inl (G.2 3, 100, .inl (fun _ => 0)))]) C0 h hini 0 q_1470 rfl (Nat.le_of_ble_eq_true rfl) rfl rfl rfl dX12_init_152 (fun H locs h => ?_)
  refine lv_aload_n hx hb dX12_init_155 rfl (lv_at hl 0 rfl) ?_
  refine lv_iconst (v := 4) hx hb dX12_init_156 (by decide) ?_
  refine m_newa (atype := .int) (ty := .int) (a0 := (4, .inl (fun _ => 0))) C0 h 1 rfl rfl rfl q_183 (fun _ => rfl) (by decide) (by decide) (Nat.le_of_ble_eq_true rfl) (Nat.le_of_ble_eq_true rfl) (Nat.le_of_ble_eq_true rfl) dX12_init_157 (fun qz_18 H h => ?_)
  have h : Wd G A s _ _ [(a, .inr (12, [.int 0, .ref qz_1, .ref qz_2, .ref qz_3, .ref qz_4, .int 0, .int 0, .int 0, .int 0, .int 0, .int 0, .int 0, .int 0, .int 0, .int (-1), .ref qz_5, .ref qz_6, .int 0, .int 0, .int 0, .ref qz_7, .ref qz_8, .ref qz_9, .ref qz_10, .ref qz_11, .ref qz_12, .int 0, .ref qz_13, .int 0, .ref qz_14, .ref qz_15, .ref qz_16, .ref qz_17, .null, .null, .int 0, .int 0, .int 0, .null, .null, .null, .null, .null, .null])), (qz_1, .inl (G.2 1, 5322, .inl (fun _ => 0))), (qz_2, .inl (G.2 3, 2, .inl (fun _ => 0))), (qz_3, .inl (G.2 1, 900, .inl (fun _ => 0))), (qz_4, .inl (G.2 1, 1774, .inl (fun _ => 0))), (qz_5, .inl (G.2 1, 900, .inl (fun _ => 0))), (qz_6, .inl (G.2 1, 76, .inl (fun _ => 0))), (qz_7, .inl (G.2 1, 76, .inl (fun _ => 0))), (qz_8, .inl (G.2 1, 6100, .inl (fun _ => 0))), (qz_9, .inl (G.2 1, 6100, .inl (fun _ => 0))), (qz_10, .inl (G.2 1, 6100, .inl (fun _ => 0))), (qz_11, .inl (G.2 3, 6100, .inl (fun _ => 0))), (qz_12, .inl (G.2 3, 1525, .inl (fun _ => 0))), (qz_13, .inl (G.2 1, 60, .inl (fun _ => 0))), (qz_14, .inl (G.2 2, 4100, .inr (.inl (fun _ => 0)))), (qz_15, .inl (G.2 2, 4100, .inr (.inl (fun _ => 0)))), (qz_16, .inl (G.2 3, 100, .inl (fun _ => 0))), (qz_17, .inl (G.2 3, 100, .inl (fun _ => 0))), (qz_18, .inl (G.2 1, 4, .inl (fun _ => 0)))] := h
  refine f_X12_taken (ws' := [(a, .inr (12, [.int 0, .ref qz_1, .ref qz_2, .ref qz_3, .ref qz_4, .int 0, .int 0, .int 0, .int 0, .int 0, .int 0, .int 0, .int 0, .int 0, .int (-1), .ref qz_5, .ref qz_6, .int 0, .int 0, .int 0, .ref qz_7, .ref qz_8, .ref qz_9, .ref qz_10, .ref qz_11, .ref qz_12, .int 0, .ref qz_13, .int 0, .ref qz_14, .ref qz_15, .ref qz_16, .ref qz_17, .ref qz_18, .null, .int 0, .int 0, .int 0, .null, .null, .null, .null, .null, .null])), (qz_1, .inl (G.2 1, 5322, .inl (fun _ => 0))), (qz_2, .inl (G.2 3, 2, .inl (fun _ => 0))), (qz_3, .inl (G.2 1, 900, .inl (fun _ => 0))), (qz_4, .inl (G.2 1, 1774, .inl (fun _ => 0))), (qz_5, .inl (G.2 1, 900, .inl (fun _ => 0))), (qz_6, .inl (G.2 1, 76, .inl (fun _ => 0))), (qz_7, .inl (G.2 1, 76, .inl (fun _ => 0))), (qz_8, .inl (G.2 1, 6100, .inl (fun _ => 0))), (qz_9, .inl (G.2 1, 6100, .inl (fun _ => 0))), (qz_10, .inl (G.2 1, 6100, .inl (fun _ => 0))), (qz_11, .inl (G.2 3, 6100, .inl (fun _ => 0))), (qz_12, .inl (G.2 3, 1525, .inl (fun _ => 0))), (qz_13, .inl (G.2 1, 60, .inl (fun _ => 0))), (qz_14, .inl (G.2 2, 4100, .inr (.inl (fun _ => 0)))), (qz_15, .inl (G.2 2, 4100, .inr (.inl (fun _ => 0)))), (qz_16, .inl (G.2 3, 100, .inl (fun _ => 0))), (qz_17, .inl (G.2 3, 100, .inl (fun _ => 0))), (qz_18, .inl (G.2 1, 4, .inl (fun _ => 0)))]) C0 h hini 0 q_1471 rfl (Nat.le_of_ble_eq_true rfl) rfl rfl rfl dX12_init_159 (fun H locs h => ?_)
  refine lv_aload_n hx hb dX12_init_162 rfl (lv_at hl 0 rfl) ?_
  refine lv_iconst (v := 4) hx hb dX12_init_163 (by decide) ?_
  refine m_newa (atype := .int) (ty := .int) (a0 := (4, .inl (fun _ => 0))) C0 h 1 rfl rfl rfl q_183 (fun _ => rfl) (by decide) (by decide) (Nat.le_of_ble_eq_true rfl) (Nat.le_of_ble_eq_true rfl) (Nat.le_of_ble_eq_true rfl) dX12_init_164 (fun qz_19 H h => ?_)
  have h : Wd G A s _ _ [(a, .inr (12, [.int 0, .ref qz_1, .ref qz_2, .ref qz_3, .ref qz_4, .int 0, .int 0, .int 0, .int 0, .int 0, .int 0, .int 0, .int 0, .int 0, .int (-1), .ref qz_5, .ref qz_6, .int 0, .int 0, .int 0, .ref qz_7, .ref qz_8, .ref qz_9, .ref qz_10, .ref qz_11, .ref qz_12, .int 0, .ref qz_13, .int 0, .ref qz_14, .ref qz_15, .ref qz_16, .ref qz_17, .ref qz_18, .null, .int 0, .int 0, .int 0, .null, .null, .null, .null, .null, .null])), (qz_1, .inl (G.2 1, 5322, .inl (fun _ => 0))), (qz_2, .inl (G.2 3, 2, .inl (fun _ => 0))), (qz_3, .inl (G.2 1, 900, .inl (fun _ => 0))), (qz_4, .inl (G.2 1, 1774, .inl (fun _ => 0))), (qz_5, .inl (G.2 1, 900, .inl (fun _ => 0))), (qz_6, .inl (G.2 1, 76, .inl (fun _ => 0))), (qz_7, .inl (G.2 1, 76, .inl (fun _ => 0))), (qz_8, .inl (G.2 1, 6100, .inl (fun _ => 0))), (qz_9, .inl (G.2 1, 6100, .inl (fun _ => 0))), (qz_10, .inl (G.2 1, 6100, .inl (fun _ => 0))), (qz_11, .inl (G.2 3, 6100, .inl (fun _ => 0))), (qz_12, .inl (G.2 3, 1525, .inl (fun _ => 0))), (qz_13, .inl (G.2 1, 60, .inl (fun _ => 0))), (qz_14, .inl (G.2 2, 4100, .inr (.inl (fun _ => 0)))), (qz_15, .inl (G.2 2, 4100, .inr (.inl (fun _ => 0)))), (qz_16, .inl (G.2 3, 100, .inl (fun _ => 0))), (qz_17, .inl (G.2 3, 100, .inl (fun _ => 0))), (qz_18, .inl (G.2 1, 4, .inl (fun _ => 0))), (qz_19, .inl (G.2 1, 4, .inl (fun _ => 0)))] := h
  refine f_X12_bestRow (ws' := [(a, .inr (12, [.int 0, .ref qz_1, .ref qz_2, .ref qz_3, .ref qz_4, .int 0, .int 0, .int 0, .int 0, .int 0, .int 0, .int 0, .int 0, .int 0, .int (-1), .ref qz_5, .ref qz_6, .int 0, .int 0, .int 0, .ref qz_7, .ref qz_8, .ref qz_9, .ref qz_10, .ref qz_11, .ref qz_12, .int 0, .ref qz_13, .int 0, .ref qz_14, .ref qz_15, .ref qz_16, .ref qz_17, .ref qz_18, .ref qz_19, .int 0, .int 0, .int 0, .null, .null, .null, .null, .null, .null])), (qz_1, .inl (G.2 1, 5322, .inl (fun _ => 0))), (qz_2, .inl (G.2 3, 2, .inl (fun _ => 0))), (qz_3, .inl (G.2 1, 900, .inl (fun _ => 0))), (qz_4, .inl (G.2 1, 1774, .inl (fun _ => 0))), (qz_5, .inl (G.2 1, 900, .inl (fun _ => 0))), (qz_6, .inl (G.2 1, 76, .inl (fun _ => 0))), (qz_7, .inl (G.2 1, 76, .inl (fun _ => 0))), (qz_8, .inl (G.2 1, 6100, .inl (fun _ => 0))), (qz_9, .inl (G.2 1, 6100, .inl (fun _ => 0))), (qz_10, .inl (G.2 1, 6100, .inl (fun _ => 0))), (qz_11, .inl (G.2 3, 6100, .inl (fun _ => 0))), (qz_12, .inl (G.2 3, 1525, .inl (fun _ => 0))), (qz_13, .inl (G.2 1, 60, .inl (fun _ => 0))), (qz_14, .inl (G.2 2, 4100, .inr (.inl (fun _ => 0)))), (qz_15, .inl (G.2 2, 4100, .inr (.inl (fun _ => 0)))), (qz_16, .inl (G.2 3, 100, .inl (fun _ => 0))), (qz_17, .inl (G.2 3, 100, .inl (fun _ => 0))), (qz_18, .inl (G.2 1, 4, .inl (fun _ => 0))), (qz_19, .inl (G.2 1, 4, .inl (fun _ => 0)))]) C0 h hini 0 q_1472 rfl (Nat.le_of_ble_eq_true rfl) rfl rfl rfl dX12_init_166 (fun H locs h => ?_)
  refine lv_aload_n hx hb dX12_init_169 rfl (lv_at hl 0 rfl) ?_
  refine lv_sipush (v := 1100) hx hb dX12_init_170 (by decide) ?_
  refine m_newa (atype := .boolean) (ty := .boolean) (a0 := (1100, .inl (fun _ => 0))) C0 h 3 rfl rfl rfl q_573 (fun _ => rfl) (by decide) (by decide) (Nat.le_of_ble_eq_true rfl) (Nat.le_of_ble_eq_true rfl) (Nat.le_of_ble_eq_true rfl) dX12_init_173 (fun qz_20 H h => ?_)
  have h : Wd G A s _ _ [(a, .inr (12, [.int 0, .ref qz_1, .ref qz_2, .ref qz_3, .ref qz_4, .int 0, .int 0, .int 0, .int 0, .int 0, .int 0, .int 0, .int 0, .int 0, .int (-1), .ref qz_5, .ref qz_6, .int 0, .int 0, .int 0, .ref qz_7, .ref qz_8, .ref qz_9, .ref qz_10, .ref qz_11, .ref qz_12, .int 0, .ref qz_13, .int 0, .ref qz_14, .ref qz_15, .ref qz_16, .ref qz_17, .ref qz_18, .ref qz_19, .int 0, .int 0, .int 0, .null, .null, .null, .null, .null, .null])), (qz_1, .inl (G.2 1, 5322, .inl (fun _ => 0))), (qz_2, .inl (G.2 3, 2, .inl (fun _ => 0))), (qz_3, .inl (G.2 1, 900, .inl (fun _ => 0))), (qz_4, .inl (G.2 1, 1774, .inl (fun _ => 0))), (qz_5, .inl (G.2 1, 900, .inl (fun _ => 0))), (qz_6, .inl (G.2 1, 76, .inl (fun _ => 0))), (qz_7, .inl (G.2 1, 76, .inl (fun _ => 0))), (qz_8, .inl (G.2 1, 6100, .inl (fun _ => 0))), (qz_9, .inl (G.2 1, 6100, .inl (fun _ => 0))), (qz_10, .inl (G.2 1, 6100, .inl (fun _ => 0))), (qz_11, .inl (G.2 3, 6100, .inl (fun _ => 0))), (qz_12, .inl (G.2 3, 1525, .inl (fun _ => 0))), (qz_13, .inl (G.2 1, 60, .inl (fun _ => 0))), (qz_14, .inl (G.2 2, 4100, .inr (.inl (fun _ => 0)))), (qz_15, .inl (G.2 2, 4100, .inr (.inl (fun _ => 0)))), (qz_16, .inl (G.2 3, 100, .inl (fun _ => 0))), (qz_17, .inl (G.2 3, 100, .inl (fun _ => 0))), (qz_18, .inl (G.2 1, 4, .inl (fun _ => 0))), (qz_19, .inl (G.2 1, 4, .inl (fun _ => 0))), (qz_20, .inl (G.2 3, 1100, .inl (fun _ => 0)))] := h
  refine f_X12_may1 (ws' := [(a, .inr (12, [.int 0, .ref qz_1, .ref qz_2, .ref qz_3, .ref qz_4, .int 0, .int 0, .int 0, .int 0, .int 0, .int 0, .int 0, .int 0, .int 0, .int (-1), .ref qz_5, .ref qz_6, .int 0, .int 0, .int 0, .ref qz_7, .ref qz_8, .ref qz_9, .ref qz_10, .ref qz_11, .ref qz_12, .int 0, .ref qz_13, .int 0, .ref qz_14, .ref qz_15, .ref qz_16, .ref qz_17, .ref qz_18, .ref qz_19, .int 0, .int 0, .int 0, .ref qz_20, .null, .null, .null, .null, .null])), (qz_1, .inl (G.2 1, 5322, .inl (fun _ => 0))), (qz_2, .inl (G.2 3, 2, .inl (fun _ => 0))), (qz_3, .inl (G.2 1, 900, .inl (fun _ => 0))), (qz_4, .inl (G.2 1, 1774, .inl (fun _ => 0))), (qz_5, .inl (G.2 1, 900, .inl (fun _ => 0))), (qz_6, .inl (G.2 1, 76, .inl (fun _ => 0))), (qz_7, .inl (G.2 1, 76, .inl (fun _ => 0))), (qz_8, .inl (G.2 1, 6100, .inl (fun _ => 0))), (qz_9, .inl (G.2 1, 6100, .inl (fun _ => 0))), (qz_10, .inl (G.2 1, 6100, .inl (fun _ => 0))), (qz_11, .inl (G.2 3, 6100, .inl (fun _ => 0))), (qz_12, .inl (G.2 3, 1525, .inl (fun _ => 0))), (qz_13, .inl (G.2 1, 60, .inl (fun _ => 0))), (qz_14, .inl (G.2 2, 4100, .inr (.inl (fun _ => 0)))), (qz_15, .inl (G.2 2, 4100, .inr (.inl (fun _ => 0)))), (qz_16, .inl (G.2 3, 100, .inl (fun _ => 0))), (qz_17, .inl (G.2 3, 100, .inl (fun _ => 0))), (qz_18, .inl (G.2 1, 4, .inl (fun _ => 0))), (qz_19, .inl (G.2 1, 4, .inl (fun _ => 0))), (qz_20, .inl (G.2 3, 1100, .inl (fun _ => 0)))]) C0 h hini 0 q_1476 rfl (Nat.le_of_ble_eq_true rfl) rfl rfl rfl dX12_init_175 (fun H locs h => ?_)
  refine lv_aload_n hx hb dX12_init_178 rfl (lv_at hl 0 rfl) ?_
  refine lv_sipush (v := 1100) hx hb dX12_init_179 (by decide) ?_
  refine m_newa (atype := .boolean) (ty := .boolean) (a0 := (1100, .inl (fun _ => 0))) C0 h 3 rfl rfl rfl q_573 (fun _ => rfl) (by decide) (by decide) (Nat.le_of_ble_eq_true rfl) (Nat.le_of_ble_eq_true rfl) (Nat.le_of_ble_eq_true rfl) dX12_init_182 (fun qz_21 H h => ?_)
  have h : Wd G A s _ _ [(a, .inr (12, [.int 0, .ref qz_1, .ref qz_2, .ref qz_3, .ref qz_4, .int 0, .int 0, .int 0, .int 0, .int 0, .int 0, .int 0, .int 0, .int 0, .int (-1), .ref qz_5, .ref qz_6, .int 0, .int 0, .int 0, .ref qz_7, .ref qz_8, .ref qz_9, .ref qz_10, .ref qz_11, .ref qz_12, .int 0, .ref qz_13, .int 0, .ref qz_14, .ref qz_15, .ref qz_16, .ref qz_17, .ref qz_18, .ref qz_19, .int 0, .int 0, .int 0, .ref qz_20, .null, .null, .null, .null, .null])), (qz_1, .inl (G.2 1, 5322, .inl (fun _ => 0))), (qz_2, .inl (G.2 3, 2, .inl (fun _ => 0))), (qz_3, .inl (G.2 1, 900, .inl (fun _ => 0))), (qz_4, .inl (G.2 1, 1774, .inl (fun _ => 0))), (qz_5, .inl (G.2 1, 900, .inl (fun _ => 0))), (qz_6, .inl (G.2 1, 76, .inl (fun _ => 0))), (qz_7, .inl (G.2 1, 76, .inl (fun _ => 0))), (qz_8, .inl (G.2 1, 6100, .inl (fun _ => 0))), (qz_9, .inl (G.2 1, 6100, .inl (fun _ => 0))), (qz_10, .inl (G.2 1, 6100, .inl (fun _ => 0))), (qz_11, .inl (G.2 3, 6100, .inl (fun _ => 0))), (qz_12, .inl (G.2 3, 1525, .inl (fun _ => 0))), (qz_13, .inl (G.2 1, 60, .inl (fun _ => 0))), (qz_14, .inl (G.2 2, 4100, .inr (.inl (fun _ => 0)))), (qz_15, .inl (G.2 2, 4100, .inr (.inl (fun _ => 0)))), (qz_16, .inl (G.2 3, 100, .inl (fun _ => 0))), (qz_17, .inl (G.2 3, 100, .inl (fun _ => 0))), (qz_18, .inl (G.2 1, 4, .inl (fun _ => 0))), (qz_19, .inl (G.2 1, 4, .inl (fun _ => 0))), (qz_20, .inl (G.2 3, 1100, .inl (fun _ => 0))), (qz_21, .inl (G.2 3, 1100, .inl (fun _ => 0)))] := h
  refine f_X12_mayThen (ws' := [(a, .inr (12, [.int 0, .ref qz_1, .ref qz_2, .ref qz_3, .ref qz_4, .int 0, .int 0, .int 0, .int 0, .int 0, .int 0, .int 0, .int 0, .int 0, .int (-1), .ref qz_5, .ref qz_6, .int 0, .int 0, .int 0, .ref qz_7, .ref qz_8, .ref qz_9, .ref qz_10, .ref qz_11, .ref qz_12, .int 0, .ref qz_13, .int 0, .ref qz_14, .ref qz_15, .ref qz_16, .ref qz_17, .ref qz_18, .ref qz_19, .int 0, .int 0, .int 0, .ref qz_20, .ref qz_21, .null, .null, .null, .null])), (qz_1, .inl (G.2 1, 5322, .inl (fun _ => 0))), (qz_2, .inl (G.2 3, 2, .inl (fun _ => 0))), (qz_3, .inl (G.2 1, 900, .inl (fun _ => 0))), (qz_4, .inl (G.2 1, 1774, .inl (fun _ => 0))), (qz_5, .inl (G.2 1, 900, .inl (fun _ => 0))), (qz_6, .inl (G.2 1, 76, .inl (fun _ => 0))), (qz_7, .inl (G.2 1, 76, .inl (fun _ => 0))), (qz_8, .inl (G.2 1, 6100, .inl (fun _ => 0))), (qz_9, .inl (G.2 1, 6100, .inl (fun _ => 0))), (qz_10, .inl (G.2 1, 6100, .inl (fun _ => 0))), (qz_11, .inl (G.2 3, 6100, .inl (fun _ => 0))), (qz_12, .inl (G.2 3, 1525, .inl (fun _ => 0))), (qz_13, .inl (G.2 1, 60, .inl (fun _ => 0))), (qz_14, .inl (G.2 2, 4100, .inr (.inl (fun _ => 0)))), (qz_15, .inl (G.2 2, 4100, .inr (.inl (fun _ => 0)))), (qz_16, .inl (G.2 3, 100, .inl (fun _ => 0))), (qz_17, .inl (G.2 3, 100, .inl (fun _ => 0))), (qz_18, .inl (G.2 1, 4, .inl (fun _ => 0))), (qz_19, .inl (G.2 1, 4, .inl (fun _ => 0))), (qz_20, .inl (G.2 3, 1100, .inl (fun _ => 0))), (qz_21, .inl (G.2 3, 1100, .inl (fun _ => 0)))]) C0 h hini 0 q_1477 rfl (Nat.le_of_ble_eq_true rfl) rfl rfl rfl dX12_init_184 (fun H locs h => ?_)
  refine lv_aload_n hx hb dX12_init_187 rfl (lv_at hl 0 rfl) ?_
  refine lv_sipush (v := 10000) hx hb dX12_init_188 (by decide) ?_
  refine m_newa (atype := .byte) (ty := .byte) (a0 := (10000, .inl (fun _ => 0))) C0 h 0 rfl rfl rfl q_404 (fun _ => rfl) (by decide) (by decide) (Nat.le_of_ble_eq_true rfl) (Nat.le_of_ble_eq_true rfl) (Nat.le_of_ble_eq_true rfl) dX12_init_191 (fun qz_22 H h => ?_)
  have h : Wd G A s _ _ [(a, .inr (12, [.int 0, .ref qz_1, .ref qz_2, .ref qz_3, .ref qz_4, .int 0, .int 0, .int 0, .int 0, .int 0, .int 0, .int 0, .int 0, .int 0, .int (-1), .ref qz_5, .ref qz_6, .int 0, .int 0, .int 0, .ref qz_7, .ref qz_8, .ref qz_9, .ref qz_10, .ref qz_11, .ref qz_12, .int 0, .ref qz_13, .int 0, .ref qz_14, .ref qz_15, .ref qz_16, .ref qz_17, .ref qz_18, .ref qz_19, .int 0, .int 0, .int 0, .ref qz_20, .ref qz_21, .null, .null, .null, .null])), (qz_1, .inl (G.2 1, 5322, .inl (fun _ => 0))), (qz_2, .inl (G.2 3, 2, .inl (fun _ => 0))), (qz_3, .inl (G.2 1, 900, .inl (fun _ => 0))), (qz_4, .inl (G.2 1, 1774, .inl (fun _ => 0))), (qz_5, .inl (G.2 1, 900, .inl (fun _ => 0))), (qz_6, .inl (G.2 1, 76, .inl (fun _ => 0))), (qz_7, .inl (G.2 1, 76, .inl (fun _ => 0))), (qz_8, .inl (G.2 1, 6100, .inl (fun _ => 0))), (qz_9, .inl (G.2 1, 6100, .inl (fun _ => 0))), (qz_10, .inl (G.2 1, 6100, .inl (fun _ => 0))), (qz_11, .inl (G.2 3, 6100, .inl (fun _ => 0))), (qz_12, .inl (G.2 3, 1525, .inl (fun _ => 0))), (qz_13, .inl (G.2 1, 60, .inl (fun _ => 0))), (qz_14, .inl (G.2 2, 4100, .inr (.inl (fun _ => 0)))), (qz_15, .inl (G.2 2, 4100, .inr (.inl (fun _ => 0)))), (qz_16, .inl (G.2 3, 100, .inl (fun _ => 0))), (qz_17, .inl (G.2 3, 100, .inl (fun _ => 0))), (qz_18, .inl (G.2 1, 4, .inl (fun _ => 0))), (qz_19, .inl (G.2 1, 4, .inl (fun _ => 0))), (qz_20, .inl (G.2 3, 1100, .inl (fun _ => 0))), (qz_21, .inl (G.2 3, 1100, .inl (fun _ => 0))), (qz_22, .inl (G.2 0, 10000, .inl (fun _ => 0)))] := h
  refine f_X12_catches (ws' := [(a, .inr (12, [.int 0, .ref qz_1, .ref qz_2, .ref qz_3, .ref qz_4, .int 0, .int 0, .int 0, .int 0, .int 0, .int 0, .int 0, .int 0, .int 0, .int (-1), .ref qz_5, .ref qz_6, .int 0, .int 0, .int 0, .ref qz_7, .ref qz_8, .ref qz_9, .ref qz_10, .ref qz_11, .ref qz_12, .int 0, .ref qz_13, .int 0, .ref qz_14, .ref qz_15, .ref qz_16, .ref qz_17, .ref qz_18, .ref qz_19, .int 0, .int 0, .int 0, .ref qz_20, .ref qz_21, .ref qz_22, .null, .null, .null])), (qz_1, .inl (G.2 1, 5322, .inl (fun _ => 0))), (qz_2, .inl (G.2 3, 2, .inl (fun _ => 0))), (qz_3, .inl (G.2 1, 900, .inl (fun _ => 0))), (qz_4, .inl (G.2 1, 1774, .inl (fun _ => 0))), (qz_5, .inl (G.2 1, 900, .inl (fun _ => 0))), (qz_6, .inl (G.2 1, 76, .inl (fun _ => 0))), (qz_7, .inl (G.2 1, 76, .inl (fun _ => 0))), (qz_8, .inl (G.2 1, 6100, .inl (fun _ => 0))), (qz_9, .inl (G.2 1, 6100, .inl (fun _ => 0))), (qz_10, .inl (G.2 1, 6100, .inl (fun _ => 0))), (qz_11, .inl (G.2 3, 6100, .inl (fun _ => 0))), (qz_12, .inl (G.2 3, 1525, .inl (fun _ => 0))), (qz_13, .inl (G.2 1, 60, .inl (fun _ => 0))), (qz_14, .inl (G.2 2, 4100, .inr (.inl (fun _ => 0)))), (qz_15, .inl (G.2 2, 4100, .inr (.inl (fun _ => 0)))), (qz_16, .inl (G.2 3, 100, .inl (fun _ => 0))), (qz_17, .inl (G.2 3, 100, .inl (fun _ => 0))), (qz_18, .inl (G.2 1, 4, .inl (fun _ => 0))), (qz_19, .inl (G.2 1, 4, .inl (fun _ => 0))), (qz_20, .inl (G.2 3, 1100, .inl (fun _ => 0))), (qz_21, .inl (G.2 3, 1100, .inl (fun _ => 0))), (qz_22, .inl (G.2 0, 10000, .inl (fun _ => 0)))]) C0 h hini 0 q_1478 rfl (Nat.le_of_ble_eq_true rfl) rfl rfl rfl dX12_init_193 (fun H locs h => ?_)
  refine lv_aload_n hx hb dX12_init_196 rfl (lv_at hl 0 rfl) ?_
  refine lv_iconst (v := 4) hx hb dX12_init_197 (by decide) ?_
  refine m_newa (atype := .int) (ty := .int) (a0 := (4, .inl (fun _ => 0))) C0 h 1 rfl rfl rfl q_183 (fun _ => rfl) (by decide) (by decide) (Nat.le_of_ble_eq_true rfl) (Nat.le_of_ble_eq_true rfl) (Nat.le_of_ble_eq_true rfl) dX12_init_198 (fun qz_23 H h => ?_)
  have h : Wd G A s _ _ [(a, .inr (12, [.int 0, .ref qz_1, .ref qz_2, .ref qz_3, .ref qz_4, .int 0, .int 0, .int 0, .int 0, .int 0, .int 0, .int 0, .int 0, .int 0, .int (-1), .ref qz_5, .ref qz_6, .int 0, .int 0, .int 0, .ref qz_7, .ref qz_8, .ref qz_9, .ref qz_10, .ref qz_11, .ref qz_12, .int 0, .ref qz_13, .int 0, .ref qz_14, .ref qz_15, .ref qz_16, .ref qz_17, .ref qz_18, .ref qz_19, .int 0, .int 0, .int 0, .ref qz_20, .ref qz_21, .ref qz_22, .null, .null, .null])), (qz_1, .inl (G.2 1, 5322, .inl (fun _ => 0))), (qz_2, .inl (G.2 3, 2, .inl (fun _ => 0))), (qz_3, .inl (G.2 1, 900, .inl (fun _ => 0))), (qz_4, .inl (G.2 1, 1774, .inl (fun _ => 0))), (qz_5, .inl (G.2 1, 900, .inl (fun _ => 0))), (qz_6, .inl (G.2 1, 76, .inl (fun _ => 0))), (qz_7, .inl (G.2 1, 76, .inl (fun _ => 0))), (qz_8, .inl (G.2 1, 6100, .inl (fun _ => 0))), (qz_9, .inl (G.2 1, 6100, .inl (fun _ => 0))), (qz_10, .inl (G.2 1, 6100, .inl (fun _ => 0))), (qz_11, .inl (G.2 3, 6100, .inl (fun _ => 0))), (qz_12, .inl (G.2 3, 1525, .inl (fun _ => 0))), (qz_13, .inl (G.2 1, 60, .inl (fun _ => 0))), (qz_14, .inl (G.2 2, 4100, .inr (.inl (fun _ => 0)))), (qz_15, .inl (G.2 2, 4100, .inr (.inl (fun _ => 0)))), (qz_16, .inl (G.2 3, 100, .inl (fun _ => 0))), (qz_17, .inl (G.2 3, 100, .inl (fun _ => 0))), (qz_18, .inl (G.2 1, 4, .inl (fun _ => 0))), (qz_19, .inl (G.2 1, 4, .inl (fun _ => 0))), (qz_20, .inl (G.2 3, 1100, .inl (fun _ => 0))), (qz_21, .inl (G.2 3, 1100, .inl (fun _ => 0))), (qz_22, .inl (G.2 0, 10000, .inl (fun _ => 0))), (qz_23, .inl (G.2 1, 4, .inl (fun _ => 0)))] := h
  refine lv_dup hx hb dX12_init_200 rfl ?_
  refine lv_iconst (v := 0) hx hb dX12_init_201 (by decide) ?_
  refine lv_iconst (v := (-1)) hx hb dX12_init_202 (by decide) ?_
  refine m_iast (ws' := [(a, .inr (12, [.int 0, .ref qz_1, .ref qz_2, .ref qz_3, .ref qz_4, .int 0, .int 0, .int 0, .int 0, .int 0, .int 0, .int 0, .int 0, .int 0, .int (-1), .ref qz_5, .ref qz_6, .int 0, .int 0, .int 0, .ref qz_7, .ref qz_8, .ref qz_9, .ref qz_10, .ref qz_11, .ref qz_12, .int 0, .ref qz_13, .int 0, .ref qz_14, .ref qz_15, .ref qz_16, .ref qz_17, .ref qz_18, .ref qz_19, .int 0, .int 0, .int 0, .ref qz_20, .ref qz_21, .ref qz_22, .null, .null, .null])), (qz_1, .inl (G.2 1, 5322, .inl (fun _ => 0))), (qz_2, .inl (G.2 3, 2, .inl (fun _ => 0))), (qz_3, .inl (G.2 1, 900, .inl (fun _ => 0))), (qz_4, .inl (G.2 1, 1774, .inl (fun _ => 0))), (qz_5, .inl (G.2 1, 900, .inl (fun _ => 0))), (qz_6, .inl (G.2 1, 76, .inl (fun _ => 0))), (qz_7, .inl (G.2 1, 76, .inl (fun _ => 0))), (qz_8, .inl (G.2 1, 6100, .inl (fun _ => 0))), (qz_9, .inl (G.2 1, 6100, .inl (fun _ => 0))), (qz_10, .inl (G.2 1, 6100, .inl (fun _ => 0))), (qz_11, .inl (G.2 3, 6100, .inl (fun _ => 0))), (qz_12, .inl (G.2 3, 1525, .inl (fun _ => 0))), (qz_13, .inl (G.2 1, 60, .inl (fun _ => 0))), (qz_14, .inl (G.2 2, 4100, .inr (.inl (fun _ => 0)))), (qz_15, .inl (G.2 2, 4100, .inr (.inl (fun _ => 0)))), (qz_16, .inl (G.2 3, 100, .inl (fun _ => 0))), (qz_17, .inl (G.2 3, 100, .inl (fun _ => 0))), (qz_18, .inl (G.2 1, 4, .inl (fun _ => 0))), (qz_19, .inl (G.2 1, 4, .inl (fun _ => 0))), (qz_20, .inl (G.2 3, 1100, .inl (fun _ => 0))), (qz_21, .inl (G.2 3, 1100, .inl (fun _ => 0))), (qz_22, .inl (G.2 0, 10000, .inl (fun _ => 0))), (qz_23, .inl (G.2 1, 4, .inl (upd (fun _ => 0) 0 (-1))))]) C0 h 23 0 rfl (by decide) (by decide) (by decide) rfl dX12_init_203 (fun H locs h => ?_)
  refine lv_dup hx hb dX12_init_204 rfl ?_
  refine lv_iconst (v := 1) hx hb dX12_init_205 (by decide) ?_
  refine lv_iconst (v := (-1)) hx hb dX12_init_206 (by decide) ?_
  refine m_iast (ws' := [(a, .inr (12, [.int 0, .ref qz_1, .ref qz_2, .ref qz_3, .ref qz_4, .int 0, .int 0, .int 0, .int 0, .int 0, .int 0, .int 0, .int 0, .int 0, .int (-1), .ref qz_5, .ref qz_6, .int 0, .int 0, .int 0, .ref qz_7, .ref qz_8, .ref qz_9, .ref qz_10, .ref qz_11, .ref qz_12, .int 0, .ref qz_13, .int 0, .ref qz_14, .ref qz_15, .ref qz_16, .ref qz_17, .ref qz_18, .ref qz_19, .int 0, .int 0, .int 0, .ref qz_20, .ref qz_21, .ref qz_22, .null, .null, .null])), (qz_1, .inl (G.2 1, 5322, .inl (fun _ => 0))), (qz_2, .inl (G.2 3, 2, .inl (fun _ => 0))), (qz_3, .inl (G.2 1, 900, .inl (fun _ => 0))), (qz_4, .inl (G.2 1, 1774, .inl (fun _ => 0))), (qz_5, .inl (G.2 1, 900, .inl (fun _ => 0))), (qz_6, .inl (G.2 1, 76, .inl (fun _ => 0))), (qz_7, .inl (G.2 1, 76, .inl (fun _ => 0))), (qz_8, .inl (G.2 1, 6100, .inl (fun _ => 0))), (qz_9, .inl (G.2 1, 6100, .inl (fun _ => 0))), (qz_10, .inl (G.2 1, 6100, .inl (fun _ => 0))), (qz_11, .inl (G.2 3, 6100, .inl (fun _ => 0))), (qz_12, .inl (G.2 3, 1525, .inl (fun _ => 0))), (qz_13, .inl (G.2 1, 60, .inl (fun _ => 0))), (qz_14, .inl (G.2 2, 4100, .inr (.inl (fun _ => 0)))), (qz_15, .inl (G.2 2, 4100, .inr (.inl (fun _ => 0)))), (qz_16, .inl (G.2 3, 100, .inl (fun _ => 0))), (qz_17, .inl (G.2 3, 100, .inl (fun _ => 0))), (qz_18, .inl (G.2 1, 4, .inl (fun _ => 0))), (qz_19, .inl (G.2 1, 4, .inl (fun _ => 0))), (qz_20, .inl (G.2 3, 1100, .inl (fun _ => 0))), (qz_21, .inl (G.2 3, 1100, .inl (fun _ => 0))), (qz_22, .inl (G.2 0, 10000, .inl (fun _ => 0))), (qz_23, .inl (G.2 1, 4, .inl (upd (upd (fun _ => 0) 0 (-1)) 1 (-1))))]) C0 h 23 1 rfl (by decide) (by decide) (by decide) rfl dX12_init_207 (fun H locs h => ?_)
  refine lv_dup hx hb dX12_init_208 rfl ?_
  refine lv_iconst (v := 2) hx hb dX12_init_209 (by decide) ?_
  refine lv_iconst (v := (-1)) hx hb dX12_init_210 (by decide) ?_
  refine m_iast (ws' := [(a, .inr (12, [.int 0, .ref qz_1, .ref qz_2, .ref qz_3, .ref qz_4, .int 0, .int 0, .int 0, .int 0, .int 0, .int 0, .int 0, .int 0, .int 0, .int (-1), .ref qz_5, .ref qz_6, .int 0, .int 0, .int 0, .ref qz_7, .ref qz_8, .ref qz_9, .ref qz_10, .ref qz_11, .ref qz_12, .int 0, .ref qz_13, .int 0, .ref qz_14, .ref qz_15, .ref qz_16, .ref qz_17, .ref qz_18, .ref qz_19, .int 0, .int 0, .int 0, .ref qz_20, .ref qz_21, .ref qz_22, .null, .null, .null])), (qz_1, .inl (G.2 1, 5322, .inl (fun _ => 0))), (qz_2, .inl (G.2 3, 2, .inl (fun _ => 0))), (qz_3, .inl (G.2 1, 900, .inl (fun _ => 0))), (qz_4, .inl (G.2 1, 1774, .inl (fun _ => 0))), (qz_5, .inl (G.2 1, 900, .inl (fun _ => 0))), (qz_6, .inl (G.2 1, 76, .inl (fun _ => 0))), (qz_7, .inl (G.2 1, 76, .inl (fun _ => 0))), (qz_8, .inl (G.2 1, 6100, .inl (fun _ => 0))), (qz_9, .inl (G.2 1, 6100, .inl (fun _ => 0))), (qz_10, .inl (G.2 1, 6100, .inl (fun _ => 0))), (qz_11, .inl (G.2 3, 6100, .inl (fun _ => 0))), (qz_12, .inl (G.2 3, 1525, .inl (fun _ => 0))), (qz_13, .inl (G.2 1, 60, .inl (fun _ => 0))), (qz_14, .inl (G.2 2, 4100, .inr (.inl (fun _ => 0)))), (qz_15, .inl (G.2 2, 4100, .inr (.inl (fun _ => 0)))), (qz_16, .inl (G.2 3, 100, .inl (fun _ => 0))), (qz_17, .inl (G.2 3, 100, .inl (fun _ => 0))), (qz_18, .inl (G.2 1, 4, .inl (fun _ => 0))), (qz_19, .inl (G.2 1, 4, .inl (fun _ => 0))), (qz_20, .inl (G.2 3, 1100, .inl (fun _ => 0))), (qz_21, .inl (G.2 3, 1100, .inl (fun _ => 0))), (qz_22, .inl (G.2 0, 10000, .inl (fun _ => 0))), (qz_23, .inl (G.2 1, 4, .inl (upd (upd (upd (fun _ => 0) 0 (-1)) 1 (-1)) 2 (-1))))]) C0 h 23 2 rfl (by decide) (by decide) (by decide) rfl dX12_init_211 (fun H locs h => ?_)
  refine lv_dup hx hb dX12_init_212 rfl ?_
  refine lv_iconst (v := 3) hx hb dX12_init_213 (by decide) ?_
  refine lv_iconst (v := (-1)) hx hb dX12_init_214 (by decide) ?_
  refine m_iast (ws' := [(a, .inr (12, [.int 0, .ref qz_1, .ref qz_2, .ref qz_3, .ref qz_4, .int 0, .int 0, .int 0, .int 0, .int 0, .int 0, .int 0, .int 0, .int 0, .int (-1), .ref qz_5, .ref qz_6, .int 0, .int 0, .int 0, .ref qz_7, .ref qz_8, .ref qz_9, .ref qz_10, .ref qz_11, .ref qz_12, .int 0, .ref qz_13, .int 0, .ref qz_14, .ref qz_15, .ref qz_16, .ref qz_17, .ref qz_18, .ref qz_19, .int 0, .int 0, .int 0, .ref qz_20, .ref qz_21, .ref qz_22, .null, .null, .null])), (qz_1, .inl (G.2 1, 5322, .inl (fun _ => 0))), (qz_2, .inl (G.2 3, 2, .inl (fun _ => 0))), (qz_3, .inl (G.2 1, 900, .inl (fun _ => 0))), (qz_4, .inl (G.2 1, 1774, .inl (fun _ => 0))), (qz_5, .inl (G.2 1, 900, .inl (fun _ => 0))), (qz_6, .inl (G.2 1, 76, .inl (fun _ => 0))), (qz_7, .inl (G.2 1, 76, .inl (fun _ => 0))), (qz_8, .inl (G.2 1, 6100, .inl (fun _ => 0))), (qz_9, .inl (G.2 1, 6100, .inl (fun _ => 0))), (qz_10, .inl (G.2 1, 6100, .inl (fun _ => 0))), (qz_11, .inl (G.2 3, 6100, .inl (fun _ => 0))), (qz_12, .inl (G.2 3, 1525, .inl (fun _ => 0))), (qz_13, .inl (G.2 1, 60, .inl (fun _ => 0))), (qz_14, .inl (G.2 2, 4100, .inr (.inl (fun _ => 0)))), (qz_15, .inl (G.2 2, 4100, .inr (.inl (fun _ => 0)))), (qz_16, .inl (G.2 3, 100, .inl (fun _ => 0))), (qz_17, .inl (G.2 3, 100, .inl (fun _ => 0))), (qz_18, .inl (G.2 1, 4, .inl (fun _ => 0))), (qz_19, .inl (G.2 1, 4, .inl (fun _ => 0))), (qz_20, .inl (G.2 3, 1100, .inl (fun _ => 0))), (qz_21, .inl (G.2 3, 1100, .inl (fun _ => 0))), (qz_22, .inl (G.2 0, 10000, .inl (fun _ => 0))), (qz_23, .inl (G.2 1, 4, .inl (upd (upd (upd (upd (fun _ => 0) 0 (-1)) 1 (-1)) 2 (-1)) 3 (-1))))]) C0 h 23 3 rfl (by decide) (by decide) (by decide) rfl dX12_init_215 (fun H locs h => ?_)
  refine f_X12_rowSort (ws' := [(a, .inr (12, [.int 0, .ref qz_1, .ref qz_2, .ref qz_3, .ref qz_4, .int 0, .int 0, .int 0, .int 0, .int 0, .int 0, .int 0, .int 0, .int 0, .int (-1), .ref qz_5, .ref qz_6, .int 0, .int 0, .int 0, .ref qz_7, .ref qz_8, .ref qz_9, .ref qz_10, .ref qz_11, .ref qz_12, .int 0, .ref qz_13, .int 0, .ref qz_14, .ref qz_15, .ref qz_16, .ref qz_17, .ref qz_18, .ref qz_19, .int 0, .int 0, .int 0, .ref qz_20, .ref qz_21, .ref qz_22, .ref qz_23, .null, .null])), (qz_1, .inl (G.2 1, 5322, .inl (fun _ => 0))), (qz_2, .inl (G.2 3, 2, .inl (fun _ => 0))), (qz_3, .inl (G.2 1, 900, .inl (fun _ => 0))), (qz_4, .inl (G.2 1, 1774, .inl (fun _ => 0))), (qz_5, .inl (G.2 1, 900, .inl (fun _ => 0))), (qz_6, .inl (G.2 1, 76, .inl (fun _ => 0))), (qz_7, .inl (G.2 1, 76, .inl (fun _ => 0))), (qz_8, .inl (G.2 1, 6100, .inl (fun _ => 0))), (qz_9, .inl (G.2 1, 6100, .inl (fun _ => 0))), (qz_10, .inl (G.2 1, 6100, .inl (fun _ => 0))), (qz_11, .inl (G.2 3, 6100, .inl (fun _ => 0))), (qz_12, .inl (G.2 3, 1525, .inl (fun _ => 0))), (qz_13, .inl (G.2 1, 60, .inl (fun _ => 0))), (qz_14, .inl (G.2 2, 4100, .inr (.inl (fun _ => 0)))), (qz_15, .inl (G.2 2, 4100, .inr (.inl (fun _ => 0)))), (qz_16, .inl (G.2 3, 100, .inl (fun _ => 0))), (qz_17, .inl (G.2 3, 100, .inl (fun _ => 0))), (qz_18, .inl (G.2 1, 4, .inl (fun _ => 0))), (qz_19, .inl (G.2 1, 4, .inl (fun _ => 0))), (qz_20, .inl (G.2 3, 1100, .inl (fun _ => 0))), (qz_21, .inl (G.2 3, 1100, .inl (fun _ => 0))), (qz_22, .inl (G.2 0, 10000, .inl (fun _ => 0))), (qz_23, .inl (G.2 1, 4, .inl (upd (upd (upd (upd (fun _ => 0) 0 (-1)) 1 (-1)) 2 (-1)) 3 (-1))))]) C0 h hini 0 q_1479 rfl (Nat.le_of_ble_eq_true rfl) rfl rfl rfl dX12_init_216 (fun H locs h => ?_)
  refine lv_aload_n hx hb dX12_init_219 rfl (lv_at hl 0 rfl) ?_
  refine lv_iconst (v := 4) hx hb dX12_init_220 (by decide) ?_
  refine m_newa (atype := .int) (ty := .int) (a0 := (4, .inl (fun _ => 0))) C0 h 1 rfl rfl rfl q_183 (fun _ => rfl) (by decide) (by decide) (Nat.le_of_ble_eq_true rfl) (Nat.le_of_ble_eq_true rfl) (Nat.le_of_ble_eq_true rfl) dX12_init_221 (fun qz_24 H h => ?_)
  have h : Wd G A s _ _ [(a, .inr (12, [.int 0, .ref qz_1, .ref qz_2, .ref qz_3, .ref qz_4, .int 0, .int 0, .int 0, .int 0, .int 0, .int 0, .int 0, .int 0, .int 0, .int (-1), .ref qz_5, .ref qz_6, .int 0, .int 0, .int 0, .ref qz_7, .ref qz_8, .ref qz_9, .ref qz_10, .ref qz_11, .ref qz_12, .int 0, .ref qz_13, .int 0, .ref qz_14, .ref qz_15, .ref qz_16, .ref qz_17, .ref qz_18, .ref qz_19, .int 0, .int 0, .int 0, .ref qz_20, .ref qz_21, .ref qz_22, .ref qz_23, .null, .null])), (qz_1, .inl (G.2 1, 5322, .inl (fun _ => 0))), (qz_2, .inl (G.2 3, 2, .inl (fun _ => 0))), (qz_3, .inl (G.2 1, 900, .inl (fun _ => 0))), (qz_4, .inl (G.2 1, 1774, .inl (fun _ => 0))), (qz_5, .inl (G.2 1, 900, .inl (fun _ => 0))), (qz_6, .inl (G.2 1, 76, .inl (fun _ => 0))), (qz_7, .inl (G.2 1, 76, .inl (fun _ => 0))), (qz_8, .inl (G.2 1, 6100, .inl (fun _ => 0))), (qz_9, .inl (G.2 1, 6100, .inl (fun _ => 0))), (qz_10, .inl (G.2 1, 6100, .inl (fun _ => 0))), (qz_11, .inl (G.2 3, 6100, .inl (fun _ => 0))), (qz_12, .inl (G.2 3, 1525, .inl (fun _ => 0))), (qz_13, .inl (G.2 1, 60, .inl (fun _ => 0))), (qz_14, .inl (G.2 2, 4100, .inr (.inl (fun _ => 0)))), (qz_15, .inl (G.2 2, 4100, .inr (.inl (fun _ => 0)))), (qz_16, .inl (G.2 3, 100, .inl (fun _ => 0))), (qz_17, .inl (G.2 3, 100, .inl (fun _ => 0))), (qz_18, .inl (G.2 1, 4, .inl (fun _ => 0))), (qz_19, .inl (G.2 1, 4, .inl (fun _ => 0))), (qz_20, .inl (G.2 3, 1100, .inl (fun _ => 0))), (qz_21, .inl (G.2 3, 1100, .inl (fun _ => 0))), (qz_22, .inl (G.2 0, 10000, .inl (fun _ => 0))), (qz_23, .inl (G.2 1, 4, .inl (upd (upd (upd (upd (fun _ => 0) 0 (-1)) 1 (-1)) 2 (-1)) 3 (-1)))), (qz_24, .inl (G.2 1, 4, .inl (fun _ => 0)))] := h
  refine f_X12_rowMany (ws' := [(a, .inr (12, [.int 0, .ref qz_1, .ref qz_2, .ref qz_3, .ref qz_4, .int 0, .int 0, .int 0, .int 0, .int 0, .int 0, .int 0, .int 0, .int 0, .int (-1), .ref qz_5, .ref qz_6, .int 0, .int 0, .int 0, .ref qz_7, .ref qz_8, .ref qz_9, .ref qz_10, .ref qz_11, .ref qz_12, .int 0, .ref qz_13, .int 0, .ref qz_14, .ref qz_15, .ref qz_16, .ref qz_17, .ref qz_18, .ref qz_19, .int 0, .int 0, .int 0, .ref qz_20, .ref qz_21, .ref qz_22, .ref qz_23, .ref qz_24, .null])), (qz_1, .inl (G.2 1, 5322, .inl (fun _ => 0))), (qz_2, .inl (G.2 3, 2, .inl (fun _ => 0))), (qz_3, .inl (G.2 1, 900, .inl (fun _ => 0))), (qz_4, .inl (G.2 1, 1774, .inl (fun _ => 0))), (qz_5, .inl (G.2 1, 900, .inl (fun _ => 0))), (qz_6, .inl (G.2 1, 76, .inl (fun _ => 0))), (qz_7, .inl (G.2 1, 76, .inl (fun _ => 0))), (qz_8, .inl (G.2 1, 6100, .inl (fun _ => 0))), (qz_9, .inl (G.2 1, 6100, .inl (fun _ => 0))), (qz_10, .inl (G.2 1, 6100, .inl (fun _ => 0))), (qz_11, .inl (G.2 3, 6100, .inl (fun _ => 0))), (qz_12, .inl (G.2 3, 1525, .inl (fun _ => 0))), (qz_13, .inl (G.2 1, 60, .inl (fun _ => 0))), (qz_14, .inl (G.2 2, 4100, .inr (.inl (fun _ => 0)))), (qz_15, .inl (G.2 2, 4100, .inr (.inl (fun _ => 0)))), (qz_16, .inl (G.2 3, 100, .inl (fun _ => 0))), (qz_17, .inl (G.2 3, 100, .inl (fun _ => 0))), (qz_18, .inl (G.2 1, 4, .inl (fun _ => 0))), (qz_19, .inl (G.2 1, 4, .inl (fun _ => 0))), (qz_20, .inl (G.2 3, 1100, .inl (fun _ => 0))), (qz_21, .inl (G.2 3, 1100, .inl (fun _ => 0))), (qz_22, .inl (G.2 0, 10000, .inl (fun _ => 0))), (qz_23, .inl (G.2 1, 4, .inl (upd (upd (upd (upd (fun _ => 0) 0 (-1)) 1 (-1)) 2 (-1)) 3 (-1)))), (qz_24, .inl (G.2 1, 4, .inl (fun _ => 0)))]) C0 h hini 0 q_1480 rfl (Nat.le_of_ble_eq_true rfl) rfl rfl rfl dX12_init_223 (fun H locs h => ?_)
  refine lv_aload_n hx hb dX12_init_226 rfl (lv_at hl 0 rfl) ?_
  refine lv_sipush (v := 160) hx hb dX12_init_227 (by decide) ?_
  refine m_newa (atype := .long) (ty := .long) (a0 := (160, .inr (.inl (fun _ => 0)))) C0 h 2 rfl rfl rfl q_468 (fun _ => rfl) (by decide) (by decide) (Nat.le_of_ble_eq_true rfl) (Nat.le_of_ble_eq_true rfl) (Nat.le_of_ble_eq_true rfl) dX12_init_230 (fun qz_25 H h => ?_)
  have h : Wd G A s _ _ [(a, .inr (12, [.int 0, .ref qz_1, .ref qz_2, .ref qz_3, .ref qz_4, .int 0, .int 0, .int 0, .int 0, .int 0, .int 0, .int 0, .int 0, .int 0, .int (-1), .ref qz_5, .ref qz_6, .int 0, .int 0, .int 0, .ref qz_7, .ref qz_8, .ref qz_9, .ref qz_10, .ref qz_11, .ref qz_12, .int 0, .ref qz_13, .int 0, .ref qz_14, .ref qz_15, .ref qz_16, .ref qz_17, .ref qz_18, .ref qz_19, .int 0, .int 0, .int 0, .ref qz_20, .ref qz_21, .ref qz_22, .ref qz_23, .ref qz_24, .null])), (qz_1, .inl (G.2 1, 5322, .inl (fun _ => 0))), (qz_2, .inl (G.2 3, 2, .inl (fun _ => 0))), (qz_3, .inl (G.2 1, 900, .inl (fun _ => 0))), (qz_4, .inl (G.2 1, 1774, .inl (fun _ => 0))), (qz_5, .inl (G.2 1, 900, .inl (fun _ => 0))), (qz_6, .inl (G.2 1, 76, .inl (fun _ => 0))), (qz_7, .inl (G.2 1, 76, .inl (fun _ => 0))), (qz_8, .inl (G.2 1, 6100, .inl (fun _ => 0))), (qz_9, .inl (G.2 1, 6100, .inl (fun _ => 0))), (qz_10, .inl (G.2 1, 6100, .inl (fun _ => 0))), (qz_11, .inl (G.2 3, 6100, .inl (fun _ => 0))), (qz_12, .inl (G.2 3, 1525, .inl (fun _ => 0))), (qz_13, .inl (G.2 1, 60, .inl (fun _ => 0))), (qz_14, .inl (G.2 2, 4100, .inr (.inl (fun _ => 0)))), (qz_15, .inl (G.2 2, 4100, .inr (.inl (fun _ => 0)))), (qz_16, .inl (G.2 3, 100, .inl (fun _ => 0))), (qz_17, .inl (G.2 3, 100, .inl (fun _ => 0))), (qz_18, .inl (G.2 1, 4, .inl (fun _ => 0))), (qz_19, .inl (G.2 1, 4, .inl (fun _ => 0))), (qz_20, .inl (G.2 3, 1100, .inl (fun _ => 0))), (qz_21, .inl (G.2 3, 1100, .inl (fun _ => 0))), (qz_22, .inl (G.2 0, 10000, .inl (fun _ => 0))), (qz_23, .inl (G.2 1, 4, .inl (upd (upd (upd (upd (fun _ => 0) 0 (-1)) 1 (-1)) 2 (-1)) 3 (-1)))), (qz_24, .inl (G.2 1, 4, .inl (fun _ => 0))), (qz_25, .inl (G.2 2, 160, .inr (.inl (fun _ => 0))))] := h
  refine f_X12_numbers (ws' := [(a, .inr (12, [.int 0, .ref qz_1, .ref qz_2, .ref qz_3, .ref qz_4, .int 0, .int 0, .int 0, .int 0, .int 0, .int 0, .int 0, .int 0, .int 0, .int (-1), .ref qz_5, .ref qz_6, .int 0, .int 0, .int 0, .ref qz_7, .ref qz_8, .ref qz_9, .ref qz_10, .ref qz_11, .ref qz_12, .int 0, .ref qz_13, .int 0, .ref qz_14, .ref qz_15, .ref qz_16, .ref qz_17, .ref qz_18, .ref qz_19, .int 0, .int 0, .int 0, .ref qz_20, .ref qz_21, .ref qz_22, .ref qz_23, .ref qz_24, .ref qz_25])), (qz_1, .inl (G.2 1, 5322, .inl (fun _ => 0))), (qz_2, .inl (G.2 3, 2, .inl (fun _ => 0))), (qz_3, .inl (G.2 1, 900, .inl (fun _ => 0))), (qz_4, .inl (G.2 1, 1774, .inl (fun _ => 0))), (qz_5, .inl (G.2 1, 900, .inl (fun _ => 0))), (qz_6, .inl (G.2 1, 76, .inl (fun _ => 0))), (qz_7, .inl (G.2 1, 76, .inl (fun _ => 0))), (qz_8, .inl (G.2 1, 6100, .inl (fun _ => 0))), (qz_9, .inl (G.2 1, 6100, .inl (fun _ => 0))), (qz_10, .inl (G.2 1, 6100, .inl (fun _ => 0))), (qz_11, .inl (G.2 3, 6100, .inl (fun _ => 0))), (qz_12, .inl (G.2 3, 1525, .inl (fun _ => 0))), (qz_13, .inl (G.2 1, 60, .inl (fun _ => 0))), (qz_14, .inl (G.2 2, 4100, .inr (.inl (fun _ => 0)))), (qz_15, .inl (G.2 2, 4100, .inr (.inl (fun _ => 0)))), (qz_16, .inl (G.2 3, 100, .inl (fun _ => 0))), (qz_17, .inl (G.2 3, 100, .inl (fun _ => 0))), (qz_18, .inl (G.2 1, 4, .inl (fun _ => 0))), (qz_19, .inl (G.2 1, 4, .inl (fun _ => 0))), (qz_20, .inl (G.2 3, 1100, .inl (fun _ => 0))), (qz_21, .inl (G.2 3, 1100, .inl (fun _ => 0))), (qz_22, .inl (G.2 0, 10000, .inl (fun _ => 0))), (qz_23, .inl (G.2 1, 4, .inl (upd (upd (upd (upd (fun _ => 0) 0 (-1)) 1 (-1)) 2 (-1)) 3 (-1)))), (qz_24, .inl (G.2 1, 4, .inl (fun _ => 0))), (qz_25, .inl (G.2 2, 160, .inr (.inl (fun _ => 0))))]) C0 h hini 0 q_1481 rfl (Nat.le_of_ble_eq_true rfl) rfl rfl rfl dX12_init_232 (fun H locs h => ?_)
  refine lv_aload_n hx hb dX12_init_235 rfl (lv_at hl 0 rfl) ?_
  refine g_X12_all C0 h 0 q_1439 rfl rfl dX12_init_236 ?_
  refine m_clv (wr := [(a, .inr (12, [.int 0, .ref qz_1, .ref qz_2, .ref qz_3, .ref qz_4, .int 0, .int 0, .int 0, .int 0, .int 0, .int 0, .int 0, .int 0, .int 0, .int (-1), .ref qz_5, .ref qz_6, .int 0, .int 0, .int 0, .ref qz_7, .ref qz_8, .ref qz_9, .ref qz_10, .ref qz_11, .ref qz_12, .int 0, .ref qz_13, .int 0, .ref qz_14, .ref qz_15, .ref qz_16, .ref qz_17, .ref qz_18, .ref qz_19, .int 0, .int 0, .int 0, .ref qz_20, .ref qz_21, .ref qz_22, .ref qz_23, .ref qz_24, .ref qz_25])), (qz_2, .inl (G.2 3, 2, .inl (fun _ => 0))), (qz_3, .inl (G.2 1, 900, .inl (fun _ => 0))), (qz_4, .inl (G.2 1, 1774, .inl (fun _ => 0))), (qz_5, .inl (G.2 1, 900, .inl (fun _ => 0))), (qz_6, .inl (G.2 1, 76, .inl (fun _ => 0))), (qz_7, .inl (G.2 1, 76, .inl (fun _ => 0))), (qz_8, .inl (G.2 1, 6100, .inl (fun _ => 0))), (qz_9, .inl (G.2 1, 6100, .inl (fun _ => 0))), (qz_10, .inl (G.2 1, 6100, .inl (fun _ => 0))), (qz_11, .inl (G.2 3, 6100, .inl (fun _ => 0))), (qz_12, .inl (G.2 3, 1525, .inl (fun _ => 0))), (qz_13, .inl (G.2 1, 60, .inl (fun _ => 0))), (qz_14, .inl (G.2 2, 4100, .inr (.inl (fun _ => 0)))), (qz_15, .inl (G.2 2, 4100, .inr (.inl (fun _ => 0)))), (qz_16, .inl (G.2 3, 100, .inl (fun _ => 0))), (qz_17, .inl (G.2 3, 100, .inl (fun _ => 0))), (qz_18, .inl (G.2 1, 4, .inl (fun _ => 0))), (qz_19, .inl (G.2 1, 4, .inl (fun _ => 0))), (qz_20, .inl (G.2 3, 1100, .inl (fun _ => 0))), (qz_21, .inl (G.2 3, 1100, .inl (fun _ => 0))), (qz_22, .inl (G.2 0, 10000, .inl (fun _ => 0))), (qz_23, .inl (G.2 1, 4, .inl (upd (upd (upd (upd (fun _ => 0) 0 (-1)) 1 (-1)) 2 (-1)) 3 (-1)))), (qz_24, .inl (G.2 1, 4, .inl (fun _ => 0))), (qz_25, .inl (G.2 2, 160, .inr (.inl (fun _ => 0))))]) h (m_rS (As := [.ref qz_1]) (rest := []) C0 h (c_X12_plain_start l G qz_1) k_X12_plain q_1436 q_1435 [1] (by decide) rfl hl.1 rfl rfl (Nat.le_of_ble_eq_true rfl) dX12_init_239 ⟨Nat.le_of_ble_eq_true rfl, Nat.le_of_ble_eq_true rfl⟩ ⟨Nat.le_of_ble_eq_true rfl, Nat.le_of_ble_eq_true rfl⟩) [1] [0, 2, 3, 4, 5, 6, 7, 8, 9, 10, 11, 12, 13, 14, 15, 16, 17, 18, 19, 20, 21, 22, 23, 24, 25] rfl rfl (by decide) (by decide) (fun u_26 H locs hp_27 h => ?_)
  have h : Wd G A s _ _ [(a, .inr (12, [.int 0, .ref qz_1, .ref qz_2, .ref qz_3, .ref qz_4, .int 0, .int 0, .int 0, .int 0, .int 0, .int 0, .int 0, .int 0, .int 0, .int (-1), .ref qz_5, .ref qz_6, .int 0, .int 0, .int 0, .ref qz_7, .ref qz_8, .ref qz_9, .ref qz_10, .ref qz_11, .ref qz_12, .int 0, .ref qz_13, .int 0, .ref qz_14, .ref qz_15, .ref qz_16, .ref qz_17, .ref qz_18, .ref qz_19, .int 0, .int 0, .int 0, .ref qz_20, .ref qz_21, .ref qz_22, .ref qz_23, .ref qz_24, .ref qz_25])), (qz_2, .inl (G.2 3, 2, .inl (fun _ => 0))), (qz_3, .inl (G.2 1, 900, .inl (fun _ => 0))), (qz_4, .inl (G.2 1, 1774, .inl (fun _ => 0))), (qz_5, .inl (G.2 1, 900, .inl (fun _ => 0))), (qz_6, .inl (G.2 1, 76, .inl (fun _ => 0))), (qz_7, .inl (G.2 1, 76, .inl (fun _ => 0))), (qz_8, .inl (G.2 1, 6100, .inl (fun _ => 0))), (qz_9, .inl (G.2 1, 6100, .inl (fun _ => 0))), (qz_10, .inl (G.2 1, 6100, .inl (fun _ => 0))), (qz_11, .inl (G.2 3, 6100, .inl (fun _ => 0))), (qz_12, .inl (G.2 3, 1525, .inl (fun _ => 0))), (qz_13, .inl (G.2 1, 60, .inl (fun _ => 0))), (qz_14, .inl (G.2 2, 4100, .inr (.inl (fun _ => 0)))), (qz_15, .inl (G.2 2, 4100, .inr (.inl (fun _ => 0)))), (qz_16, .inl (G.2 3, 100, .inl (fun _ => 0))), (qz_17, .inl (G.2 3, 100, .inl (fun _ => 0))), (qz_18, .inl (G.2 1, 4, .inl (fun _ => 0))), (qz_19, .inl (G.2 1, 4, .inl (fun _ => 0))), (qz_20, .inl (G.2 3, 1100, .inl (fun _ => 0))), (qz_21, .inl (G.2 3, 1100, .inl (fun _ => 0))), (qz_22, .inl (G.2 0, 10000, .inl (fun _ => 0))), (qz_23, .inl (G.2 1, 4, .inl (upd (upd (upd (upd (fun _ => 0) 0 (-1)) 1 (-1)) 2 (-1)) 3 (-1)))), (qz_24, .inl (G.2 1, 4, .inl (fun _ => 0))), (qz_25, .inl (G.2 2, 160, .inr (.inl (fun _ => 0)))), (qz_1, .inl (G.2 1, 5322, .inl (fun _ => 0)))] := h
  exact m_vret (adl [qz_1, qz_2, qz_3, qz_4, qz_5, qz_6, qz_7, qz_8, qz_9, qz_10, qz_11, qz_12, qz_13, qz_14, qz_15, qz_16, qz_17, qz_18, qz_19, qz_20, qz_21, qz_22, qz_23, qz_24, qz_25]) C0 h [0, 25, 1, 2, 3, 4, 5, 6, 7, 8, 9, 10, 11, 12, 13, 14, 15, 16, 17, 18, 19, 20, 21, 22, 23, 24] (by decide) rfl trivial (Nat.le_of_ble_eq_true rfl) (Nat.le_of_ble_eq_true rfl) dX12_init_242
