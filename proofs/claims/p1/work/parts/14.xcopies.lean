theorem sp_count_out {w : Int32} (h : w.toInt < 0 ∨ 9 < w.toInt) : sp_count w = -1 := by
  unfold sp_count
  rw [if_neg]
  intro ⟨h1, h2⟩
  have a1 := Int32.le_iff_toInt_le.mp h1
  have a2 := Int32.le_iff_toInt_le.mp h2
  have b1 : (0 : Int32).toInt = 0 := by decide
  have b2 : (9 : Int32).toInt = 9 := by decide
  omega
theorem dX1_copy_0 : decode cX1_copy 0 = .ok (.aload_n 1, 1) := by decide +kernel
theorem dX1_copy_1 : decode cX1_copy 1 = .ok (.getfield 9, 3) := by decide +kernel
theorem dX1_copy_4 : decode cX1_copy 4 = .ok (.iconst 0, 1) := by decide +kernel
theorem dX1_copy_5 : decode cX1_copy 5 = .ok (.aload_n 0, 1) := by decide +kernel
theorem dX1_copy_6 : decode cX1_copy 6 = .ok (.getfield 9, 3) := by decide +kernel
theorem dX1_copy_9 : decode cX1_copy 9 = .ok (.iconst 0, 1) := by decide +kernel
theorem dX1_copy_10 : decode cX1_copy 10 = .ok (.iconst 5, 1) := by decide +kernel
theorem dX1_copy_11 : decode cX1_copy 11 = .ok (.invokestatic 46, 3) := by decide +kernel
theorem dX1_copy_14 : decode cX1_copy 14 = .ok (.aload_n 1, 1) := by decide +kernel
theorem dX1_copy_15 : decode cX1_copy 15 = .ok (.getfield 15, 3) := by decide +kernel
theorem dX1_copy_18 : decode cX1_copy 18 = .ok (.iconst 0, 1) := by decide +kernel
theorem dX1_copy_19 : decode cX1_copy 19 = .ok (.aload_n 0, 1) := by decide +kernel
theorem dX1_copy_20 : decode cX1_copy 20 = .ok (.getfield 15, 3) := by decide +kernel
theorem dX1_copy_23 : decode cX1_copy 23 = .ok (.iconst 0, 1) := by decide +kernel
theorem dX1_copy_24 : decode cX1_copy 24 = .ok (.iconst 5, 1) := by decide +kernel
theorem dX1_copy_25 : decode cX1_copy 25 = .ok (.invokestatic 46, 3) := by decide +kernel
theorem dX1_copy_28 : decode cX1_copy 28 = .ok (.aload_n 1, 1) := by decide +kernel
theorem dX1_copy_29 : decode cX1_copy 29 = .ok (.getfield 18, 3) := by decide +kernel
theorem dX1_copy_32 : decode cX1_copy 32 = .ok (.iconst 0, 1) := by decide +kernel
theorem dX1_copy_33 : decode cX1_copy 33 = .ok (.aload_n 0, 1) := by decide +kernel
theorem dX1_copy_34 : decode cX1_copy 34 = .ok (.getfield 18, 3) := by decide +kernel
theorem dX1_copy_37 : decode cX1_copy 37 = .ok (.iconst 0, 1) := by decide +kernel
theorem dX1_copy_38 : decode cX1_copy 38 = .ok (.iconst 5, 1) := by decide +kernel
theorem dX1_copy_39 : decode cX1_copy 39 = .ok (.invokestatic 46, 3) := by decide +kernel
theorem dX1_copy_42 : decode cX1_copy 42 = .ok (.aload_n 1, 1) := by decide +kernel
theorem dX1_copy_43 : decode cX1_copy 43 = .ok (.getfield 21, 3) := by decide +kernel
theorem dX1_copy_46 : decode cX1_copy 46 = .ok (.iconst 0, 1) := by decide +kernel
theorem dX1_copy_47 : decode cX1_copy 47 = .ok (.aload_n 0, 1) := by decide +kernel
theorem dX1_copy_48 : decode cX1_copy 48 = .ok (.getfield 21, 3) := by decide +kernel
theorem dX1_copy_51 : decode cX1_copy 51 = .ok (.iconst 0, 1) := by decide +kernel
theorem dX1_copy_52 : decode cX1_copy 52 = .ok (.iconst 5, 1) := by decide +kernel
theorem dX1_copy_53 : decode cX1_copy 53 = .ok (.invokestatic 46, 3) := by decide +kernel
theorem dX1_copy_56 : decode cX1_copy 56 = .ok (.aload_n 1, 1) := by decide +kernel
theorem dX1_copy_57 : decode cX1_copy 57 = .ok (.getfield 24, 3) := by decide +kernel
theorem dX1_copy_60 : decode cX1_copy 60 = .ok (.iconst 0, 1) := by decide +kernel
theorem dX1_copy_61 : decode cX1_copy 61 = .ok (.aload_n 0, 1) := by decide +kernel
theorem dX1_copy_62 : decode cX1_copy 62 = .ok (.getfield 24, 3) := by decide +kernel
theorem dX1_copy_65 : decode cX1_copy 65 = .ok (.iconst 0, 1) := by decide +kernel
theorem dX1_copy_66 : decode cX1_copy 66 = .ok (.iconst 5, 1) := by decide +kernel
theorem dX1_copy_67 : decode cX1_copy 67 = .ok (.invokestatic 46, 3) := by decide +kernel
theorem dX1_copy_70 : decode cX1_copy 70 = .ok (.aload_n 1, 1) := by decide +kernel
theorem dX1_copy_71 : decode cX1_copy 71 = .ok (.getfield 27, 3) := by decide +kernel
theorem dX1_copy_74 : decode cX1_copy 74 = .ok (.iconst 0, 1) := by decide +kernel
theorem dX1_copy_75 : decode cX1_copy 75 = .ok (.aload_n 0, 1) := by decide +kernel
theorem dX1_copy_76 : decode cX1_copy 76 = .ok (.getfield 27, 3) := by decide +kernel
theorem dX1_copy_79 : decode cX1_copy 79 = .ok (.iconst 0, 1) := by decide +kernel
theorem dX1_copy_80 : decode cX1_copy 80 = .ok (.bipush 25, 2) := by decide +kernel
theorem dX1_copy_82 : decode cX1_copy 82 = .ok (.invokestatic 46, 3) := by decide +kernel
theorem dX1_copy_85 : decode cX1_copy 85 = .ok (.aload_n 1, 1) := by decide +kernel
theorem dX1_copy_86 : decode cX1_copy 86 = .ok (.getfield 30, 3) := by decide +kernel
theorem dX1_copy_89 : decode cX1_copy 89 = .ok (.iconst 0, 1) := by decide +kernel
theorem dX1_copy_90 : decode cX1_copy 90 = .ok (.aload_n 0, 1) := by decide +kernel
theorem dX1_copy_91 : decode cX1_copy 91 = .ok (.getfield 30, 3) := by decide +kernel
theorem dX1_copy_94 : decode cX1_copy 94 = .ok (.iconst 0, 1) := by decide +kernel
theorem dX1_copy_95 : decode cX1_copy 95 = .ok (.bipush 25, 2) := by decide +kernel
theorem dX1_copy_97 : decode cX1_copy 97 = .ok (.invokestatic 46, 3) := by decide +kernel
theorem dX1_copy_100 : decode cX1_copy 100 = .ok (.aload_n 0, 1) := by decide +kernel
theorem dX1_copy_101 : decode cX1_copy 101 = .ok (.aload_n 1, 1) := by decide +kernel
theorem dX1_copy_102 : decode cX1_copy 102 = .ok (.getfield 39, 3) := by decide +kernel
theorem dX1_copy_105 : decode cX1_copy 105 = .ok (.putfield 39, 3) := by decide +kernel
theorem dX1_copy_108 : decode cX1_copy 108 = .ok (.aload_n 0, 1) := by decide +kernel
theorem dX1_copy_109 : decode cX1_copy 109 = .ok (.aload_n 1, 1) := by decide +kernel
theorem dX1_copy_110 : decode cX1_copy 110 = .ok (.getfield 43, 3) := by decide +kernel
theorem dX1_copy_113 : decode cX1_copy 113 = .ok (.putfield 43, 3) := by decide +kernel
theorem dX1_copy_116 : decode cX1_copy 116 = .ok (.return_, 1) := by decide +kernel
theorem dX4_copy_0 : decode cX4_copy 0 = .ok (.aload_n 0, 1) := by decide +kernel
theorem dX4_copy_1 : decode cX4_copy 1 = .ok (.aload_n 1, 1) := by decide +kernel
theorem dX4_copy_2 : decode cX4_copy 2 = .ok (.getfield 21, 3) := by decide +kernel
theorem dX4_copy_5 : decode cX4_copy 5 = .ok (.putfield 21, 3) := by decide +kernel
theorem dX4_copy_8 : decode cX4_copy 8 = .ok (.aload_n 0, 1) := by decide +kernel
theorem dX4_copy_9 : decode cX4_copy 9 = .ok (.aload_n 1, 1) := by decide +kernel
theorem dX4_copy_10 : decode cX4_copy 10 = .ok (.getfield 25, 3) := by decide +kernel
theorem dX4_copy_13 : decode cX4_copy 13 = .ok (.putfield 25, 3) := by decide +kernel
theorem dX4_copy_16 : decode cX4_copy 16 = .ok (.aload_n 1, 1) := by decide +kernel
theorem dX4_copy_17 : decode cX4_copy 17 = .ok (.getfield 9, 3) := by decide +kernel
theorem dX4_copy_20 : decode cX4_copy 20 = .ok (.iconst 0, 1) := by decide +kernel
theorem dX4_copy_21 : decode cX4_copy 21 = .ok (.aload_n 0, 1) := by decide +kernel
theorem dX4_copy_22 : decode cX4_copy 22 = .ok (.getfield 9, 3) := by decide +kernel
theorem dX4_copy_25 : decode cX4_copy 25 = .ok (.iconst 0, 1) := by decide +kernel
theorem dX4_copy_26 : decode cX4_copy 26 = .ok (.aload_n 0, 1) := by decide +kernel
theorem dX4_copy_27 : decode cX4_copy 27 = .ok (.getfield 21, 3) := by decide +kernel
theorem dX4_copy_30 : decode cX4_copy 30 = .ok (.invokestatic 32, 3) := by decide +kernel
theorem dX4_copy_33 : decode cX4_copy 33 = .ok (.return_, 1) := by decide +kernel
theorem dX0_copy_0 : decode cX0_copy 0 = .ok (.aload_n 0, 1) := by decide +kernel
theorem dX0_copy_1 : decode cX0_copy 1 = .ok (.getfield 12, 3) := by decide +kernel
theorem dX0_copy_4 : decode cX0_copy 4 = .ok (.aload_n 1, 1) := by decide +kernel
theorem dX0_copy_5 : decode cX0_copy 5 = .ok (.getfield 12, 3) := by decide +kernel
theorem dX0_copy_8 : decode cX0_copy 8 = .ok (.invokevirtual 58, 3) := by decide +kernel
theorem dX0_copy_11 : decode cX0_copy 11 = .ok (.aload_n 0, 1) := by decide +kernel
theorem dX0_copy_12 : decode cX0_copy 12 = .ok (.getfield 18, 3) := by decide +kernel
theorem dX0_copy_15 : decode cX0_copy 15 = .ok (.aload_n 1, 1) := by decide +kernel
theorem dX0_copy_16 : decode cX0_copy 16 = .ok (.getfield 18, 3) := by decide +kernel
theorem dX0_copy_19 : decode cX0_copy 19 = .ok (.invokevirtual 58, 3) := by decide +kernel
theorem dX0_copy_22 : decode cX0_copy 22 = .ok (.aload_n 0, 1) := by decide +kernel
theorem dX0_copy_23 : decode cX0_copy 23 = .ok (.getfield 24, 3) := by decide +kernel
theorem dX0_copy_26 : decode cX0_copy 26 = .ok (.aload_n 1, 1) := by decide +kernel
theorem dX0_copy_27 : decode cX0_copy 27 = .ok (.getfield 24, 3) := by decide +kernel
theorem dX0_copy_30 : decode cX0_copy 30 = .ok (.invokevirtual 62, 3) := by decide +kernel
theorem dX0_copy_33 : decode cX0_copy 33 = .ok (.aload_n 1, 1) := by decide +kernel
theorem dX0_copy_34 : decode cX0_copy 34 = .ok (.getfield 28, 3) := by decide +kernel
theorem dX0_copy_37 : decode cX0_copy 37 = .ok (.iconst 0, 1) := by decide +kernel
theorem dX0_copy_38 : decode cX0_copy 38 = .ok (.aload_n 0, 1) := by decide +kernel
theorem dX0_copy_39 : decode cX0_copy 39 = .ok (.getfield 28, 3) := by decide +kernel
theorem dX0_copy_42 : decode cX0_copy 42 = .ok (.iconst 0, 1) := by decide +kernel
theorem dX0_copy_43 : decode cX0_copy 43 = .ok (.iconst 4, 1) := by decide +kernel
theorem dX0_copy_44 : decode cX0_copy 44 = .ok (.invokestatic 65, 3) := by decide +kernel
theorem dX0_copy_47 : decode cX0_copy 47 = .ok (.aload_n 1, 1) := by decide +kernel
theorem dX0_copy_48 : decode cX0_copy 48 = .ok (.getfield 32, 3) := by decide +kernel
theorem dX0_copy_51 : decode cX0_copy 51 = .ok (.iconst 0, 1) := by decide +kernel
theorem dX0_copy_52 : decode cX0_copy 52 = .ok (.aload_n 0, 1) := by decide +kernel
theorem dX0_copy_53 : decode cX0_copy 53 = .ok (.getfield 32, 3) := by decide +kernel
theorem dX0_copy_56 : decode cX0_copy 56 = .ok (.iconst 0, 1) := by decide +kernel
theorem dX0_copy_57 : decode cX0_copy 57 = .ok (.iconst 4, 1) := by decide +kernel
theorem dX0_copy_58 : decode cX0_copy 58 = .ok (.invokestatic 65, 3) := by decide +kernel
theorem dX0_copy_61 : decode cX0_copy 61 = .ok (.aload_n 0, 1) := by decide +kernel
theorem dX0_copy_62 : decode cX0_copy 62 = .ok (.aload_n 1, 1) := by decide +kernel
theorem dX0_copy_63 : decode cX0_copy 63 = .ok (.getfield 45, 3) := by decide +kernel
theorem dX0_copy_66 : decode cX0_copy 66 = .ok (.putfield 45, 3) := by decide +kernel
theorem dX0_copy_69 : decode cX0_copy 69 = .ok (.aload_n 0, 1) := by decide +kernel
theorem dX0_copy_70 : decode cX0_copy 70 = .ok (.aload_n 1, 1) := by decide +kernel
theorem dX0_copy_71 : decode cX0_copy 71 = .ok (.getfield 49, 3) := by decide +kernel
theorem dX0_copy_74 : decode cX0_copy 74 = .ok (.putfield 49, 3) := by decide +kernel
theorem dX0_copy_77 : decode cX0_copy 77 = .ok (.aload_n 0, 1) := by decide +kernel
theorem dX0_copy_78 : decode cX0_copy 78 = .ok (.aload_n 1, 1) := by decide +kernel
theorem dX0_copy_79 : decode cX0_copy 79 = .ok (.getfield 52, 3) := by decide +kernel
theorem dX0_copy_82 : decode cX0_copy 82 = .ok (.putfield 52, 3) := by decide +kernel
theorem dX0_copy_85 : decode cX0_copy 85 = .ok (.aload_n 0, 1) := by decide +kernel
theorem dX0_copy_86 : decode cX0_copy 86 = .ok (.aload_n 1, 1) := by decide +kernel
theorem dX0_copy_87 : decode cX0_copy 87 = .ok (.getfield 55, 3) := by decide +kernel
theorem dX0_copy_90 : decode cX0_copy 90 = .ok (.putfield 55, 3) := by decide +kernel
theorem dX0_copy_93 : decode cX0_copy 93 = .ok (.return_, 1) := by decide +kernel
theorem dX11_keep_0 : decode cX11_keep 0 = .ok (.aload_n 0, 1) := by decide +kernel
theorem dX11_keep_1 : decode cX11_keep 1 = .ok (.getfield 234, 3) := by decide +kernel
theorem dX11_keep_4 : decode cX11_keep 4 = .ok (.bipush 10, 2) := by decide +kernel
theorem dX11_keep_6 : decode cX11_keep 6 = .ok (.if_icmp .ne 26, 3) := by decide +kernel
theorem dX11_keep_32 : decode cX11_keep 32 = .ok (.aload_n 0, 1) := by decide +kernel
theorem dX11_keep_33 : decode cX11_keep 33 = .ok (.getfield 93, 3) := by decide +kernel
theorem dX11_keep_36 : decode cX11_keep 36 = .ok (.aload_n 0, 1) := by decide +kernel
theorem dX11_keep_37 : decode cX11_keep 37 = .ok (.getfield 237, 3) := by decide +kernel
theorem dX11_keep_40 : decode cX11_keep 40 = .ok (.aload_n 0, 1) := by decide +kernel
theorem dX11_keep_41 : decode cX11_keep 41 = .ok (.getfield 234, 3) := by decide +kernel
theorem dX11_keep_44 : decode cX11_keep 44 = .ok (.iadd, 1) := by decide +kernel
theorem dX11_keep_45 : decode cX11_keep 45 = .ok (.bipush 10, 2) := by decide +kernel
theorem dX11_keep_47 : decode cX11_keep 47 = .ok (.irem, 1) := by decide +kernel
theorem dX11_keep_48 : decode cX11_keep 48 = .ok (.aaload, 1) := by decide +kernel
theorem dX11_keep_49 : decode cX11_keep 49 = .ok (.aload_n 1, 1) := by decide +kernel
theorem dX11_keep_50 : decode cX11_keep 50 = .ok (.invokevirtual 217, 3) := by decide +kernel
theorem dX11_keep_53 : decode cX11_keep 53 = .ok (.aload_n 0, 1) := by decide +kernel
theorem dX11_keep_54 : decode cX11_keep 54 = .ok (.dup, 1) := by decide +kernel
theorem dX11_keep_55 : decode cX11_keep 55 = .ok (.getfield 234, 3) := by decide +kernel
theorem dX11_keep_58 : decode cX11_keep 58 = .ok (.iconst 1, 1) := by decide +kernel
theorem dX11_keep_59 : decode cX11_keep 59 = .ok (.iadd, 1) := by decide +kernel
theorem dX11_keep_60 : decode cX11_keep 60 = .ok (.putfield 234, 3) := by decide +kernel
theorem dX11_keep_63 : decode cX11_keep 63 = .ok (.return_, 1) := by decide +kernel
theorem dX2_forget_0 : decode cX2_forget 0 = .ok (.aload_n 0, 1) := by decide +kernel
theorem dX2_forget_1 : decode cX2_forget 1 = .ok (.iconst 0, 1) := by decide +kernel
theorem dX2_forget_2 : decode cX2_forget 2 = .ok (.putfield 25, 3) := by decide +kernel
theorem dX2_forget_5 : decode cX2_forget 5 = .ok (.return_, 1) := by decide +kernel
theorem dX3_forget_0 : decode cX3_forget 0 = .ok (.aload_n 0, 1) := by decide +kernel
theorem dX3_forget_1 : decode cX3_forget 1 = .ok (.iconst 0, 1) := by decide +kernel
theorem dX3_forget_2 : decode cX3_forget 2 = .ok (.putfield 22, 3) := by decide +kernel
theorem dX3_forget_5 : decode cX3_forget 5 = .ok (.aload_n 0, 1) := by decide +kernel
theorem dX3_forget_6 : decode cX3_forget 6 = .ok (.iconst 0, 1) := by decide +kernel
theorem dX3_forget_7 : decode cX3_forget 7 = .ok (.putfield 26, 3) := by decide +kernel
theorem dX3_forget_10 : decode cX3_forget 10 = .ok (.return_, 1) := by decide +kernel
theorem dX11_hours_0 : decode cX11_hours 0 = .ok (.iload_n 1, 1) := by decide +kernel
theorem dX11_hours_1 : decode cX11_hours 1 = .ok (.iconst 1, 1) := by decide +kernel
theorem dX11_hours_2 : decode cX11_hours 2 = .ok (.if_icmp .lt 9, 3) := by decide +kernel
theorem dX11_hours_5 : decode cX11_hours 5 = .ok (.iload_n 1, 1) := by decide +kernel
theorem dX11_hours_6 : decode cX11_hours 6 = .ok (.bipush 99, 2) := by decide +kernel
theorem dX11_hours_8 : decode cX11_hours 8 = .ok (.if_icmp .le 6, 3) := by decide +kernel
theorem dX11_hours_11 : decode cX11_hours 11 = .ok (.bipush (-3), 2) := by decide +kernel
theorem dX11_hours_13 : decode cX11_hours 13 = .ok (.ireturn, 1) := by decide +kernel
theorem dX11_hours_14 : decode cX11_hours 14 = .ok (.aload_n 0, 1) := by decide +kernel
theorem dX11_hours_15 : decode cX11_hours 15 = .ok (.aload_n 0, 1) := by decide +kernel
theorem dX11_hours_16 : decode cX11_hours 16 = .ok (.getfield 27, 3) := by decide +kernel
theorem dX11_hours_19 : decode cX11_hours 19 = .ok (.getfield 145, 3) := by decide +kernel
theorem dX11_hours_22 : decode cX11_hours 22 = .ok (.invokevirtual 201, 3) := by decide +kernel
theorem dX11_hours_25 : decode cX11_hours 25 = .ok (.aload_n 0, 1) := by decide +kernel
theorem dX11_hours_26 : decode cX11_hours 26 = .ok (.getfield 27, 3) := by decide +kernel
theorem dX11_hours_29 : decode cX11_hours 29 = .ok (.getfield 145, 3) := by decide +kernel
theorem dX11_hours_32 : decode cX11_hours 32 = .ok (.dup, 1) := by decide +kernel
theorem dX11_hours_33 : decode cX11_hours 33 = .ok (.getfield 174, 3) := by decide +kernel
theorem dX11_hours_36 : decode cX11_hours 36 = .ok (.iload_n 1, 1) := by decide +kernel
theorem dX11_hours_37 : decode cX11_hours 37 = .ok (.iadd, 1) := by decide +kernel
theorem dX11_hours_38 : decode cX11_hours 38 = .ok (.putfield 174, 3) := by decide +kernel
theorem dX11_hours_41 : decode cX11_hours 41 = .ok (.aload_n 0, 1) := by decide +kernel
theorem dX11_hours_42 : decode cX11_hours 42 = .ok (.getfield 41, 3) := by decide +kernel
theorem dX11_hours_45 : decode cX11_hours 45 = .ok (.invokevirtual 208, 3) := by decide +kernel
theorem dX11_hours_48 : decode cX11_hours 48 = .ok (.aload_n 0, 1) := by decide +kernel
theorem dX11_hours_49 : decode cX11_hours 49 = .ok (.getfield 27, 3) := by decide +kernel
theorem dX11_hours_52 : decode cX11_hours 52 = .ok (.getfield 145, 3) := by decide +kernel
theorem dX11_hours_55 : decode cX11_hours 55 = .ok (.getfield 174, 3) := by decide +kernel
theorem dX11_hours_58 : decode cX11_hours 58 = .ok (.ireturn, 1) := by decide +kernel
theorem dX11_image_0 : decode cX11_image 0 = .ok (.iload_n 1, 1) := by decide +kernel
theorem dX11_image_1 : decode cX11_image 1 = .ok (.ifCond .lt 8, 3) := by decide +kernel
theorem dX11_image_4 : decode cX11_image 4 = .ok (.iload_n 1, 1) := by decide +kernel
theorem dX11_image_5 : decode cX11_image 5 = .ok (.iconst 2, 1) := by decide +kernel
theorem dX11_image_6 : decode cX11_image 6 = .ok (.if_icmp .lt 6, 3) := by decide +kernel
theorem dX11_image_9 : decode cX11_image 9 = .ok (.bipush (-2), 2) := by decide +kernel
theorem dX11_image_11 : decode cX11_image 11 = .ok (.ireturn, 1) := by decide +kernel
theorem dX11_image_12 : decode cX11_image 12 = .ok (.aload_n 0, 1) := by decide +kernel
theorem dX11_image_13 : decode cX11_image 13 = .ok (.getfield 83, 3) := by decide +kernel
theorem dX11_image_16 : decode cX11_image 16 = .ok (.iload_n 1, 1) := by decide +kernel
theorem dX11_image_17 : decode cX11_image 17 = .ok (.aaload, 1) := by decide +kernel
theorem dX11_image_18 : decode cX11_image 18 = .ok (.aload_n 0, 1) := by decide +kernel
theorem dX11_image_19 : decode cX11_image 19 = .ok (.getfield 27, 3) := by decide +kernel
theorem dX11_image_22 : decode cX11_image 22 = .ok (.invokevirtual 125, 3) := by decide +kernel
theorem dX11_image_25 : decode cX11_image 25 = .ok (.aload_n 0, 1) := by decide +kernel
theorem dX11_image_26 : decode cX11_image 26 = .ok (.getfield 87, 3) := by decide +kernel
theorem dX11_image_29 : decode cX11_image 29 = .ok (.iload_n 1, 1) := by decide +kernel
theorem dX11_image_30 : decode cX11_image 30 = .ok (.iconst 1, 1) := by decide +kernel
theorem dX11_image_31 : decode cX11_image 31 = .ok (.bastore, 1) := by decide +kernel
theorem dX11_image_32 : decode cX11_image 32 = .ok (.iconst 0, 1) := by decide +kernel
theorem dX11_image_33 : decode cX11_image 33 = .ok (.ireturn, 1) := by decide +kernel
theorem dX4_clear_0 : decode cX4_clear 0 = .ok (.aload_n 0, 1) := by decide +kernel
theorem dX4_clear_1 : decode cX4_clear 1 = .ok (.iconst 0, 1) := by decide +kernel
theorem dX4_clear_2 : decode cX4_clear 2 = .ok (.putfield 21, 3) := by decide +kernel
theorem dX4_clear_5 : decode cX4_clear 5 = .ok (.aload_n 0, 1) := by decide +kernel
theorem dX4_clear_6 : decode cX4_clear 6 = .ok (.iconst 0, 1) := by decide +kernel
theorem dX4_clear_7 : decode cX4_clear 7 = .ok (.putfield 25, 3) := by decide +kernel
theorem dX4_clear_10 : decode cX4_clear 10 = .ok (.return_, 1) := by decide +kernel
theorem dX1_clear_0 : decode cX1_clear 0 = .ok (.aload_n 0, 1) := by decide +kernel
theorem dX1_clear_1 : decode cX1_clear 1 = .ok (.getfield 24, 3) := by decide +kernel
theorem dX1_clear_4 : decode cX1_clear 4 = .ok (.iconst 0, 1) := by decide +kernel
theorem dX1_clear_5 : decode cX1_clear 5 = .ok (.invokestatic 33, 3) := by decide +kernel
theorem dX1_clear_8 : decode cX1_clear 8 = .ok (.aload_n 0, 1) := by decide +kernel
theorem dX1_clear_9 : decode cX1_clear 9 = .ok (.getfield 27, 3) := by decide +kernel
theorem dX1_clear_12 : decode cX1_clear 12 = .ok (.iconst 0, 1) := by decide +kernel
theorem dX1_clear_13 : decode cX1_clear 13 = .ok (.invokestatic 33, 3) := by decide +kernel
theorem dX1_clear_16 : decode cX1_clear 16 = .ok (.aload_n 0, 1) := by decide +kernel
theorem dX1_clear_17 : decode cX1_clear 17 = .ok (.getfield 30, 3) := by decide +kernel
theorem dX1_clear_20 : decode cX1_clear 20 = .ok (.iconst 0, 1) := by decide +kernel
theorem dX1_clear_21 : decode cX1_clear 21 = .ok (.invokestatic 33, 3) := by decide +kernel
theorem dX1_clear_24 : decode cX1_clear 24 = .ok (.aload_n 0, 1) := by decide +kernel
theorem dX1_clear_25 : decode cX1_clear 25 = .ok (.iconst 0, 1) := by decide +kernel
theorem dX1_clear_26 : decode cX1_clear 26 = .ok (.putfield 39, 3) := by decide +kernel
theorem dX1_clear_29 : decode cX1_clear 29 = .ok (.aload_n 0, 1) := by decide +kernel
theorem dX1_clear_30 : decode cX1_clear 30 = .ok (.iconst 0, 1) := by decide +kernel
theorem dX1_clear_31 : decode cX1_clear 31 = .ok (.putfield 43, 3) := by decide +kernel
theorem dX1_clear_34 : decode cX1_clear 34 = .ok (.return_, 1) := by decide +kernel
theorem dX0_clear_0 : decode cX0_clear 0 = .ok (.aload_n 0, 1) := by decide +kernel
theorem dX0_clear_1 : decode cX0_clear 1 = .ok (.getfield 12, 3) := by decide +kernel
theorem dX0_clear_4 : decode cX0_clear 4 = .ok (.invokevirtual 35, 3) := by decide +kernel
theorem dX0_clear_7 : decode cX0_clear 7 = .ok (.aload_n 0, 1) := by decide +kernel
theorem dX0_clear_8 : decode cX0_clear 8 = .ok (.getfield 18, 3) := by decide +kernel
theorem dX0_clear_11 : decode cX0_clear 11 = .ok (.invokevirtual 35, 3) := by decide +kernel
theorem dX0_clear_14 : decode cX0_clear 14 = .ok (.aload_n 0, 1) := by decide +kernel
theorem dX0_clear_15 : decode cX0_clear 15 = .ok (.getfield 24, 3) := by decide +kernel
theorem dX0_clear_18 : decode cX0_clear 18 = .ok (.invokevirtual 38, 3) := by decide +kernel
theorem dX0_clear_21 : decode cX0_clear 21 = .ok (.aload_n 0, 1) := by decide +kernel
theorem dX0_clear_22 : decode cX0_clear 22 = .ok (.getfield 28, 3) := by decide +kernel
theorem dX0_clear_25 : decode cX0_clear 25 = .ok (.iconst 0, 1) := by decide +kernel
theorem dX0_clear_26 : decode cX0_clear 26 = .ok (.invokestatic 39, 3) := by decide +kernel
theorem dX0_clear_29 : decode cX0_clear 29 = .ok (.aload_n 0, 1) := by decide +kernel
theorem dX0_clear_30 : decode cX0_clear 30 = .ok (.getfield 32, 3) := by decide +kernel
theorem dX0_clear_33 : decode cX0_clear 33 = .ok (.iconst 0, 1) := by decide +kernel
theorem dX0_clear_34 : decode cX0_clear 34 = .ok (.invokestatic 39, 3) := by decide +kernel
theorem dX0_clear_37 : decode cX0_clear 37 = .ok (.aload_n 0, 1) := by decide +kernel
theorem dX0_clear_38 : decode cX0_clear 38 = .ok (.iconst 0, 1) := by decide +kernel
theorem dX0_clear_39 : decode cX0_clear 39 = .ok (.putfield 45, 3) := by decide +kernel
theorem dX0_clear_42 : decode cX0_clear 42 = .ok (.aload_n 0, 1) := by decide +kernel
theorem dX0_clear_43 : decode cX0_clear 43 = .ok (.iconst 0, 1) := by decide +kernel
theorem dX0_clear_44 : decode cX0_clear 44 = .ok (.putfield 49, 3) := by decide +kernel
theorem dX0_clear_47 : decode cX0_clear 47 = .ok (.aload_n 0, 1) := by decide +kernel
theorem dX0_clear_48 : decode cX0_clear 48 = .ok (.iconst 0, 1) := by decide +kernel
theorem dX0_clear_49 : decode cX0_clear 49 = .ok (.putfield 52, 3) := by decide +kernel
theorem dX0_clear_52 : decode cX0_clear 52 = .ok (.aload_n 0, 1) := by decide +kernel
theorem dX0_clear_53 : decode cX0_clear 53 = .ok (.iconst 0, 1) := by decide +kernel
theorem dX0_clear_54 : decode cX0_clear 54 = .ok (.putfield 55, 3) := by decide +kernel
theorem dX0_clear_57 : decode cX0_clear 57 = .ok (.return_, 1) := by decide +kernel
theorem dX5_advance_0 : decode cX5_advance 0 = .ok (.aload_n 0, 1) := by decide +kernel
theorem dX5_advance_1 : decode cX5_advance 1 = .ok (.getfield 35, 3) := by decide +kernel
theorem dX5_advance_4 : decode cX5_advance 4 = .ok (.ifCond .eq 4, 3) := by decide +kernel
theorem dX5_advance_8 : decode cX5_advance 8 = .ok (.aload_n 0, 1) := by decide +kernel
theorem dX5_advance_9 : decode cX5_advance 9 = .ok (.aload_n 0, 1) := by decide +kernel
theorem dX5_advance_10 : decode cX5_advance 10 = .ok (.getfield 44, 3) := by decide +kernel
theorem dX5_advance_13 : decode cX5_advance 13 = .ok (.putfield 63, 3) := by decide +kernel
theorem dX5_advance_16 : decode cX5_advance 16 = .ok (.aload_n 0, 1) := by decide +kernel
theorem dX5_advance_17 : decode cX5_advance 17 = .ok (.getfield 63, 3) := by decide +kernel
theorem dX5_advance_20 : decode cX5_advance 20 = .ok (.aload_n 0, 1) := by decide +kernel
theorem dX5_advance_21 : decode cX5_advance 21 = .ok (.getfield 41, 3) := by decide +kernel
theorem dX5_advance_24 : decode cX5_advance 24 = .ok (.if_icmp .ge 44, 3) := by decide +kernel
theorem dX5_advance_68 : decode cX5_advance 68 = .ok (.aload_n 0, 1) := by decide +kernel
theorem dX5_advance_69 : decode cX5_advance 69 = .ok (.aload_n 0, 1) := by decide +kernel
theorem dX5_advance_70 : decode cX5_advance 70 = .ok (.getfield 63, 3) := by decide +kernel
theorem dX5_advance_73 : decode cX5_advance 73 = .ok (.putfield 44, 3) := by decide +kernel
theorem dX5_advance_76 : decode cX5_advance 76 = .ok (.aload_n 0, 1) := by decide +kernel
theorem dX5_advance_77 : decode cX5_advance 77 = .ok (.getfield 63, 3) := by decide +kernel
theorem dX5_advance_80 : decode cX5_advance 80 = .ok (.aload_n 0, 1) := by decide +kernel
theorem dX5_advance_81 : decode cX5_advance 81 = .ok (.getfield 41, 3) := by decide +kernel
theorem dX5_advance_84 : decode cX5_advance 84 = .ok (.if_icmp .lt 11, 3) := by decide +kernel
theorem dX5_advance_87 : decode cX5_advance 87 = .ok (.aload_n 0, 1) := by decide +kernel
theorem dX5_advance_88 : decode cX5_advance 88 = .ok (.iconst 0, 1) := by decide +kernel
theorem dX5_advance_89 : decode cX5_advance 89 = .ok (.putfield 50, 3) := by decide +kernel
theorem dX5_advance_92 : decode cX5_advance 92 = .ok (.goto 216, 3) := by decide +kernel
theorem dX5_advance_308 : decode cX5_advance 308 = .ok (.return_, 1) := by decide +kernel
theorem dX5_read_0 : decode cX5_read 0 = .ok (.aload_n 0, 1) := by decide +kernel
theorem dX5_read_1 : decode cX5_read 1 = .ok (.getfield 19, 3) := by decide +kernel
theorem dX5_read_4 : decode cX5_read 4 = .ok (.invokevirtual 38, 3) := by decide +kernel
theorem dX5_read_7 : decode cX5_read 7 = .ok (.aload_n 0, 1) := by decide +kernel
theorem dX5_read_8 : decode cX5_read 8 = .ok (.iconst 0, 1) := by decide +kernel
theorem dX5_read_9 : decode cX5_read 9 = .ok (.putfield 32, 3) := by decide +kernel
theorem dX5_read_12 : decode cX5_read 12 = .ok (.aload_n 0, 1) := by decide +kernel
theorem dX5_read_13 : decode cX5_read 13 = .ok (.iload_n 1, 1) := by decide +kernel
theorem dX5_read_14 : decode cX5_read 14 = .ok (.putfield 41, 3) := by decide +kernel
theorem dX5_read_17 : decode cX5_read 17 = .ok (.aload_n 0, 1) := by decide +kernel
theorem dX5_read_18 : decode cX5_read 18 = .ok (.iconst 0, 1) := by decide +kernel
theorem dX5_read_19 : decode cX5_read 19 = .ok (.putfield 44, 3) := by decide +kernel
theorem dX5_read_22 : decode cX5_read 22 = .ok (.aload_n 0, 1) := by decide +kernel
theorem dX5_read_23 : decode cX5_read 23 = .ok (.iconst 0, 1) := by decide +kernel
theorem dX5_read_24 : decode cX5_read 24 = .ok (.putfield 35, 3) := by decide +kernel
theorem dX5_read_27 : decode cX5_read 27 = .ok (.aload_n 0, 1) := by decide +kernel
theorem dX5_read_28 : decode cX5_read 28 = .ok (.iconst (-1), 1) := by decide +kernel
theorem dX5_read_29 : decode cX5_read 29 = .ok (.putfield 15, 3) := by decide +kernel
theorem dX5_read_32 : decode cX5_read 32 = .ok (.aload_n 0, 1) := by decide +kernel
theorem dX5_read_33 : decode cX5_read 33 = .ok (.invokevirtual 47, 3) := by decide +kernel
theorem dX5_read_36 : decode cX5_read 36 = .ok (.iconst 0, 1) := by decide +kernel
theorem dX5_read_37 : decode cX5_read 37 = .ok (.istore_n 2, 1) := by decide +kernel
theorem dX5_read_38 : decode cX5_read 38 = .ok (.iload_n 2, 1) := by decide +kernel
theorem dX5_read_39 : decode cX5_read 39 = .ok (.sipush 900, 3) := by decide +kernel
theorem dX5_read_42 : decode cX5_read 42 = .ok (.if_icmp .ge 39, 3) := by decide +kernel
theorem dX5_read_45 : decode cX5_read 45 = .ok (.aload_n 0, 1) := by decide +kernel
theorem dX5_read_46 : decode cX5_read 46 = .ok (.getfield 50, 3) := by decide +kernel
theorem dX5_read_49 : decode cX5_read 49 = .ok (.ifCond .eq 32, 3) := by decide +kernel
theorem dX5_read_81 : decode cX5_read 81 = .ok (.aload_n 0, 1) := by decide +kernel
theorem dX5_read_82 : decode cX5_read 82 = .ok (.getfield 35, 3) := by decide +kernel
theorem dX5_read_85 : decode cX5_read 85 = .ok (.ireturn, 1) := by decide +kernel
theorem dX11_startAnew_0 : decode cX11_startAnew 0 = .ok (.aload_n 0, 1) := by decide +kernel
theorem dX11_startAnew_1 : decode cX11_startAnew 1 = .ok (.iconst 0, 1) := by decide +kernel
theorem dX11_startAnew_2 : decode cX11_startAnew 2 = .ok (.putfield 234, 3) := by decide +kernel
theorem dX11_startAnew_5 : decode cX11_startAnew 5 = .ok (.aload_n 0, 1) := by decide +kernel
theorem dX11_startAnew_6 : decode cX11_startAnew 6 = .ok (.getfield 41, 3) := by decide +kernel
theorem dX11_startAnew_9 : decode cX11_startAnew 9 = .ok (.invokevirtual 208, 3) := by decide +kernel
theorem dX11_startAnew_12 : decode cX11_startAnew 12 = .ok (.aload_n 0, 1) := by decide +kernel
theorem dX11_startAnew_13 : decode cX11_startAnew 13 = .ok (.getfield 72, 3) := by decide +kernel
theorem dX11_startAnew_16 : decode cX11_startAnew 16 = .ok (.invokevirtual 340, 3) := by decide +kernel
theorem dX11_startAnew_19 : decode cX11_startAnew 19 = .ok (.return_, 1) := by decide +kernel
theorem dX11_city_0 : decode cX11_city 0 = .ok (.iload_n 1, 1) := by decide +kernel
theorem dX11_city_1 : decode cX11_city 1 = .ok (.ifCond .lt 14, 3) := by decide +kernel
theorem dX11_city_4 : decode cX11_city 4 = .ok (.iload_n 1, 1) := by decide +kernel
theorem dX11_city_5 : decode cX11_city 5 = .ok (.aload_n 0, 1) := by decide +kernel
theorem dX11_city_6 : decode cX11_city 6 = .ok (.getfield 37, 3) := by decide +kernel
theorem dX11_city_9 : decode cX11_city 9 = .ok (.invokevirtual 117, 3) := by decide +kernel
theorem dX11_city_12 : decode cX11_city 12 = .ok (.if_icmp .le 6, 3) := by decide +kernel
theorem dX11_city_15 : decode cX11_city 15 = .ok (.bipush (-3), 2) := by decide +kernel
theorem dX11_city_17 : decode cX11_city 17 = .ok (.ireturn, 1) := by decide +kernel
theorem dX11_city_18 : decode cX11_city 18 = .ok (.aload_n 0, 1) := by decide +kernel
theorem dX11_city_19 : decode cX11_city 19 = .ok (.getfield 37, 3) := by decide +kernel
theorem dX11_city_22 : decode cX11_city 22 = .ok (.iload_n 1, 1) := by decide +kernel
theorem dX11_city_23 : decode cX11_city 23 = .ok (.invokevirtual 121, 3) := by decide +kernel
theorem dX11_city_26 : decode cX11_city 26 = .ok (.istore_n 2, 1) := by decide +kernel
theorem dX11_city_27 : decode cX11_city 27 = .ok (.iload_n 2, 1) := by decide +kernel
theorem dX11_city_28 : decode cX11_city 28 = .ok (.ifCond .eq 8, 3) := by decide +kernel
theorem dX11_city_36 : decode cX11_city 36 = .ok (.aload_n 0, 1) := by decide +kernel
theorem dX11_city_37 : decode cX11_city 37 = .ok (.getfield 27, 3) := by decide +kernel
theorem dX11_city_40 : decode cX11_city 40 = .ok (.aload_n 0, 1) := by decide +kernel
theorem dX11_city_41 : decode cX11_city 41 = .ok (.getfield 31, 3) := by decide +kernel
theorem dX11_city_44 : decode cX11_city 44 = .ok (.invokevirtual 125, 3) := by decide +kernel
theorem dX11_city_47 : decode cX11_city 47 = .ok (.aload_n 0, 1) := by decide +kernel
theorem dX11_city_48 : decode cX11_city 48 = .ok (.invokevirtual 128, 3) := by decide +kernel
theorem dX11_city_51 : decode cX11_city 51 = .ok (.aload_n 0, 1) := by decide +kernel
theorem dX11_city_52 : decode cX11_city 52 = .ok (.getfield 27, 3) := by decide +kernel
theorem dX11_city_55 : decode cX11_city 55 = .ok (.getfield 131, 3) := by decide +kernel
theorem dX11_city_58 : decode cX11_city 58 = .ok (.ireturn, 1) := by decide +kernel
theorem dJ6_bitCount_0f7a4_0 : decode cJ6_bitCount_0f7a4 0 = .ok (.iload_n 0, 1) := by decide +kernel
theorem dJ6_bitCount_0f7a4_1 : decode cJ6_bitCount_0f7a4 1 = .ok (.iload_n 0, 1) := by decide +kernel
theorem dJ6_bitCount_0f7a4_2 : decode cJ6_bitCount_0f7a4 2 = .ok (.iconst 1, 1) := by decide +kernel
theorem dJ6_bitCount_0f7a4_3 : decode cJ6_bitCount_0f7a4 3 = .ok (.iushr, 1) := by decide +kernel
theorem dJ6_bitCount_0f7a4_4 : decode cJ6_bitCount_0f7a4 4 = .ok (.ldc_w 265, 3) := by decide +kernel
theorem dJ6_bitCount_0f7a4_7 : decode cJ6_bitCount_0f7a4 7 = .ok (.iand, 1) := by decide +kernel
theorem dJ6_bitCount_0f7a4_8 : decode cJ6_bitCount_0f7a4 8 = .ok (.isub, 1) := by decide +kernel
theorem dJ6_bitCount_0f7a4_9 : decode cJ6_bitCount_0f7a4 9 = .ok (.istore_n 0, 1) := by decide +kernel
theorem dJ6_bitCount_0f7a4_10 : decode cJ6_bitCount_0f7a4 10 = .ok (.iload_n 0, 1) := by decide +kernel
theorem dJ6_bitCount_0f7a4_11 : decode cJ6_bitCount_0f7a4 11 = .ok (.ldc_w 266, 3) := by decide +kernel
theorem dJ6_bitCount_0f7a4_14 : decode cJ6_bitCount_0f7a4 14 = .ok (.iand, 1) := by decide +kernel
theorem dJ6_bitCount_0f7a4_15 : decode cJ6_bitCount_0f7a4 15 = .ok (.iload_n 0, 1) := by decide +kernel
theorem dJ6_bitCount_0f7a4_16 : decode cJ6_bitCount_0f7a4 16 = .ok (.iconst 2, 1) := by decide +kernel
theorem dJ6_bitCount_0f7a4_17 : decode cJ6_bitCount_0f7a4 17 = .ok (.iushr, 1) := by decide +kernel
theorem dJ6_bitCount_0f7a4_18 : decode cJ6_bitCount_0f7a4 18 = .ok (.ldc_w 266, 3) := by decide +kernel
theorem dJ6_bitCount_0f7a4_21 : decode cJ6_bitCount_0f7a4 21 = .ok (.iand, 1) := by decide +kernel
theorem dJ6_bitCount_0f7a4_22 : decode cJ6_bitCount_0f7a4 22 = .ok (.iadd, 1) := by decide +kernel
theorem dJ6_bitCount_0f7a4_23 : decode cJ6_bitCount_0f7a4 23 = .ok (.istore_n 0, 1) := by decide +kernel
theorem dJ6_bitCount_0f7a4_24 : decode cJ6_bitCount_0f7a4 24 = .ok (.iload_n 0, 1) := by decide +kernel
theorem dJ6_bitCount_0f7a4_25 : decode cJ6_bitCount_0f7a4 25 = .ok (.iload_n 0, 1) := by decide +kernel
theorem dJ6_bitCount_0f7a4_26 : decode cJ6_bitCount_0f7a4 26 = .ok (.iconst 4, 1) := by decide +kernel
theorem dJ6_bitCount_0f7a4_27 : decode cJ6_bitCount_0f7a4 27 = .ok (.iushr, 1) := by decide +kernel
theorem dJ6_bitCount_0f7a4_28 : decode cJ6_bitCount_0f7a4 28 = .ok (.iadd, 1) := by decide +kernel
theorem dJ6_bitCount_0f7a4_29 : decode cJ6_bitCount_0f7a4 29 = .ok (.ldc_w 267, 3) := by decide +kernel
theorem dJ6_bitCount_0f7a4_32 : decode cJ6_bitCount_0f7a4 32 = .ok (.iand, 1) := by decide +kernel
theorem dJ6_bitCount_0f7a4_33 : decode cJ6_bitCount_0f7a4 33 = .ok (.istore_n 0, 1) := by decide +kernel
theorem dJ6_bitCount_0f7a4_34 : decode cJ6_bitCount_0f7a4 34 = .ok (.iload_n 0, 1) := by decide +kernel
theorem dJ6_bitCount_0f7a4_35 : decode cJ6_bitCount_0f7a4 35 = .ok (.iload_n 0, 1) := by decide +kernel
theorem dJ6_bitCount_0f7a4_36 : decode cJ6_bitCount_0f7a4 36 = .ok (.bipush 8, 2) := by decide +kernel
theorem dJ6_bitCount_0f7a4_38 : decode cJ6_bitCount_0f7a4 38 = .ok (.iushr, 1) := by decide +kernel
theorem dJ6_bitCount_0f7a4_39 : decode cJ6_bitCount_0f7a4 39 = .ok (.iadd, 1) := by decide +kernel
theorem dJ6_bitCount_0f7a4_40 : decode cJ6_bitCount_0f7a4 40 = .ok (.istore_n 0, 1) := by decide +kernel
theorem dJ6_bitCount_0f7a4_41 : decode cJ6_bitCount_0f7a4 41 = .ok (.iload_n 0, 1) := by decide +kernel
theorem dJ6_bitCount_0f7a4_42 : decode cJ6_bitCount_0f7a4 42 = .ok (.iload_n 0, 1) := by decide +kernel
theorem dJ6_bitCount_0f7a4_43 : decode cJ6_bitCount_0f7a4 43 = .ok (.bipush 16, 2) := by decide +kernel
theorem dJ6_bitCount_0f7a4_45 : decode cJ6_bitCount_0f7a4 45 = .ok (.iushr, 1) := by decide +kernel
theorem dJ6_bitCount_0f7a4_46 : decode cJ6_bitCount_0f7a4 46 = .ok (.iadd, 1) := by decide +kernel
theorem dJ6_bitCount_0f7a4_47 : decode cJ6_bitCount_0f7a4 47 = .ok (.istore_n 0, 1) := by decide +kernel
theorem dJ6_bitCount_0f7a4_48 : decode cJ6_bitCount_0f7a4 48 = .ok (.iload_n 0, 1) := by decide +kernel
theorem dJ6_bitCount_0f7a4_49 : decode cJ6_bitCount_0f7a4 49 = .ok (.bipush 63, 2) := by decide +kernel
theorem dJ6_bitCount_0f7a4_51 : decode cJ6_bitCount_0f7a4 51 = .ok (.iand, 1) := by decide +kernel
theorem dJ6_bitCount_0f7a4_52 : decode cJ6_bitCount_0f7a4 52 = .ok (.ireturn, 1) := by decide +kernel
theorem dX1_allSold_0 : decode cX1_allSold 0 = .ok (.iconst 0, 1) := by decide +kernel
theorem dX1_allSold_1 : decode cX1_allSold 1 = .ok (.istore_n 1, 1) := by decide +kernel
theorem dX1_allSold_2 : decode cX1_allSold 2 = .ok (.iconst 0, 1) := by decide +kernel
theorem dX1_allSold_3 : decode cX1_allSold 3 = .ok (.istore_n 2, 1) := by decide +kernel
theorem dX1_allSold_4 : decode cX1_allSold 4 = .ok (.iload_n 2, 1) := by decide +kernel
theorem dX1_allSold_5 : decode cX1_allSold 5 = .ok (.bipush 25, 2) := by decide +kernel
theorem dX1_allSold_7 : decode cX1_allSold 7 = .ok (.if_icmp .ge 18, 3) := by decide +kernel
theorem dX1_allSold_10 : decode cX1_allSold 10 = .ok (.iload_n 1, 1) := by decide +kernel
theorem dX1_allSold_11 : decode cX1_allSold 11 = .ok (.aload_n 0, 1) := by decide +kernel
theorem dX1_allSold_12 : decode cX1_allSold 12 = .ok (.getfield 27, 3) := by decide +kernel
theorem dX1_allSold_15 : decode cX1_allSold 15 = .ok (.iload_n 2, 1) := by decide +kernel
theorem dX1_allSold_16 : decode cX1_allSold 16 = .ok (.iaload, 1) := by decide +kernel
theorem dX1_allSold_17 : decode cX1_allSold 17 = .ok (.iadd, 1) := by decide +kernel
theorem dX1_allSold_18 : decode cX1_allSold 18 = .ok (.istore_n 1, 1) := by decide +kernel
theorem dX1_allSold_19 : decode cX1_allSold 19 = .ok (.iinc 2 1, 3) := by decide +kernel
theorem dX1_allSold_22 : decode cX1_allSold 22 = .ok (.goto (-18), 3) := by decide +kernel
theorem dX1_allSold_25 : decode cX1_allSold 25 = .ok (.iload_n 1, 1) := by decide +kernel
theorem dX1_allSold_26 : decode cX1_allSold 26 = .ok (.ireturn, 1) := by decide +kernel
theorem dX1_allLefts_0 : decode cX1_allLefts 0 = .ok (.iconst 0, 1) := by decide +kernel
theorem dX1_allLefts_1 : decode cX1_allLefts 1 = .ok (.istore_n 1, 1) := by decide +kernel
theorem dX1_allLefts_2 : decode cX1_allLefts 2 = .ok (.iconst 0, 1) := by decide +kernel
theorem dX1_allLefts_3 : decode cX1_allLefts 3 = .ok (.istore_n 2, 1) := by decide +kernel
theorem dX1_allLefts_4 : decode cX1_allLefts 4 = .ok (.iload_n 2, 1) := by decide +kernel
theorem dX1_allLefts_5 : decode cX1_allLefts 5 = .ok (.aload_n 0, 1) := by decide +kernel
theorem dX1_allLefts_6 : decode cX1_allLefts 6 = .ok (.getfield 39, 3) := by decide +kernel
theorem dX1_allLefts_9 : decode cX1_allLefts 9 = .ok (.if_icmp .ge 18, 3) := by decide +kernel
theorem dX1_allLefts_27 : decode cX1_allLefts 27 = .ok (.iload_n 1, 1) := by decide +kernel
theorem dX1_allLefts_28 : decode cX1_allLefts 28 = .ok (.ireturn, 1) := by decide +kernel
theorem dX0_freeBits_0 : decode cX0_freeBits 0 = .ok (.aload_n 0, 1) := by decide +kernel
theorem dX0_freeBits_1 : decode cX0_freeBits 1 = .ok (.getfield 55, 3) := by decide +kernel
theorem dX0_freeBits_4 : decode cX0_freeBits 4 = .ok (.istore_n 2, 1) := by decide +kernel
theorem dX0_freeBits_5 : decode cX0_freeBits 5 = .ok (.iconst 0, 1) := by decide +kernel
theorem dX0_freeBits_6 : decode cX0_freeBits 6 = .ok (.istore_n 3, 1) := by decide +kernel
theorem dX0_freeBits_7 : decode cX0_freeBits 7 = .ok (.iload_n 3, 1) := by decide +kernel
theorem dX0_freeBits_8 : decode cX0_freeBits 8 = .ok (.bipush 25, 2) := by decide +kernel
theorem dX0_freeBits_10 : decode cX0_freeBits 10 = .ok (.if_icmp .ge 28, 3) := by decide +kernel
theorem dX0_freeBits_13 : decode cX0_freeBits 13 = .ok (.aload_n 0, 1) := by decide +kernel
theorem dX0_freeBits_14 : decode cX0_freeBits 14 = .ok (.getfield 24, 3) := by decide +kernel
theorem dX0_freeBits_17 : decode cX0_freeBits 17 = .ok (.getfield 107, 3) := by decide +kernel
theorem dX0_freeBits_20 : decode cX0_freeBits 20 = .ok (.iload_n 3, 1) := by decide +kernel
theorem dX0_freeBits_21 : decode cX0_freeBits 21 = .ok (.iaload, 1) := by decide +kernel
theorem dX0_freeBits_22 : decode cX0_freeBits 22 = .ok (.iload_n 1, 1) := by decide +kernel
theorem dX0_freeBits_23 : decode cX0_freeBits 23 = .ok (.if_icmp .le 9, 3) := by decide +kernel
theorem dX0_freeBits_32 : decode cX0_freeBits 32 = .ok (.iinc 3 1, 3) := by decide +kernel
theorem dX0_freeBits_35 : decode cX0_freeBits 35 = .ok (.goto (-28), 3) := by decide +kernel
theorem dX0_freeBits_38 : decode cX0_freeBits 38 = .ok (.iload_n 2, 1) := by decide +kernel
theorem dX0_freeBits_39 : decode cX0_freeBits 39 = .ok (.ireturn, 1) := by decide +kernel
theorem dX11_count_0 : decode cX11_count 0 = .ok (.iload_n 1, 1) := by decide +kernel
theorem dX11_count_1 : decode cX11_count 1 = .ok (.tableswitch 157 0 9 #[55, 63, 71, 82, 93, 104, 125, 130, 138, 146], 55) := by decide +kernel
theorem dX11_count_56 : decode cX11_count 56 = .ok (.aload_n 0, 1) := by decide +kernel
theorem dX11_count_57 : decode cX11_count 57 = .ok (.getfield 27, 3) := by decide +kernel
theorem dX11_count_60 : decode cX11_count 60 = .ok (.getfield 328, 3) := by decide +kernel
theorem dX11_count_63 : decode cX11_count 63 = .ok (.ireturn, 1) := by decide +kernel
theorem dX11_count_64 : decode cX11_count 64 = .ok (.aload_n 0, 1) := by decide +kernel
theorem dX11_count_65 : decode cX11_count 65 = .ok (.getfield 27, 3) := by decide +kernel
theorem dX11_count_68 : decode cX11_count 68 = .ok (.getfield 331, 3) := by decide +kernel
theorem dX11_count_71 : decode cX11_count 71 = .ok (.ireturn, 1) := by decide +kernel
theorem dX11_count_72 : decode cX11_count 72 = .ok (.aload_n 0, 1) := by decide +kernel
theorem dX11_count_73 : decode cX11_count 73 = .ok (.getfield 27, 3) := by decide +kernel
theorem dX11_count_76 : decode cX11_count 76 = .ok (.getfield 145, 3) := by decide +kernel
theorem dX11_count_79 : decode cX11_count 79 = .ok (.getfield 240, 3) := by decide +kernel
theorem dX11_count_82 : decode cX11_count 82 = .ok (.ireturn, 1) := by decide +kernel
theorem dX11_count_83 : decode cX11_count 83 = .ok (.aload_n 0, 1) := by decide +kernel
theorem dX11_count_84 : decode cX11_count 84 = .ok (.getfield 27, 3) := by decide +kernel
theorem dX11_count_87 : decode cX11_count 87 = .ok (.getfield 145, 3) := by decide +kernel
theorem dX11_count_90 : decode cX11_count 90 = .ok (.getfield 174, 3) := by decide +kernel
theorem dX11_count_93 : decode cX11_count 93 = .ok (.ireturn, 1) := by decide +kernel
theorem dX11_count_94 : decode cX11_count 94 = .ok (.aload_n 0, 1) := by decide +kernel
theorem dX11_count_95 : decode cX11_count 95 = .ok (.getfield 27, 3) := by decide +kernel
theorem dX11_count_98 : decode cX11_count 98 = .ok (.getfield 145, 3) := by decide +kernel
theorem dX11_count_101 : decode cX11_count 101 = .ok (.invokevirtual 334, 3) := by decide +kernel
theorem dX11_count_104 : decode cX11_count 104 = .ok (.ireturn, 1) := by decide +kernel
theorem dX11_count_105 : decode cX11_count 105 = .ok (.aload_n 0, 1) := by decide +kernel
theorem dX11_count_106 : decode cX11_count 106 = .ok (.getfield 27, 3) := by decide +kernel
theorem dX11_count_109 : decode cX11_count 109 = .ok (.aload_n 0, 1) := by decide +kernel
theorem dX11_count_110 : decode cX11_count 110 = .ok (.getfield 27, 3) := by decide +kernel
theorem dX11_count_113 : decode cX11_count 113 = .ok (.getfield 145, 3) := by decide +kernel
theorem dX11_count_116 : decode cX11_count 116 = .ok (.getfield 174, 3) := by decide +kernel
theorem dX11_count_119 : decode cX11_count 119 = .ok (.invokevirtual 184, 3) := by decide +kernel
theorem dX11_count_122 : decode cX11_count 122 = .ok (.invokestatic 229, 3) := by decide +kernel
theorem dX11_count_125 : decode cX11_count 125 = .ok (.ireturn, 1) := by decide +kernel
theorem dX11_count_126 : decode cX11_count 126 = .ok (.aload_n 0, 1) := by decide +kernel
theorem dX11_count_127 : decode cX11_count 127 = .ok (.getfield 234, 3) := by decide +kernel
theorem dX11_count_130 : decode cX11_count 130 = .ok (.ireturn, 1) := by decide +kernel
theorem dX11_count_131 : decode cX11_count 131 = .ok (.aload_n 0, 1) := by decide +kernel
theorem dX11_count_132 : decode cX11_count 132 = .ok (.getfield 37, 3) := by decide +kernel
theorem dX11_count_135 : decode cX11_count 135 = .ok (.invokevirtual 117, 3) := by decide +kernel
theorem dX11_count_138 : decode cX11_count 138 = .ok (.ireturn, 1) := by decide +kernel
theorem dX11_count_139 : decode cX11_count 139 = .ok (.aload_n 0, 1) := by decide +kernel
theorem dX11_count_140 : decode cX11_count 140 = .ok (.getfield 27, 3) := by decide +kernel
theorem dX11_count_143 : decode cX11_count 143 = .ok (.getfield 131, 3) := by decide +kernel
theorem dX11_count_146 : decode cX11_count 146 = .ok (.ireturn, 1) := by decide +kernel
theorem dX11_count_147 : decode cX11_count 147 = .ok (.aload_n 0, 1) := by decide +kernel
theorem dX11_count_148 : decode cX11_count 148 = .ok (.getfield 27, 3) := by decide +kernel
theorem dX11_count_151 : decode cX11_count 151 = .ok (.getfield 145, 3) := by decide +kernel
theorem dX11_count_154 : decode cX11_count 154 = .ok (.invokevirtual 337, 3) := by decide +kernel
theorem dX11_count_157 : decode cX11_count 157 = .ok (.ireturn, 1) := by decide +kernel
theorem dX11_count_158 : decode cX11_count 158 = .ok (.iconst (-1), 1) := by decide +kernel
theorem dX11_count_159 : decode cX11_count 159 = .ok (.ireturn, 1) := by decide +kernel
set_option maxHeartbeats 4000000 in
set_option maxRecDepth 100000 in
theorem c_X1_copy (l : Launch) (G : GG) (a : Nat) (a0 : Nat) (a1 : Nat) (a2 : Nat) (a3 : Nat) (a4 : Nat) (a5 : Nat) (a6 : Nat) (b : Nat) (b0 : Nat) (b1 : Nat) (b2 : Nat) (b3 : Nat) (b4 : Nat) (b5 : Nat) (b6 : Nat) (f0 : Nat → Int32) (f1 : Nat → Int32) (f2 : Nat → Int32) (f3 : Nat → Int32) (f4 : Nat → Int32) (f5 : Nat → Int32) (f6 : Nat → Int32) (g0 : Nat → Int32) (g1 : Nat → Int32) (g2 : Nat → Int32) (g3 : Nat → Int32) (g4 : Nat → Int32) (g5 : Nat → Int32) (g6 : Nat → Int32) : Mt l yX1_copy cX1_copy 2 none 1 0 0 G [.ref a, .ref b] [(a, .inr (1, [.ref a0, .ref a1, .ref a2, .ref a3, .ref a4, .ref a5, .ref a6, .int 0, .int 0])), (a0, .inl (G.2 1, 5, .inl f0)), (a1, .inl (G.2 1, 5, .inl f1)), (a2, .inl (G.2 1, 5, .inl f2)), (a3, .inl (G.2 1, 5, .inl f3)), (a4, .inl (G.2 1, 5, .inl f4)), (a5, .inl (G.2 1, 25, .inl f5)), (a6, .inl (G.2 1, 25, .inl f6)), (b, .inr (1, [.ref b0, .ref b1, .ref b2, .ref b3, .ref b4, .ref b5, .ref b6, .int 0, .int 0])), (b0, .inl (G.2 1, 5, .inl g0)), (b1, .inl (G.2 1, 5, .inl g1)), (b2, .inl (G.2 1, 5, .inl g2)), (b3, .inl (G.2 1, 5, .inl g3)), (b4, .inl (G.2 1, 5, .inl g4)), (b5, .inl (G.2 1, 25, .inl g5)), (b6, .inl (G.2 1, 25, .inl g6))] (Rv (S := Unit) G (fun _ => True) (fun _ => [(a, .inr (1, [.ref a0, .ref a1, .ref a2, .ref a3, .ref a4, .ref a5, .ref a6, .int 0, .int 0])), (b, .inr (1, [.ref b0, .ref b1, .ref b2, .ref b3, .ref b4, .ref b5, .ref b6, .int 0, .int 0]))])) := by
  refine Mt.start (by decide) (Nat.le_of_ble_eq_true rfl) ?_
  intro p e s m below meth c A ls C0 hini h hl
  have C0 : Cx p s m _ meth c RX1 cX1_copy 2 none := C0
  obtain ⟨hx, hb, hml, hown, hts, -⟩ := id C0
  have hl : lv_has ls 2 [(0, .ref a), (1, .ref b)] := hl
  refine lv_aload_n hx hb dX1_copy_0 rfl (lv_at hl 1 rfl) ?_
  refine g_X1_at C0 h 8 q_190 rfl rfl dX1_copy_1 ?_
  refine lv_iconst (v := 0) hx hb dX1_copy_4 (by decide) ?_
  refine lv_aload_n hx hb dX1_copy_5 rfl (lv_at hl 0 rfl) ?_
  refine g_X1_at C0 h 0 q_190 rfl rfl dX1_copy_6 ?_
  refine lv_iconst (v := 0) hx hb dX1_copy_9 (by decide) ?_
  refine lv_iconst (v := 5) hx hb dX1_copy_10 (by decide) ?_
  refine m_copyi (ws' := [(a, .inr (1, [.ref a0, .ref a1, .ref a2, .ref a3, .ref a4, .ref a5, .ref a6, .int 0, .int 0])), (a0, .inl (G.2 1, 5, .inl (va_cpy g0 f0 0 0 5))), (a1, .inl (G.2 1, 5, .inl f1)), (a2, .inl (G.2 1, 5, .inl f2)), (a3, .inl (G.2 1, 5, .inl f3)), (a4, .inl (G.2 1, 5, .inl f4)), (a5, .inl (G.2 1, 25, .inl f5)), (a6, .inl (G.2 1, 25, .inl f6)), (b, .inr (1, [.ref b0, .ref b1, .ref b2, .ref b3, .ref b4, .ref b5, .ref b6, .int 0, .int 0])), (b0, .inl (G.2 1, 5, .inl g0)), (b1, .inl (G.2 1, 5, .inl g1)), (b2, .inl (G.2 1, 5, .inl g2)), (b3, .inl (G.2 1, 5, .inl g3)), (b4, .inl (G.2 1, 5, .inl g4)), (b5, .inl (G.2 1, 25, .inl g5)), (b6, .inl (G.2 1, 25, .inl g6))]) C0 h hl.1 9 1 q_871 q_866 q_865 q_145 rfl rfl (by decide) (by decide) (by decide) (by decide) (by decide) rfl (Nat.le_of_ble_eq_true rfl) (Nat.le_of_ble_eq_true rfl) dX1_copy_11 (fun H locs h => ?_)
  refine lv_aload_n hx hb dX1_copy_14 rfl (lv_at hl 1 rfl) ?_
  refine g_X1_heads C0 h 8 q_193 rfl rfl dX1_copy_15 ?_
  refine lv_iconst (v := 0) hx hb dX1_copy_18 (by decide) ?_
  refine lv_aload_n hx hb dX1_copy_19 rfl (lv_at hl 0 rfl) ?_
  refine g_X1_heads C0 h 0 q_193 rfl rfl dX1_copy_20 ?_
  refine lv_iconst (v := 0) hx hb dX1_copy_23 (by decide) ?_
  refine lv_iconst (v := 5) hx hb dX1_copy_24 (by decide) ?_
  refine m_copyi (ws' := [(a, .inr (1, [.ref a0, .ref a1, .ref a2, .ref a3, .ref a4, .ref a5, .ref a6, .int 0, .int 0])), (a0, .inl (G.2 1, 5, .inl (va_cpy g0 f0 0 0 5))), (a1, .inl (G.2 1, 5, .inl (va_cpy g1 f1 0 0 5))), (a2, .inl (G.2 1, 5, .inl f2)), (a3, .inl (G.2 1, 5, .inl f3)), (a4, .inl (G.2 1, 5, .inl f4)), (a5, .inl (G.2 1, 25, .inl f5)), (a6, .inl (G.2 1, 25, .inl f6)), (b, .inr (1, [.ref b0, .ref b1, .ref b2, .ref b3, .ref b4, .ref b5, .ref b6, .int 0, .int 0])), (b0, .inl (G.2 1, 5, .inl g0)), (b1, .inl (G.2 1, 5, .inl g1)), (b2, .inl (G.2 1, 5, .inl g2)), (b3, .inl (G.2 1, 5, .inl g3)), (b4, .inl (G.2 1, 5, .inl g4)), (b5, .inl (G.2 1, 25, .inl g5)), (b6, .inl (G.2 1, 25, .inl g6))]) C0 h hl.1 10 2 q_871 q_866 q_865 q_145 rfl rfl (by decide) (by decide) (by decide) (by decide) (by decide) rfl (Nat.le_of_ble_eq_true rfl) (Nat.le_of_ble_eq_true rfl) dX1_copy_25 (fun H locs h => ?_)
  refine lv_aload_n hx hb dX1_copy_28 rfl (lv_at hl 1 rfl) ?_
  refine g_X1_lefts C0 h 8 q_196 rfl rfl dX1_copy_29 ?_
  refine lv_iconst (v := 0) hx hb dX1_copy_32 (by decide) ?_
  refine lv_aload_n hx hb dX1_copy_33 rfl (lv_at hl 0 rfl) ?_
  refine g_X1_lefts C0 h 0 q_196 rfl rfl dX1_copy_34 ?_
  refine lv_iconst (v := 0) hx hb dX1_copy_37 (by decide) ?_
  refine lv_iconst (v := 5) hx hb dX1_copy_38 (by decide) ?_
  refine m_copyi (ws' := [(a, .inr (1, [.ref a0, .ref a1, .ref a2, .ref a3, .ref a4, .ref a5, .ref a6, .int 0, .int 0])), (a0, .inl (G.2 1, 5, .inl (va_cpy g0 f0 0 0 5))), (a1, .inl (G.2 1, 5, .inl (va_cpy g1 f1 0 0 5))), (a2, .inl (G.2 1, 5, .inl (va_cpy g2 f2 0 0 5))), (a3, .inl (G.2 1, 5, .inl f3)), (a4, .inl (G.2 1, 5, .inl f4)), (a5, .inl (G.2 1, 25, .inl f5)), (a6, .inl (G.2 1, 25, .inl f6)), (b, .inr (1, [.ref b0, .ref b1, .ref b2, .ref b3, .ref b4, .ref b5, .ref b6, .int 0, .int 0])), (b0, .inl (G.2 1, 5, .inl g0)), (b1, .inl (G.2 1, 5, .inl g1)), (b2, .inl (G.2 1, 5, .inl g2)), (b3, .inl (G.2 1, 5, .inl g3)), (b4, .inl (G.2 1, 5, .inl g4)), (b5, .inl (G.2 1, 25, .inl g5)), (b6, .inl (G.2 1, 25, .inl g6))]) C0 h hl.1 11 3 q_871 q_866 q_865 q_145 rfl rfl (by decide) (by decide) (by decide) (by decide) (by decide) rfl (Nat.le_of_ble_eq_true rfl) (Nat.le_of_ble_eq_true rfl) dX1_copy_39 (fun H locs h => ?_)
  refine lv_aload_n hx hb dX1_copy_42 rfl (lv_at hl 1 rfl) ?_
  refine g_X1_coins C0 h 8 q_199 rfl rfl dX1_copy_43 ?_
  refine lv_iconst (v := 0) hx hb dX1_copy_46 (by decide) ?_
  refine lv_aload_n hx hb dX1_copy_47 rfl (lv_at hl 0 rfl) ?_
  refine g_X1_coins C0 h 0 q_199 rfl rfl dX1_copy_48 ?_
  refine lv_iconst (v := 0) hx hb dX1_copy_51 (by decide) ?_
  refine lv_iconst (v := 5) hx hb dX1_copy_52 (by decide) ?_
  refine m_copyi (ws' := [(a, .inr (1, [.ref a0, .ref a1, .ref a2, .ref a3, .ref a4, .ref a5, .ref a6, .int 0, .int 0])), (a0, .inl (G.2 1, 5, .inl (va_cpy g0 f0 0 0 5))), (a1, .inl (G.2 1, 5, .inl (va_cpy g1 f1 0 0 5))), (a2, .inl (G.2 1, 5, .inl (va_cpy g2 f2 0 0 5))), (a3, .inl (G.2 1, 5, .inl (va_cpy g3 f3 0 0 5))), (a4, .inl (G.2 1, 5, .inl f4)), (a5, .inl (G.2 1, 25, .inl f5)), (a6, .inl (G.2 1, 25, .inl f6)), (b, .inr (1, [.ref b0, .ref b1, .ref b2, .ref b3, .ref b4, .ref b5, .ref b6, .int 0, .int 0])), (b0, .inl (G.2 1, 5, .inl g0)), (b1, .inl (G.2 1, 5, .inl g1)), (b2, .inl (G.2 1, 5, .inl g2)), (b3, .inl (G.2 1, 5, .inl g3)), (b4, .inl (G.2 1, 5, .inl g4)), (b5, .inl (G.2 1, 25, .inl g5)), (b6, .inl (G.2 1, 25, .inl g6))]) C0 h hl.1 12 4 q_871 q_866 q_865 q_145 rfl rfl (by decide) (by decide) (by decide) (by decide) (by decide) rfl (Nat.le_of_ble_eq_true rfl) (Nat.le_of_ble_eq_true rfl) dX1_copy_53 (fun H locs h => ?_)
  refine lv_aload_n hx hb dX1_copy_56 rfl (lv_at hl 1 rfl) ?_
  refine g_X1_used C0 h 8 q_202 rfl rfl dX1_copy_57 ?_
  refine lv_iconst (v := 0) hx hb dX1_copy_60 (by decide) ?_
  refine lv_aload_n hx hb dX1_copy_61 rfl (lv_at hl 0 rfl) ?_
  refine g_X1_used C0 h 0 q_202 rfl rfl dX1_copy_62 ?_
  refine lv_iconst (v := 0) hx hb dX1_copy_65 (by decide) ?_
  refine lv_iconst (v := 5) hx hb dX1_copy_66 (by decide) ?_
  refine m_copyi (ws' := [(a, .inr (1, [.ref a0, .ref a1, .ref a2, .ref a3, .ref a4, .ref a5, .ref a6, .int 0, .int 0])), (a0, .inl (G.2 1, 5, .inl (va_cpy g0 f0 0 0 5))), (a1, .inl (G.2 1, 5, .inl (va_cpy g1 f1 0 0 5))), (a2, .inl (G.2 1, 5, .inl (va_cpy g2 f2 0 0 5))), (a3, .inl (G.2 1, 5, .inl (va_cpy g3 f3 0 0 5))), (a4, .inl (G.2 1, 5, .inl (va_cpy g4 f4 0 0 5))), (a5, .inl (G.2 1, 25, .inl f5)), (a6, .inl (G.2 1, 25, .inl f6)), (b, .inr (1, [.ref b0, .ref b1, .ref b2, .ref b3, .ref b4, .ref b5, .ref b6, .int 0, .int 0])), (b0, .inl (G.2 1, 5, .inl g0)), (b1, .inl (G.2 1, 5, .inl g1)), (b2, .inl (G.2 1, 5, .inl g2)), (b3, .inl (G.2 1, 5, .inl g3)), (b4, .inl (G.2 1, 5, .inl g4)), (b5, .inl (G.2 1, 25, .inl g5)), (b6, .inl (G.2 1, 25, .inl g6))]) C0 h hl.1 13 5 q_871 q_866 q_865 q_145 rfl rfl (by decide) (by decide) (by decide) (by decide) (by decide) rfl (Nat.le_of_ble_eq_true rfl) (Nat.le_of_ble_eq_true rfl) dX1_copy_67 (fun H locs h => ?_)
  refine lv_aload_n hx hb dX1_copy_70 rfl (lv_at hl 1 rfl) ?_
  refine g_X1_sold C0 h 8 q_205 rfl rfl dX1_copy_71 ?_
  refine lv_iconst (v := 0) hx hb dX1_copy_74 (by decide) ?_
  refine lv_aload_n hx hb dX1_copy_75 rfl (lv_at hl 0 rfl) ?_
  refine g_X1_sold C0 h 0 q_205 rfl rfl dX1_copy_76 ?_
  refine lv_iconst (v := 0) hx hb dX1_copy_79 (by decide) ?_
  refine lv_bipush (v := 25) hx hb dX1_copy_80 (by decide) ?_
  refine m_copyi (ws' := [(a, .inr (1, [.ref a0, .ref a1, .ref a2, .ref a3, .ref a4, .ref a5, .ref a6, .int 0, .int 0])), (a0, .inl (G.2 1, 5, .inl (va_cpy g0 f0 0 0 5))), (a1, .inl (G.2 1, 5, .inl (va_cpy g1 f1 0 0 5))), (a2, .inl (G.2 1, 5, .inl (va_cpy g2 f2 0 0 5))), (a3, .inl (G.2 1, 5, .inl (va_cpy g3 f3 0 0 5))), (a4, .inl (G.2 1, 5, .inl (va_cpy g4 f4 0 0 5))), (a5, .inl (G.2 1, 25, .inl (va_cpy g5 f5 0 0 25))), (a6, .inl (G.2 1, 25, .inl f6)), (b, .inr (1, [.ref b0, .ref b1, .ref b2, .ref b3, .ref b4, .ref b5, .ref b6, .int 0, .int 0])), (b0, .inl (G.2 1, 5, .inl g0)), (b1, .inl (G.2 1, 5, .inl g1)), (b2, .inl (G.2 1, 5, .inl g2)), (b3, .inl (G.2 1, 5, .inl g3)), (b4, .inl (G.2 1, 5, .inl g4)), (b5, .inl (G.2 1, 25, .inl g5)), (b6, .inl (G.2 1, 25, .inl g6))]) C0 h hl.1 14 6 q_871 q_866 q_865 q_145 rfl rfl (by decide) (by decide) (by decide) (by decide) (by decide) rfl (Nat.le_of_ble_eq_true rfl) (Nat.le_of_ble_eq_true rfl) dX1_copy_82 (fun H locs h => ?_)
  refine lv_aload_n hx hb dX1_copy_85 rfl (lv_at hl 1 rfl) ?_
  refine g_X1_fogEnds C0 h 8 q_210 rfl rfl dX1_copy_86 ?_
  refine lv_iconst (v := 0) hx hb dX1_copy_89 (by decide) ?_
  refine lv_aload_n hx hb dX1_copy_90 rfl (lv_at hl 0 rfl) ?_
  refine g_X1_fogEnds C0 h 0 q_210 rfl rfl dX1_copy_91 ?_
  refine lv_iconst (v := 0) hx hb dX1_copy_94 (by decide) ?_
  refine lv_bipush (v := 25) hx hb dX1_copy_95 (by decide) ?_
  refine m_copyi (ws' := [(a, .inr (1, [.ref a0, .ref a1, .ref a2, .ref a3, .ref a4, .ref a5, .ref a6, .int 0, .int 0])), (a0, .inl (G.2 1, 5, .inl (va_cpy g0 f0 0 0 5))), (a1, .inl (G.2 1, 5, .inl (va_cpy g1 f1 0 0 5))), (a2, .inl (G.2 1, 5, .inl (va_cpy g2 f2 0 0 5))), (a3, .inl (G.2 1, 5, .inl (va_cpy g3 f3 0 0 5))), (a4, .inl (G.2 1, 5, .inl (va_cpy g4 f4 0 0 5))), (a5, .inl (G.2 1, 25, .inl (va_cpy g5 f5 0 0 25))), (a6, .inl (G.2 1, 25, .inl (va_cpy g6 f6 0 0 25))), (b, .inr (1, [.ref b0, .ref b1, .ref b2, .ref b3, .ref b4, .ref b5, .ref b6, .int 0, .int 0])), (b0, .inl (G.2 1, 5, .inl g0)), (b1, .inl (G.2 1, 5, .inl g1)), (b2, .inl (G.2 1, 5, .inl g2)), (b3, .inl (G.2 1, 5, .inl g3)), (b4, .inl (G.2 1, 5, .inl g4)), (b5, .inl (G.2 1, 25, .inl g5)), (b6, .inl (G.2 1, 25, .inl g6))]) C0 h hl.1 15 7 q_871 q_866 q_865 q_145 rfl rfl (by decide) (by decide) (by decide) (by decide) (by decide) rfl (Nat.le_of_ble_eq_true rfl) (Nat.le_of_ble_eq_true rfl) dX1_copy_97 (fun H locs h => ?_)
  refine lv_aload_n hx hb dX1_copy_100 rfl (lv_at hl 0 rfl) ?_
  refine lv_aload_n hx hb dX1_copy_101 rfl (lv_at hl 1 rfl) ?_
  refine g_X1_people C0 h 8 q_213 rfl rfl dX1_copy_102 ?_
  refine p_X1_people (ws' := [(a, .inr (1, [.ref a0, .ref a1, .ref a2, .ref a3, .ref a4, .ref a5, .ref a6, .int 0, .int 0])), (a0, .inl (G.2 1, 5, .inl (va_cpy g0 f0 0 0 5))), (a1, .inl (G.2 1, 5, .inl (va_cpy g1 f1 0 0 5))), (a2, .inl (G.2 1, 5, .inl (va_cpy g2 f2 0 0 5))), (a3, .inl (G.2 1, 5, .inl (va_cpy g3 f3 0 0 5))), (a4, .inl (G.2 1, 5, .inl (va_cpy g4 f4 0 0 5))), (a5, .inl (G.2 1, 25, .inl (va_cpy g5 f5 0 0 25))), (a6, .inl (G.2 1, 25, .inl (va_cpy g6 f6 0 0 25))), (b, .inr (1, [.ref b0, .ref b1, .ref b2, .ref b3, .ref b4, .ref b5, .ref b6, .int 0, .int 0])), (b0, .inl (G.2 1, 5, .inl g0)), (b1, .inl (G.2 1, 5, .inl g1)), (b2, .inl (G.2 1, 5, .inl g2)), (b3, .inl (G.2 1, 5, .inl g3)), (b4, .inl (G.2 1, 5, .inl g4)), (b5, .inl (G.2 1, 25, .inl g5)), (b6, .inl (G.2 1, 25, .inl g6))]) C0 h 0 q_213 rfl (Nat.le_of_ble_eq_true rfl) rfl rfl rfl dX1_copy_105 (fun H locs h => ?_)
  refine lv_aload_n hx hb dX1_copy_108 rfl (lv_at hl 0 rfl) ?_
  refine lv_aload_n hx hb dX1_copy_109 rfl (lv_at hl 1 rfl) ?_
  refine g_X1_hours C0 h 8 q_217 rfl rfl dX1_copy_110 ?_
  refine p_X1_hours (ws' := [(a, .inr (1, [.ref a0, .ref a1, .ref a2, .ref a3, .ref a4, .ref a5, .ref a6, .int 0, .int 0])), (a0, .inl (G.2 1, 5, .inl (va_cpy g0 f0 0 0 5))), (a1, .inl (G.2 1, 5, .inl (va_cpy g1 f1 0 0 5))), (a2, .inl (G.2 1, 5, .inl (va_cpy g2 f2 0 0 5))), (a3, .inl (G.2 1, 5, .inl (va_cpy g3 f3 0 0 5))), (a4, .inl (G.2 1, 5, .inl (va_cpy g4 f4 0 0 5))), (a5, .inl (G.2 1, 25, .inl (va_cpy g5 f5 0 0 25))), (a6, .inl (G.2 1, 25, .inl (va_cpy g6 f6 0 0 25))), (b, .inr (1, [.ref b0, .ref b1, .ref b2, .ref b3, .ref b4, .ref b5, .ref b6, .int 0, .int 0])), (b0, .inl (G.2 1, 5, .inl g0)), (b1, .inl (G.2 1, 5, .inl g1)), (b2, .inl (G.2 1, 5, .inl g2)), (b3, .inl (G.2 1, 5, .inl g3)), (b4, .inl (G.2 1, 5, .inl g4)), (b5, .inl (G.2 1, 25, .inl g5)), (b6, .inl (G.2 1, 25, .inl g6))]) C0 h 0 q_217 rfl (Nat.le_of_ble_eq_true rfl) rfl rfl rfl dX1_copy_113 (fun H locs h => ?_)
  exact m_vret () C0 h [0, 8] (by decide) rfl trivial (Nat.le_of_ble_eq_true rfl) (Nat.le_of_ble_eq_true rfl) dX1_copy_116
set_option maxHeartbeats 4000000 in
set_option maxRecDepth 100000 in
theorem c_X4_copy (l : Launch) (G : GG) (a : Nat) (ac : Nat) (as_ : Nat) (an : Nat) (b : Nat) (bc : Nat) (bs : Nat) (bn : Nat) (f : Nat → Int32) (g : Nat → Int32) : Mt l yX4_copy cX4_copy 2 none 1 0 0 G [.ref a, .ref b] [(a, .inr (4, [.ref ac, .ref as_, .ref an, .int 0, .int 0])), (ac, .inl (G.2 1, 900, .inl f)), (b, .inr (4, [.ref bc, .ref bs, .ref bn, .int 0, .int 0])), (bc, .inl (G.2 1, 900, .inl g))] (Rv (S := Unit) G (fun _ => True) (fun _ => [])) := by
  refine Mt.start (by decide) (Nat.le_of_ble_eq_true rfl) ?_
  intro p e s m below meth c A ls C0 hini h hl
  have C0 : Cx p s m _ meth c RX4 cX4_copy 2 none := C0
  obtain ⟨hx, hb, hml, hown, hts, -⟩ := id C0
  have hl : lv_has ls 2 [(0, .ref a), (1, .ref b)] := hl
  refine lv_aload_n hx hb dX4_copy_0 rfl (lv_at hl 0 rfl) ?_
  refine lv_aload_n hx hb dX4_copy_1 rfl (lv_at hl 1 rfl) ?_
  refine g_X4_size C0 h 2 q_170 rfl rfl dX4_copy_2 ?_
  refine p_X4_size (ws' := [(a, .inr (4, [.ref ac, .ref as_, .ref an, .int 0, .int 0])), (ac, .inl (G.2 1, 900, .inl f)), (b, .inr (4, [.ref bc, .ref bs, .ref bn, .int 0, .int 0])), (bc, .inl (G.2 1, 900, .inl g))]) C0 h 0 q_170 rfl (Nat.le_of_ble_eq_true rfl) rfl rfl rfl dX4_copy_5 (fun H locs h => ?_)
  refine lv_aload_n hx hb dX4_copy_8 rfl (lv_at hl 0 rfl) ?_
  refine lv_aload_n hx hb dX4_copy_9 rfl (lv_at hl 1 rfl) ?_
  refine g_X4_named C0 h 2 q_171 rfl rfl dX4_copy_10 ?_
  refine p_X4_named (ws' := [(a, .inr (4, [.ref ac, .ref as_, .ref an, .int 0, .int 0])), (ac, .inl (G.2 1, 900, .inl f)), (b, .inr (4, [.ref bc, .ref bs, .ref bn, .int 0, .int 0])), (bc, .inl (G.2 1, 900, .inl g))]) C0 h 0 q_171 rfl (Nat.le_of_ble_eq_true rfl) rfl rfl rfl dX4_copy_13 (fun H locs h => ?_)
  refine lv_aload_n hx hb dX4_copy_16 rfl (lv_at hl 1 rfl) ?_
  refine g_X4_code C0 h 2 q_167 rfl rfl dX4_copy_17 ?_
  refine lv_iconst (v := 0) hx hb dX4_copy_20 (by decide) ?_
  refine lv_aload_n hx hb dX4_copy_21 rfl (lv_at hl 0 rfl) ?_
  refine g_X4_code C0 h 0 q_167 rfl rfl dX4_copy_22 ?_
  refine lv_iconst (v := 0) hx hb dX4_copy_25 (by decide) ?_
  refine lv_aload_n hx hb dX4_copy_26 rfl (lv_at hl 0 rfl) ?_
  refine g_X4_size C0 h 0 q_170 rfl rfl dX4_copy_27 ?_
  refine m_copyi (ws' := [(a, .inr (4, [.ref ac, .ref as_, .ref an, .int 0, .int 0])), (ac, .inl (G.2 1, 900, .inl (va_cpy g f 0 0 0))), (b, .inr (4, [.ref bc, .ref bs, .ref bn, .int 0, .int 0])), (bc, .inl (G.2 1, 900, .inl g))]) C0 h hl.1 3 1 q_864 q_866 q_865 q_145 rfl rfl (by decide) (by decide) (by decide) (by decide) (by decide) rfl (Nat.le_of_ble_eq_true rfl) (Nat.le_of_ble_eq_true rfl) dX4_copy_30 (fun H locs h => ?_)
  exact m_vret () C0 h [] (by decide) rfl trivial (Nat.le_of_ble_eq_true rfl) (Nat.le_of_ble_eq_true rfl) dX4_copy_33
set_option maxHeartbeats 4000000 in
set_option maxRecDepth 100000 in
theorem c_X0_copy (l : Launch) (G : GG) (a : Nat) (b : Nat) (u : Nat → Nat) (v : Nat → Nat) (f0 : Nat → Int32) (f1 : Nat → Int32) (f2 : Nat → Int32) (f3 : Nat → Int32) (f4 : Nat → Int32) (f5 : Nat → Int32) (f6 : Nat → Int32) (f7 : Nat → Int32) (f8 : Nat → Int32) (f9 : Nat → Int32) (f10 : Nat → Int32) (g0 : Nat → Int32) (g1 : Nat → Int32) (g2 : Nat → Int32) (g3 : Nat → Int32) (g4 : Nat → Int32) (g5 : Nat → Int32) (g6 : Nat → Int32) (g7 : Nat → Int32) (g8 : Nat → Int32) (g9 : Nat → Int32) (g10 : Nat → Int32) : Mt l yX0_copy cX0_copy 2 none 3 0 0 G [.ref a, .ref b] [(a, .inr (0, [.ref (u 0), .ref (u 1), .ref (u 2), .ref (u 3), .ref (u 4), .int 0, .int 0, .int 0, .int 0])), (u 0, .inr (4, [.ref (u 5), .ref (u 6), .ref (u 7), .int 0, .int 0])), (u 5, .inl (G.2 1, 900, .inl f0)), (u 1, .inr (4, [.ref (u 8), .ref (u 9), .ref (u 10), .int 0, .int 0])), (u 8, .inl (G.2 1, 900, .inl f1)), (u 2, .inr (1, [.ref (u 11), .ref (u 12), .ref (u 13), .ref (u 14), .ref (u 15), .ref (u 16), .ref (u 17), .int 0, .int 0])), (u 11, .inl (G.2 1, 5, .inl f2)), (u 12, .inl (G.2 1, 5, .inl f3)), (u 13, .inl (G.2 1, 5, .inl f4)), (u 14, .inl (G.2 1, 5, .inl f5)), (u 15, .inl (G.2 1, 5, .inl f6)), (u 16, .inl (G.2 1, 25, .inl f7)), (u 17, .inl (G.2 1, 25, .inl f8)), (u 3, .inl (G.2 1, 4, .inl f9)), (u 4, .inl (G.2 1, 4, .inl f10)), (b, .inr (0, [.ref (v 0), .ref (v 1), .ref (v 2), .ref (v 3), .ref (v 4), .int 0, .int 0, .int 0, .int 0])), (v 0, .inr (4, [.ref (v 5), .ref (v 6), .ref (v 7), .int 0, .int 0])), (v 5, .inl (G.2 1, 900, .inl g0)), (v 1, .inr (4, [.ref (v 8), .ref (v 9), .ref (v 10), .int 0, .int 0])), (v 8, .inl (G.2 1, 900, .inl g1)), (v 2, .inr (1, [.ref (v 11), .ref (v 12), .ref (v 13), .ref (v 14), .ref (v 15), .ref (v 16), .ref (v 17), .int 0, .int 0])), (v 11, .inl (G.2 1, 5, .inl g2)), (v 12, .inl (G.2 1, 5, .inl g3)), (v 13, .inl (G.2 1, 5, .inl g4)), (v 14, .inl (G.2 1, 5, .inl g5)), (v 15, .inl (G.2 1, 5, .inl g6)), (v 16, .inl (G.2 1, 25, .inl g7)), (v 17, .inl (G.2 1, 25, .inl g8)), (v 3, .inl (G.2 1, 4, .inl g9)), (v 4, .inl (G.2 1, 4, .inl g10))] (Rv (S := Unit) G (fun _ => True) (fun _ => [(a, .inr (0, [.ref (u 0), .ref (u 1), .ref (u 2), .ref (u 3), .ref (u 4), .int 0, .int 0, .int 0, .int 0]))])) := by
  refine Mt.start (by decide) (Nat.le_of_ble_eq_true rfl) ?_
  intro p e s m below meth c A ls C0 hini h hl
  have C0 : Cx p s m _ meth c RX0 cX0_copy 2 none := C0
  obtain ⟨hx, hb, hml, hown, hts, -⟩ := id C0
  have hl : lv_has ls 2 [(0, .ref a), (1, .ref b)] := hl
  refine lv_aload_n hx hb dX0_copy_0 rfl (lv_at hl 0 rfl) ?_
  refine g_X0_priceLaw C0 h 0 q_242 rfl rfl dX0_copy_1 ?_
  refine lv_aload_n hx hb dX0_copy_4 rfl (lv_at hl 1 rfl) ?_
  refine g_X0_priceLaw C0 h 15 q_242 rfl rfl dX0_copy_5 ?_
  refine m_clv (wr := [(a, .inr (0, [.ref (u 0), .ref (u 1), .ref (u 2), .ref (u 3), .ref (u 4), .int 0, .int 0, .int 0, .int 0])), (u 1, .inr (4, [.ref (u 8), .ref (u 9), .ref (u 10), .int 0, .int 0])), (u 8, .inl (G.2 1, 900, .inl f1)), (u 2, .inr (1, [.ref (u 11), .ref (u 12), .ref (u 13), .ref (u 14), .ref (u 15), .ref (u 16), .ref (u 17), .int 0, .int 0])), (u 11, .inl (G.2 1, 5, .inl f2)), (u 12, .inl (G.2 1, 5, .inl f3)), (u 13, .inl (G.2 1, 5, .inl f4)), (u 14, .inl (G.2 1, 5, .inl f5)), (u 15, .inl (G.2 1, 5, .inl f6)), (u 16, .inl (G.2 1, 25, .inl f7)), (u 17, .inl (G.2 1, 25, .inl f8)), (u 3, .inl (G.2 1, 4, .inl f9)), (u 4, .inl (G.2 1, 4, .inl f10)), (b, .inr (0, [.ref (v 0), .ref (v 1), .ref (v 2), .ref (v 3), .ref (v 4), .int 0, .int 0, .int 0, .int 0])), (v 1, .inr (4, [.ref (v 8), .ref (v 9), .ref (v 10), .int 0, .int 0])), (v 8, .inl (G.2 1, 900, .inl g1)), (v 2, .inr (1, [.ref (v 11), .ref (v 12), .ref (v 13), .ref (v 14), .ref (v 15), .ref (v 16), .ref (v 17), .int 0, .int 0])), (v 11, .inl (G.2 1, 5, .inl g2)), (v 12, .inl (G.2 1, 5, .inl g3)), (v 13, .inl (G.2 1, 5, .inl g4)), (v 14, .inl (G.2 1, 5, .inl g5)), (v 15, .inl (G.2 1, 5, .inl g6)), (v 16, .inl (G.2 1, 25, .inl g7)), (v 17, .inl (G.2 1, 25, .inl g8)), (v 3, .inl (G.2 1, 4, .inl g9)), (v 4, .inl (G.2 1, 4, .inl g10))]) h (m_rV (ci := 4) (q0 := 1) (As := [.ref (v 0)]) (rest := []) C0 h (c_X4_copy l G (u 0) (u 5) (u 6) (u 7) (v 0) (v 5) (v 6) (v 7) f0 g0) k_X4_copy q_861 q_862 q_860 rfl rfl rfl [1, 2, 16, 17] (by decide) rfl hl.1 rfl rfl (Nat.le_of_ble_eq_true rfl) dX0_copy_8 ⟨Nat.le_of_ble_eq_true rfl, Nat.le_of_ble_eq_true rfl⟩ ⟨Nat.le_of_ble_eq_true rfl, Nat.le_of_ble_eq_true rfl⟩) [1, 2, 16, 17] [0, 3, 4, 5, 6, 7, 8, 9, 10, 11, 12, 13, 14, 15, 18, 19, 20, 21, 22, 23, 24, 25, 26, 27, 28, 29] rfl rfl (by decide) (by decide) (fun u_1 H locs hp_2 h => ?_)
  have h : Wd G A s _ _ [(a, .inr (0, [.ref (u 0), .ref (u 1), .ref (u 2), .ref (u 3), .ref (u 4), .int 0, .int 0, .int 0, .int 0])), (u 1, .inr (4, [.ref (u 8), .ref (u 9), .ref (u 10), .int 0, .int 0])), (u 8, .inl (G.2 1, 900, .inl f1)), (u 2, .inr (1, [.ref (u 11), .ref (u 12), .ref (u 13), .ref (u 14), .ref (u 15), .ref (u 16), .ref (u 17), .int 0, .int 0])), (u 11, .inl (G.2 1, 5, .inl f2)), (u 12, .inl (G.2 1, 5, .inl f3)), (u 13, .inl (G.2 1, 5, .inl f4)), (u 14, .inl (G.2 1, 5, .inl f5)), (u 15, .inl (G.2 1, 5, .inl f6)), (u 16, .inl (G.2 1, 25, .inl f7)), (u 17, .inl (G.2 1, 25, .inl f8)), (u 3, .inl (G.2 1, 4, .inl f9)), (u 4, .inl (G.2 1, 4, .inl f10)), (b, .inr (0, [.ref (v 0), .ref (v 1), .ref (v 2), .ref (v 3), .ref (v 4), .int 0, .int 0, .int 0, .int 0])), (v 1, .inr (4, [.ref (v 8), .ref (v 9), .ref (v 10), .int 0, .int 0])), (v 8, .inl (G.2 1, 900, .inl g1)), (v 2, .inr (1, [.ref (v 11), .ref (v 12), .ref (v 13), .ref (v 14), .ref (v 15), .ref (v 16), .ref (v 17), .int 0, .int 0])), (v 11, .inl (G.2 1, 5, .inl g2)), (v 12, .inl (G.2 1, 5, .inl g3)), (v 13, .inl (G.2 1, 5, .inl g4)), (v 14, .inl (G.2 1, 5, .inl g5)), (v 15, .inl (G.2 1, 5, .inl g6)), (v 16, .inl (G.2 1, 25, .inl g7)), (v 17, .inl (G.2 1, 25, .inl g8)), (v 3, .inl (G.2 1, 4, .inl g9)), (v 4, .inl (G.2 1, 4, .inl g10))] := h
  refine lv_aload_n hx hb dX0_copy_11 rfl (lv_at hl 0 rfl) ?_
  refine g_X0_mayLaw C0 h 0 q_244 rfl rfl dX0_copy_12 ?_
  refine lv_aload_n hx hb dX0_copy_15 rfl (lv_at hl 1 rfl) ?_
  refine g_X0_mayLaw C0 h 13 q_244 rfl rfl dX0_copy_16 ?_
  refine m_clv (wr := [(a, .inr (0, [.ref (u 0), .ref (u 1), .ref (u 2), .ref (u 3), .ref (u 4), .int 0, .int 0, .int 0, .int 0])), (u 2, .inr (1, [.ref (u 11), .ref (u 12), .ref (u 13), .ref (u 14), .ref (u 15), .ref (u 16), .ref (u 17), .int 0, .int 0])), (u 11, .inl (G.2 1, 5, .inl f2)), (u 12, .inl (G.2 1, 5, .inl f3)), (u 13, .inl (G.2 1, 5, .inl f4)), (u 14, .inl (G.2 1, 5, .inl f5)), (u 15, .inl (G.2 1, 5, .inl f6)), (u 16, .inl (G.2 1, 25, .inl f7)), (u 17, .inl (G.2 1, 25, .inl f8)), (u 3, .inl (G.2 1, 4, .inl f9)), (u 4, .inl (G.2 1, 4, .inl f10)), (b, .inr (0, [.ref (v 0), .ref (v 1), .ref (v 2), .ref (v 3), .ref (v 4), .int 0, .int 0, .int 0, .int 0])), (v 2, .inr (1, [.ref (v 11), .ref (v 12), .ref (v 13), .ref (v 14), .ref (v 15), .ref (v 16), .ref (v 17), .int 0, .int 0])), (v 11, .inl (G.2 1, 5, .inl g2)), (v 12, .inl (G.2 1, 5, .inl g3)), (v 13, .inl (G.2 1, 5, .inl g4)), (v 14, .inl (G.2 1, 5, .inl g5)), (v 15, .inl (G.2 1, 5, .inl g6)), (v 16, .inl (G.2 1, 25, .inl g7)), (v 17, .inl (G.2 1, 25, .inl g8)), (v 3, .inl (G.2 1, 4, .inl g9)), (v 4, .inl (G.2 1, 4, .inl g10))]) h (m_rV (ci := 4) (q0 := 1) (As := [.ref (v 1)]) (rest := []) C0 h (c_X4_copy l G (u 1) (u 8) (u 9) (u 10) (v 1) (v 8) (v 9) (v 10) f1 g1) k_X4_copy q_861 q_862 q_860 rfl rfl rfl [1, 2, 14, 15] (by decide) rfl hl.1 rfl rfl (Nat.le_of_ble_eq_true rfl) dX0_copy_19 ⟨Nat.le_of_ble_eq_true rfl, Nat.le_of_ble_eq_true rfl⟩ ⟨Nat.le_of_ble_eq_true rfl, Nat.le_of_ble_eq_true rfl⟩) [1, 2, 14, 15] [0, 3, 4, 5, 6, 7, 8, 9, 10, 11, 12, 13, 16, 17, 18, 19, 20, 21, 22, 23, 24, 25] rfl rfl (by decide) (by decide) (fun u_3 H locs hp_4 h => ?_)
  have h : Wd G A s _ _ [(a, .inr (0, [.ref (u 0), .ref (u 1), .ref (u 2), .ref (u 3), .ref (u 4), .int 0, .int 0, .int 0, .int 0])), (u 2, .inr (1, [.ref (u 11), .ref (u 12), .ref (u 13), .ref (u 14), .ref (u 15), .ref (u 16), .ref (u 17), .int 0, .int 0])), (u 11, .inl (G.2 1, 5, .inl f2)), (u 12, .inl (G.2 1, 5, .inl f3)), (u 13, .inl (G.2 1, 5, .inl f4)), (u 14, .inl (G.2 1, 5, .inl f5)), (u 15, .inl (G.2 1, 5, .inl f6)), (u 16, .inl (G.2 1, 25, .inl f7)), (u 17, .inl (G.2 1, 25, .inl f8)), (u 3, .inl (G.2 1, 4, .inl f9)), (u 4, .inl (G.2 1, 4, .inl f10)), (b, .inr (0, [.ref (v 0), .ref (v 1), .ref (v 2), .ref (v 3), .ref (v 4), .int 0, .int 0, .int 0, .int 0])), (v 2, .inr (1, [.ref (v 11), .ref (v 12), .ref (v 13), .ref (v 14), .ref (v 15), .ref (v 16), .ref (v 17), .int 0, .int 0])), (v 11, .inl (G.2 1, 5, .inl g2)), (v 12, .inl (G.2 1, 5, .inl g3)), (v 13, .inl (G.2 1, 5, .inl g4)), (v 14, .inl (G.2 1, 5, .inl g5)), (v 15, .inl (G.2 1, 5, .inl g6)), (v 16, .inl (G.2 1, 25, .inl g7)), (v 17, .inl (G.2 1, 25, .inl g8)), (v 3, .inl (G.2 1, 4, .inl g9)), (v 4, .inl (G.2 1, 4, .inl g10))] := h
  refine lv_aload_n hx hb dX0_copy_22 rfl (lv_at hl 0 rfl) ?_
  refine g_X0_folk C0 h 0 q_247 rfl rfl dX0_copy_23 ?_
  refine lv_aload_n hx hb dX0_copy_26 rfl (lv_at hl 1 rfl) ?_
  refine g_X0_folk C0 h 11 q_247 rfl rfl dX0_copy_27 ?_
  refine m_clv (wr := [(a, .inr (0, [.ref (u 0), .ref (u 1), .ref (u 2), .ref (u 3), .ref (u 4), .int 0, .int 0, .int 0, .int 0])), (u 3, .inl (G.2 1, 4, .inl f9)), (u 4, .inl (G.2 1, 4, .inl f10)), (b, .inr (0, [.ref (v 0), .ref (v 1), .ref (v 2), .ref (v 3), .ref (v 4), .int 0, .int 0, .int 0, .int 0])), (v 3, .inl (G.2 1, 4, .inl g9)), (v 4, .inl (G.2 1, 4, .inl g10))]) h (m_rV (ci := 1) (q0 := 1) (As := [.ref (v 2)]) (rest := []) C0 h (c_X1_copy l G (u 2) (u 11) (u 12) (u 13) (u 14) (u 15) (u 16) (u 17) (v 2) (v 11) (v 12) (v 13) (v 14) (v 15) (v 16) (v 17) f2 f3 f4 f5 f6 f7 f8 g2 g3 g4 g5 g6 g7 g8) k_X1_copy q_868 q_869 q_867 rfl rfl rfl [1, 2, 3, 4, 5, 6, 7, 8, 12, 13, 14, 15, 16, 17, 18, 19] (by decide) rfl hl.1 rfl rfl (Nat.le_of_ble_eq_true rfl) dX0_copy_30 ⟨Nat.le_of_ble_eq_true rfl, Nat.le_of_ble_eq_true rfl⟩ ⟨Nat.le_of_ble_eq_true rfl, Nat.le_of_ble_eq_true rfl⟩) [1, 2, 3, 4, 5, 6, 7, 8, 12, 13, 14, 15, 16, 17, 18, 19] [0, 9, 10, 11, 20, 21] rfl rfl (by decide) (by decide) (fun u_5 H locs hp_6 h => ?_)
  have h : Wd G A s _ _ [(a, .inr (0, [.ref (u 0), .ref (u 1), .ref (u 2), .ref (u 3), .ref (u 4), .int 0, .int 0, .int 0, .int 0])), (u 3, .inl (G.2 1, 4, .inl f9)), (u 4, .inl (G.2 1, 4, .inl f10)), (b, .inr (0, [.ref (v 0), .ref (v 1), .ref (v 2), .ref (v 3), .ref (v 4), .int 0, .int 0, .int 0, .int 0])), (v 3, .inl (G.2 1, 4, .inl g9)), (v 4, .inl (G.2 1, 4, .inl g10)), (u 2, .inr (1, [.ref (u 11), .ref (u 12), .ref (u 13), .ref (u 14), .ref (u 15), .ref (u 16), .ref (u 17), .int 0, .int 0])), (v 2, .inr (1, [.ref (v 11), .ref (v 12), .ref (v 13), .ref (v 14), .ref (v 15), .ref (v 16), .ref (v 17), .int 0, .int 0]))] := h
  refine lv_aload_n hx hb dX0_copy_33 rfl (lv_at hl 1 rfl) ?_
  refine g_X0_streets C0 h 3 q_252 rfl rfl dX0_copy_34 ?_
  refine lv_iconst (v := 0) hx hb dX0_copy_37 (by decide) ?_
  refine lv_aload_n hx hb dX0_copy_38 rfl (lv_at hl 0 rfl) ?_
  refine g_X0_streets C0 h 0 q_252 rfl rfl dX0_copy_39 ?_
  refine lv_iconst (v := 0) hx hb dX0_copy_42 (by decide) ?_
  refine lv_iconst (v := 4) hx hb dX0_copy_43 (by decide) ?_
  refine m_copyi (ws' := [(a, .inr (0, [.ref (u 0), .ref (u 1), .ref (u 2), .ref (u 3), .ref (u 4), .int 0, .int 0, .int 0, .int 0])), (u 3, .inl (G.2 1, 4, .inl (va_cpy g9 f9 0 0 4))), (u 4, .inl (G.2 1, 4, .inl f10)), (b, .inr (0, [.ref (v 0), .ref (v 1), .ref (v 2), .ref (v 3), .ref (v 4), .int 0, .int 0, .int 0, .int 0])), (v 3, .inl (G.2 1, 4, .inl g9)), (v 4, .inl (G.2 1, 4, .inl g10)), (u 2, .inr (1, [.ref (u 11), .ref (u 12), .ref (u 13), .ref (u 14), .ref (u 15), .ref (u 16), .ref (u 17), .int 0, .int 0])), (v 2, .inr (1, [.ref (v 11), .ref (v 12), .ref (v 13), .ref (v 14), .ref (v 15), .ref (v 16), .ref (v 17), .int 0, .int 0]))]) C0 h hl.1 4 1 q_872 q_866 q_865 q_145 rfl rfl (by decide) (by decide) (by decide) (by decide) (by decide) rfl (Nat.le_of_ble_eq_true rfl) (Nat.le_of_ble_eq_true rfl) dX0_copy_44 (fun H locs h => ?_)
  refine lv_aload_n hx hb dX0_copy_47 rfl (lv_at hl 1 rfl) ?_
  refine g_X0_strides C0 h 3 q_255 rfl rfl dX0_copy_48 ?_
  refine lv_iconst (v := 0) hx hb dX0_copy_51 (by decide) ?_
  refine lv_aload_n hx hb dX0_copy_52 rfl (lv_at hl 0 rfl) ?_
  refine g_X0_strides C0 h 0 q_255 rfl rfl dX0_copy_53 ?_
  refine lv_iconst (v := 0) hx hb dX0_copy_56 (by decide) ?_
  refine lv_iconst (v := 4) hx hb dX0_copy_57 (by decide) ?_
  refine m_copyi (ws' := [(a, .inr (0, [.ref (u 0), .ref (u 1), .ref (u 2), .ref (u 3), .ref (u 4), .int 0, .int 0, .int 0, .int 0])), (u 3, .inl (G.2 1, 4, .inl (va_cpy g9 f9 0 0 4))), (u 4, .inl (G.2 1, 4, .inl (va_cpy g10 f10 0 0 4))), (b, .inr (0, [.ref (v 0), .ref (v 1), .ref (v 2), .ref (v 3), .ref (v 4), .int 0, .int 0, .int 0, .int 0])), (v 3, .inl (G.2 1, 4, .inl g9)), (v 4, .inl (G.2 1, 4, .inl g10)), (u 2, .inr (1, [.ref (u 11), .ref (u 12), .ref (u 13), .ref (u 14), .ref (u 15), .ref (u 16), .ref (u 17), .int 0, .int 0])), (v 2, .inr (1, [.ref (v 11), .ref (v 12), .ref (v 13), .ref (v 14), .ref (v 15), .ref (v 16), .ref (v 17), .int 0, .int 0]))]) C0 h hl.1 5 2 q_872 q_866 q_865 q_145 rfl rfl (by decide) (by decide) (by decide) (by decide) (by decide) rfl (Nat.le_of_ble_eq_true rfl) (Nat.le_of_ble_eq_true rfl) dX0_copy_58 (fun H locs h => ?_)
  refine lv_aload_n hx hb dX0_copy_61 rfl (lv_at hl 0 rfl) ?_
  refine lv_aload_n hx hb dX0_copy_62 rfl (lv_at hl 1 rfl) ?_
  refine g_X0_wide C0 h 3 q_256 rfl rfl dX0_copy_63 ?_
  refine p_X0_wide (ws' := [(a, .inr (0, [.ref (u 0), .ref (u 1), .ref (u 2), .ref (u 3), .ref (u 4), .int 0, .int 0, .int 0, .int 0])), (u 3, .inl (G.2 1, 4, .inl (va_cpy g9 f9 0 0 4))), (u 4, .inl (G.2 1, 4, .inl (va_cpy g10 f10 0 0 4))), (b, .inr (0, [.ref (v 0), .ref (v 1), .ref (v 2), .ref (v 3), .ref (v 4), .int 0, .int 0, .int 0, .int 0])), (v 3, .inl (G.2 1, 4, .inl g9)), (v 4, .inl (G.2 1, 4, .inl g10)), (u 2, .inr (1, [.ref (u 11), .ref (u 12), .ref (u 13), .ref (u 14), .ref (u 15), .ref (u 16), .ref (u 17), .int 0, .int 0])), (v 2, .inr (1, [.ref (v 11), .ref (v 12), .ref (v 13), .ref (v 14), .ref (v 15), .ref (v 16), .ref (v 17), .int 0, .int 0]))]) C0 h 0 q_256 rfl (Nat.le_of_ble_eq_true rfl) rfl rfl rfl dX0_copy_66 (fun H locs h => ?_)
  refine lv_aload_n hx hb dX0_copy_69 rfl (lv_at hl 0 rfl) ?_
  refine lv_aload_n hx hb dX0_copy_70 rfl (lv_at hl 1 rfl) ?_
  refine g_X0_high C0 h 3 q_260 rfl rfl dX0_copy_71 ?_
  refine p_X0_high (ws' := [(a, .inr (0, [.ref (u 0), .ref (u 1), .ref (u 2), .ref (u 3), .ref (u 4), .int 0, .int 0, .int 0, .int 0])), (u 3, .inl (G.2 1, 4, .inl (va_cpy g9 f9 0 0 4))), (u 4, .inl (G.2 1, 4, .inl (va_cpy g10 f10 0 0 4))), (b, .inr (0, [.ref (v 0), .ref (v 1), .ref (v 2), .ref (v 3), .ref (v 4), .int 0, .int 0, .int 0, .int 0])), (v 3, .inl (G.2 1, 4, .inl g9)), (v 4, .inl (G.2 1, 4, .inl g10)), (u 2, .inr (1, [.ref (u 11), .ref (u 12), .ref (u 13), .ref (u 14), .ref (u 15), .ref (u 16), .ref (u 17), .int 0, .int 0])), (v 2, .inr (1, [.ref (v 11), .ref (v 12), .ref (v 13), .ref (v 14), .ref (v 15), .ref (v 16), .ref (v 17), .int 0, .int 0]))]) C0 h 0 q_260 rfl (Nat.le_of_ble_eq_true rfl) rfl rfl rfl dX0_copy_74 (fun H locs h => ?_)
  refine lv_aload_n hx hb dX0_copy_77 rfl (lv_at hl 0 rfl) ?_
  refine lv_aload_n hx hb dX0_copy_78 rfl (lv_at hl 1 rfl) ?_
  refine g_X0_lines C0 h 3 q_263 rfl rfl dX0_copy_79 ?_
  refine p_X0_lines (ws' := [(a, .inr (0, [.ref (u 0), .ref (u 1), .ref (u 2), .ref (u 3), .ref (u 4), .int 0, .int 0, .int 0, .int 0])), (u 3, .inl (G.2 1, 4, .inl (va_cpy g9 f9 0 0 4))), (u 4, .inl (G.2 1, 4, .inl (va_cpy g10 f10 0 0 4))), (b, .inr (0, [.ref (v 0), .ref (v 1), .ref (v 2), .ref (v 3), .ref (v 4), .int 0, .int 0, .int 0, .int 0])), (v 3, .inl (G.2 1, 4, .inl g9)), (v 4, .inl (G.2 1, 4, .inl g10)), (u 2, .inr (1, [.ref (u 11), .ref (u 12), .ref (u 13), .ref (u 14), .ref (u 15), .ref (u 16), .ref (u 17), .int 0, .int 0])), (v 2, .inr (1, [.ref (v 11), .ref (v 12), .ref (v 13), .ref (v 14), .ref (v 15), .ref (v 16), .ref (v 17), .int 0, .int 0]))]) C0 h 0 q_263 rfl (Nat.le_of_ble_eq_true rfl) rfl rfl rfl dX0_copy_82 (fun H locs h => ?_)
  refine lv_aload_n hx hb dX0_copy_85 rfl (lv_at hl 0 rfl) ?_
  refine lv_aload_n hx hb dX0_copy_86 rfl (lv_at hl 1 rfl) ?_
  refine g_X0_toldFree C0 h 3 q_266 rfl rfl dX0_copy_87 ?_
  refine p_X0_toldFree (ws' := [(a, .inr (0, [.ref (u 0), .ref (u 1), .ref (u 2), .ref (u 3), .ref (u 4), .int 0, .int 0, .int 0, .int 0])), (u 3, .inl (G.2 1, 4, .inl (va_cpy g9 f9 0 0 4))), (u 4, .inl (G.2 1, 4, .inl (va_cpy g10 f10 0 0 4))), (b, .inr (0, [.ref (v 0), .ref (v 1), .ref (v 2), .ref (v 3), .ref (v 4), .int 0, .int 0, .int 0, .int 0])), (v 3, .inl (G.2 1, 4, .inl g9)), (v 4, .inl (G.2 1, 4, .inl g10)), (u 2, .inr (1, [.ref (u 11), .ref (u 12), .ref (u 13), .ref (u 14), .ref (u 15), .ref (u 16), .ref (u 17), .int 0, .int 0])), (v 2, .inr (1, [.ref (v 11), .ref (v 12), .ref (v 13), .ref (v 14), .ref (v 15), .ref (v 16), .ref (v 17), .int 0, .int 0]))]) C0 h 0 q_266 rfl (Nat.le_of_ble_eq_true rfl) rfl rfl rfl dX0_copy_90 (fun H locs h => ?_)
  exact m_vret () C0 h [0] (by decide) rfl trivial (Nat.le_of_ble_eq_true rfl) (Nat.le_of_ble_eq_true rfl) dX0_copy_93
set_option maxHeartbeats 4000000 in
set_option maxRecDepth 100000 in
theorem c_X11_keep (l : Launch) (G : GG) (x : Nat) (r : Nat → Nat) (u : Nat → Nat) (y : Nat → Nat) (pf : Nat → Option Nat) (hpf : pf 0 = some (y 7)) : Mt l yX11_keep cX11_keep 2 none 3 0 0 G [.ref x, .ref (u 2)] [(x, .inr (11, [.ref (r 0), .ref (r 1), .ref (r 2), .ref (r 3), .ref (r 4), .ref (r 5), .ref (r 6), .ref (r 7), .ref (r 8), .ref (r 9), .ref (r 10), .ref (r 11), .ref (r 12), .ref (r 13), .ref (r 14), .ref (r 15), .int 0, .int 0, .int 0])), (r 12, .inl (G.2 5, 10, .inr (.inr (.inr (.inr pf))))), (y 7, .inr (1, [.ref (y 0), .ref (y 1), .ref (y 2), .ref (y 3), .ref (y 4), .ref (y 5), .ref (y 6), .int 0, .int 0])), (y 0, .inl (G.2 1, 5, .inl (fun _ => 0))), (y 1, .inl (G.2 1, 5, .inl (fun _ => 0))), (y 2, .inl (G.2 1, 5, .inl (fun _ => 0))), (y 3, .inl (G.2 1, 5, .inl (fun _ => 0))), (y 4, .inl (G.2 1, 5, .inl (fun _ => 0))), (y 5, .inl (G.2 1, 25, .inl (fun _ => 0))), (y 6, .inl (G.2 1, 25, .inl (fun _ => 0))), (u 2, .inr (1, [.ref (u 11), .ref (u 12), .ref (u 13), .ref (u 14), .ref (u 15), .ref (u 16), .ref (u 17), .int 0, .int 0])), (u 11, .inl (G.2 1, 5, .inl (fun _ => 0))), (u 12, .inl (G.2 1, 5, .inl (fun _ => 0))), (u 13, .inl (G.2 1, 5, .inl (fun _ => 0))), (u 14, .inl (G.2 1, 5, .inl (fun _ => 0))), (u 15, .inl (G.2 1, 5, .inl (fun _ => 0))), (u 16, .inl (G.2 1, 25, .inl (fun _ => 0))), (u 17, .inl (G.2 1, 25, .inl (fun _ => 0)))] (Rv (S := Unit) G (fun _ => True) (fun _ => [(x, .inr (11, [.ref (r 0), .ref (r 1), .ref (r 2), .ref (r 3), .ref (r 4), .ref (r 5), .ref (r 6), .ref (r 7), .ref (r 8), .ref (r 9), .ref (r 10), .ref (r 11), .ref (r 12), .ref (r 13), .ref (r 14), .ref (r 15), .int 0, .int 1, .int 0])), (u 2, .inr (1, [.ref (u 11), .ref (u 12), .ref (u 13), .ref (u 14), .ref (u 15), .ref (u 16), .ref (u 17), .int 0, .int 0]))])) := by
  refine Mt.start (by decide) (Nat.le_of_ble_eq_true rfl) ?_
  intro p e s m below meth c A ls C0 hini h hl
  have C0 : Cx p s m _ meth c RX11 cX11_keep 2 none := C0
  obtain ⟨hx, hb, hml, hown, hts, -⟩ := id C0
  have hl : lv_has ls 2 [(0, .ref x), (1, .ref (u 2))] := hl
  refine lv_aload_n hx hb dX11_keep_0 rfl (lv_at hl 0 rfl) ?_
  refine g_X11_pastSize C0 h 0 q_532 rfl rfl dX11_keep_1 ?_
  refine lv_bipush (v := 10) hx hb dX11_keep_4 (by decide) ?_
  refine lv_icmp_ne (tgt := 32) hx hb dX11_keep_6 (by decide) (fun c_1 => ?_) (fun c_1 => absurd c_1 (by decide))
  refine lv_aload_n hx hb dX11_keep_32 rfl (lv_at hl 0 rfl) ?_
  refine g_X11_past C0 h 0 q_527 rfl rfl dX11_keep_33 ?_
  refine lv_aload_n hx hb dX11_keep_36 rfl (lv_at hl 0 rfl) ?_
  refine g_X11_pastFirst C0 h 0 q_531 rfl rfl dX11_keep_37 ?_
  refine lv_aload_n hx hb dX11_keep_40 rfl (lv_at hl 0 rfl) ?_
  refine g_X11_pastSize C0 h 0 q_532 rfl rfl dX11_keep_41 ?_
  refine lv_iadd hx hb dX11_keep_44 ?_
  refine lv_topi (fun k_2 ek_2 => ?_)
  obtain rfl : k_2 = 0 := ek_2.trans (by decide)
  refine lv_bipush (v := 10) hx hb dX11_keep_45 (by decide) ?_
  refine lv_irem hx hb dX11_keep_47 (by decide) ?_
  refine lv_topi (fun k_3 ek_3 => ?_)
  obtain rfl : k_3 = 0 := ek_3.trans (by decide)
  refine m_aald C0 h 1 5 0 rfl rfl (by decide) (by decide) (by decide) dX11_keep_48 ?_
  refine W.eq (g2 := F0 m 49 ls [.ref (y 7)]) (by rw [hpf]; rfl) ?_
  refine lv_aload_n hx hb dX11_keep_49 rfl (lv_at hl 1 rfl) ?_
  refine m_clv (wr := [(x, .inr (11, [.ref (r 0), .ref (r 1), .ref (r 2), .ref (r 3), .ref (r 4), .ref (r 5), .ref (r 6), .ref (r 7), .ref (r 8), .ref (r 9), .ref (r 10), .ref (r 11), .ref (r 12), .ref (r 13), .ref (r 14), .ref (r 15), .int 0, .int 0, .int 0])), (r 12, .inl (G.2 5, 10, .inr (.inr (.inr (.inr pf)))))]) h (m_rV (ci := 1) (q0 := 2) (As := [.ref (u 2)]) (rest := []) C0 h (c_X1_copy l G (y 7) (y 0) (y 1) (y 2) (y 3) (y 4) (y 5) (y 6) (u 2) (u 11) (u 12) (u 13) (u 14) (u 15) (u 16) (u 17) (fun _ => 0) (fun _ => 0) (fun _ => 0) (fun _ => 0) (fun _ => 0) (fun _ => 0) (fun _ => 0) (fun _ => 0) (fun _ => 0) (fun _ => 0) (fun _ => 0) (fun _ => 0) (fun _ => 0) (fun _ => 0)) k_X1_copy q_868 q_869 q_987 rfl rfl rfl [2, 3, 4, 5, 6, 7, 8, 9, 10, 11, 12, 13, 14, 15, 16, 17] (by decide) rfl hl.1 rfl rfl (Nat.le_of_ble_eq_true rfl) dX11_keep_50 ⟨Nat.le_of_ble_eq_true rfl, Nat.le_of_ble_eq_true rfl⟩ ⟨Nat.le_of_ble_eq_true rfl, Nat.le_of_ble_eq_true rfl⟩) [2, 3, 4, 5, 6, 7, 8, 9, 10, 11, 12, 13, 14, 15, 16, 17] [0, 1] rfl rfl (by decide) (by decide) (fun u_4 H locs hp_5 h => ?_)
  have h : Wd G A s _ _ [(x, .inr (11, [.ref (r 0), .ref (r 1), .ref (r 2), .ref (r 3), .ref (r 4), .ref (r 5), .ref (r 6), .ref (r 7), .ref (r 8), .ref (r 9), .ref (r 10), .ref (r 11), .ref (r 12), .ref (r 13), .ref (r 14), .ref (r 15), .int 0, .int 0, .int 0])), (r 12, .inl (G.2 5, 10, .inr (.inr (.inr (.inr pf))))), (y 7, .inr (1, [.ref (y 0), .ref (y 1), .ref (y 2), .ref (y 3), .ref (y 4), .ref (y 5), .ref (y 6), .int 0, .int 0])), (u 2, .inr (1, [.ref (u 11), .ref (u 12), .ref (u 13), .ref (u 14), .ref (u 15), .ref (u 16), .ref (u 17), .int 0, .int 0]))] := h
  refine lv_aload_n hx hb dX11_keep_53 rfl (lv_at hl 0 rfl) ?_
  refine lv_dup hx hb dX11_keep_54 rfl ?_
  refine g_X11_pastSize C0 h 0 q_532 rfl rfl dX11_keep_55 ?_
  refine lv_iconst (v := 1) hx hb dX11_keep_58 (by decide) ?_
  refine lv_iadd hx hb dX11_keep_59 ?_
  refine lv_topi (fun k_6 ek_6 => ?_)
  obtain rfl : k_6 = 1 := ek_6.trans (by decide)
  refine p_X11_pastSize (ws' := [(x, .inr (11, [.ref (r 0), .ref (r 1), .ref (r 2), .ref (r 3), .ref (r 4), .ref (r 5), .ref (r 6), .ref (r 7), .ref (r 8), .ref (r 9), .ref (r 10), .ref (r 11), .ref (r 12), .ref (r 13), .ref (r 14), .ref (r 15), .int 0, .int 1, .int 0])), (r 12, .inl (G.2 5, 10, .inr (.inr (.inr (.inr pf))))), (y 7, .inr (1, [.ref (y 0), .ref (y 1), .ref (y 2), .ref (y 3), .ref (y 4), .ref (y 5), .ref (y 6), .int 0, .int 0])), (u 2, .inr (1, [.ref (u 11), .ref (u 12), .ref (u 13), .ref (u 14), .ref (u 15), .ref (u 16), .ref (u 17), .int 0, .int 0]))]) C0 h 0 q_532 rfl (Nat.le_of_ble_eq_true rfl) rfl rfl rfl dX11_keep_60 (fun H locs h => ?_)
  exact m_vret () C0 h [0, 3] (by decide) rfl trivial (Nat.le_of_ble_eq_true rfl) (Nat.le_of_ble_eq_true rfl) dX11_keep_63
set_option maxHeartbeats 4000000 in
set_option maxRecDepth 100000 in
theorem c_X2_forget (l : Launch) (G : GG) (a : Nat) (b0 : Nat) (b1 : Nat) (b2 : Nat) (b3 : Nat) : Mt l yX2_forget cX2_forget 1 none 0 0 0 G [.ref a] [(a, .inr (2, [.ref b0, .ref b1, .ref b2, .ref b3, .int 0]))] (Rv (S := Unit) G (fun _ => True) (fun _ => [])) := by
  refine Mt.start (by decide) (Nat.le_of_ble_eq_true rfl) ?_
  intro p e s m below meth c A ls C0 hini h hl
  have C0 : Cx p s m _ meth c RX2 cX2_forget 1 none := C0
  obtain ⟨hx, hb, hml, hown, hts, -⟩ := id C0
  have hl : lv_has ls 1 [(0, .ref a)] := hl
  refine lv_aload_n hx hb dX2_forget_0 rfl (lv_at hl 0 rfl) ?_
  refine lv_iconst (v := 0) hx hb dX2_forget_1 (by decide) ?_
  refine p_X2_begun (ws' := [(a, .inr (2, [.ref b0, .ref b1, .ref b2, .ref b3, .int 0]))]) C0 h 0 q_296 rfl (Nat.le_of_ble_eq_true rfl) rfl rfl rfl dX2_forget_2 (fun H locs h => ?_)
  exact m_vret () C0 h [] (by decide) rfl trivial (Nat.le_of_ble_eq_true rfl) (Nat.le_of_ble_eq_true rfl) dX2_forget_5
set_option maxHeartbeats 4000000 in
set_option maxRecDepth 100000 in
theorem c_X3_forget (l : Launch) (G : GG) (a : Nat) (b0 : Nat) (b1 : Nat) (b2 : Nat) : Mt l yX3_forget cX3_forget 1 none 0 0 0 G [.ref a] [(a, .inr (3, [.ref b0, .ref b1, .ref b2, .int 0, .int 0]))] (Rv (S := Unit) G (fun _ => True) (fun _ => [])) := by
  refine Mt.start (by decide) (Nat.le_of_ble_eq_true rfl) ?_
  intro p e s m below meth c A ls C0 hini h hl
  have C0 : Cx p s m _ meth c RX3 cX3_forget 1 none := C0
  obtain ⟨hx, hb, hml, hown, hts, -⟩ := id C0
  have hl : lv_has ls 1 [(0, .ref a)] := hl
  refine lv_aload_n hx hb dX3_forget_0 rfl (lv_at hl 0 rfl) ?_
  refine lv_iconst (v := 0) hx hb dX3_forget_1 (by decide) ?_
  refine p_X3_known (ws' := [(a, .inr (3, [.ref b0, .ref b1, .ref b2, .int 0, .int 0]))]) C0 h 0 q_478 rfl (Nat.le_of_ble_eq_true rfl) rfl rfl rfl dX3_forget_2 (fun H locs h => ?_)
  refine lv_aload_n hx hb dX3_forget_5 rfl (lv_at hl 0 rfl) ?_
  refine lv_iconst (v := 0) hx hb dX3_forget_6 (by decide) ?_
  refine p_X3_settled (ws' := [(a, .inr (3, [.ref b0, .ref b1, .ref b2, .int 0, .int 0]))]) C0 h 0 q_479 rfl (Nat.le_of_ble_eq_true rfl) (by decide) rfl rfl dX3_forget_7 (fun H locs h => ?_)
  exact m_vret () C0 h [] (by decide) rfl trivial (Nat.le_of_ble_eq_true rfl) (Nat.le_of_ble_eq_true rfl) dX3_forget_10
set_option maxHeartbeats 4000000 in
set_option maxRecDepth 100000 in
theorem c_X11_hours (l : Launch) (G : GG) (x : Nat) (r : Nat → Nat) (u : Nat → Nat) (y : Nat → Nat) (pf : Nat → Option Nat) (z : Nat → Nat) (p0 : Int32) (hpf : pf 0 = some (y 7)) : Mt l yX11_hours cX11_hours 2 (some .int) 4 0 0 G [.ref x, .int p0] [(x, .inr (11, [.ref (r 0), .ref (r 1), .ref (r 2), .ref (r 3), .ref (r 4), .ref (r 5), .ref (r 6), .ref (r 7), .ref (r 8), .ref (r 9), .ref (r 10), .ref (r 11), .ref (r 12), .ref (r 13), .ref (r 14), .ref (r 15), .int 0, .int 0, .int 0])), (r 12, .inl (G.2 5, 10, .inr (.inr (.inr (.inr pf))))), (y 7, .inr (1, [.ref (y 0), .ref (y 1), .ref (y 2), .ref (y 3), .ref (y 4), .ref (y 5), .ref (y 6), .int 0, .int 0])), (y 0, .inl (G.2 1, 5, .inl (fun _ => 0))), (y 1, .inl (G.2 1, 5, .inl (fun _ => 0))), (y 2, .inl (G.2 1, 5, .inl (fun _ => 0))), (y 3, .inl (G.2 1, 5, .inl (fun _ => 0))), (y 4, .inl (G.2 1, 5, .inl (fun _ => 0))), (y 5, .inl (G.2 1, 25, .inl (fun _ => 0))), (y 6, .inl (G.2 1, 25, .inl (fun _ => 0))), (u 2, .inr (1, [.ref (u 11), .ref (u 12), .ref (u 13), .ref (u 14), .ref (u 15), .ref (u 16), .ref (u 17), .int 0, .int 0])), (u 11, .inl (G.2 1, 5, .inl (fun _ => 0))), (u 12, .inl (G.2 1, 5, .inl (fun _ => 0))), (u 13, .inl (G.2 1, 5, .inl (fun _ => 0))), (u 14, .inl (G.2 1, 5, .inl (fun _ => 0))), (u 15, .inl (G.2 1, 5, .inl (fun _ => 0))), (u 16, .inl (G.2 1, 25, .inl (fun _ => 0))), (u 17, .inl (G.2 1, 25, .inl (fun _ => 0))), (r 0, .inr (0, [.ref (u 0), .ref (u 1), .ref (u 2), .ref (u 3), .ref (u 4), .int 0, .int 0, .int 0, .int 0])), (r 3, .inr (2, [.ref (r 0), .ref (z 1), .ref (z 2), .ref (z 3), .int 0]))] (Ri (S := Unit) G (fun r _ => r = sp_hours p0) (fun _ => [])) := by
  refine Mt.start (by decide) (Nat.le_of_ble_eq_true rfl) ?_
  intro p e s m below meth c A ls C0 hini h hl
  have C0 : Cx p s m _ meth c RX11 cX11_hours 2 (some .int) := C0
  obtain ⟨hx, hb, hml, hown, hts, -⟩ := id C0
  have hl : lv_has ls 2 [(0, .ref x), (1, .int p0)] := hl
  refine lv_iload_n hx hb dX11_hours_0 rfl (lv_at hl 1 rfl) ?_
  refine lv_iconst (v := 1) hx hb dX11_hours_1 (by decide) ?_
  refine lv_icmp_lt (tgt := 11) hx hb dX11_hours_2 (by decide) (fun c_1 => ?_) (fun c_1 => ?_)
  · -- 2 p0 < 1
    refine lv_bipush (v := (-3)) hx hb dX11_hours_11 (by decide) ?_
    exact m_iret () C0 h [] (by decide) rfl (by unfold sp_hours; grind) (Nat.le_of_ble_eq_true rfl) (Nat.le_of_ble_eq_true rfl) dX11_hours_13
  · -- 2 ¬ p0 < 1
    refine lv_iload_n hx hb dX11_hours_5 rfl (lv_at hl 1 rfl) ?_
    refine lv_bipush (v := 99) hx hb dX11_hours_6 (by decide) ?_
    refine lv_icmp_le (tgt := 14) hx hb dX11_hours_8 (by decide) (fun c_2 => ?_) (fun c_2 => ?_)
    · -- 8 p0 ≤ 99
      refine lv_aload_n hx hb dX11_hours_14 rfl (lv_at hl 0 rfl) ?_
      refine lv_aload_n hx hb dX11_hours_15 rfl (lv_at hl 0 rfl) ?_
      refine g_X11_now C0 h 0 q_515 rfl rfl dX11_hours_16 ?_
      refine g_X0_folk C0 h 18 q_249 rfl rfl dX11_hours_19 ?_
      refine m_clv (wr := [(r 0, .inr (0, [.ref (u 0), .ref (u 1), .ref (u 2), .ref (u 3), .ref (u 4), .int 0, .int 0, .int 0, .int 0])), (r 3, .inr (2, [.ref (r 0), .ref (z 1), .ref (z 2), .ref (z 3), .int 0]))]) h (m_rV (ci := 11) (q0 := 0) (As := [.ref (u 2)]) (rest := []) C0 h (c_X11_keep l G x r u y pf hpf) k_X11_keep q_985 q_27 q_983 rfl rfl rfl [0, 1, 2, 3, 4, 5, 6, 7, 8, 9, 10, 11, 12, 13, 14, 15, 16, 17] (by decide) rfl hl.1 rfl rfl (Nat.le_of_ble_eq_true rfl) dX11_hours_22 ⟨Nat.le_of_ble_eq_true rfl, Nat.le_of_ble_eq_true rfl⟩ ⟨Nat.le_of_ble_eq_true rfl, Nat.le_of_ble_eq_true rfl⟩) [0, 1, 2, 3, 4, 5, 6, 7, 8, 9, 10, 11, 12, 13, 14, 15, 16, 17] [18, 19] rfl rfl (by decide) (by decide) (fun u_3 H locs hp_4 h => ?_)
      have h : Wd G A s _ _ [(r 0, .inr (0, [.ref (u 0), .ref (u 1), .ref (u 2), .ref (u 3), .ref (u 4), .int 0, .int 0, .int 0, .int 0])), (r 3, .inr (2, [.ref (r 0), .ref (z 1), .ref (z 2), .ref (z 3), .int 0])), (x, .inr (11, [.ref (r 0), .ref (r 1), .ref (r 2), .ref (r 3), .ref (r 4), .ref (r 5), .ref (r 6), .ref (r 7), .ref (r 8), .ref (r 9), .ref (r 10), .ref (r 11), .ref (r 12), .ref (r 13), .ref (r 14), .ref (r 15), .int 0, .int 1, .int 0])), (u 2, .inr (1, [.ref (u 11), .ref (u 12), .ref (u 13), .ref (u 14), .ref (u 15), .ref (u 16), .ref (u 17), .int 0, .int 0]))] := h
      refine lv_aload_n hx hb dX11_hours_25 rfl (lv_at hl 0 rfl) ?_
      refine g_X11_now C0 h 2 q_515 rfl rfl dX11_hours_26 ?_
      refine g_X0_folk C0 h 0 q_249 rfl rfl dX11_hours_29 ?_
      refine lv_dup hx hb dX11_hours_32 rfl ?_
      refine g_X1_hours C0 h 3 q_220 rfl rfl dX11_hours_33 ?_
      refine lv_iload_n hx hb dX11_hours_36 rfl (lv_at hl 1 rfl) ?_
      refine lv_iadd hx hb dX11_hours_37 ?_
      refine p_X1_hours (ws' := [(r 0, .inr (0, [.ref (u 0), .ref (u 1), .ref (u 2), .ref (u 3), .ref (u 4), .int 0, .int 0, .int 0, .int 0])), (r 3, .inr (2, [.ref (r 0), .ref (z 1), .ref (z 2), .ref (z 3), .int 0])), (x, .inr (11, [.ref (r 0), .ref (r 1), .ref (r 2), .ref (r 3), .ref (r 4), .ref (r 5), .ref (r 6), .ref (r 7), .ref (r 8), .ref (r 9), .ref (r 10), .ref (r 11), .ref (r 12), .ref (r 13), .ref (r 14), .ref (r 15), .int 0, .int 1, .int 0])), (u 2, .inr (1, [.ref (u 11), .ref (u 12), .ref (u 13), .ref (u 14), .ref (u 15), .ref (u 16), .ref (u 17), .int 0, .int (0 + p0)]))]) C0 h 3 q_220 rfl (Nat.le_of_ble_eq_true rfl) rfl rfl rfl dX11_hours_38 (fun H locs h => ?_)
      refine lv_aload_n hx hb dX11_hours_41 rfl (lv_at hl 0 rfl) ?_
      refine g_X11_forecast C0 h 2 q_518 rfl rfl dX11_hours_42 ?_
      refine m_clv (wr := [(r 0, .inr (0, [.ref (u 0), .ref (u 1), .ref (u 2), .ref (u 3), .ref (u 4), .int 0, .int 0, .int 0, .int 0])), (x, .inr (11, [.ref (r 0), .ref (r 1), .ref (r 2), .ref (r 3), .ref (r 4), .ref (r 5), .ref (r 6), .ref (r 7), .ref (r 8), .ref (r 9), .ref (r 10), .ref (r 11), .ref (r 12), .ref (r 13), .ref (r 14), .ref (r 15), .int 0, .int 1, .int 0])), (u 2, .inr (1, [.ref (u 11), .ref (u 12), .ref (u 13), .ref (u 14), .ref (u 15), .ref (u 16), .ref (u 17), .int 0, .int (0 + p0)]))]) h (m_rV (ci := 2) (q0 := 1) (As := []) (rest := []) C0 h (c_X2_forget l G (r 3) (r 0) (z 1) (z 2) (z 3)) k_X2_forget q_878 q_879 q_877 rfl rfl rfl [1] (by decide) rfl hl.1 rfl rfl (Nat.le_of_ble_eq_true rfl) dX11_hours_45 ⟨Nat.le_of_ble_eq_true rfl, Nat.le_of_ble_eq_true rfl⟩ ⟨Nat.le_of_ble_eq_true rfl, Nat.le_of_ble_eq_true rfl⟩) [1] [0, 2, 3] rfl rfl (by decide) (by decide) (fun u_5 H locs hp_6 h => ?_)
      have h : Wd G A s _ _ [(r 0, .inr (0, [.ref (u 0), .ref (u 1), .ref (u 2), .ref (u 3), .ref (u 4), .int 0, .int 0, .int 0, .int 0])), (x, .inr (11, [.ref (r 0), .ref (r 1), .ref (r 2), .ref (r 3), .ref (r 4), .ref (r 5), .ref (r 6), .ref (r 7), .ref (r 8), .ref (r 9), .ref (r 10), .ref (r 11), .ref (r 12), .ref (r 13), .ref (r 14), .ref (r 15), .int 0, .int 1, .int 0])), (u 2, .inr (1, [.ref (u 11), .ref (u 12), .ref (u 13), .ref (u 14), .ref (u 15), .ref (u 16), .ref (u 17), .int 0, .int (0 + p0)]))] := h
      refine lv_aload_n hx hb dX11_hours_48 rfl (lv_at hl 0 rfl) ?_
      refine g_X11_now C0 h 1 q_515 rfl rfl dX11_hours_49 ?_
      refine g_X0_folk C0 h 0 q_249 rfl rfl dX11_hours_52 ?_
      refine g_X1_hours C0 h 2 q_220 rfl rfl dX11_hours_55 ?_
      exact m_iret () C0 h [] (by decide) rfl (by unfold sp_hours; grind) (Nat.le_of_ble_eq_true rfl) (Nat.le_of_ble_eq_true rfl) dX11_hours_58
    · -- 8 ¬ p0 ≤ 99
      refine lv_bipush (v := (-3)) hx hb dX11_hours_11 (by decide) ?_
      exact m_iret () C0 h [] (by decide) rfl (by unfold sp_hours; grind) (Nat.le_of_ble_eq_true rfl) (Nat.le_of_ble_eq_true rfl) dX11_hours_13
set_option maxHeartbeats 4000000 in
set_option maxRecDepth 100000 in
theorem c_X11_image (l : Launch) (G : GG) (x : Nat) (r : Nat → Nat) (u : Nat → Nat) (t : Nat → Nat) (i : Nat → Nat) (j : Nat → Nat) (p0 : Int32) : Mt l yX11_image cX11_image 2 (some .int) 4 0 0 G [.ref x, .int p0] [(x, .inr (11, [.ref (r 0), .ref (r 1), .ref (r 2), .ref (r 3), .ref (r 4), .ref (r 5), .ref (r 6), .ref (r 7), .ref (r 8), .ref (r 9), .ref (r 10), .ref (r 11), .ref (r 12), .ref (r 13), .ref (r 14), .ref (r 15), .int 0, .int 0, .int 0])), (r 10, .inl (G.2 4, 2, .inr (.inr (.inr (.inr (imF t)))))), (r 11, .inl (G.2 3, 2, .inl (fun _ => 0))), (r 0, .inr (0, [.ref (u 0), .ref (u 1), .ref (u 2), .ref (u 3), .ref (u 4), .int 0, .int 0, .int 0, .int 0])), (u 0, .inr (4, [.ref (u 5), .ref (u 6), .ref (u 7), .int 0, .int 0])), (u 5, .inl (G.2 1, 900, .inl (fun _ => 0))), (u 1, .inr (4, [.ref (u 8), .ref (u 9), .ref (u 10), .int 0, .int 0])), (u 8, .inl (G.2 1, 900, .inl (fun _ => 0))), (u 2, .inr (1, [.ref (u 11), .ref (u 12), .ref (u 13), .ref (u 14), .ref (u 15), .ref (u 16), .ref (u 17), .int 0, .int 0])), (u 11, .inl (G.2 1, 5, .inl (fun _ => 0))), (u 12, .inl (G.2 1, 5, .inl (fun _ => 0))), (u 13, .inl (G.2 1, 5, .inl (fun _ => 0))), (u 14, .inl (G.2 1, 5, .inl (fun _ => 0))), (u 15, .inl (G.2 1, 5, .inl (fun _ => 0))), (u 16, .inl (G.2 1, 25, .inl (fun _ => 0))), (u 17, .inl (G.2 1, 25, .inl (fun _ => 0))), (u 3, .inl (G.2 1, 4, .inl (fun _ => 0))), (u 4, .inl (G.2 1, 4, .inl (fun _ => 0))), (t 8, .inr (0, [.ref (i 0), .ref (i 1), .ref (i 2), .ref (i 3), .ref (i 4), .int 0, .int 0, .int 0, .int 0])), (i 0, .inr (4, [.ref (i 5), .ref (i 6), .ref (i 7), .int 0, .int 0])), (i 5, .inl (G.2 1, 900, .inl (fun _ => 0))), (i 1, .inr (4, [.ref (i 8), .ref (i 9), .ref (i 10), .int 0, .int 0])), (i 8, .inl (G.2 1, 900, .inl (fun _ => 0))), (i 2, .inr (1, [.ref (i 11), .ref (i 12), .ref (i 13), .ref (i 14), .ref (i 15), .ref (i 16), .ref (i 17), .int 0, .int 0])), (i 11, .inl (G.2 1, 5, .inl (fun _ => 0))), (i 12, .inl (G.2 1, 5, .inl (fun _ => 0))), (i 13, .inl (G.2 1, 5, .inl (fun _ => 0))), (i 14, .inl (G.2 1, 5, .inl (fun _ => 0))), (i 15, .inl (G.2 1, 5, .inl (fun _ => 0))), (i 16, .inl (G.2 1, 25, .inl (fun _ => 0))), (i 17, .inl (G.2 1, 25, .inl (fun _ => 0))), (i 3, .inl (G.2 1, 4, .inl (fun _ => 0))), (i 4, .inl (G.2 1, 4, .inl (fun _ => 0))), (t 9, .inr (0, [.ref (j 0), .ref (j 1), .ref (j 2), .ref (j 3), .ref (j 4), .int 0, .int 0, .int 0, .int 0])), (j 0, .inr (4, [.ref (j 5), .ref (j 6), .ref (j 7), .int 0, .int 0])), (j 5, .inl (G.2 1, 900, .inl (fun _ => 0))), (j 1, .inr (4, [.ref (j 8), .ref (j 9), .ref (j 10), .int 0, .int 0])), (j 8, .inl (G.2 1, 900, .inl (fun _ => 0))), (j 2, .inr (1, [.ref (j 11), .ref (j 12), .ref (j 13), .ref (j 14), .ref (j 15), .ref (j 16), .ref (j 17), .int 0, .int 0])), (j 11, .inl (G.2 1, 5, .inl (fun _ => 0))), (j 12, .inl (G.2 1, 5, .inl (fun _ => 0))), (j 13, .inl (G.2 1, 5, .inl (fun _ => 0))), (j 14, .inl (G.2 1, 5, .inl (fun _ => 0))), (j 15, .inl (G.2 1, 5, .inl (fun _ => 0))), (j 16, .inl (G.2 1, 25, .inl (fun _ => 0))), (j 17, .inl (G.2 1, 25, .inl (fun _ => 0))), (j 3, .inl (G.2 1, 4, .inl (fun _ => 0))), (j 4, .inl (G.2 1, 4, .inl (fun _ => 0)))] (Ri (S := Unit) G (fun r _ => r = sp_image p0) (fun _ => [])) := by
  refine Mt.start (by decide) (Nat.le_of_ble_eq_true rfl) ?_
  intro p e s m below meth c A ls C0 hini h hl
  have C0 : Cx p s m _ meth c RX11 cX11_image 2 (some .int) := C0
  obtain ⟨hx, hb, hml, hown, hts, -⟩ := id C0
  have hl : lv_has ls 2 [(0, .ref x), (1, .int p0)] := hl
  refine lv_iload_n hx hb dX11_image_0 rfl (lv_at hl 1 rfl) ?_
  refine lv_if_lt (tgt := 9) hx hb dX11_image_1 (by decide) (fun c_1 => ?_) (fun c_1 => ?_)
  · -- 1 p0 < 0
    refine lv_bipush (v := (-2)) hx hb dX11_image_9 (by decide) ?_
    exact m_iret () C0 h [] (by decide) rfl (by unfold sp_image; grind) (Nat.le_of_ble_eq_true rfl) (Nat.le_of_ble_eq_true rfl) dX11_image_11
  · -- 1 ¬ p0 < 0
    refine lv_iload_n hx hb dX11_image_4 rfl (lv_at hl 1 rfl) ?_
    refine lv_iconst (v := 2) hx hb dX11_image_5 (by decide) ?_
    refine lv_icmp_lt (tgt := 12) hx hb dX11_image_6 (by decide) (fun c_2 => ?_) (fun c_2 => ?_)
    · -- 6 p0 < 2
      refine lv_aload_n hx hb dX11_image_12 rfl (lv_at hl 0 rfl) ?_
      refine g_X11_images C0 h 0 q_525 rfl rfl dX11_image_13 ?_
      refine lv_iload_n hx hb dX11_image_16 rfl (lv_at hl 1 rfl) ?_
      rcases (in2 (x := p0) (by grind) (by grind)) with rfl | rfl
      · -- p0 = 0
        refine m_aald C0 h 1 4 0 rfl rfl (by decide) (by decide) (by decide) dX11_image_17 ?_
        refine W.eq (g2 := F0 m 18 ls [.ref (t 8)]) rfl ?_
        refine lv_aload_n hx hb dX11_image_18 rfl (lv_at hl 0 rfl) ?_
        refine g_X11_now C0 h 0 q_515 rfl rfl dX11_image_19 ?_
        refine m_clv (wr := [(x, .inr (11, [.ref (r 0), .ref (r 1), .ref (r 2), .ref (r 3), .ref (r 4), .ref (r 5), .ref (r 6), .ref (r 7), .ref (r 8), .ref (r 9), .ref (r 10), .ref (r 11), .ref (r 12), .ref (r 13), .ref (r 14), .ref (r 15), .int 0, .int 0, .int 0])), (r 10, .inl (G.2 4, 2, .inr (.inr (.inr (.inr (imF t)))))), (r 11, .inl (G.2 3, 2, .inl (fun _ => 0))), (t 9, .inr (0, [.ref (j 0), .ref (j 1), .ref (j 2), .ref (j 3), .ref (j 4), .int 0, .int 0, .int 0, .int 0])), (j 0, .inr (4, [.ref (j 5), .ref (j 6), .ref (j 7), .int 0, .int 0])), (j 5, .inl (G.2 1, 900, .inl (fun _ => 0))), (j 1, .inr (4, [.ref (j 8), .ref (j 9), .ref (j 10), .int 0, .int 0])), (j 8, .inl (G.2 1, 900, .inl (fun _ => 0))), (j 2, .inr (1, [.ref (j 11), .ref (j 12), .ref (j 13), .ref (j 14), .ref (j 15), .ref (j 16), .ref (j 17), .int 0, .int 0])), (j 11, .inl (G.2 1, 5, .inl (fun _ => 0))), (j 12, .inl (G.2 1, 5, .inl (fun _ => 0))), (j 13, .inl (G.2 1, 5, .inl (fun _ => 0))), (j 14, .inl (G.2 1, 5, .inl (fun _ => 0))), (j 15, .inl (G.2 1, 5, .inl (fun _ => 0))), (j 16, .inl (G.2 1, 25, .inl (fun _ => 0))), (j 17, .inl (G.2 1, 25, .inl (fun _ => 0))), (j 3, .inl (G.2 1, 4, .inl (fun _ => 0))), (j 4, .inl (G.2 1, 4, .inl (fun _ => 0)))]) h (m_rV (ci := 0) (q0 := 18) (As := [.ref (r 0)]) (rest := []) C0 h (c_X0_copy l G (t 8) (r 0) i u (fun _ => 0) (fun _ => 0) (fun _ => 0) (fun _ => 0) (fun _ => 0) (fun _ => 0) (fun _ => 0) (fun _ => 0) (fun _ => 0) (fun _ => 0) (fun _ => 0) (fun _ => 0) (fun _ => 0) (fun _ => 0) (fun _ => 0) (fun _ => 0) (fun _ => 0) (fun _ => 0) (fun _ => 0) (fun _ => 0) (fun _ => 0) (fun _ => 0)) k_X0_copy q_857 q_858 q_856 rfl rfl rfl [18, 19, 20, 21, 22, 23, 24, 25, 26, 27, 28, 29, 30, 31, 32, 3, 4, 5, 6, 7, 8, 9, 10, 11, 12, 13, 14, 15, 16, 17] (by decide) rfl hl.1 rfl rfl (Nat.le_of_ble_eq_true rfl) dX11_image_22 ⟨Nat.le_of_ble_eq_true rfl, Nat.le_of_ble_eq_true rfl⟩ ⟨Nat.le_of_ble_eq_true rfl, Nat.le_of_ble_eq_true rfl⟩) [18, 19, 20, 21, 22, 23, 24, 25, 26, 27, 28, 29, 30, 31, 32, 3, 4, 5, 6, 7, 8, 9, 10, 11, 12, 13, 14, 15, 16, 17] [0, 1, 2, 33, 34, 35, 36, 37, 38, 39, 40, 41, 42, 43, 44, 45, 46, 47] rfl rfl (by decide) (by decide) (fun u_3 H locs hp_4 h => ?_)
        have h : Wd G A s _ _ [(x, .inr (11, [.ref (r 0), .ref (r 1), .ref (r 2), .ref (r 3), .ref (r 4), .ref (r 5), .ref (r 6), .ref (r 7), .ref (r 8), .ref (r 9), .ref (r 10), .ref (r 11), .ref (r 12), .ref (r 13), .ref (r 14), .ref (r 15), .int 0, .int 0, .int 0])), (r 10, .inl (G.2 4, 2, .inr (.inr (.inr (.inr (imF t)))))), (r 11, .inl (G.2 3, 2, .inl (fun _ => 0))), (t 9, .inr (0, [.ref (j 0), .ref (j 1), .ref (j 2), .ref (j 3), .ref (j 4), .int 0, .int 0, .int 0, .int 0])), (j 0, .inr (4, [.ref (j 5), .ref (j 6), .ref (j 7), .int 0, .int 0])), (j 5, .inl (G.2 1, 900, .inl (fun _ => 0))), (j 1, .inr (4, [.ref (j 8), .ref (j 9), .ref (j 10), .int 0, .int 0])), (j 8, .inl (G.2 1, 900, .inl (fun _ => 0))), (j 2, .inr (1, [.ref (j 11), .ref (j 12), .ref (j 13), .ref (j 14), .ref (j 15), .ref (j 16), .ref (j 17), .int 0, .int 0])), (j 11, .inl (G.2 1, 5, .inl (fun _ => 0))), (j 12, .inl (G.2 1, 5, .inl (fun _ => 0))), (j 13, .inl (G.2 1, 5, .inl (fun _ => 0))), (j 14, .inl (G.2 1, 5, .inl (fun _ => 0))), (j 15, .inl (G.2 1, 5, .inl (fun _ => 0))), (j 16, .inl (G.2 1, 25, .inl (fun _ => 0))), (j 17, .inl (G.2 1, 25, .inl (fun _ => 0))), (j 3, .inl (G.2 1, 4, .inl (fun _ => 0))), (j 4, .inl (G.2 1, 4, .inl (fun _ => 0))), (t 8, .inr (0, [.ref (i 0), .ref (i 1), .ref (i 2), .ref (i 3), .ref (i 4), .int 0, .int 0, .int 0, .int 0]))] := h
        refine lv_aload_n hx hb dX11_image_25 rfl (lv_at hl 0 rfl) ?_
        refine g_X11_imageMade C0 h 0 q_526 rfl rfl dX11_image_26 ?_
        refine lv_iload_n hx hb dX11_image_29 rfl (lv_at hl 1 rfl) ?_
        refine lv_iconst (v := 1) hx hb dX11_image_30 (by decide) ?_
        refine m_zast (ws' := [(x, .inr (11, [.ref (r 0), .ref (r 1), .ref (r 2), .ref (r 3), .ref (r 4), .ref (r 5), .ref (r 6), .ref (r 7), .ref (r 8), .ref (r 9), .ref (r 10), .ref (r 11), .ref (r 12), .ref (r 13), .ref (r 14), .ref (r 15), .int 0, .int 0, .int 0])), (r 10, .inl (G.2 4, 2, .inr (.inr (.inr (.inr (imF t)))))), (r 11, .inl (G.2 3, 2, .inl (upd (fun _ => 0) 0 (vp_nar .boolean 1)))), (t 9, .inr (0, [.ref (j 0), .ref (j 1), .ref (j 2), .ref (j 3), .ref (j 4), .int 0, .int 0, .int 0, .int 0])), (j 0, .inr (4, [.ref (j 5), .ref (j 6), .ref (j 7), .int 0, .int 0])), (j 5, .inl (G.2 1, 900, .inl (fun _ => 0))), (j 1, .inr (4, [.ref (j 8), .ref (j 9), .ref (j 10), .int 0, .int 0])), (j 8, .inl (G.2 1, 900, .inl (fun _ => 0))), (j 2, .inr (1, [.ref (j 11), .ref (j 12), .ref (j 13), .ref (j 14), .ref (j 15), .ref (j 16), .ref (j 17), .int 0, .int 0])), (j 11, .inl (G.2 1, 5, .inl (fun _ => 0))), (j 12, .inl (G.2 1, 5, .inl (fun _ => 0))), (j 13, .inl (G.2 1, 5, .inl (fun _ => 0))), (j 14, .inl (G.2 1, 5, .inl (fun _ => 0))), (j 15, .inl (G.2 1, 5, .inl (fun _ => 0))), (j 16, .inl (G.2 1, 25, .inl (fun _ => 0))), (j 17, .inl (G.2 1, 25, .inl (fun _ => 0))), (j 3, .inl (G.2 1, 4, .inl (fun _ => 0))), (j 4, .inl (G.2 1, 4, .inl (fun _ => 0))), (t 8, .inr (0, [.ref (i 0), .ref (i 1), .ref (i 2), .ref (i 3), .ref (i 4), .int 0, .int 0, .int 0, .int 0]))]) C0 h 2 0 rfl (by decide) (by decide) (by decide) rfl dX11_image_31 (fun H locs h => ?_)
        refine lv_iconst (v := 0) hx hb dX11_image_32 (by decide) ?_
        exact m_iret () C0 h [] (by decide) rfl (by unfold sp_image; grind) (Nat.le_of_ble_eq_true rfl) (Nat.le_of_ble_eq_true rfl) dX11_image_33
      · -- p0 = 1
        refine m_aald C0 h 1 4 1 rfl rfl (by decide) (by decide) (by decide) dX11_image_17 ?_
        refine W.eq (g2 := F0 m 18 ls [.ref (t 9)]) rfl ?_
        refine lv_aload_n hx hb dX11_image_18 rfl (lv_at hl 0 rfl) ?_
        refine g_X11_now C0 h 0 q_515 rfl rfl dX11_image_19 ?_
        refine m_clv (wr := [(x, .inr (11, [.ref (r 0), .ref (r 1), .ref (r 2), .ref (r 3), .ref (r 4), .ref (r 5), .ref (r 6), .ref (r 7), .ref (r 8), .ref (r 9), .ref (r 10), .ref (r 11), .ref (r 12), .ref (r 13), .ref (r 14), .ref (r 15), .int 0, .int 0, .int 0])), (r 10, .inl (G.2 4, 2, .inr (.inr (.inr (.inr (imF t)))))), (r 11, .inl (G.2 3, 2, .inl (fun _ => 0))), (t 8, .inr (0, [.ref (i 0), .ref (i 1), .ref (i 2), .ref (i 3), .ref (i 4), .int 0, .int 0, .int 0, .int 0])), (i 0, .inr (4, [.ref (i 5), .ref (i 6), .ref (i 7), .int 0, .int 0])), (i 5, .inl (G.2 1, 900, .inl (fun _ => 0))), (i 1, .inr (4, [.ref (i 8), .ref (i 9), .ref (i 10), .int 0, .int 0])), (i 8, .inl (G.2 1, 900, .inl (fun _ => 0))), (i 2, .inr (1, [.ref (i 11), .ref (i 12), .ref (i 13), .ref (i 14), .ref (i 15), .ref (i 16), .ref (i 17), .int 0, .int 0])), (i 11, .inl (G.2 1, 5, .inl (fun _ => 0))), (i 12, .inl (G.2 1, 5, .inl (fun _ => 0))), (i 13, .inl (G.2 1, 5, .inl (fun _ => 0))), (i 14, .inl (G.2 1, 5, .inl (fun _ => 0))), (i 15, .inl (G.2 1, 5, .inl (fun _ => 0))), (i 16, .inl (G.2 1, 25, .inl (fun _ => 0))), (i 17, .inl (G.2 1, 25, .inl (fun _ => 0))), (i 3, .inl (G.2 1, 4, .inl (fun _ => 0))), (i 4, .inl (G.2 1, 4, .inl (fun _ => 0)))]) h (m_rV (ci := 0) (q0 := 33) (As := [.ref (r 0)]) (rest := []) C0 h (c_X0_copy l G (t 9) (r 0) j u (fun _ => 0) (fun _ => 0) (fun _ => 0) (fun _ => 0) (fun _ => 0) (fun _ => 0) (fun _ => 0) (fun _ => 0) (fun _ => 0) (fun _ => 0) (fun _ => 0) (fun _ => 0) (fun _ => 0) (fun _ => 0) (fun _ => 0) (fun _ => 0) (fun _ => 0) (fun _ => 0) (fun _ => 0) (fun _ => 0) (fun _ => 0) (fun _ => 0)) k_X0_copy q_857 q_858 q_856 rfl rfl rfl [33, 34, 35, 36, 37, 38, 39, 40, 41, 42, 43, 44, 45, 46, 47, 3, 4, 5, 6, 7, 8, 9, 10, 11, 12, 13, 14, 15, 16, 17] (by decide) rfl hl.1 rfl rfl (Nat.le_of_ble_eq_true rfl) dX11_image_22 ⟨Nat.le_of_ble_eq_true rfl, Nat.le_of_ble_eq_true rfl⟩ ⟨Nat.le_of_ble_eq_true rfl, Nat.le_of_ble_eq_true rfl⟩) [33, 34, 35, 36, 37, 38, 39, 40, 41, 42, 43, 44, 45, 46, 47, 3, 4, 5, 6, 7, 8, 9, 10, 11, 12, 13, 14, 15, 16, 17] [0, 1, 2, 18, 19, 20, 21, 22, 23, 24, 25, 26, 27, 28, 29, 30, 31, 32] rfl rfl (by decide) (by decide) (fun u_5 H locs hp_6 h => ?_)
        have h : Wd G A s _ _ [(x, .inr (11, [.ref (r 0), .ref (r 1), .ref (r 2), .ref (r 3), .ref (r 4), .ref (r 5), .ref (r 6), .ref (r 7), .ref (r 8), .ref (r 9), .ref (r 10), .ref (r 11), .ref (r 12), .ref (r 13), .ref (r 14), .ref (r 15), .int 0, .int 0, .int 0])), (r 10, .inl (G.2 4, 2, .inr (.inr (.inr (.inr (imF t)))))), (r 11, .inl (G.2 3, 2, .inl (fun _ => 0))), (t 8, .inr (0, [.ref (i 0), .ref (i 1), .ref (i 2), .ref (i 3), .ref (i 4), .int 0, .int 0, .int 0, .int 0])), (i 0, .inr (4, [.ref (i 5), .ref (i 6), .ref (i 7), .int 0, .int 0])), (i 5, .inl (G.2 1, 900, .inl (fun _ => 0))), (i 1, .inr (4, [.ref (i 8), .ref (i 9), .ref (i 10), .int 0, .int 0])), (i 8, .inl (G.2 1, 900, .inl (fun _ => 0))), (i 2, .inr (1, [.ref (i 11), .ref (i 12), .ref (i 13), .ref (i 14), .ref (i 15), .ref (i 16), .ref (i 17), .int 0, .int 0])), (i 11, .inl (G.2 1, 5, .inl (fun _ => 0))), (i 12, .inl (G.2 1, 5, .inl (fun _ => 0))), (i 13, .inl (G.2 1, 5, .inl (fun _ => 0))), (i 14, .inl (G.2 1, 5, .inl (fun _ => 0))), (i 15, .inl (G.2 1, 5, .inl (fun _ => 0))), (i 16, .inl (G.2 1, 25, .inl (fun _ => 0))), (i 17, .inl (G.2 1, 25, .inl (fun _ => 0))), (i 3, .inl (G.2 1, 4, .inl (fun _ => 0))), (i 4, .inl (G.2 1, 4, .inl (fun _ => 0))), (t 9, .inr (0, [.ref (j 0), .ref (j 1), .ref (j 2), .ref (j 3), .ref (j 4), .int 0, .int 0, .int 0, .int 0]))] := h
        refine lv_aload_n hx hb dX11_image_25 rfl (lv_at hl 0 rfl) ?_
        refine g_X11_imageMade C0 h 0 q_526 rfl rfl dX11_image_26 ?_
        refine lv_iload_n hx hb dX11_image_29 rfl (lv_at hl 1 rfl) ?_
        refine lv_iconst (v := 1) hx hb dX11_image_30 (by decide) ?_
        refine m_zast (ws' := [(x, .inr (11, [.ref (r 0), .ref (r 1), .ref (r 2), .ref (r 3), .ref (r 4), .ref (r 5), .ref (r 6), .ref (r 7), .ref (r 8), .ref (r 9), .ref (r 10), .ref (r 11), .ref (r 12), .ref (r 13), .ref (r 14), .ref (r 15), .int 0, .int 0, .int 0])), (r 10, .inl (G.2 4, 2, .inr (.inr (.inr (.inr (imF t)))))), (r 11, .inl (G.2 3, 2, .inl (upd (fun _ => 0) 1 (vp_nar .boolean 1)))), (t 8, .inr (0, [.ref (i 0), .ref (i 1), .ref (i 2), .ref (i 3), .ref (i 4), .int 0, .int 0, .int 0, .int 0])), (i 0, .inr (4, [.ref (i 5), .ref (i 6), .ref (i 7), .int 0, .int 0])), (i 5, .inl (G.2 1, 900, .inl (fun _ => 0))), (i 1, .inr (4, [.ref (i 8), .ref (i 9), .ref (i 10), .int 0, .int 0])), (i 8, .inl (G.2 1, 900, .inl (fun _ => 0))), (i 2, .inr (1, [.ref (i 11), .ref (i 12), .ref (i 13), .ref (i 14), .ref (i 15), .ref (i 16), .ref (i 17), .int 0, .int 0])), (i 11, .inl (G.2 1, 5, .inl (fun _ => 0))), (i 12, .inl (G.2 1, 5, .inl (fun _ => 0))), (i 13, .inl (G.2 1, 5, .inl (fun _ => 0))), (i 14, .inl (G.2 1, 5, .inl (fun _ => 0))), (i 15, .inl (G.2 1, 5, .inl (fun _ => 0))), (i 16, .inl (G.2 1, 25, .inl (fun _ => 0))), (i 17, .inl (G.2 1, 25, .inl (fun _ => 0))), (i 3, .inl (G.2 1, 4, .inl (fun _ => 0))), (i 4, .inl (G.2 1, 4, .inl (fun _ => 0))), (t 9, .inr (0, [.ref (j 0), .ref (j 1), .ref (j 2), .ref (j 3), .ref (j 4), .int 0, .int 0, .int 0, .int 0]))]) C0 h 2 1 rfl (by decide) (by decide) (by decide) rfl dX11_image_31 (fun H locs h => ?_)
        refine lv_iconst (v := 0) hx hb dX11_image_32 (by decide) ?_
        exact m_iret () C0 h [] (by decide) rfl (by unfold sp_image; grind) (Nat.le_of_ble_eq_true rfl) (Nat.le_of_ble_eq_true rfl) dX11_image_33
    · -- 6 ¬ p0 < 2
      refine lv_bipush (v := (-2)) hx hb dX11_image_9 (by decide) ?_
      exact m_iret () C0 h [] (by decide) rfl (by unfold sp_image; grind) (Nat.le_of_ble_eq_true rfl) (Nat.le_of_ble_eq_true rfl) dX11_image_11
set_option maxHeartbeats 4000000 in
set_option maxRecDepth 100000 in
theorem c_X4_clear (l : Launch) (G : GG) (a : Nat) (ac : Nat) (as_ : Nat) (an : Nat) : Mt l yX4_clear cX4_clear 1 none 0 0 0 G [.ref a] [(a, .inr (4, [.ref ac, .ref as_, .ref an, .int 0, .int 0]))] (Rv (S := Unit) G (fun _ => True) (fun _ => [(a, .inr (4, [.ref ac, .ref as_, .ref an, .int 0, .int 0]))])) := by
  refine Mt.start (by decide) (Nat.le_of_ble_eq_true rfl) ?_
  intro p e s m below meth c A ls C0 hini h hl
  have C0 : Cx p s m _ meth c RX4 cX4_clear 1 none := C0
  obtain ⟨hx, hb, hml, hown, hts, -⟩ := id C0
  have hl : lv_has ls 1 [(0, .ref a)] := hl
  refine lv_aload_n hx hb dX4_clear_0 rfl (lv_at hl 0 rfl) ?_
  refine lv_iconst (v := 0) hx hb dX4_clear_1 (by decide) ?_
  refine p_X4_size (ws' := [(a, .inr (4, [.ref ac, .ref as_, .ref an, .int 0, .int 0]))]) C0 h 0 q_170 rfl (Nat.le_of_ble_eq_true rfl) rfl rfl rfl dX4_clear_2 (fun H locs h => ?_)
  refine lv_aload_n hx hb dX4_clear_5 rfl (lv_at hl 0 rfl) ?_
  refine lv_iconst (v := 0) hx hb dX4_clear_6 (by decide) ?_
  refine p_X4_named (ws' := [(a, .inr (4, [.ref ac, .ref as_, .ref an, .int 0, .int 0]))]) C0 h 0 q_171 rfl (Nat.le_of_ble_eq_true rfl) rfl rfl rfl dX4_clear_7 (fun H locs h => ?_)
  exact m_vret () C0 h [0] (by decide) rfl trivial (Nat.le_of_ble_eq_true rfl) (Nat.le_of_ble_eq_true rfl) dX4_clear_10
set_option maxHeartbeats 4000000 in
set_option maxRecDepth 100000 in
theorem c_X1_clear (l : Launch) (G : GG) (a : Nat) (a0 : Nat) (a1 : Nat) (a2 : Nat) (a3 : Nat) (a4 : Nat) (a5 : Nat) (a6 : Nat) (f4 : Nat → Int32) (f5 : Nat → Int32) (f6 : Nat → Int32) : Mt l yX1_clear cX1_clear 1 none 2 0 0 G [.ref a] [(a, .inr (1, [.ref a0, .ref a1, .ref a2, .ref a3, .ref a4, .ref a5, .ref a6, .int 0, .int 0])), (a4, .inl (G.2 1, 5, .inl f4)), (a5, .inl (G.2 1, 25, .inl f5)), (a6, .inl (G.2 1, 25, .inl f6))] (Rv (S := (Nat → Nat → Int32)) G (fun _ => True) (fun g => [(a, .inr (1, [.ref a0, .ref a1, .ref a2, .ref a3, .ref a4, .ref a5, .ref a6, .int 0, .int 0])), (a4, .inl (G.2 1, 5, .inl (g 4))), (a5, .inl (G.2 1, 25, .inl (g 5))), (a6, .inl (G.2 1, 25, .inl (g 6)))])) := by
  refine Mt.start (by decide) (Nat.le_of_ble_eq_true rfl) ?_
  intro p e s m below meth c A ls C0 hini h hl
  have C0 : Cx p s m _ meth c RX1 cX1_clear 1 none := C0
  obtain ⟨hx, hb, hml, hown, hts, -⟩ := id C0
  have hl : lv_has ls 1 [(0, .ref a)] := hl
  refine lv_aload_n hx hb dX1_clear_0 rfl (lv_at hl 0 rfl) ?_
  refine g_X1_used C0 h 0 q_202 rfl rfl dX1_clear_1 ?_
  refine lv_iconst (v := 0) hx hb dX1_clear_4 (by decide) ?_
  refine m_clv (wr := [(a, .inr (1, [.ref a0, .ref a1, .ref a2, .ref a3, .ref a4, .ref a5, .ref a6, .int 0, .int 0])), (a5, .inl (G.2 1, 25, .inl f5)), (a6, .inl (G.2 1, 25, .inl f6))]) h (m_rS (As := [.ref a4, .int 0]) (rest := []) C0 h (c_J7_fill_53178 l G a4 5 f4 0 (by decide)) k_J7_fill_53178 q_611 q_610 [1] (by decide) rfl hl.1 rfl rfl (Nat.le_of_ble_eq_true rfl) dX1_clear_5 ⟨Nat.le_of_ble_eq_true rfl, Nat.le_of_ble_eq_true rfl⟩ ⟨Nat.le_of_ble_eq_true rfl, Nat.le_of_ble_eq_true rfl⟩) [1] [0, 2, 3] rfl rfl (by decide) (by decide) (fun u_1 H locs hp_2 h => ?_)
  have h : Wd G A s _ _ [(a, .inr (1, [.ref a0, .ref a1, .ref a2, .ref a3, .ref a4, .ref a5, .ref a6, .int 0, .int 0])), (a5, .inl (G.2 1, 25, .inl f5)), (a6, .inl (G.2 1, 25, .inl f6)), (a4, .inl (G.2 1, 5, .inl u_1))] := h
  refine lv_aload_n hx hb dX1_clear_8 rfl (lv_at hl 0 rfl) ?_
  refine g_X1_sold C0 h 0 q_205 rfl rfl dX1_clear_9 ?_
  refine lv_iconst (v := 0) hx hb dX1_clear_12 (by decide) ?_
  refine m_clv (wr := [(a, .inr (1, [.ref a0, .ref a1, .ref a2, .ref a3, .ref a4, .ref a5, .ref a6, .int 0, .int 0])), (a6, .inl (G.2 1, 25, .inl f6)), (a4, .inl (G.2 1, 5, .inl u_1))]) h (m_rS (As := [.ref a5, .int 0]) (rest := []) C0 h (c_J7_fill_53178 l G a5 25 f5 0 (by decide)) k_J7_fill_53178 q_611 q_610 [1] (by decide) rfl hl.1 rfl rfl (Nat.le_of_ble_eq_true rfl) dX1_clear_13 ⟨Nat.le_of_ble_eq_true rfl, Nat.le_of_ble_eq_true rfl⟩ ⟨Nat.le_of_ble_eq_true rfl, Nat.le_of_ble_eq_true rfl⟩) [1] [0, 2, 3] rfl rfl (by decide) (by decide) (fun u_3 H locs hp_4 h => ?_)
  have h : Wd G A s _ _ [(a, .inr (1, [.ref a0, .ref a1, .ref a2, .ref a3, .ref a4, .ref a5, .ref a6, .int 0, .int 0])), (a6, .inl (G.2 1, 25, .inl f6)), (a4, .inl (G.2 1, 5, .inl u_1)), (a5, .inl (G.2 1, 25, .inl u_3))] := h
  refine lv_aload_n hx hb dX1_clear_16 rfl (lv_at hl 0 rfl) ?_
  refine g_X1_fogEnds C0 h 0 q_210 rfl rfl dX1_clear_17 ?_
  refine lv_iconst (v := 0) hx hb dX1_clear_20 (by decide) ?_
  refine m_clv (wr := [(a, .inr (1, [.ref a0, .ref a1, .ref a2, .ref a3, .ref a4, .ref a5, .ref a6, .int 0, .int 0])), (a4, .inl (G.2 1, 5, .inl u_1)), (a5, .inl (G.2 1, 25, .inl u_3))]) h (m_rS (As := [.ref a6, .int 0]) (rest := []) C0 h (c_J7_fill_53178 l G a6 25 f6 0 (by decide)) k_J7_fill_53178 q_611 q_610 [1] (by decide) rfl hl.1 rfl rfl (Nat.le_of_ble_eq_true rfl) dX1_clear_21 ⟨Nat.le_of_ble_eq_true rfl, Nat.le_of_ble_eq_true rfl⟩ ⟨Nat.le_of_ble_eq_true rfl, Nat.le_of_ble_eq_true rfl⟩) [1] [0, 2, 3] rfl rfl (by decide) (by decide) (fun u_5 H locs hp_6 h => ?_)
  have h : Wd G A s _ _ [(a, .inr (1, [.ref a0, .ref a1, .ref a2, .ref a3, .ref a4, .ref a5, .ref a6, .int 0, .int 0])), (a4, .inl (G.2 1, 5, .inl u_1)), (a5, .inl (G.2 1, 25, .inl u_3)), (a6, .inl (G.2 1, 25, .inl u_5))] := h
  refine lv_aload_n hx hb dX1_clear_24 rfl (lv_at hl 0 rfl) ?_
  refine lv_iconst (v := 0) hx hb dX1_clear_25 (by decide) ?_
  refine p_X1_people (ws' := [(a, .inr (1, [.ref a0, .ref a1, .ref a2, .ref a3, .ref a4, .ref a5, .ref a6, .int 0, .int 0])), (a4, .inl (G.2 1, 5, .inl u_1)), (a5, .inl (G.2 1, 25, .inl u_3)), (a6, .inl (G.2 1, 25, .inl u_5))]) C0 h 0 q_213 rfl (Nat.le_of_ble_eq_true rfl) rfl rfl rfl dX1_clear_26 (fun H locs h => ?_)
  refine lv_aload_n hx hb dX1_clear_29 rfl (lv_at hl 0 rfl) ?_
  refine lv_iconst (v := 0) hx hb dX1_clear_30 (by decide) ?_
  refine p_X1_hours (ws' := [(a, .inr (1, [.ref a0, .ref a1, .ref a2, .ref a3, .ref a4, .ref a5, .ref a6, .int 0, .int 0])), (a4, .inl (G.2 1, 5, .inl u_1)), (a5, .inl (G.2 1, 25, .inl u_3)), (a6, .inl (G.2 1, 25, .inl u_5))]) C0 h 0 q_217 rfl (Nat.le_of_ble_eq_true rfl) rfl rfl rfl dX1_clear_31 (fun H locs h => ?_)
  exact m_vret (fun k => if k = 4 then u_1 else if k = 5 then u_3 else u_5) C0 h [0, 1, 2, 3] (by decide) rfl trivial (Nat.le_of_ble_eq_true rfl) (Nat.le_of_ble_eq_true rfl) dX1_clear_34
set_option maxHeartbeats 4000000 in
set_option maxRecDepth 100000 in
theorem c_X0_clear (l : Launch) (G : GG) (a : Nat) (v : Nat → Nat) : Mt l yX0_clear cX0_clear 1 none 3 0 0 G [.ref a] [(a, .inr (0, [.ref (v 0), .ref (v 1), .ref (v 2), .ref (v 3), .ref (v 4), .int 0, .int 0, .int 0, .int 0])), (v 0, .inr (4, [.ref (v 5), .ref (v 6), .ref (v 7), .int 0, .int 0])), (v 1, .inr (4, [.ref (v 8), .ref (v 9), .ref (v 10), .int 0, .int 0])), (v 2, .inr (1, [.ref (v 11), .ref (v 12), .ref (v 13), .ref (v 14), .ref (v 15), .ref (v 16), .ref (v 17), .int 0, .int 0])), (v 15, .inl (G.2 1, 5, .inl (fun _ => 0))), (v 16, .inl (G.2 1, 25, .inl (fun _ => 0))), (v 17, .inl (G.2 1, 25, .inl (fun _ => 0))), (v 3, .inl (G.2 1, 4, .inl (fun _ => 0))), (v 4, .inl (G.2 1, 4, .inl (fun _ => 0)))] (Rv (S := (Nat → Nat → Int32)) G (fun _ => True) (fun g => [(a, .inr (0, [.ref (v 0), .ref (v 1), .ref (v 2), .ref (v 3), .ref (v 4), .int 0, .int 0, .int 0, .int 0])), (v 0, .inr (4, [.ref (v 5), .ref (v 6), .ref (v 7), .int 0, .int 0])), (v 1, .inr (4, [.ref (v 8), .ref (v 9), .ref (v 10), .int 0, .int 0])), (v 2, .inr (1, [.ref (v 11), .ref (v 12), .ref (v 13), .ref (v 14), .ref (v 15), .ref (v 16), .ref (v 17), .int 0, .int 0])), (v 15, .inl (G.2 1, 5, .inl (g 15))), (v 16, .inl (G.2 1, 25, .inl (g 16))), (v 17, .inl (G.2 1, 25, .inl (g 17))), (v 3, .inl (G.2 1, 4, .inl (g 3))), (v 4, .inl (G.2 1, 4, .inl (g 4)))])) := by
  refine Mt.start (by decide) (Nat.le_of_ble_eq_true rfl) ?_
  intro p e s m below meth c A ls C0 hini h hl
  have C0 : Cx p s m _ meth c RX0 cX0_clear 1 none := C0
  obtain ⟨hx, hb, hml, hown, hts, -⟩ := id C0
  have hl : lv_has ls 1 [(0, .ref a)] := hl
  refine lv_aload_n hx hb dX0_clear_0 rfl (lv_at hl 0 rfl) ?_
  refine g_X0_priceLaw C0 h 0 q_242 rfl rfl dX0_clear_1 ?_
  refine m_clv (wr := [(a, .inr (0, [.ref (v 0), .ref (v 1), .ref (v 2), .ref (v 3), .ref (v 4), .int 0, .int 0, .int 0, .int 0])), (v 1, .inr (4, [.ref (v 8), .ref (v 9), .ref (v 10), .int 0, .int 0])), (v 2, .inr (1, [.ref (v 11), .ref (v 12), .ref (v 13), .ref (v 14), .ref (v 15), .ref (v 16), .ref (v 17), .int 0, .int 0])), (v 15, .inl (G.2 1, 5, .inl (fun _ => 0))), (v 16, .inl (G.2 1, 25, .inl (fun _ => 0))), (v 17, .inl (G.2 1, 25, .inl (fun _ => 0))), (v 3, .inl (G.2 1, 4, .inl (fun _ => 0))), (v 4, .inl (G.2 1, 4, .inl (fun _ => 0)))]) h (m_rV (ci := 4) (q0 := 1) (As := []) (rest := []) C0 h (c_X4_clear l G (v 0) (v 5) (v 6) (v 7)) k_X4_clear q_603 q_604 q_602 rfl rfl rfl [1] (by decide) rfl hl.1 rfl rfl (Nat.le_of_ble_eq_true rfl) dX0_clear_4 ⟨Nat.le_of_ble_eq_true rfl, Nat.le_of_ble_eq_true rfl⟩ ⟨Nat.le_of_ble_eq_true rfl, Nat.le_of_ble_eq_true rfl⟩) [1] [0, 2, 3, 4, 5, 6, 7, 8] rfl rfl (by decide) (by decide) (fun u_1 H locs hp_2 h => ?_)
  have h : Wd G A s _ _ [(a, .inr (0, [.ref (v 0), .ref (v 1), .ref (v 2), .ref (v 3), .ref (v 4), .int 0, .int 0, .int 0, .int 0])), (v 1, .inr (4, [.ref (v 8), .ref (v 9), .ref (v 10), .int 0, .int 0])), (v 2, .inr (1, [.ref (v 11), .ref (v 12), .ref (v 13), .ref (v 14), .ref (v 15), .ref (v 16), .ref (v 17), .int 0, .int 0])), (v 15, .inl (G.2 1, 5, .inl (fun _ => 0))), (v 16, .inl (G.2 1, 25, .inl (fun _ => 0))), (v 17, .inl (G.2 1, 25, .inl (fun _ => 0))), (v 3, .inl (G.2 1, 4, .inl (fun _ => 0))), (v 4, .inl (G.2 1, 4, .inl (fun _ => 0))), (v 0, .inr (4, [.ref (v 5), .ref (v 6), .ref (v 7), .int 0, .int 0]))] := h
  refine lv_aload_n hx hb dX0_clear_7 rfl (lv_at hl 0 rfl) ?_
  refine g_X0_mayLaw C0 h 0 q_244 rfl rfl dX0_clear_8 ?_
  refine m_clv (wr := [(a, .inr (0, [.ref (v 0), .ref (v 1), .ref (v 2), .ref (v 3), .ref (v 4), .int 0, .int 0, .int 0, .int 0])), (v 2, .inr (1, [.ref (v 11), .ref (v 12), .ref (v 13), .ref (v 14), .ref (v 15), .ref (v 16), .ref (v 17), .int 0, .int 0])), (v 15, .inl (G.2 1, 5, .inl (fun _ => 0))), (v 16, .inl (G.2 1, 25, .inl (fun _ => 0))), (v 17, .inl (G.2 1, 25, .inl (fun _ => 0))), (v 3, .inl (G.2 1, 4, .inl (fun _ => 0))), (v 4, .inl (G.2 1, 4, .inl (fun _ => 0))), (v 0, .inr (4, [.ref (v 5), .ref (v 6), .ref (v 7), .int 0, .int 0]))]) h (m_rV (ci := 4) (q0 := 1) (As := []) (rest := []) C0 h (c_X4_clear l G (v 1) (v 8) (v 9) (v 10)) k_X4_clear q_603 q_604 q_602 rfl rfl rfl [1] (by decide) rfl hl.1 rfl rfl (Nat.le_of_ble_eq_true rfl) dX0_clear_11 ⟨Nat.le_of_ble_eq_true rfl, Nat.le_of_ble_eq_true rfl⟩ ⟨Nat.le_of_ble_eq_true rfl, Nat.le_of_ble_eq_true rfl⟩) [1] [0, 2, 3, 4, 5, 6, 7, 8] rfl rfl (by decide) (by decide) (fun u_3 H locs hp_4 h => ?_)
  have h : Wd G A s _ _ [(a, .inr (0, [.ref (v 0), .ref (v 1), .ref (v 2), .ref (v 3), .ref (v 4), .int 0, .int 0, .int 0, .int 0])), (v 2, .inr (1, [.ref (v 11), .ref (v 12), .ref (v 13), .ref (v 14), .ref (v 15), .ref (v 16), .ref (v 17), .int 0, .int 0])), (v 15, .inl (G.2 1, 5, .inl (fun _ => 0))), (v 16, .inl (G.2 1, 25, .inl (fun _ => 0))), (v 17, .inl (G.2 1, 25, .inl (fun _ => 0))), (v 3, .inl (G.2 1, 4, .inl (fun _ => 0))), (v 4, .inl (G.2 1, 4, .inl (fun _ => 0))), (v 0, .inr (4, [.ref (v 5), .ref (v 6), .ref (v 7), .int 0, .int 0])), (v 1, .inr (4, [.ref (v 8), .ref (v 9), .ref (v 10), .int 0, .int 0]))] := h
  refine lv_aload_n hx hb dX0_clear_14 rfl (lv_at hl 0 rfl) ?_
  refine g_X0_folk C0 h 0 q_247 rfl rfl dX0_clear_15 ?_
  refine m_clv (wr := [(a, .inr (0, [.ref (v 0), .ref (v 1), .ref (v 2), .ref (v 3), .ref (v 4), .int 0, .int 0, .int 0, .int 0])), (v 3, .inl (G.2 1, 4, .inl (fun _ => 0))), (v 4, .inl (G.2 1, 4, .inl (fun _ => 0))), (v 0, .inr (4, [.ref (v 5), .ref (v 6), .ref (v 7), .int 0, .int 0])), (v 1, .inr (4, [.ref (v 8), .ref (v 9), .ref (v 10), .int 0, .int 0]))]) h (m_rV (ci := 1) (q0 := 1) (As := []) (rest := []) C0 h (c_X1_clear l G (v 2) (v 11) (v 12) (v 13) (v 14) (v 15) (v 16) (v 17) (fun _ => 0) (fun _ => 0) (fun _ => 0)) k_X1_clear q_607 q_608 q_606 rfl rfl rfl [1, 2, 3, 4] (by decide) rfl hl.1 rfl rfl (Nat.le_of_ble_eq_true rfl) dX0_clear_18 ⟨Nat.le_of_ble_eq_true rfl, Nat.le_of_ble_eq_true rfl⟩ ⟨Nat.le_of_ble_eq_true rfl, Nat.le_of_ble_eq_true rfl⟩) [1, 2, 3, 4] [0, 5, 6, 7, 8] rfl rfl (by decide) (by decide) (fun u_5 H locs hp_6 h => ?_)
  have h : Wd G A s _ _ [(a, .inr (0, [.ref (v 0), .ref (v 1), .ref (v 2), .ref (v 3), .ref (v 4), .int 0, .int 0, .int 0, .int 0])), (v 3, .inl (G.2 1, 4, .inl (fun _ => 0))), (v 4, .inl (G.2 1, 4, .inl (fun _ => 0))), (v 0, .inr (4, [.ref (v 5), .ref (v 6), .ref (v 7), .int 0, .int 0])), (v 1, .inr (4, [.ref (v 8), .ref (v 9), .ref (v 10), .int 0, .int 0])), (v 2, .inr (1, [.ref (v 11), .ref (v 12), .ref (v 13), .ref (v 14), .ref (v 15), .ref (v 16), .ref (v 17), .int 0, .int 0])), (v 15, .inl (G.2 1, 5, .inl (u_5 4))), (v 16, .inl (G.2 1, 25, .inl (u_5 5))), (v 17, .inl (G.2 1, 25, .inl (u_5 6)))] := h
  refine lv_aload_n hx hb dX0_clear_21 rfl (lv_at hl 0 rfl) ?_
  refine g_X0_streets C0 h 0 q_252 rfl rfl dX0_clear_22 ?_
  refine lv_iconst (v := 0) hx hb dX0_clear_25 (by decide) ?_
  refine m_clv (wr := [(a, .inr (0, [.ref (v 0), .ref (v 1), .ref (v 2), .ref (v 3), .ref (v 4), .int 0, .int 0, .int 0, .int 0])), (v 4, .inl (G.2 1, 4, .inl (fun _ => 0))), (v 0, .inr (4, [.ref (v 5), .ref (v 6), .ref (v 7), .int 0, .int 0])), (v 1, .inr (4, [.ref (v 8), .ref (v 9), .ref (v 10), .int 0, .int 0])), (v 2, .inr (1, [.ref (v 11), .ref (v 12), .ref (v 13), .ref (v 14), .ref (v 15), .ref (v 16), .ref (v 17), .int 0, .int 0])), (v 15, .inl (G.2 1, 5, .inl (u_5 4))), (v 16, .inl (G.2 1, 25, .inl (u_5 5))), (v 17, .inl (G.2 1, 25, .inl (u_5 6)))]) h (m_rS (As := [.ref (v 3), .int 0]) (rest := []) C0 h (c_J7_fill_53178 l G (v 3) 4 (fun _ => 0) 0 (by decide)) k_J7_fill_53178 q_611 q_613 [1] (by decide) rfl hl.1 rfl rfl (Nat.le_of_ble_eq_true rfl) dX0_clear_26 ⟨Nat.le_of_ble_eq_true rfl, Nat.le_of_ble_eq_true rfl⟩ ⟨Nat.le_of_ble_eq_true rfl, Nat.le_of_ble_eq_true rfl⟩) [1] [0, 2, 3, 4, 5, 6, 7, 8] rfl rfl (by decide) (by decide) (fun u_7 H locs hp_8 h => ?_)
  have h : Wd G A s _ _ [(a, .inr (0, [.ref (v 0), .ref (v 1), .ref (v 2), .ref (v 3), .ref (v 4), .int 0, .int 0, .int 0, .int 0])), (v 4, .inl (G.2 1, 4, .inl (fun _ => 0))), (v 0, .inr (4, [.ref (v 5), .ref (v 6), .ref (v 7), .int 0, .int 0])), (v 1, .inr (4, [.ref (v 8), .ref (v 9), .ref (v 10), .int 0, .int 0])), (v 2, .inr (1, [.ref (v 11), .ref (v 12), .ref (v 13), .ref (v 14), .ref (v 15), .ref (v 16), .ref (v 17), .int 0, .int 0])), (v 15, .inl (G.2 1, 5, .inl (u_5 4))), (v 16, .inl (G.2 1, 25, .inl (u_5 5))), (v 17, .inl (G.2 1, 25, .inl (u_5 6))), (v 3, .inl (G.2 1, 4, .inl u_7))] := h
  refine lv_aload_n hx hb dX0_clear_29 rfl (lv_at hl 0 rfl) ?_
  refine g_X0_strides C0 h 0 q_255 rfl rfl dX0_clear_30 ?_
  refine lv_iconst (v := 0) hx hb dX0_clear_33 (by decide) ?_
  refine m_clv (wr := [(a, .inr (0, [.ref (v 0), .ref (v 1), .ref (v 2), .ref (v 3), .ref (v 4), .int 0, .int 0, .int 0, .int 0])), (v 0, .inr (4, [.ref (v 5), .ref (v 6), .ref (v 7), .int 0, .int 0])), (v 1, .inr (4, [.ref (v 8), .ref (v 9), .ref (v 10), .int 0, .int 0])), (v 2, .inr (1, [.ref (v 11), .ref (v 12), .ref (v 13), .ref (v 14), .ref (v 15), .ref (v 16), .ref (v 17), .int 0, .int 0])), (v 15, .inl (G.2 1, 5, .inl (u_5 4))), (v 16, .inl (G.2 1, 25, .inl (u_5 5))), (v 17, .inl (G.2 1, 25, .inl (u_5 6))), (v 3, .inl (G.2 1, 4, .inl u_7))]) h (m_rS (As := [.ref (v 4), .int 0]) (rest := []) C0 h (c_J7_fill_53178 l G (v 4) 4 (fun _ => 0) 0 (by decide)) k_J7_fill_53178 q_611 q_613 [1] (by decide) rfl hl.1 rfl rfl (Nat.le_of_ble_eq_true rfl) dX0_clear_34 ⟨Nat.le_of_ble_eq_true rfl, Nat.le_of_ble_eq_true rfl⟩ ⟨Nat.le_of_ble_eq_true rfl, Nat.le_of_ble_eq_true rfl⟩) [1] [0, 2, 3, 4, 5, 6, 7, 8] rfl rfl (by decide) (by decide) (fun u_9 H locs hp_10 h => ?_)
  have h : Wd G A s _ _ [(a, .inr (0, [.ref (v 0), .ref (v 1), .ref (v 2), .ref (v 3), .ref (v 4), .int 0, .int 0, .int 0, .int 0])), (v 0, .inr (4, [.ref (v 5), .ref (v 6), .ref (v 7), .int 0, .int 0])), (v 1, .inr (4, [.ref (v 8), .ref (v 9), .ref (v 10), .int 0, .int 0])), (v 2, .inr (1, [.ref (v 11), .ref (v 12), .ref (v 13), .ref (v 14), .ref (v 15), .ref (v 16), .ref (v 17), .int 0, .int 0])), (v 15, .inl (G.2 1, 5, .inl (u_5 4))), (v 16, .inl (G.2 1, 25, .inl (u_5 5))), (v 17, .inl (G.2 1, 25, .inl (u_5 6))), (v 3, .inl (G.2 1, 4, .inl u_7)), (v 4, .inl (G.2 1, 4, .inl u_9))] := h
  refine lv_aload_n hx hb dX0_clear_37 rfl (lv_at hl 0 rfl) ?_
  refine lv_iconst (v := 0) hx hb dX0_clear_38 (by decide) ?_
  refine p_X0_wide (ws' := [(a, .inr (0, [.ref (v 0), .ref (v 1), .ref (v 2), .ref (v 3), .ref (v 4), .int 0, .int 0, .int 0, .int 0])), (v 0, .inr (4, [.ref (v 5), .ref (v 6), .ref (v 7), .int 0, .int 0])), (v 1, .inr (4, [.ref (v 8), .ref (v 9), .ref (v 10), .int 0, .int 0])), (v 2, .inr (1, [.ref (v 11), .ref (v 12), .ref (v 13), .ref (v 14), .ref (v 15), .ref (v 16), .ref (v 17), .int 0, .int 0])), (v 15, .inl (G.2 1, 5, .inl (u_5 4))), (v 16, .inl (G.2 1, 25, .inl (u_5 5))), (v 17, .inl (G.2 1, 25, .inl (u_5 6))), (v 3, .inl (G.2 1, 4, .inl u_7)), (v 4, .inl (G.2 1, 4, .inl u_9))]) C0 h 0 q_256 rfl (Nat.le_of_ble_eq_true rfl) rfl rfl rfl dX0_clear_39 (fun H locs h => ?_)
  refine lv_aload_n hx hb dX0_clear_42 rfl (lv_at hl 0 rfl) ?_
  refine lv_iconst (v := 0) hx hb dX0_clear_43 (by decide) ?_
  refine p_X0_high (ws' := [(a, .inr (0, [.ref (v 0), .ref (v 1), .ref (v 2), .ref (v 3), .ref (v 4), .int 0, .int 0, .int 0, .int 0])), (v 0, .inr (4, [.ref (v 5), .ref (v 6), .ref (v 7), .int 0, .int 0])), (v 1, .inr (4, [.ref (v 8), .ref (v 9), .ref (v 10), .int 0, .int 0])), (v 2, .inr (1, [.ref (v 11), .ref (v 12), .ref (v 13), .ref (v 14), .ref (v 15), .ref (v 16), .ref (v 17), .int 0, .int 0])), (v 15, .inl (G.2 1, 5, .inl (u_5 4))), (v 16, .inl (G.2 1, 25, .inl (u_5 5))), (v 17, .inl (G.2 1, 25, .inl (u_5 6))), (v 3, .inl (G.2 1, 4, .inl u_7)), (v 4, .inl (G.2 1, 4, .inl u_9))]) C0 h 0 q_260 rfl (Nat.le_of_ble_eq_true rfl) rfl rfl rfl dX0_clear_44 (fun H locs h => ?_)
  refine lv_aload_n hx hb dX0_clear_47 rfl (lv_at hl 0 rfl) ?_
  refine lv_iconst (v := 0) hx hb dX0_clear_48 (by decide) ?_
  refine p_X0_lines (ws' := [(a, .inr (0, [.ref (v 0), .ref (v 1), .ref (v 2), .ref (v 3), .ref (v 4), .int 0, .int 0, .int 0, .int 0])), (v 0, .inr (4, [.ref (v 5), .ref (v 6), .ref (v 7), .int 0, .int 0])), (v 1, .inr (4, [.ref (v 8), .ref (v 9), .ref (v 10), .int 0, .int 0])), (v 2, .inr (1, [.ref (v 11), .ref (v 12), .ref (v 13), .ref (v 14), .ref (v 15), .ref (v 16), .ref (v 17), .int 0, .int 0])), (v 15, .inl (G.2 1, 5, .inl (u_5 4))), (v 16, .inl (G.2 1, 25, .inl (u_5 5))), (v 17, .inl (G.2 1, 25, .inl (u_5 6))), (v 3, .inl (G.2 1, 4, .inl u_7)), (v 4, .inl (G.2 1, 4, .inl u_9))]) C0 h 0 q_263 rfl (Nat.le_of_ble_eq_true rfl) rfl rfl rfl dX0_clear_49 (fun H locs h => ?_)
  refine lv_aload_n hx hb dX0_clear_52 rfl (lv_at hl 0 rfl) ?_
  refine lv_iconst (v := 0) hx hb dX0_clear_53 (by decide) ?_
  refine p_X0_toldFree (ws' := [(a, .inr (0, [.ref (v 0), .ref (v 1), .ref (v 2), .ref (v 3), .ref (v 4), .int 0, .int 0, .int 0, .int 0])), (v 0, .inr (4, [.ref (v 5), .ref (v 6), .ref (v 7), .int 0, .int 0])), (v 1, .inr (4, [.ref (v 8), .ref (v 9), .ref (v 10), .int 0, .int 0])), (v 2, .inr (1, [.ref (v 11), .ref (v 12), .ref (v 13), .ref (v 14), .ref (v 15), .ref (v 16), .ref (v 17), .int 0, .int 0])), (v 15, .inl (G.2 1, 5, .inl (u_5 4))), (v 16, .inl (G.2 1, 25, .inl (u_5 5))), (v 17, .inl (G.2 1, 25, .inl (u_5 6))), (v 3, .inl (G.2 1, 4, .inl u_7)), (v 4, .inl (G.2 1, 4, .inl u_9))]) C0 h 0 q_266 rfl (Nat.le_of_ble_eq_true rfl) rfl rfl rfl dX0_clear_54 (fun H locs h => ?_)
  exact m_vret (fun k => if k = 15 then u_5 4 else if k = 16 then u_5 5 else if k = 17 then u_5 6 else if k = 3 then u_7 else if k = 4 then u_9 else (fun _ => 0)) C0 h [0, 1, 2, 3, 4, 5, 6, 7, 8] (by decide) rfl trivial (Nat.le_of_ble_eq_true rfl) (Nat.le_of_ble_eq_true rfl) dX0_clear_57
set_option maxHeartbeats 4000000 in
set_option maxRecDepth 100000 in
theorem c_X5_advance (l : Launch) (G : GG) (a : Nat) (r : Nat → Nat) (v : Nat → Nat) (z : Nat → Nat) : Mt l yX5_advance cX5_advance 1 none 0 0 0 G [.ref a] [(a, .inr (5, [.ref (r 1), .ref (z 0), .int 0, .int 0, .int 0, .int 0, .int 0, .int 0, .int 0, .int (-1), .ref (v 0)]))] (Rv (S := Unit) G (fun _ => True) (fun _ => [(a, .inr (5, [.ref (r 1), .ref (z 0), .int 0, .int 0, .int 0, .int 0, .int 0, .int 0, .int 0, .int (-1), .ref (v 0)]))])) := by
  refine Mt.start (by decide) (Nat.le_of_ble_eq_true rfl) ?_
  intro p e s m below meth c A ls C0 hini h hl
  have C0 : Cx p s m _ meth c RX5 cX5_advance 1 none := C0
  obtain ⟨hx, hb, hml, hown, hts, -⟩ := id C0
  have hl : lv_has ls 1 [(0, .ref a)] := hl
  refine lv_aload_n hx hb dX5_advance_0 rfl (lv_at hl 0 rfl) ?_
  refine g_X5_fault C0 h 0 q_378 rfl rfl dX5_advance_1 ?_
  refine lv_if_eq (tgt := 8) hx hb dX5_advance_4 (by decide) (fun c_1 => ?_) (fun c_1 => absurd c_1 (by decide))
  refine lv_aload_n hx hb dX5_advance_8 rfl (lv_at hl 0 rfl) ?_
  refine lv_aload_n hx hb dX5_advance_9 rfl (lv_at hl 0 rfl) ?_
  refine g_X5_end C0 h 0 q_376 rfl rfl dX5_advance_10 ?_
  refine p_X5_start (ws' := [(a, .inr (5, [.ref (r 1), .ref (z 0), .int 0, .int 0, .int 0, .int 0, .int 0, .int 0, .int 0, .int (-1), .ref (v 0)]))]) C0 h 0 q_375 rfl (Nat.le_of_ble_eq_true rfl) rfl rfl rfl dX5_advance_13 (fun H locs h => ?_)
  refine lv_aload_n hx hb dX5_advance_16 rfl (lv_at hl 0 rfl) ?_
  refine g_X5_start C0 h 0 q_375 rfl rfl dX5_advance_17 ?_
  refine lv_aload_n hx hb dX5_advance_20 rfl (lv_at hl 0 rfl) ?_
  refine g_X5_length C0 h 0 q_373 rfl rfl dX5_advance_21 ?_
  refine lv_icmp_ge (tgt := 68) hx hb dX5_advance_24 (by decide) (fun c_2 => ?_) (fun c_2 => absurd c_2 (by decide))
  refine lv_aload_n hx hb dX5_advance_68 rfl (lv_at hl 0 rfl) ?_
  refine lv_aload_n hx hb dX5_advance_69 rfl (lv_at hl 0 rfl) ?_
  refine g_X5_start C0 h 0 q_375 rfl rfl dX5_advance_70 ?_
  refine p_X5_end (ws' := [(a, .inr (5, [.ref (r 1), .ref (z 0), .int 0, .int 0, .int 0, .int 0, .int 0, .int 0, .int 0, .int (-1), .ref (v 0)]))]) C0 h 0 q_376 rfl (Nat.le_of_ble_eq_true rfl) rfl rfl rfl dX5_advance_73 (fun H locs h => ?_)
  refine lv_aload_n hx hb dX5_advance_76 rfl (lv_at hl 0 rfl) ?_
  refine g_X5_start C0 h 0 q_375 rfl rfl dX5_advance_77 ?_
  refine lv_aload_n hx hb dX5_advance_80 rfl (lv_at hl 0 rfl) ?_
  refine g_X5_length C0 h 0 q_373 rfl rfl dX5_advance_81 ?_
  refine lv_icmp_lt (tgt := 95) hx hb dX5_advance_84 (by decide) (fun c_3 => absurd c_3 (by decide)) (fun c_3 => ?_)
  refine lv_aload_n hx hb dX5_advance_87 rfl (lv_at hl 0 rfl) ?_
  refine lv_iconst (v := 0) hx hb dX5_advance_88 (by decide) ?_
  refine p_X5_kind (ws' := [(a, .inr (5, [.ref (r 1), .ref (z 0), .int 0, .int 0, .int 0, .int 0, .int 0, .int 0, .int 0, .int (-1), .ref (v 0)]))]) C0 h 0 q_374 rfl (Nat.le_of_ble_eq_true rfl) rfl rfl rfl dX5_advance_89 (fun H locs h => ?_)
  refine lv_goto (tgt := 308) hx hb dX5_advance_92 (by decide) ?_
  exact m_vret () C0 h [0] (by decide) rfl trivial (Nat.le_of_ble_eq_true rfl) (Nat.le_of_ble_eq_true rfl) dX5_advance_308
set_option maxHeartbeats 4000000 in
set_option maxRecDepth 100000 in
theorem c_X5_read (l : Launch) (G : GG) (a : Nat) (r : Nat → Nat) (v : Nat → Nat) (z : Nat → Nat) : Mt l yX5_read cX5_read 3 (some .int) 4 0 0 G [.ref a, .int 0] [(a, .inr (5, [.ref (r 1), .ref (z 0), .int 0, .int 0, .int 0, .int 0, .int 0, .int 0, .int 0, .int (-1), .ref (v 0)])), (r 1, .inr (0, [.ref (v 0), .ref (v 1), .ref (v 2), .ref (v 3), .ref (v 4), .int 0, .int 0, .int 0, .int 0])), (v 0, .inr (4, [.ref (v 5), .ref (v 6), .ref (v 7), .int 0, .int 0])), (v 1, .inr (4, [.ref (v 8), .ref (v 9), .ref (v 10), .int 0, .int 0])), (v 2, .inr (1, [.ref (v 11), .ref (v 12), .ref (v 13), .ref (v 14), .ref (v 15), .ref (v 16), .ref (v 17), .int 0, .int 0])), (v 15, .inl (G.2 1, 5, .inl (fun _ => 0))), (v 16, .inl (G.2 1, 25, .inl (fun _ => 0))), (v 17, .inl (G.2 1, 25, .inl (fun _ => 0))), (v 3, .inl (G.2 1, 4, .inl (fun _ => 0))), (v 4, .inl (G.2 1, 4, .inl (fun _ => 0)))] (Ri (S := (Nat → Nat → Int32)) G (fun r _ => r = 0) (fun g => [(a, .inr (5, [.ref (r 1), .ref (z 0), .int 0, .int 0, .int 0, .int 0, .int 0, .int 0, .int 0, .int (-1), .ref (v 0)])), (r 1, .inr (0, [.ref (v 0), .ref (v 1), .ref (v 2), .ref (v 3), .ref (v 4), .int 0, .int 0, .int 0, .int 0])), (v 0, .inr (4, [.ref (v 5), .ref (v 6), .ref (v 7), .int 0, .int 0])), (v 1, .inr (4, [.ref (v 8), .ref (v 9), .ref (v 10), .int 0, .int 0])), (v 2, .inr (1, [.ref (v 11), .ref (v 12), .ref (v 13), .ref (v 14), .ref (v 15), .ref (v 16), .ref (v 17), .int 0, .int 0])), (v 15, .inl (G.2 1, 5, .inl (g 15))), (v 16, .inl (G.2 1, 25, .inl (g 16))), (v 17, .inl (G.2 1, 25, .inl (g 17))), (v 3, .inl (G.2 1, 4, .inl (g 3))), (v 4, .inl (G.2 1, 4, .inl (g 4)))])) := by
  refine Mt.start (by decide) (Nat.le_of_ble_eq_true rfl) ?_
  intro p e s m below meth c A ls C0 hini h hl
  have C0 : Cx p s m _ meth c RX5 cX5_read 3 (some .int) := C0
  obtain ⟨hx, hb, hml, hown, hts, -⟩ := id C0
  have hl : lv_has ls 3 [(0, .ref a), (1, .int 0)] := hl
  refine lv_aload_n hx hb dX5_read_0 rfl (lv_at hl 0 rfl) ?_
  refine g_X5_city C0 h 0 q_370 rfl rfl dX5_read_1 ?_
  refine m_clv (wr := [(a, .inr (5, [.ref (r 1), .ref (z 0), .int 0, .int 0, .int 0, .int 0, .int 0, .int 0, .int 0, .int (-1), .ref (v 0)]))]) h (m_rV (ci := 0) (q0 := 1) (As := []) (rest := []) C0 h (c_X0_clear l G (r 1) v) k_X0_clear q_599 q_600 q_598 rfl rfl rfl [1, 2, 3, 4, 5, 6, 7, 8, 9] (by decide) rfl hl.1 rfl rfl (Nat.le_of_ble_eq_true rfl) dX5_read_4 ⟨Nat.le_of_ble_eq_true rfl, Nat.le_of_ble_eq_true rfl⟩ ⟨Nat.le_of_ble_eq_true rfl, Nat.le_of_ble_eq_true rfl⟩) [1, 2, 3, 4, 5, 6, 7, 8, 9] [0] rfl rfl (by decide) (by decide) (fun u_1 H locs hp_2 h => ?_)
  have h : Wd G A s _ _ [(a, .inr (5, [.ref (r 1), .ref (z 0), .int 0, .int 0, .int 0, .int 0, .int 0, .int 0, .int 0, .int (-1), .ref (v 0)])), (r 1, .inr (0, [.ref (v 0), .ref (v 1), .ref (v 2), .ref (v 3), .ref (v 4), .int 0, .int 0, .int 0, .int 0])), (v 0, .inr (4, [.ref (v 5), .ref (v 6), .ref (v 7), .int 0, .int 0])), (v 1, .inr (4, [.ref (v 8), .ref (v 9), .ref (v 10), .int 0, .int 0])), (v 2, .inr (1, [.ref (v 11), .ref (v 12), .ref (v 13), .ref (v 14), .ref (v 15), .ref (v 16), .ref (v 17), .int 0, .int 0])), (v 15, .inl (G.2 1, 5, .inl (u_1 15))), (v 16, .inl (G.2 1, 25, .inl (u_1 16))), (v 17, .inl (G.2 1, 25, .inl (u_1 17))), (v 3, .inl (G.2 1, 4, .inl (u_1 3))), (v 4, .inl (G.2 1, 4, .inl (u_1 4)))] := h
  refine lv_aload_n hx hb dX5_read_7 rfl (lv_at hl 0 rfl) ?_
  refine lv_iconst (v := 0) hx hb dX5_read_8 (by decide) ?_
  refine p_X5_fed (ws' := [(a, .inr (5, [.ref (r 1), .ref (z 0), .int 0, .int 0, .int 0, .int 0, .int 0, .int 0, .int 0, .int (-1), .ref (v 0)])), (r 1, .inr (0, [.ref (v 0), .ref (v 1), .ref (v 2), .ref (v 3), .ref (v 4), .int 0, .int 0, .int 0, .int 0])), (v 0, .inr (4, [.ref (v 5), .ref (v 6), .ref (v 7), .int 0, .int 0])), (v 1, .inr (4, [.ref (v 8), .ref (v 9), .ref (v 10), .int 0, .int 0])), (v 2, .inr (1, [.ref (v 11), .ref (v 12), .ref (v 13), .ref (v 14), .ref (v 15), .ref (v 16), .ref (v 17), .int 0, .int 0])), (v 15, .inl (G.2 1, 5, .inl (u_1 15))), (v 16, .inl (G.2 1, 25, .inl (u_1 16))), (v 17, .inl (G.2 1, 25, .inl (u_1 17))), (v 3, .inl (G.2 1, 4, .inl (u_1 3))), (v 4, .inl (G.2 1, 4, .inl (u_1 4)))]) C0 h 0 q_372 rfl (Nat.le_of_ble_eq_true rfl) rfl rfl rfl dX5_read_9 (fun H locs h => ?_)
  refine lv_aload_n hx hb dX5_read_12 rfl (lv_at hl 0 rfl) ?_
  refine lv_iload_n hx hb dX5_read_13 rfl (lv_at hl 1 rfl) ?_
  refine p_X5_length (ws' := [(a, .inr (5, [.ref (r 1), .ref (z 0), .int 0, .int 0, .int 0, .int 0, .int 0, .int 0, .int 0, .int (-1), .ref (v 0)])), (r 1, .inr (0, [.ref (v 0), .ref (v 1), .ref (v 2), .ref (v 3), .ref (v 4), .int 0, .int 0, .int 0, .int 0])), (v 0, .inr (4, [.ref (v 5), .ref (v 6), .ref (v 7), .int 0, .int 0])), (v 1, .inr (4, [.ref (v 8), .ref (v 9), .ref (v 10), .int 0, .int 0])), (v 2, .inr (1, [.ref (v 11), .ref (v 12), .ref (v 13), .ref (v 14), .ref (v 15), .ref (v 16), .ref (v 17), .int 0, .int 0])), (v 15, .inl (G.2 1, 5, .inl (u_1 15))), (v 16, .inl (G.2 1, 25, .inl (u_1 16))), (v 17, .inl (G.2 1, 25, .inl (u_1 17))), (v 3, .inl (G.2 1, 4, .inl (u_1 3))), (v 4, .inl (G.2 1, 4, .inl (u_1 4)))]) C0 h 0 q_373 rfl (Nat.le_of_ble_eq_true rfl) rfl rfl rfl dX5_read_14 (fun H locs h => ?_)
  refine lv_aload_n hx hb dX5_read_17 rfl (lv_at hl 0 rfl) ?_
  refine lv_iconst (v := 0) hx hb dX5_read_18 (by decide) ?_
  refine p_X5_end (ws' := [(a, .inr (5, [.ref (r 1), .ref (z 0), .int 0, .int 0, .int 0, .int 0, .int 0, .int 0, .int 0, .int (-1), .ref (v 0)])), (r 1, .inr (0, [.ref (v 0), .ref (v 1), .ref (v 2), .ref (v 3), .ref (v 4), .int 0, .int 0, .int 0, .int 0])), (v 0, .inr (4, [.ref (v 5), .ref (v 6), .ref (v 7), .int 0, .int 0])), (v 1, .inr (4, [.ref (v 8), .ref (v 9), .ref (v 10), .int 0, .int 0])), (v 2, .inr (1, [.ref (v 11), .ref (v 12), .ref (v 13), .ref (v 14), .ref (v 15), .ref (v 16), .ref (v 17), .int 0, .int 0])), (v 15, .inl (G.2 1, 5, .inl (u_1 15))), (v 16, .inl (G.2 1, 25, .inl (u_1 16))), (v 17, .inl (G.2 1, 25, .inl (u_1 17))), (v 3, .inl (G.2 1, 4, .inl (u_1 3))), (v 4, .inl (G.2 1, 4, .inl (u_1 4)))]) C0 h 0 q_376 rfl (Nat.le_of_ble_eq_true rfl) rfl rfl rfl dX5_read_19 (fun H locs h => ?_)
  refine lv_aload_n hx hb dX5_read_22 rfl (lv_at hl 0 rfl) ?_
  refine lv_iconst (v := 0) hx hb dX5_read_23 (by decide) ?_
  refine p_X5_fault (ws' := [(a, .inr (5, [.ref (r 1), .ref (z 0), .int 0, .int 0, .int 0, .int 0, .int 0, .int 0, .int 0, .int (-1), .ref (v 0)])), (r 1, .inr (0, [.ref (v 0), .ref (v 1), .ref (v 2), .ref (v 3), .ref (v 4), .int 0, .int 0, .int 0, .int 0])), (v 0, .inr (4, [.ref (v 5), .ref (v 6), .ref (v 7), .int 0, .int 0])), (v 1, .inr (4, [.ref (v 8), .ref (v 9), .ref (v 10), .int 0, .int 0])), (v 2, .inr (1, [.ref (v 11), .ref (v 12), .ref (v 13), .ref (v 14), .ref (v 15), .ref (v 16), .ref (v 17), .int 0, .int 0])), (v 15, .inl (G.2 1, 5, .inl (u_1 15))), (v 16, .inl (G.2 1, 25, .inl (u_1 16))), (v 17, .inl (G.2 1, 25, .inl (u_1 17))), (v 3, .inl (G.2 1, 4, .inl (u_1 3))), (v 4, .inl (G.2 1, 4, .inl (u_1 4)))]) C0 h 0 q_378 rfl (Nat.le_of_ble_eq_true rfl) rfl rfl rfl dX5_read_24 (fun H locs h => ?_)
  refine lv_aload_n hx hb dX5_read_27 rfl (lv_at hl 0 rfl) ?_
  refine lv_iconst (v := (-1)) hx hb dX5_read_28 (by decide) ?_
  refine p_X5_place (ws' := [(a, .inr (5, [.ref (r 1), .ref (z 0), .int 0, .int 0, .int 0, .int 0, .int 0, .int 0, .int 0, .int (-1), .ref (v 0)])), (r 1, .inr (0, [.ref (v 0), .ref (v 1), .ref (v 2), .ref (v 3), .ref (v 4), .int 0, .int 0, .int 0, .int 0])), (v 0, .inr (4, [.ref (v 5), .ref (v 6), .ref (v 7), .int 0, .int 0])), (v 1, .inr (4, [.ref (v 8), .ref (v 9), .ref (v 10), .int 0, .int 0])), (v 2, .inr (1, [.ref (v 11), .ref (v 12), .ref (v 13), .ref (v 14), .ref (v 15), .ref (v 16), .ref (v 17), .int 0, .int 0])), (v 15, .inl (G.2 1, 5, .inl (u_1 15))), (v 16, .inl (G.2 1, 25, .inl (u_1 16))), (v 17, .inl (G.2 1, 25, .inl (u_1 17))), (v 3, .inl (G.2 1, 4, .inl (u_1 3))), (v 4, .inl (G.2 1, 4, .inl (u_1 4)))]) C0 h 0 q_379 rfl (Nat.le_of_ble_eq_true rfl) rfl rfl rfl dX5_read_29 (fun H locs h => ?_)
  refine lv_aload_n hx hb dX5_read_32 rfl (lv_at hl 0 rfl) ?_
  refine m_clv (wr := [(r 1, .inr (0, [.ref (v 0), .ref (v 1), .ref (v 2), .ref (v 3), .ref (v 4), .int 0, .int 0, .int 0, .int 0])), (v 0, .inr (4, [.ref (v 5), .ref (v 6), .ref (v 7), .int 0, .int 0])), (v 1, .inr (4, [.ref (v 8), .ref (v 9), .ref (v 10), .int 0, .int 0])), (v 2, .inr (1, [.ref (v 11), .ref (v 12), .ref (v 13), .ref (v 14), .ref (v 15), .ref (v 16), .ref (v 17), .int 0, .int 0])), (v 15, .inl (G.2 1, 5, .inl (u_1 15))), (v 16, .inl (G.2 1, 25, .inl (u_1 16))), (v 17, .inl (G.2 1, 25, .inl (u_1 17))), (v 3, .inl (G.2 1, 4, .inl (u_1 3))), (v 4, .inl (G.2 1, 4, .inl (u_1 4)))]) h (m_rV (ci := 5) (q0 := 0) (As := []) (rest := []) C0 h (c_X5_advance l G a r v z) k_X5_advance q_616 q_0 q_614 rfl rfl rfl [0] (by decide) rfl hl.1 rfl rfl (Nat.le_of_ble_eq_true rfl) dX5_read_33 ⟨Nat.le_of_ble_eq_true rfl, Nat.le_of_ble_eq_true rfl⟩ ⟨Nat.le_of_ble_eq_true rfl, Nat.le_of_ble_eq_true rfl⟩) [0] [1, 2, 3, 4, 5, 6, 7, 8, 9] rfl rfl (by decide) (by decide) (fun u_3 H locs hp_4 h => ?_)
  have h : Wd G A s _ _ [(r 1, .inr (0, [.ref (v 0), .ref (v 1), .ref (v 2), .ref (v 3), .ref (v 4), .int 0, .int 0, .int 0, .int 0])), (v 0, .inr (4, [.ref (v 5), .ref (v 6), .ref (v 7), .int 0, .int 0])), (v 1, .inr (4, [.ref (v 8), .ref (v 9), .ref (v 10), .int 0, .int 0])), (v 2, .inr (1, [.ref (v 11), .ref (v 12), .ref (v 13), .ref (v 14), .ref (v 15), .ref (v 16), .ref (v 17), .int 0, .int 0])), (v 15, .inl (G.2 1, 5, .inl (u_1 15))), (v 16, .inl (G.2 1, 25, .inl (u_1 16))), (v 17, .inl (G.2 1, 25, .inl (u_1 17))), (v 3, .inl (G.2 1, 4, .inl (u_1 3))), (v 4, .inl (G.2 1, 4, .inl (u_1 4))), (a, .inr (5, [.ref (r 1), .ref (z 0), .int 0, .int 0, .int 0, .int 0, .int 0, .int 0, .int 0, .int (-1), .ref (v 0)]))] := h
  refine lv_iconst (v := 0) hx hb dX5_read_36 (by decide) ?_
  refine lv_istore_n (lv' := [(2, .int 0), (0, .ref a), (1, .int 0)]) hx hb dX5_read_37 rfl hl (by decide) rfl (fun ls hl => ?_)
  refine lv_iload_n hx hb dX5_read_38 rfl (lv_at hl 0 rfl) ?_
  refine lv_sipush (v := 900) hx hb dX5_read_39 (by decide) ?_
  refine lv_icmp_ge (tgt := 81) hx hb dX5_read_42 (by decide) (fun c_5 => absurd c_5 (by decide)) (fun c_5 => ?_)
  refine lv_aload_n hx hb dX5_read_45 rfl (lv_at hl 1 rfl) ?_
  refine g_X5_kind C0 h 9 q_374 rfl rfl dX5_read_46 ?_
  refine lv_if_eq (tgt := 81) hx hb dX5_read_49 (by decide) (fun c_6 => ?_) (fun c_6 => absurd c_6 (by decide))
  refine lv_aload_n hx hb dX5_read_81 rfl (lv_at hl 1 rfl) ?_
  refine g_X5_fault C0 h 9 q_378 rfl rfl dX5_read_82 ?_
  exact m_iret u_1 C0 h [9, 0, 1, 2, 3, 4, 5, 6, 7, 8] (by decide) rfl rfl (Nat.le_of_ble_eq_true rfl) (Nat.le_of_ble_eq_true rfl) dX5_read_85
set_option maxHeartbeats 4000000 in
set_option maxRecDepth 100000 in
theorem c_X11_startAnew (l : Launch) (G : GG) (x : Nat) (r : Nat → Nat) (z : Nat → Nat) : Mt l yX11_startAnew cX11_startAnew 1 none 2 0 0 G [.ref x] [(x, .inr (11, [.ref (r 0), .ref (r 1), .ref (r 2), .ref (r 3), .ref (r 4), .ref (r 5), .ref (r 6), .ref (r 7), .ref (r 8), .ref (r 9), .ref (r 10), .ref (r 11), .ref (r 12), .ref (r 13), .ref (r 14), .ref (r 15), .int 0, .int 0, .int 0])), (r 3, .inr (2, [.ref (r 0), .ref (z 1), .ref (z 2), .ref (z 3), .int 0])), (r 8, .inr (3, [.ref (r 0), .ref (z 21), .ref (z 22), .int 0, .int 0]))] (Rv (S := Unit) G (fun _ => True) (fun _ => [(x, .inr (11, [.ref (r 0), .ref (r 1), .ref (r 2), .ref (r 3), .ref (r 4), .ref (r 5), .ref (r 6), .ref (r 7), .ref (r 8), .ref (r 9), .ref (r 10), .ref (r 11), .ref (r 12), .ref (r 13), .ref (r 14), .ref (r 15), .int 0, .int 0, .int 0]))])) := by
  refine Mt.start (by decide) (Nat.le_of_ble_eq_true rfl) ?_
  intro p e s m below meth c A ls C0 hini h hl
  have C0 : Cx p s m _ meth c RX11 cX11_startAnew 1 none := C0
  obtain ⟨hx, hb, hml, hown, hts, -⟩ := id C0
  have hl : lv_has ls 1 [(0, .ref x)] := hl
  refine lv_aload_n hx hb dX11_startAnew_0 rfl (lv_at hl 0 rfl) ?_
  refine lv_iconst (v := 0) hx hb dX11_startAnew_1 (by decide) ?_
  refine p_X11_pastSize (ws' := [(x, .inr (11, [.ref (r 0), .ref (r 1), .ref (r 2), .ref (r 3), .ref (r 4), .ref (r 5), .ref (r 6), .ref (r 7), .ref (r 8), .ref (r 9), .ref (r 10), .ref (r 11), .ref (r 12), .ref (r 13), .ref (r 14), .ref (r 15), .int 0, .int 0, .int 0])), (r 3, .inr (2, [.ref (r 0), .ref (z 1), .ref (z 2), .ref (z 3), .int 0])), (r 8, .inr (3, [.ref (r 0), .ref (z 21), .ref (z 22), .int 0, .int 0]))]) C0 h 0 q_532 rfl (Nat.le_of_ble_eq_true rfl) rfl rfl rfl dX11_startAnew_2 (fun H locs h => ?_)
  refine lv_aload_n hx hb dX11_startAnew_5 rfl (lv_at hl 0 rfl) ?_
  refine g_X11_forecast C0 h 0 q_518 rfl rfl dX11_startAnew_6 ?_
  refine m_clv (wr := [(x, .inr (11, [.ref (r 0), .ref (r 1), .ref (r 2), .ref (r 3), .ref (r 4), .ref (r 5), .ref (r 6), .ref (r 7), .ref (r 8), .ref (r 9), .ref (r 10), .ref (r 11), .ref (r 12), .ref (r 13), .ref (r 14), .ref (r 15), .int 0, .int 0, .int 0])), (r 8, .inr (3, [.ref (r 0), .ref (z 21), .ref (z 22), .int 0, .int 0]))]) h (m_rV (ci := 2) (q0 := 1) (As := []) (rest := []) C0 h (c_X2_forget l G (r 3) (r 0) (z 1) (z 2) (z 3)) k_X2_forget q_878 q_879 q_877 rfl rfl rfl [1] (by decide) rfl hl.1 rfl rfl (Nat.le_of_ble_eq_true rfl) dX11_startAnew_9 ⟨Nat.le_of_ble_eq_true rfl, Nat.le_of_ble_eq_true rfl⟩ ⟨Nat.le_of_ble_eq_true rfl, Nat.le_of_ble_eq_true rfl⟩) [1] [0, 2] rfl rfl (by decide) (by decide) (fun u_1 H locs hp_2 h => ?_)
  have h : Wd G A s _ _ [(x, .inr (11, [.ref (r 0), .ref (r 1), .ref (r 2), .ref (r 3), .ref (r 4), .ref (r 5), .ref (r 6), .ref (r 7), .ref (r 8), .ref (r 9), .ref (r 10), .ref (r 11), .ref (r 12), .ref (r 13), .ref (r 14), .ref (r 15), .int 0, .int 0, .int 0])), (r 8, .inr (3, [.ref (r 0), .ref (z 21), .ref (z 22), .int 0, .int 0]))] := h
  refine lv_aload_n hx hb dX11_startAnew_12 rfl (lv_at hl 0 rfl) ?_
  refine g_X11_hunt C0 h 0 q_523 rfl rfl dX11_startAnew_13 ?_
  refine m_clv (wr := [(x, .inr (11, [.ref (r 0), .ref (r 1), .ref (r 2), .ref (r 3), .ref (r 4), .ref (r 5), .ref (r 6), .ref (r 7), .ref (r 8), .ref (r 9), .ref (r 10), .ref (r 11), .ref (r 12), .ref (r 13), .ref (r 14), .ref (r 15), .int 0, .int 0, .int 0]))]) h (m_rV (ci := 3) (q0 := 1) (As := []) (rest := []) C0 h (c_X3_forget l G (r 8) (r 0) (z 21) (z 22)) k_X3_forget q_882 q_883 q_881 rfl rfl rfl [1] (by decide) rfl hl.1 rfl rfl (Nat.le_of_ble_eq_true rfl) dX11_startAnew_16 ⟨Nat.le_of_ble_eq_true rfl, Nat.le_of_ble_eq_true rfl⟩ ⟨Nat.le_of_ble_eq_true rfl, Nat.le_of_ble_eq_true rfl⟩) [1] [0] rfl rfl (by decide) (by decide) (fun u_3 H locs hp_4 h => ?_)
  have h : Wd G A s _ _ [(x, .inr (11, [.ref (r 0), .ref (r 1), .ref (r 2), .ref (r 3), .ref (r 4), .ref (r 5), .ref (r 6), .ref (r 7), .ref (r 8), .ref (r 9), .ref (r 10), .ref (r 11), .ref (r 12), .ref (r 13), .ref (r 14), .ref (r 15), .int 0, .int 0, .int 0]))] := h
  exact m_vret () C0 h [0] (by decide) rfl trivial (Nat.le_of_ble_eq_true rfl) (Nat.le_of_ble_eq_true rfl) dX11_startAnew_19
set_option maxHeartbeats 4000000 in
set_option maxRecDepth 100000 in
theorem c_X11_city (l : Launch) (G : GG) (x : Nat) (r : Nat → Nat) (u : Nat → Nat) (v : Nat → Nat) (z : Nat → Nat) (p0 : Int32) : Mt l yX11_city cX11_city 3 (some .int) 5 0 0 G [.ref x, .int p0] [(x, .inr (11, [.ref (r 0), .ref (r 1), .ref (r 2), .ref (r 3), .ref (r 4), .ref (r 5), .ref (r 6), .ref (r 7), .ref (r 8), .ref (r 9), .ref (r 10), .ref (r 11), .ref (r 12), .ref (r 13), .ref (r 14), .ref (r 15), .int 0, .int 0, .int 0])), (r 2, .inr (5, [.ref (r 1), .ref (z 0), .int 0, .int 0, .int 0, .int 0, .int 0, .int 0, .int 0, .int (-1), .ref (v 0)])), (r 1, .inr (0, [.ref (v 0), .ref (v 1), .ref (v 2), .ref (v 3), .ref (v 4), .int 0, .int 0, .int 0, .int 0])), (v 0, .inr (4, [.ref (v 5), .ref (v 6), .ref (v 7), .int 0, .int 0])), (v 5, .inl (G.2 1, 900, .inl (fun _ => 0))), (v 1, .inr (4, [.ref (v 8), .ref (v 9), .ref (v 10), .int 0, .int 0])), (v 8, .inl (G.2 1, 900, .inl (fun _ => 0))), (v 2, .inr (1, [.ref (v 11), .ref (v 12), .ref (v 13), .ref (v 14), .ref (v 15), .ref (v 16), .ref (v 17), .int 0, .int 0])), (v 11, .inl (G.2 1, 5, .inl (fun _ => 0))), (v 12, .inl (G.2 1, 5, .inl (fun _ => 0))), (v 13, .inl (G.2 1, 5, .inl (fun _ => 0))), (v 14, .inl (G.2 1, 5, .inl (fun _ => 0))), (v 15, .inl (G.2 1, 5, .inl (fun _ => 0))), (v 16, .inl (G.2 1, 25, .inl (fun _ => 0))), (v 17, .inl (G.2 1, 25, .inl (fun _ => 0))), (v 3, .inl (G.2 1, 4, .inl (fun _ => 0))), (v 4, .inl (G.2 1, 4, .inl (fun _ => 0))), (r 0, .inr (0, [.ref (u 0), .ref (u 1), .ref (u 2), .ref (u 3), .ref (u 4), .int 0, .int 0, .int 0, .int 0])), (u 0, .inr (4, [.ref (u 5), .ref (u 6), .ref (u 7), .int 0, .int 0])), (u 5, .inl (G.2 1, 900, .inl (fun _ => 0))), (u 1, .inr (4, [.ref (u 8), .ref (u 9), .ref (u 10), .int 0, .int 0])), (u 8, .inl (G.2 1, 900, .inl (fun _ => 0))), (u 2, .inr (1, [.ref (u 11), .ref (u 12), .ref (u 13), .ref (u 14), .ref (u 15), .ref (u 16), .ref (u 17), .int 0, .int 0])), (u 11, .inl (G.2 1, 5, .inl (fun _ => 0))), (u 12, .inl (G.2 1, 5, .inl (fun _ => 0))), (u 13, .inl (G.2 1, 5, .inl (fun _ => 0))), (u 14, .inl (G.2 1, 5, .inl (fun _ => 0))), (u 15, .inl (G.2 1, 5, .inl (fun _ => 0))), (u 16, .inl (G.2 1, 25, .inl (fun _ => 0))), (u 17, .inl (G.2 1, 25, .inl (fun _ => 0))), (u 3, .inl (G.2 1, 4, .inl (fun _ => 0))), (u 4, .inl (G.2 1, 4, .inl (fun _ => 0))), (r 3, .inr (2, [.ref (r 0), .ref (z 1), .ref (z 2), .ref (z 3), .int 0])), (r 8, .inr (3, [.ref (r 0), .ref (z 21), .ref (z 22), .int 0, .int 0]))] (Ri (S := Unit) G (fun r _ => r = sp_city p0) (fun _ => [])) := by
  refine Mt.start (by decide) (Nat.le_of_ble_eq_true rfl) ?_
  intro p e s m below meth c A ls C0 hini h hl
  have C0 : Cx p s m _ meth c RX11 cX11_city 3 (some .int) := C0
  obtain ⟨hx, hb, hml, hown, hts, -⟩ := id C0
  have hl : lv_has ls 3 [(0, .ref x), (1, .int p0)] := hl
  refine lv_iload_n hx hb dX11_city_0 rfl (lv_at hl 1 rfl) ?_
  refine lv_if_lt (tgt := 15) hx hb dX11_city_1 (by decide) (fun c_1 => ?_) (fun c_1 => ?_)
  · -- 1 p0 < 0
    refine lv_bipush (v := (-3)) hx hb dX11_city_15 (by decide) ?_
    exact m_iret () C0 h [] (by decide) rfl (by unfold sp_city; grind) (Nat.le_of_ble_eq_true rfl) (Nat.le_of_ble_eq_true rfl) dX11_city_17
  · -- 1 ¬ p0 < 0
    refine lv_iload_n hx hb dX11_city_4 rfl (lv_at hl 1 rfl) ?_
    refine lv_aload_n hx hb dX11_city_5 rfl (lv_at hl 0 rfl) ?_
    refine g_X11_reader C0 h 0 q_517 rfl rfl dX11_city_6 ?_
    refine m_cli (wr := [(x, .inr (11, [.ref (r 0), .ref (r 1), .ref (r 2), .ref (r 3), .ref (r 4), .ref (r 5), .ref (r 6), .ref (r 7), .ref (r 8), .ref (r 9), .ref (r 10), .ref (r 11), .ref (r 12), .ref (r 13), .ref (r 14), .ref (r 15), .int 0, .int 0, .int 0])), (r 1, .inr (0, [.ref (v 0), .ref (v 1), .ref (v 2), .ref (v 3), .ref (v 4), .int 0, .int 0, .int 0, .int 0])), (v 0, .inr (4, [.ref (v 5), .ref (v 6), .ref (v 7), .int 0, .int 0])), (v 5, .inl (G.2 1, 900, .inl (fun _ => 0))), (v 1, .inr (4, [.ref (v 8), .ref (v 9), .ref (v 10), .int 0, .int 0])), (v 8, .inl (G.2 1, 900, .inl (fun _ => 0))), (v 2, .inr (1, [.ref (v 11), .ref (v 12), .ref (v 13), .ref (v 14), .ref (v 15), .ref (v 16), .ref (v 17), .int 0, .int 0])), (v 11, .inl (G.2 1, 5, .inl (fun _ => 0))), (v 12, .inl (G.2 1, 5, .inl (fun _ => 0))), (v 13, .inl (G.2 1, 5, .inl (fun _ => 0))), (v 14, .inl (G.2 1, 5, .inl (fun _ => 0))), (v 15, .inl (G.2 1, 5, .inl (fun _ => 0))), (v 16, .inl (G.2 1, 25, .inl (fun _ => 0))), (v 17, .inl (G.2 1, 25, .inl (fun _ => 0))), (v 3, .inl (G.2 1, 4, .inl (fun _ => 0))), (v 4, .inl (G.2 1, 4, .inl (fun _ => 0))), (r 0, .inr (0, [.ref (u 0), .ref (u 1), .ref (u 2), .ref (u 3), .ref (u 4), .int 0, .int 0, .int 0, .int 0])), (u 0, .inr (4, [.ref (u 5), .ref (u 6), .ref (u 7), .int 0, .int 0])), (u 5, .inl (G.2 1, 900, .inl (fun _ => 0))), (u 1, .inr (4, [.ref (u 8), .ref (u 9), .ref (u 10), .int 0, .int 0])), (u 8, .inl (G.2 1, 900, .inl (fun _ => 0))), (u 2, .inr (1, [.ref (u 11), .ref (u 12), .ref (u 13), .ref (u 14), .ref (u 15), .ref (u 16), .ref (u 17), .int 0, .int 0])), (u 11, .inl (G.2 1, 5, .inl (fun _ => 0))), (u 12, .inl (G.2 1, 5, .inl (fun _ => 0))), (u 13, .inl (G.2 1, 5, .inl (fun _ => 0))), (u 14, .inl (G.2 1, 5, .inl (fun _ => 0))), (u 15, .inl (G.2 1, 5, .inl (fun _ => 0))), (u 16, .inl (G.2 1, 25, .inl (fun _ => 0))), (u 17, .inl (G.2 1, 25, .inl (fun _ => 0))), (u 3, .inl (G.2 1, 4, .inl (fun _ => 0))), (u 4, .inl (G.2 1, 4, .inl (fun _ => 0))), (r 3, .inr (2, [.ref (r 0), .ref (z 1), .ref (z 2), .ref (z 3), .int 0])), (r 8, .inr (3, [.ref (r 0), .ref (z 21), .ref (z 22), .int 0, .int 0]))]) h (m_rV (ci := 5) (q0 := 1) (As := []) (rest := [.int p0]) C0 h (c_X5_fed_0 l G (r 2) r v z) k_X5_fed q_587 q_588 q_586 rfl rfl rfl [1] (by decide) rfl hl.1 rfl rfl (Nat.le_of_ble_eq_true rfl) dX11_city_9 ⟨Nat.le_of_ble_eq_true rfl, Nat.le_of_ble_eq_true rfl⟩ ⟨Nat.le_of_ble_eq_true rfl, Nat.le_of_ble_eq_true rfl⟩) [1] [0, 2, 3, 4, 5, 6, 7, 8, 9, 10, 11, 12, 13, 14, 15, 16, 17, 18, 19, 20, 21, 22, 23, 24, 25, 26, 27, 28, 29, 30, 31, 32, 33] rfl rfl (by decide) (by decide) (fun r_4 u_2 H locs hp_3 h => ?_)
    have h : Wd G A s _ _ [(x, .inr (11, [.ref (r 0), .ref (r 1), .ref (r 2), .ref (r 3), .ref (r 4), .ref (r 5), .ref (r 6), .ref (r 7), .ref (r 8), .ref (r 9), .ref (r 10), .ref (r 11), .ref (r 12), .ref (r 13), .ref (r 14), .ref (r 15), .int 0, .int 0, .int 0])), (r 1, .inr (0, [.ref (v 0), .ref (v 1), .ref (v 2), .ref (v 3), .ref (v 4), .int 0, .int 0, .int 0, .int 0])), (v 0, .inr (4, [.ref (v 5), .ref (v 6), .ref (v 7), .int 0, .int 0])), (v 5, .inl (G.2 1, 900, .inl (fun _ => 0))), (v 1, .inr (4, [.ref (v 8), .ref (v 9), .ref (v 10), .int 0, .int 0])), (v 8, .inl (G.2 1, 900, .inl (fun _ => 0))), (v 2, .inr (1, [.ref (v 11), .ref (v 12), .ref (v 13), .ref (v 14), .ref (v 15), .ref (v 16), .ref (v 17), .int 0, .int 0])), (v 11, .inl (G.2 1, 5, .inl (fun _ => 0))), (v 12, .inl (G.2 1, 5, .inl (fun _ => 0))), (v 13, .inl (G.2 1, 5, .inl (fun _ => 0))), (v 14, .inl (G.2 1, 5, .inl (fun _ => 0))), (v 15, .inl (G.2 1, 5, .inl (fun _ => 0))), (v 16, .inl (G.2 1, 25, .inl (fun _ => 0))), (v 17, .inl (G.2 1, 25, .inl (fun _ => 0))), (v 3, .inl (G.2 1, 4, .inl (fun _ => 0))), (v 4, .inl (G.2 1, 4, .inl (fun _ => 0))), (r 0, .inr (0, [.ref (u 0), .ref (u 1), .ref (u 2), .ref (u 3), .ref (u 4), .int 0, .int 0, .int 0, .int 0])), (u 0, .inr (4, [.ref (u 5), .ref (u 6), .ref (u 7), .int 0, .int 0])), (u 5, .inl (G.2 1, 900, .inl (fun _ => 0))), (u 1, .inr (4, [.ref (u 8), .ref (u 9), .ref (u 10), .int 0, .int 0])), (u 8, .inl (G.2 1, 900, .inl (fun _ => 0))), (u 2, .inr (1, [.ref (u 11), .ref (u 12), .ref (u 13), .ref (u 14), .ref (u 15), .ref (u 16), .ref (u 17), .int 0, .int 0])), (u 11, .inl (G.2 1, 5, .inl (fun _ => 0))), (u 12, .inl (G.2 1, 5, .inl (fun _ => 0))), (u 13, .inl (G.2 1, 5, .inl (fun _ => 0))), (u 14, .inl (G.2 1, 5, .inl (fun _ => 0))), (u 15, .inl (G.2 1, 5, .inl (fun _ => 0))), (u 16, .inl (G.2 1, 25, .inl (fun _ => 0))), (u 17, .inl (G.2 1, 25, .inl (fun _ => 0))), (u 3, .inl (G.2 1, 4, .inl (fun _ => 0))), (u 4, .inl (G.2 1, 4, .inl (fun _ => 0))), (r 3, .inr (2, [.ref (r 0), .ref (z 1), .ref (z 2), .ref (z 3), .int 0])), (r 8, .inr (3, [.ref (r 0), .ref (z 21), .ref (z 22), .int 0, .int 0])), (r 2, .inr (5, [.ref (r 1), .ref (z 0), .int 0, .int 0, .int 0, .int 0, .int 0, .int 0, .int 0, .int (-1), .ref (v 0)]))] := h
    obtain rfl : r_4 = 0 := hp_3
    refine lv_icmp_le (tgt := 18) hx hb dX11_city_12 (by decide) (fun c_5 => ?_) (fun c_5 => ?_)
    · -- 12 p0 ≤ 0
      obtain rfl : p0 = 0 := by grind
      refine lv_aload_n hx hb dX11_city_18 rfl (lv_at hl 0 rfl) ?_
      refine g_X11_reader C0 h 0 q_517 rfl rfl dX11_city_19 ?_
      refine lv_iload_n hx hb dX11_city_22 rfl (lv_at hl 1 rfl) ?_
      refine m_cli (wr := [(x, .inr (11, [.ref (r 0), .ref (r 1), .ref (r 2), .ref (r 3), .ref (r 4), .ref (r 5), .ref (r 6), .ref (r 7), .ref (r 8), .ref (r 9), .ref (r 10), .ref (r 11), .ref (r 12), .ref (r 13), .ref (r 14), .ref (r 15), .int 0, .int 0, .int 0])), (v 5, .inl (G.2 1, 900, .inl (fun _ => 0))), (v 8, .inl (G.2 1, 900, .inl (fun _ => 0))), (v 11, .inl (G.2 1, 5, .inl (fun _ => 0))), (v 12, .inl (G.2 1, 5, .inl (fun _ => 0))), (v 13, .inl (G.2 1, 5, .inl (fun _ => 0))), (v 14, .inl (G.2 1, 5, .inl (fun _ => 0))), (r 0, .inr (0, [.ref (u 0), .ref (u 1), .ref (u 2), .ref (u 3), .ref (u 4), .int 0, .int 0, .int 0, .int 0])), (u 0, .inr (4, [.ref (u 5), .ref (u 6), .ref (u 7), .int 0, .int 0])), (u 5, .inl (G.2 1, 900, .inl (fun _ => 0))), (u 1, .inr (4, [.ref (u 8), .ref (u 9), .ref (u 10), .int 0, .int 0])), (u 8, .inl (G.2 1, 900, .inl (fun _ => 0))), (u 2, .inr (1, [.ref (u 11), .ref (u 12), .ref (u 13), .ref (u 14), .ref (u 15), .ref (u 16), .ref (u 17), .int 0, .int 0])), (u 11, .inl (G.2 1, 5, .inl (fun _ => 0))), (u 12, .inl (G.2 1, 5, .inl (fun _ => 0))), (u 13, .inl (G.2 1, 5, .inl (fun _ => 0))), (u 14, .inl (G.2 1, 5, .inl (fun _ => 0))), (u 15, .inl (G.2 1, 5, .inl (fun _ => 0))), (u 16, .inl (G.2 1, 25, .inl (fun _ => 0))), (u 17, .inl (G.2 1, 25, .inl (fun _ => 0))), (u 3, .inl (G.2 1, 4, .inl (fun _ => 0))), (u 4, .inl (G.2 1, 4, .inl (fun _ => 0))), (r 3, .inr (2, [.ref (r 0), .ref (z 1), .ref (z 2), .ref (z 3), .int 0])), (r 8, .inr (3, [.ref (r 0), .ref (z 21), .ref (z 22), .int 0, .int 0]))]) h (m_rV (ci := 5) (q0 := 33) (As := [.int 0]) (rest := []) C0 h (c_X5_read l G (r 2) r v z) k_X5_read q_595 q_596 q_594 rfl rfl rfl [33, 1, 2, 4, 6, 11, 12, 13, 14, 15] (by decide) rfl hl.1 rfl rfl (Nat.le_of_ble_eq_true rfl) dX11_city_23 ⟨Nat.le_of_ble_eq_true rfl, Nat.le_of_ble_eq_true rfl⟩ ⟨Nat.le_of_ble_eq_true rfl, Nat.le_of_ble_eq_true rfl⟩) [33, 1, 2, 4, 6, 11, 12, 13, 14, 15] [0, 3, 5, 7, 8, 9, 10, 16, 17, 18, 19, 20, 21, 22, 23, 24, 25, 26, 27, 28, 29, 30, 31, 32] rfl rfl (by decide) (by decide) (fun r_8 u_6 H locs hp_7 h => ?_)
      have h : Wd G A s _ _ [(x, .inr (11, [.ref (r 0), .ref (r 1), .ref (r 2), .ref (r 3), .ref (r 4), .ref (r 5), .ref (r 6), .ref (r 7), .ref (r 8), .ref (r 9), .ref (r 10), .ref (r 11), .ref (r 12), .ref (r 13), .ref (r 14), .ref (r 15), .int 0, .int 0, .int 0])), (v 5, .inl (G.2 1, 900, .inl (fun _ => 0))), (v 8, .inl (G.2 1, 900, .inl (fun _ => 0))), (v 11, .inl (G.2 1, 5, .inl (fun _ => 0))), (v 12, .inl (G.2 1, 5, .inl (fun _ => 0))), (v 13, .inl (G.2 1, 5, .inl (fun _ => 0))), (v 14, .inl (G.2 1, 5, .inl (fun _ => 0))), (r 0, .inr (0, [.ref (u 0), .ref (u 1), .ref (u 2), .ref (u 3), .ref (u 4), .int 0, .int 0, .int 0, .int 0])), (u 0, .inr (4, [.ref (u 5), .ref (u 6), .ref (u 7), .int 0, .int 0])), (u 5, .inl (G.2 1, 900, .inl (fun _ => 0))), (u 1, .inr (4, [.ref (u 8), .ref (u 9), .ref (u 10), .int 0, .int 0])), (u 8, .inl (G.2 1, 900, .inl (fun _ => 0))), (u 2, .inr (1, [.ref (u 11), .ref (u 12), .ref (u 13), .ref (u 14), .ref (u 15), .ref (u 16), .ref (u 17), .int 0, .int 0])), (u 11, .inl (G.2 1, 5, .inl (fun _ => 0))), (u 12, .inl (G.2 1, 5, .inl (fun _ => 0))), (u 13, .inl (G.2 1, 5, .inl (fun _ => 0))), (u 14, .inl (G.2 1, 5, .inl (fun _ => 0))), (u 15, .inl (G.2 1, 5, .inl (fun _ => 0))), (u 16, .inl (G.2 1, 25, .inl (fun _ => 0))), (u 17, .inl (G.2 1, 25, .inl (fun _ => 0))), (u 3, .inl (G.2 1, 4, .inl (fun _ => 0))), (u 4, .inl (G.2 1, 4, .inl (fun _ => 0))), (r 3, .inr (2, [.ref (r 0), .ref (z 1), .ref (z 2), .ref (z 3), .int 0])), (r 8, .inr (3, [.ref (r 0), .ref (z 21), .ref (z 22), .int 0, .int 0])), (r 2, .inr (5, [.ref (r 1), .ref (z 0), .int 0, .int 0, .int 0, .int 0, .int 0, .int 0, .int 0, .int (-1), .ref (v 0)])), (r 1, .inr (0, [.ref (v 0), .ref (v 1), .ref (v 2), .ref (v 3), .ref (v 4), .int 0, .int 0, .int 0, .int 0])), (v 0, .inr (4, [.ref (v 5), .ref (v 6), .ref (v 7), .int 0, .int 0])), (v 1, .inr (4, [.ref (v 8), .ref (v 9), .ref (v 10), .int 0, .int 0])), (v 2, .inr (1, [.ref (v 11), .ref (v 12), .ref (v 13), .ref (v 14), .ref (v 15), .ref (v 16), .ref (v 17), .int 0, .int 0])), (v 15, .inl (G.2 1, 5, .inl (u_6 15))), (v 16, .inl (G.2 1, 25, .inl (u_6 16))), (v 17, .inl (G.2 1, 25, .inl (u_6 17))), (v 3, .inl (G.2 1, 4, .inl (u_6 3))), (v 4, .inl (G.2 1, 4, .inl (u_6 4)))] := h
      obtain rfl : r_8 = 0 := hp_7
      refine lv_istore_n (lv' := [(2, .int 0), (0, .ref x), (1, .int 0)]) hx hb dX11_city_26 rfl hl (by decide) rfl (fun ls hl => ?_)
      refine lv_iload_n hx hb dX11_city_27 rfl (lv_at hl 0 rfl) ?_
      refine lv_if_eq (tgt := 36) hx hb dX11_city_28 (by decide) (fun c_9 => ?_) (fun c_9 => absurd c_9 (by decide))
      refine lv_aload_n hx hb dX11_city_36 rfl (lv_at hl 1 rfl) ?_
      refine g_X11_now C0 h 0 q_515 rfl rfl dX11_city_37 ?_
      refine lv_aload_n hx hb dX11_city_40 rfl (lv_at hl 1 rfl) ?_
      refine g_X11_spare C0 h 0 q_516 rfl rfl dX11_city_41 ?_
      refine m_clv (wr := [(x, .inr (11, [.ref (r 0), .ref (r 1), .ref (r 2), .ref (r 3), .ref (r 4), .ref (r 5), .ref (r 6), .ref (r 7), .ref (r 8), .ref (r 9), .ref (r 10), .ref (r 11), .ref (r 12), .ref (r 13), .ref (r 14), .ref (r 15), .int 0, .int 0, .int 0])), (r 3, .inr (2, [.ref (r 0), .ref (z 1), .ref (z 2), .ref (z 3), .int 0])), (r 8, .inr (3, [.ref (r 0), .ref (z 21), .ref (z 22), .int 0, .int 0])), (r 2, .inr (5, [.ref (r 1), .ref (z 0), .int 0, .int 0, .int 0, .int 0, .int 0, .int 0, .int 0, .int (-1), .ref (v 0)]))]) h (m_rV (ci := 0) (q0 := 7) (As := [.ref (r 1)]) (rest := []) C0 h (c_X0_copy l G (r 0) (r 1) u v (fun _ => 0) (fun _ => 0) (fun _ => 0) (fun _ => 0) (fun _ => 0) (fun _ => 0) (fun _ => 0) (fun _ => 0) (fun _ => 0) (fun _ => 0) (fun _ => 0) (fun _ => 0) (fun _ => 0) (fun _ => 0) (fun _ => 0) (fun _ => 0) (fun _ => 0) (u_6 15) (u_6 16) (u_6 17) (u_6 3) (u_6 4)) k_X0_copy q_857 q_858 q_856 rfl rfl rfl [7, 8, 9, 10, 11, 12, 13, 14, 15, 16, 17, 18, 19, 20, 21, 25, 26, 1, 27, 2, 28, 3, 4, 5, 6, 29, 30, 31, 32, 33] (by decide) rfl hl.1 rfl rfl (Nat.le_of_ble_eq_true rfl) dX11_city_44 ⟨Nat.le_of_ble_eq_true rfl, Nat.le_of_ble_eq_true rfl⟩ ⟨Nat.le_of_ble_eq_true rfl, Nat.le_of_ble_eq_true rfl⟩) [7, 8, 9, 10, 11, 12, 13, 14, 15, 16, 17, 18, 19, 20, 21, 25, 26, 1, 27, 2, 28, 3, 4, 5, 6, 29, 30, 31, 32, 33] [0, 22, 23, 24] rfl rfl (by decide) (by decide) (fun u_10 H locs hp_11 h => ?_)
      have h : Wd G A s _ _ [(x, .inr (11, [.ref (r 0), .ref (r 1), .ref (r 2), .ref (r 3), .ref (r 4), .ref (r 5), .ref (r 6), .ref (r 7), .ref (r 8), .ref (r 9), .ref (r 10), .ref (r 11), .ref (r 12), .ref (r 13), .ref (r 14), .ref (r 15), .int 0, .int 0, .int 0])), (r 3, .inr (2, [.ref (r 0), .ref (z 1), .ref (z 2), .ref (z 3), .int 0])), (r 8, .inr (3, [.ref (r 0), .ref (z 21), .ref (z 22), .int 0, .int 0])), (r 2, .inr (5, [.ref (r 1), .ref (z 0), .int 0, .int 0, .int 0, .int 0, .int 0, .int 0, .int 0, .int (-1), .ref (v 0)])), (r 0, .inr (0, [.ref (u 0), .ref (u 1), .ref (u 2), .ref (u 3), .ref (u 4), .int 0, .int 0, .int 0, .int 0]))] := h
      refine lv_aload_n hx hb dX11_city_47 rfl (lv_at hl 1 rfl) ?_
      refine m_clv (wr := [(r 2, .inr (5, [.ref (r 1), .ref (z 0), .int 0, .int 0, .int 0, .int 0, .int 0, .int 0, .int 0, .int (-1), .ref (v 0)])), (r 0, .inr (0, [.ref (u 0), .ref (u 1), .ref (u 2), .ref (u 3), .ref (u 4), .int 0, .int 0, .int 0, .int 0]))]) h (m_rV (ci := 11) (q0 := 0) (As := []) (rest := []) C0 h (c_X11_startAnew l G x r z) k_X11_startAnew q_875 q_22 q_873 rfl rfl rfl [0, 1, 2] (by decide) rfl hl.1 rfl rfl (Nat.le_of_ble_eq_true rfl) dX11_city_48 ⟨Nat.le_of_ble_eq_true rfl, Nat.le_of_ble_eq_true rfl⟩ ⟨Nat.le_of_ble_eq_true rfl, Nat.le_of_ble_eq_true rfl⟩) [0, 1, 2] [3, 4] rfl rfl (by decide) (by decide) (fun u_12 H locs hp_13 h => ?_)
      have h : Wd G A s _ _ [(r 2, .inr (5, [.ref (r 1), .ref (z 0), .int 0, .int 0, .int 0, .int 0, .int 0, .int 0, .int 0, .int (-1), .ref (v 0)])), (r 0, .inr (0, [.ref (u 0), .ref (u 1), .ref (u 2), .ref (u 3), .ref (u 4), .int 0, .int 0, .int 0, .int 0])), (x, .inr (11, [.ref (r 0), .ref (r 1), .ref (r 2), .ref (r 3), .ref (r 4), .ref (r 5), .ref (r 6), .ref (r 7), .ref (r 8), .ref (r 9), .ref (r 10), .ref (r 11), .ref (r 12), .ref (r 13), .ref (r 14), .ref (r 15), .int 0, .int 0, .int 0]))] := h
      refine lv_aload_n hx hb dX11_city_51 rfl (lv_at hl 1 rfl) ?_
      refine g_X11_now C0 h 2 q_515 rfl rfl dX11_city_52 ?_
      refine g_X0_lines C0 h 1 q_264 rfl rfl dX11_city_55 ?_
      exact m_iret () C0 h [] (by decide) rfl (by unfold sp_city; grind) (Nat.le_of_ble_eq_true rfl) (Nat.le_of_ble_eq_true rfl) dX11_city_58
    · -- 12 ¬ p0 ≤ 0
      refine lv_bipush (v := (-3)) hx hb dX11_city_15 (by decide) ?_
      exact m_iret () C0 h [] (by decide) rfl (by unfold sp_city; grind) (Nat.le_of_ble_eq_true rfl) (Nat.le_of_ble_eq_true rfl) dX11_city_17
set_option maxHeartbeats 4000000 in
set_option maxRecDepth 100000 in
theorem c_J6_bitCount_0f7a4 (l : Launch) (G : GG) : Mt l yJ6_bitCount_0f7a4 cJ6_bitCount_0f7a4 1 (some .int) 0 0 0 G [.int 0] [] (Ri (S := Unit) G (fun r _ => r = 0) (fun _ => [])) := by
  refine Mt.start (by decide) (Nat.le_of_ble_eq_true rfl) ?_
  intro p e s m below meth c A ls C0 hini h hl
  have C0 : Cx p s m _ meth c RJ6 cJ6_bitCount_0f7a4 1 (some .int) := C0
  obtain ⟨hx, hb, hml, hown, hts, -⟩ := id C0
  have hl : lv_has ls 1 [(0, .int 0)] := hl
  refine lv_iload_n hx hb dJ6_bitCount_0f7a4_0 rfl (lv_at hl 0 rfl) ?_
  refine lv_iload_n hx hb dJ6_bitCount_0f7a4_1 rfl (lv_at hl 0 rfl) ?_
  refine lv_iconst (v := 1) hx hb dJ6_bitCount_0f7a4_2 (by decide) ?_
  refine lv_iushr (v := ((0 : Int32).toUInt32 >>> ((1 : Int32).toUInt32 &&& Int32.toUInt32 31)).toInt32) hx hb dJ6_bitCount_0f7a4_3 rfl ?_
  refine lv_topi (fun k_1 ek_1 => ?_)
  obtain rfl : k_1 = 0 := ek_1.trans (by decide)
  refine lv_ldcw (v := 1431655765) hx hb hown (hts _ q_1037) dJ6_bitCount_0f7a4_4 ?_
  refine lv_iand hx hb dJ6_bitCount_0f7a4_7 ?_
  refine lv_topi (fun k_2 ek_2 => ?_)
  obtain rfl : k_2 = 0 := ek_2.trans (by decide)
  refine lv_isub hx hb dJ6_bitCount_0f7a4_8 ?_
  refine lv_topi (fun k_3 ek_3 => ?_)
  obtain rfl : k_3 = 0 := ek_3.trans (by decide)
  refine lv_istore_n (lv' := [(0, .int 0)]) hx hb dJ6_bitCount_0f7a4_9 rfl hl (by decide) rfl (fun ls hl => ?_)
  refine lv_iload_n hx hb dJ6_bitCount_0f7a4_10 rfl (lv_at hl 0 rfl) ?_
  refine lv_ldcw (v := 858993459) hx hb hown (hts _ q_1038) dJ6_bitCount_0f7a4_11 ?_
  refine lv_iand hx hb dJ6_bitCount_0f7a4_14 ?_
  refine lv_topi (fun k_4 ek_4 => ?_)
  obtain rfl : k_4 = 0 := ek_4.trans (by decide)
  refine lv_iload_n hx hb dJ6_bitCount_0f7a4_15 rfl (lv_at hl 0 rfl) ?_
  refine lv_iconst (v := 2) hx hb dJ6_bitCount_0f7a4_16 (by decide) ?_
  refine lv_iushr (v := ((0 : Int32).toUInt32 >>> ((2 : Int32).toUInt32 &&& Int32.toUInt32 31)).toInt32) hx hb dJ6_bitCount_0f7a4_17 rfl ?_
  refine lv_topi (fun k_5 ek_5 => ?_)
  obtain rfl : k_5 = 0 := ek_5.trans (by decide)
  refine lv_ldcw (v := 858993459) hx hb hown (hts _ q_1038) dJ6_bitCount_0f7a4_18 ?_
  refine lv_iand hx hb dJ6_bitCount_0f7a4_21 ?_
  refine lv_topi (fun k_6 ek_6 => ?_)
  obtain rfl : k_6 = 0 := ek_6.trans (by decide)
  refine lv_iadd hx hb dJ6_bitCount_0f7a4_22 ?_
  refine lv_topi (fun k_7 ek_7 => ?_)
  obtain rfl : k_7 = 0 := ek_7.trans (by decide)
  refine lv_istore_n (lv' := [(0, .int 0)]) hx hb dJ6_bitCount_0f7a4_23 rfl hl (by decide) rfl (fun ls hl => ?_)
  refine lv_iload_n hx hb dJ6_bitCount_0f7a4_24 rfl (lv_at hl 0 rfl) ?_
  refine lv_iload_n hx hb dJ6_bitCount_0f7a4_25 rfl (lv_at hl 0 rfl) ?_
  refine lv_iconst (v := 4) hx hb dJ6_bitCount_0f7a4_26 (by decide) ?_
  refine lv_iushr (v := ((0 : Int32).toUInt32 >>> ((4 : Int32).toUInt32 &&& Int32.toUInt32 31)).toInt32) hx hb dJ6_bitCount_0f7a4_27 rfl ?_
  refine lv_topi (fun k_8 ek_8 => ?_)
  obtain rfl : k_8 = 0 := ek_8.trans (by decide)
  refine lv_iadd hx hb dJ6_bitCount_0f7a4_28 ?_
  refine lv_topi (fun k_9 ek_9 => ?_)
  obtain rfl : k_9 = 0 := ek_9.trans (by decide)
  refine lv_ldcw (v := 252645135) hx hb hown (hts _ q_1039) dJ6_bitCount_0f7a4_29 ?_
  refine lv_iand hx hb dJ6_bitCount_0f7a4_32 ?_
  refine lv_topi (fun k_10 ek_10 => ?_)
  obtain rfl : k_10 = 0 := ek_10.trans (by decide)
  refine lv_istore_n (lv' := [(0, .int 0)]) hx hb dJ6_bitCount_0f7a4_33 rfl hl (by decide) rfl (fun ls hl => ?_)
  refine lv_iload_n hx hb dJ6_bitCount_0f7a4_34 rfl (lv_at hl 0 rfl) ?_
  refine lv_iload_n hx hb dJ6_bitCount_0f7a4_35 rfl (lv_at hl 0 rfl) ?_
  refine lv_bipush (v := 8) hx hb dJ6_bitCount_0f7a4_36 (by decide) ?_
  refine lv_iushr (v := ((0 : Int32).toUInt32 >>> ((8 : Int32).toUInt32 &&& Int32.toUInt32 31)).toInt32) hx hb dJ6_bitCount_0f7a4_38 rfl ?_
  refine lv_topi (fun k_11 ek_11 => ?_)
  obtain rfl : k_11 = 0 := ek_11.trans (by decide)
  refine lv_iadd hx hb dJ6_bitCount_0f7a4_39 ?_
  refine lv_topi (fun k_12 ek_12 => ?_)
  obtain rfl : k_12 = 0 := ek_12.trans (by decide)
  refine lv_istore_n (lv' := [(0, .int 0)]) hx hb dJ6_bitCount_0f7a4_40 rfl hl (by decide) rfl (fun ls hl => ?_)
  refine lv_iload_n hx hb dJ6_bitCount_0f7a4_41 rfl (lv_at hl 0 rfl) ?_
  refine lv_iload_n hx hb dJ6_bitCount_0f7a4_42 rfl (lv_at hl 0 rfl) ?_
  refine lv_bipush (v := 16) hx hb dJ6_bitCount_0f7a4_43 (by decide) ?_
  refine lv_iushr (v := ((0 : Int32).toUInt32 >>> ((16 : Int32).toUInt32 &&& Int32.toUInt32 31)).toInt32) hx hb dJ6_bitCount_0f7a4_45 rfl ?_
  refine lv_topi (fun k_13 ek_13 => ?_)
  obtain rfl : k_13 = 0 := ek_13.trans (by decide)
  refine lv_iadd hx hb dJ6_bitCount_0f7a4_46 ?_
  refine lv_topi (fun k_14 ek_14 => ?_)
  obtain rfl : k_14 = 0 := ek_14.trans (by decide)
  refine lv_istore_n (lv' := [(0, .int 0)]) hx hb dJ6_bitCount_0f7a4_47 rfl hl (by decide) rfl (fun ls hl => ?_)
  refine lv_iload_n hx hb dJ6_bitCount_0f7a4_48 rfl (lv_at hl 0 rfl) ?_
  refine lv_bipush (v := 63) hx hb dJ6_bitCount_0f7a4_49 (by decide) ?_
  refine lv_iand hx hb dJ6_bitCount_0f7a4_51 ?_
  refine lv_topi (fun k_15 ek_15 => ?_)
  obtain rfl : k_15 = 0 := ek_15.trans (by decide)
  exact m_iret () C0 h [] (by decide) rfl rfl (Nat.le_of_ble_eq_true rfl) (Nat.le_of_ble_eq_true rfl) dJ6_bitCount_0f7a4_52
set_option maxHeartbeats 4000000 in
set_option maxRecDepth 100000 in
theorem c_X1_allSold (l : Launch) (G : GG) (a : Nat) (a0 : Nat) (a1 : Nat) (a2 : Nat) (a3 : Nat) (a4 : Nat) (a5 : Nat) (a6 : Nat) : Mt l yX1_allSold cX1_allSold 3 (some .int) 0 0 0 G [.ref a] [(a, .inr (1, [.ref a0, .ref a1, .ref a2, .ref a3, .ref a4, .ref a5, .ref a6, .int 0, .int 0])), (a5, .inl (G.2 1, 25, .inl (fun _ => 0)))] (Ri (S := Unit) G (fun r _ => r = 0) (fun _ => [(a, .inr (1, [.ref a0, .ref a1, .ref a2, .ref a3, .ref a4, .ref a5, .ref a6, .int 0, .int 0])), (a5, .inl (G.2 1, 25, .inl (fun _ => 0)))])) := by
  refine Mt.start (by decide) (Nat.le_of_ble_eq_true rfl) ?_
  intro p e s m below meth c A ls C0 hini h hl
  have C0 : Cx p s m _ meth c RX1 cX1_allSold 3 (some .int) := C0
  obtain ⟨hx, hb, hml, hown, hts, -⟩ := id C0
  have hl : lv_has ls 3 [(0, .ref a)] := hl
  refine lv_iconst (v := 0) hx hb dX1_allSold_0 (by decide) ?_
  refine lv_istore_n (lv' := [(1, .int 0), (0, .ref a)]) hx hb dX1_allSold_1 rfl hl (by decide) rfl (fun ls hl => ?_)
  refine lv_iconst (v := 0) hx hb dX1_allSold_2 (by decide) ?_
  refine lv_istore_n (lv' := [(2, .int 0), (1, .int 0), (0, .ref a)]) hx hb dX1_allSold_3 rfl hl (by decide) rfl (fun ls hl => ?_)
  have lp_4 : ∀ (n i : Nat) (H : Heap) (locs : List Loc) (ls : Array Slot), i + n = 25 → Wd G A s H locs [(a, .inr (1, [.ref a0, .ref a1, .ref a2, .ref a3, .ref a4, .ref a5, .ref a6, .int 0, .int 0])), (a5, .inl (G.2 1, 25, .inl (fun _ => 0)))] → lv_has ls 3 [(2, .int (nI i)), (1, .int 0), (0, .ref a)] → W p l e (rmd 0 0 0) s m ([.ref a]).toArray below meth c H locs 0 0 (MQ below ((Ri (S := Unit) G (fun r _ => r = 0) (fun _ => [(a, .inr (1, [.ref a0, .ref a1, .ref a2, .ref a3, .ref a4, .ref a5, .ref a6, .int 0, .int 0])), (a5, .inl (G.2 1, 25, .inl (fun _ => 0)))])) A) ([.ref a]).toArray s 0 0 A) (F0 m 4 ls []) := by
    intro n
    induction n with
    | zero =>
      intro i H locs ls hn h hl
      refine lv_iload_n hx hb dX1_allSold_4 rfl (lv_at hl 0 rfl) ?_
      refine lv_bipush (v := 25) hx hb dX1_allSold_5 (by decide) ?_
      refine lv_icmp_ge (tgt := 25) hx hb dX1_allSold_7 (by decide) (fun c_1 => ?_) (fun c_1 => by exact absurd ((nI_leI (a := 25) (b := i) (by omega) (by omega)).mpr (by omega)) c_1)
      refine lv_iload_n hx hb dX1_allSold_25 rfl (lv_at hl 1 rfl) ?_
      exact m_iret () C0 h [0, 1] (by decide) rfl rfl (Nat.le_of_ble_eq_true rfl) (Nat.le_of_ble_eq_true rfl) dX1_allSold_26
    | succ n ih_4 =>
      intro i H locs ls hn h hl
      refine lv_iload_n hx hb dX1_allSold_4 rfl (lv_at hl 0 rfl) ?_
      refine lv_bipush (v := 25) hx hb dX1_allSold_5 (by decide) ?_
      refine lv_icmp_ge (tgt := 25) hx hb dX1_allSold_7 (by decide) (fun c_2 => by exact absurd ((nI_leI (a := 25) (b := i) (by omega) (by omega)).mp c_2) (by omega)) (fun c_2 => ?_)
      refine lv_iload_n hx hb dX1_allSold_10 rfl (lv_at hl 1 rfl) ?_
      refine lv_aload_n hx hb dX1_allSold_11 rfl (lv_at hl 2 rfl) ?_
      refine g_X1_sold C0 h 0 q_205 rfl rfl dX1_allSold_12 ?_
      refine lv_iload_n hx hb dX1_allSold_15 rfl (lv_at hl 0 rfl) ?_
      refine m_iald C0 h 1 i rfl rfl (by omega) (by decide) dX1_allSold_16 ?_
      refine W.eq (g2 := F0 m 17 ls [.int 0, .int 0]) rfl ?_
      refine lv_iadd hx hb dX1_allSold_17 ?_
      refine lv_topi (fun k_3 ek_3 => ?_)
      obtain rfl : k_3 = 0 := ek_3.trans (by decide)
      refine lv_istore_n (lv' := [(1, .int 0), (2, .int (nI i)), (0, .ref a)]) hx hb dX1_allSold_18 rfl hl (by decide) rfl (fun ls hl => ?_)
      refine lv_iinc (v := nI (i + 1)) (lv' := [(2, .int (nI (i + 1))), (1, .int 0), (0, .ref a)]) hx hb dX1_allSold_19 hl (k := 1) rfl (nI_1 _) (by decide) rfl (fun ls hl => ?_)
      refine lv_goto (tgt := 4) hx hb dX1_allSold_22 (by decide) ?_
      exact ih_4 (i + 1) _ _ _ (by omega) h (lv_sub hl [0, 1, 2] rfl)
  exact lp_4 (25 - 0) 0 _ _ _ (by omega) h (lv_sub hl [0, 1, 2] rfl)
set_option maxHeartbeats 4000000 in
set_option maxRecDepth 100000 in
theorem c_X1_allLefts (l : Launch) (G : GG) (a : Nat) (a0 : Nat) (a1 : Nat) (a2 : Nat) (a3 : Nat) (a4 : Nat) (a5 : Nat) (a6 : Nat) : Mt l yX1_allLefts cX1_allLefts 3 (some .int) 0 0 0 G [.ref a] [(a, .inr (1, [.ref a0, .ref a1, .ref a2, .ref a3, .ref a4, .ref a5, .ref a6, .int 0, .int 0]))] (Ri (S := Unit) G (fun r _ => r = 0) (fun _ => [(a, .inr (1, [.ref a0, .ref a1, .ref a2, .ref a3, .ref a4, .ref a5, .ref a6, .int 0, .int 0]))])) := by
  refine Mt.start (by decide) (Nat.le_of_ble_eq_true rfl) ?_
  intro p e s m below meth c A ls C0 hini h hl
  have C0 : Cx p s m _ meth c RX1 cX1_allLefts 3 (some .int) := C0
  obtain ⟨hx, hb, hml, hown, hts, -⟩ := id C0
  have hl : lv_has ls 3 [(0, .ref a)] := hl
  refine lv_iconst (v := 0) hx hb dX1_allLefts_0 (by decide) ?_
  refine lv_istore_n (lv' := [(1, .int 0), (0, .ref a)]) hx hb dX1_allLefts_1 rfl hl (by decide) rfl (fun ls hl => ?_)
  refine lv_iconst (v := 0) hx hb dX1_allLefts_2 (by decide) ?_
  refine lv_istore_n (lv' := [(2, .int 0), (1, .int 0), (0, .ref a)]) hx hb dX1_allLefts_3 rfl hl (by decide) rfl (fun ls hl => ?_)
  refine lv_iload_n hx hb dX1_allLefts_4 rfl (lv_at hl 0 rfl) ?_
  refine lv_aload_n hx hb dX1_allLefts_5 rfl (lv_at hl 2 rfl) ?_
  refine g_X1_people C0 h 0 q_213 rfl rfl dX1_allLefts_6 ?_
  refine lv_icmp_ge (tgt := 27) hx hb dX1_allLefts_9 (by decide) (fun c_1 => ?_) (fun c_1 => absurd c_1 (by decide))
  refine lv_iload_n hx hb dX1_allLefts_27 rfl (lv_at hl 1 rfl) ?_
  exact m_iret () C0 h [0] (by decide) rfl rfl (Nat.le_of_ble_eq_true rfl) (Nat.le_of_ble_eq_true rfl) dX1_allLefts_28
set_option maxHeartbeats 4000000 in
set_option maxRecDepth 100000 in
theorem c_X0_freeBits (l : Launch) (G : GG) (a : Nat) (u : Nat → Nat) : Mt l yX0_freeBits cX0_freeBits 4 (some .int) 0 0 0 G [.ref a, .int 0] [(a, .inr (0, [.ref (u 0), .ref (u 1), .ref (u 2), .ref (u 3), .ref (u 4), .int 0, .int 0, .int 0, .int 0])), (u 2, .inr (1, [.ref (u 11), .ref (u 12), .ref (u 13), .ref (u 14), .ref (u 15), .ref (u 16), .ref (u 17), .int 0, .int 0])), (u 17, .inl (G.2 1, 25, .inl (fun _ => 0)))] (Ri (S := Unit) G (fun r _ => r = 0) (fun _ => [(a, .inr (0, [.ref (u 0), .ref (u 1), .ref (u 2), .ref (u 3), .ref (u 4), .int 0, .int 0, .int 0, .int 0])), (u 2, .inr (1, [.ref (u 11), .ref (u 12), .ref (u 13), .ref (u 14), .ref (u 15), .ref (u 16), .ref (u 17), .int 0, .int 0])), (u 17, .inl (G.2 1, 25, .inl (fun _ => 0)))])) := by
  refine Mt.start (by decide) (Nat.le_of_ble_eq_true rfl) ?_
  intro p e s m below meth c A ls C0 hini h hl
  have C0 : Cx p s m _ meth c RX0 cX0_freeBits 4 (some .int) := C0
  obtain ⟨hx, hb, hml, hown, hts, -⟩ := id C0
  have hl : lv_has ls 4 [(0, .ref a), (1, .int 0)] := hl
  refine lv_aload_n hx hb dX0_freeBits_0 rfl (lv_at hl 0 rfl) ?_
  refine g_X0_toldFree C0 h 0 q_266 rfl rfl dX0_freeBits_1 ?_
  refine lv_istore_n (lv' := [(2, .int 0), (0, .ref a), (1, .int 0)]) hx hb dX0_freeBits_4 rfl hl (by decide) rfl (fun ls hl => ?_)
  refine lv_iconst (v := 0) hx hb dX0_freeBits_5 (by decide) ?_
  refine lv_istore_n (lv' := [(3, .int 0), (2, .int 0), (0, .ref a), (1, .int 0)]) hx hb dX0_freeBits_6 rfl hl (by decide) rfl (fun ls hl => ?_)
  have lp_7 : ∀ (n i : Nat) (H : Heap) (locs : List Loc) (ls : Array Slot), i + n = 25 → Wd G A s H locs [(a, .inr (0, [.ref (u 0), .ref (u 1), .ref (u 2), .ref (u 3), .ref (u 4), .int 0, .int 0, .int 0, .int 0])), (u 2, .inr (1, [.ref (u 11), .ref (u 12), .ref (u 13), .ref (u 14), .ref (u 15), .ref (u 16), .ref (u 17), .int 0, .int 0])), (u 17, .inl (G.2 1, 25, .inl (fun _ => 0)))] → lv_has ls 4 [(3, .int (nI i)), (2, .int 0), (0, .ref a), (1, .int 0)] → W p l e (rmd 0 0 0) s m ([.ref a, .int 0]).toArray below meth c H locs 0 0 (MQ below ((Ri (S := Unit) G (fun r _ => r = 0) (fun _ => [(a, .inr (0, [.ref (u 0), .ref (u 1), .ref (u 2), .ref (u 3), .ref (u 4), .int 0, .int 0, .int 0, .int 0])), (u 2, .inr (1, [.ref (u 11), .ref (u 12), .ref (u 13), .ref (u 14), .ref (u 15), .ref (u 16), .ref (u 17), .int 0, .int 0])), (u 17, .inl (G.2 1, 25, .inl (fun _ => 0)))])) A) ([.ref a, .int 0]).toArray s 0 0 A) (F0 m 7 ls []) := by
    intro n
    induction n with
    | zero =>
      intro i H locs ls hn h hl
      refine lv_iload_n hx hb dX0_freeBits_7 rfl (lv_at hl 0 rfl) ?_
      refine lv_bipush (v := 25) hx hb dX0_freeBits_8 (by decide) ?_
      refine lv_icmp_ge (tgt := 38) hx hb dX0_freeBits_10 (by decide) (fun c_1 => ?_) (fun c_1 => by exact absurd ((nI_leI (a := 25) (b := i) (by omega) (by omega)).mpr (by omega)) c_1)
      refine lv_iload_n hx hb dX0_freeBits_38 rfl (lv_at hl 1 rfl) ?_
      exact m_iret () C0 h [0, 1, 2] (by decide) rfl rfl (Nat.le_of_ble_eq_true rfl) (Nat.le_of_ble_eq_true rfl) dX0_freeBits_39
    | succ n ih_7 =>
      intro i H locs ls hn h hl
      refine lv_iload_n hx hb dX0_freeBits_7 rfl (lv_at hl 0 rfl) ?_
      refine lv_bipush (v := 25) hx hb dX0_freeBits_8 (by decide) ?_
      refine lv_icmp_ge (tgt := 38) hx hb dX0_freeBits_10 (by decide) (fun c_2 => by exact absurd ((nI_leI (a := 25) (b := i) (by omega) (by omega)).mp c_2) (by omega)) (fun c_2 => ?_)
      refine lv_aload_n hx hb dX0_freeBits_13 rfl (lv_at hl 2 rfl) ?_
      refine g_X0_folk C0 h 0 q_247 rfl rfl dX0_freeBits_14 ?_
      refine g_X1_fogEnds C0 h 1 q_212 rfl rfl dX0_freeBits_17 ?_
      refine lv_iload_n hx hb dX0_freeBits_20 rfl (lv_at hl 0 rfl) ?_
      refine m_iald C0 h 2 i rfl rfl (by omega) (by decide) dX0_freeBits_21 ?_
      refine W.eq (g2 := F0 m 22 ls [.int 0]) rfl ?_
      refine lv_iload_n hx hb dX0_freeBits_22 rfl (lv_at hl 3 rfl) ?_
      refine lv_icmp_le (tgt := 32) hx hb dX0_freeBits_23 (by decide) (fun c_3 => ?_) (fun c_3 => absurd c_3 (by decide))
      refine lv_iinc (v := nI (i + 1)) (lv' := [(3, .int (nI (i + 1))), (2, .int 0), (0, .ref a), (1, .int 0)]) hx hb dX0_freeBits_32 hl (k := 0) rfl (nI_1 _) (by decide) rfl (fun ls hl => ?_)
      refine lv_goto (tgt := 7) hx hb dX0_freeBits_35 (by decide) ?_
      exact ih_7 (i + 1) _ _ _ (by omega) h (lv_sub hl [0, 1, 2, 3] rfl)
  exact lp_7 (25 - 0) 0 _ _ _ (by omega) h (lv_sub hl [0, 1, 2, 3] rfl)
set_option maxHeartbeats 4000000 in
set_option maxRecDepth 100000 in
theorem c_X11_count (l : Launch) (G : GG) (x : Nat) (r : Nat → Nat) (u : Nat → Nat) (v : Nat → Nat) (z : Nat → Nat) (p0 : Int32) : Mt l yX11_count cX11_count 2 (some .int) 3 0 0 G [.ref x, .int p0] [(x, .inr (11, [.ref (r 0), .ref (r 1), .ref (r 2), .ref (r 3), .ref (r 4), .ref (r 5), .ref (r 6), .ref (r 7), .ref (r 8), .ref (r 9), .ref (r 10), .ref (r 11), .ref (r 12), .ref (r 13), .ref (r 14), .ref (r 15), .int 0, .int 0, .int 0])), (r 0, .inr (0, [.ref (u 0), .ref (u 1), .ref (u 2), .ref (u 3), .ref (u 4), .int 0, .int 0, .int 0, .int 0])), (u 2, .inr (1, [.ref (u 11), .ref (u 12), .ref (u 13), .ref (u 14), .ref (u 15), .ref (u 16), .ref (u 17), .int 0, .int 0])), (r 2, .inr (5, [.ref (r 1), .ref (z 0), .int 0, .int 0, .int 0, .int 0, .int 0, .int 0, .int 0, .int (-1), .ref (v 0)])), (u 16, .inl (G.2 1, 25, .inl (fun _ => 0))), (u 17, .inl (G.2 1, 25, .inl (fun _ => 0)))] (Ri (S := Unit) G (fun r _ => r = sp_count p0) (fun _ => [])) := by
  refine Mt.start (by decide) (Nat.le_of_ble_eq_true rfl) ?_
  intro p e s m below meth c A ls C0 hini h hl
  have C0 : Cx p s m _ meth c RX11 cX11_count 2 (some .int) := C0
  obtain ⟨hx, hb, hml, hown, hts, -⟩ := id C0
  have hl : lv_has ls 2 [(0, .ref x), (1, .int p0)] := hl
  refine lv_iload_n hx hb dX11_count_0 rfl (lv_at hl 1 rfl) ?_
  by_cases sw_1 : p0.toInt < 0 ∨ 9 < p0.toInt
  · refine lv_tableOut (tgt := 158) hx hb dX11_count_1 sw_1 (by decide) ?_
    refine lv_iconst (v := (-1)) hx hb dX11_count_158 (by decide) ?_
    exact m_iret () C0 h [] (by decide) rfl (sp_count_out sw_1).symm (Nat.le_of_ble_eq_true rfl) (Nat.le_of_ble_eq_true rfl) dX11_count_159
  · obtain ⟨sw_11, sw_12⟩ := not_or.mp sw_1
    have sw_13 : p0 = 0 ∨ p0 = 1 ∨ p0 = 2 ∨ p0 = 3 ∨ p0 = 4 ∨ p0 = 5 ∨ p0 = 6 ∨ p0 = 7 ∨ p0 = 8 ∨ p0 = 9 := by
      have e1 : p0 = Int32.ofInt p0.toInt := (Int32.ofInt_toInt _).symm
      rcases (show p0.toInt = 0 ∨ p0.toInt = 1 ∨ p0.toInt = 2 ∨ p0.toInt = 3 ∨ p0.toInt = 4 ∨ p0.toInt = 5 ∨ p0.toInt = 6 ∨ p0.toInt = 7 ∨ p0.toInt = 8 ∨ p0.toInt = 9 by omega) with e2 | e2 | e2 | e2 | e2 | e2 | e2 | e2 | e2 | e2 <;> rw [e2] at e1 <;> simp [e1]
    rcases sw_13 with sw_14 | sw_14 | sw_14 | sw_14 | sw_14 | sw_14 | sw_14 | sw_14 | sw_14 | sw_14
    · refine lv_tableIn (off := 55) (tgt := 56) hx hb dX11_count_1 sw_11 sw_12 (by rw [sw_14]; rfl) (by decide) ?_
      refine lv_aload_n hx hb dX11_count_56 rfl (lv_at hl 0 rfl) ?_
      refine g_X11_now C0 h 0 q_515 rfl rfl dX11_count_57 ?_
      refine g_X0_wide C0 h 1 q_259 rfl rfl dX11_count_60 ?_
      exact m_iret () C0 h [] (by decide) rfl (by rw [sw_14]; rfl) (Nat.le_of_ble_eq_true rfl) (Nat.le_of_ble_eq_true rfl) dX11_count_63
    · refine lv_tableIn (off := 63) (tgt := 64) hx hb dX11_count_1 sw_11 sw_12 (by rw [sw_14]; rfl) (by decide) ?_
      refine lv_aload_n hx hb dX11_count_64 rfl (lv_at hl 0 rfl) ?_
      refine g_X11_now C0 h 0 q_515 rfl rfl dX11_count_65 ?_
      refine g_X0_high C0 h 1 q_262 rfl rfl dX11_count_68 ?_
      exact m_iret () C0 h [] (by decide) rfl (by rw [sw_14]; rfl) (Nat.le_of_ble_eq_true rfl) (Nat.le_of_ble_eq_true rfl) dX11_count_71
    · refine lv_tableIn (off := 71) (tgt := 72) hx hb dX11_count_1 sw_11 sw_12 (by rw [sw_14]; rfl) (by decide) ?_
      refine lv_aload_n hx hb dX11_count_72 rfl (lv_at hl 0 rfl) ?_
      refine g_X11_now C0 h 0 q_515 rfl rfl dX11_count_73 ?_
      refine g_X0_folk C0 h 1 q_249 rfl rfl dX11_count_76 ?_
      refine g_X1_people C0 h 2 q_215 rfl rfl dX11_count_79 ?_
      exact m_iret () C0 h [] (by decide) rfl (by rw [sw_14]; rfl) (Nat.le_of_ble_eq_true rfl) (Nat.le_of_ble_eq_true rfl) dX11_count_82
    · refine lv_tableIn (off := 82) (tgt := 83) hx hb dX11_count_1 sw_11 sw_12 (by rw [sw_14]; rfl) (by decide) ?_
      refine lv_aload_n hx hb dX11_count_83 rfl (lv_at hl 0 rfl) ?_
      refine g_X11_now C0 h 0 q_515 rfl rfl dX11_count_84 ?_
      refine g_X0_folk C0 h 1 q_249 rfl rfl dX11_count_87 ?_
      refine g_X1_hours C0 h 2 q_220 rfl rfl dX11_count_90 ?_
      exact m_iret () C0 h [] (by decide) rfl (by rw [sw_14]; rfl) (Nat.le_of_ble_eq_true rfl) (Nat.le_of_ble_eq_true rfl) dX11_count_93
    · refine lv_tableIn (off := 93) (tgt := 94) hx hb dX11_count_1 sw_11 sw_12 (by rw [sw_14]; rfl) (by decide) ?_
      refine lv_aload_n hx hb dX11_count_94 rfl (lv_at hl 0 rfl) ?_
      refine g_X11_now C0 h 0 q_515 rfl rfl dX11_count_95 ?_
      refine g_X0_folk C0 h 1 q_249 rfl rfl dX11_count_98 ?_
      refine m_cli (wr := [(x, .inr (11, [.ref (r 0), .ref (r 1), .ref (r 2), .ref (r 3), .ref (r 4), .ref (r 5), .ref (r 6), .ref (r 7), .ref (r 8), .ref (r 9), .ref (r 10), .ref (r 11), .ref (r 12), .ref (r 13), .ref (r 14), .ref (r 15), .int 0, .int 0, .int 0])), (r 0, .inr (0, [.ref (u 0), .ref (u 1), .ref (u 2), .ref (u 3), .ref (u 4), .int 0, .int 0, .int 0, .int 0])), (r 2, .inr (5, [.ref (r 1), .ref (z 0), .int 0, .int 0, .int 0, .int 0, .int 0, .int 0, .int 0, .int (-1), .ref (v 0)])), (u 17, .inl (G.2 1, 25, .inl (fun _ => 0)))]) h (m_rV (ci := 1) (q0 := 2) (As := []) (rest := []) C0 h (c_X1_allSold l G (u 2) (u 11) (u 12) (u 13) (u 14) (u 15) (u 16) (u 17)) k_X1_allSold q_1422 q_1423 q_1421 rfl rfl rfl [2, 4] (by decide) rfl hl.1 rfl rfl (Nat.le_of_ble_eq_true rfl) dX11_count_101 ⟨Nat.le_of_ble_eq_true rfl, Nat.le_of_ble_eq_true rfl⟩ ⟨Nat.le_of_ble_eq_true rfl, Nat.le_of_ble_eq_true rfl⟩) [2, 4] [0, 1, 3, 5] rfl rfl (by decide) (by decide) (fun r_4 u_2 H locs hp_3 h => ?_)
      have h : Wd G A s _ _ [(x, .inr (11, [.ref (r 0), .ref (r 1), .ref (r 2), .ref (r 3), .ref (r 4), .ref (r 5), .ref (r 6), .ref (r 7), .ref (r 8), .ref (r 9), .ref (r 10), .ref (r 11), .ref (r 12), .ref (r 13), .ref (r 14), .ref (r 15), .int 0, .int 0, .int 0])), (r 0, .inr (0, [.ref (u 0), .ref (u 1), .ref (u 2), .ref (u 3), .ref (u 4), .int 0, .int 0, .int 0, .int 0])), (r 2, .inr (5, [.ref (r 1), .ref (z 0), .int 0, .int 0, .int 0, .int 0, .int 0, .int 0, .int 0, .int (-1), .ref (v 0)])), (u 17, .inl (G.2 1, 25, .inl (fun _ => 0))), (u 2, .inr (1, [.ref (u 11), .ref (u 12), .ref (u 13), .ref (u 14), .ref (u 15), .ref (u 16), .ref (u 17), .int 0, .int 0])), (u 16, .inl (G.2 1, 25, .inl (fun _ => 0)))] := h
      obtain rfl : r_4 = 0 := hp_3
      exact m_iret () C0 h [] (by decide) rfl (by rw [sw_14]; rfl) (Nat.le_of_ble_eq_true rfl) (Nat.le_of_ble_eq_true rfl) dX11_count_104
    · refine lv_tableIn (off := 104) (tgt := 105) hx hb dX11_count_1 sw_11 sw_12 (by rw [sw_14]; rfl) (by decide) ?_
      refine lv_aload_n hx hb dX11_count_105 rfl (lv_at hl 0 rfl) ?_
      refine g_X11_now C0 h 0 q_515 rfl rfl dX11_count_106 ?_
      refine lv_aload_n hx hb dX11_count_109 rfl (lv_at hl 0 rfl) ?_
      refine g_X11_now C0 h 0 q_515 rfl rfl dX11_count_110 ?_
      refine g_X0_folk C0 h 1 q_249 rfl rfl dX11_count_113 ?_
      refine g_X1_hours C0 h 2 q_220 rfl rfl dX11_count_116 ?_
      refine m_cli (wr := [(x, .inr (11, [.ref (r 0), .ref (r 1), .ref (r 2), .ref (r 3), .ref (r 4), .ref (r 5), .ref (r 6), .ref (r 7), .ref (r 8), .ref (r 9), .ref (r 10), .ref (r 11), .ref (r 12), .ref (r 13), .ref (r 14), .ref (r 15), .int 0, .int 0, .int 0])), (r 2, .inr (5, [.ref (r 1), .ref (z 0), .int 0, .int 0, .int 0, .int 0, .int 0, .int 0, .int 0, .int (-1), .ref (v 0)])), (u 16, .inl (G.2 1, 25, .inl (fun _ => 0)))]) h (m_rV (ci := 0) (q0 := 1) (As := [.int 0]) (rest := []) C0 h (c_X0_freeBits l G (r 0) u) k_X0_freeBits q_948 q_949 q_947 rfl rfl rfl [1, 2, 5] (by decide) rfl hl.1 rfl rfl (Nat.le_of_ble_eq_true rfl) dX11_count_119 ⟨Nat.le_of_ble_eq_true rfl, Nat.le_of_ble_eq_true rfl⟩ ⟨Nat.le_of_ble_eq_true rfl, Nat.le_of_ble_eq_true rfl⟩) [1, 2, 5] [0, 3, 4] rfl rfl (by decide) (by decide) (fun r_7 u_5 H locs hp_6 h => ?_)
      have h : Wd G A s _ _ [(x, .inr (11, [.ref (r 0), .ref (r 1), .ref (r 2), .ref (r 3), .ref (r 4), .ref (r 5), .ref (r 6), .ref (r 7), .ref (r 8), .ref (r 9), .ref (r 10), .ref (r 11), .ref (r 12), .ref (r 13), .ref (r 14), .ref (r 15), .int 0, .int 0, .int 0])), (r 2, .inr (5, [.ref (r 1), .ref (z 0), .int 0, .int 0, .int 0, .int 0, .int 0, .int 0, .int 0, .int (-1), .ref (v 0)])), (u 16, .inl (G.2 1, 25, .inl (fun _ => 0))), (r 0, .inr (0, [.ref (u 0), .ref (u 1), .ref (u 2), .ref (u 3), .ref (u 4), .int 0, .int 0, .int 0, .int 0])), (u 2, .inr (1, [.ref (u 11), .ref (u 12), .ref (u 13), .ref (u 14), .ref (u 15), .ref (u 16), .ref (u 17), .int 0, .int 0])), (u 17, .inl (G.2 1, 25, .inl (fun _ => 0)))] := h
      obtain rfl : r_7 = 0 := hp_6
      refine m_cli (wr := [(x, .inr (11, [.ref (r 0), .ref (r 1), .ref (r 2), .ref (r 3), .ref (r 4), .ref (r 5), .ref (r 6), .ref (r 7), .ref (r 8), .ref (r 9), .ref (r 10), .ref (r 11), .ref (r 12), .ref (r 13), .ref (r 14), .ref (r 15), .int 0, .int 0, .int 0])), (r 2, .inr (5, [.ref (r 1), .ref (z 0), .int 0, .int 0, .int 0, .int 0, .int 0, .int 0, .int 0, .int (-1), .ref (v 0)])), (u 16, .inl (G.2 1, 25, .inl (fun _ => 0))), (r 0, .inr (0, [.ref (u 0), .ref (u 1), .ref (u 2), .ref (u 3), .ref (u 4), .int 0, .int 0, .int 0, .int 0])), (u 2, .inr (1, [.ref (u 11), .ref (u 12), .ref (u 13), .ref (u 14), .ref (u 15), .ref (u 16), .ref (u 17), .int 0, .int 0])), (u 17, .inl (G.2 1, 25, .inl (fun _ => 0)))]) h (m_rS (As := [.int 0]) (rest := []) C0 h (c_J6_bitCount_0f7a4 l G) k_J6_bitCount_0f7a4 q_1035 q_1034 [] (by decide) rfl hl.1 rfl rfl (Nat.le_of_ble_eq_true rfl) dX11_count_122 ⟨Nat.le_of_ble_eq_true rfl, Nat.le_of_ble_eq_true rfl⟩ ⟨Nat.le_of_ble_eq_true rfl, Nat.le_of_ble_eq_true rfl⟩) [] [0, 1, 2, 3, 4, 5] rfl rfl (by decide) (by decide) (fun r_10 u_8 H locs hp_9 h => ?_)
      have h : Wd G A s _ _ [(x, .inr (11, [.ref (r 0), .ref (r 1), .ref (r 2), .ref (r 3), .ref (r 4), .ref (r 5), .ref (r 6), .ref (r 7), .ref (r 8), .ref (r 9), .ref (r 10), .ref (r 11), .ref (r 12), .ref (r 13), .ref (r 14), .ref (r 15), .int 0, .int 0, .int 0])), (r 2, .inr (5, [.ref (r 1), .ref (z 0), .int 0, .int 0, .int 0, .int 0, .int 0, .int 0, .int 0, .int (-1), .ref (v 0)])), (u 16, .inl (G.2 1, 25, .inl (fun _ => 0))), (r 0, .inr (0, [.ref (u 0), .ref (u 1), .ref (u 2), .ref (u 3), .ref (u 4), .int 0, .int 0, .int 0, .int 0])), (u 2, .inr (1, [.ref (u 11), .ref (u 12), .ref (u 13), .ref (u 14), .ref (u 15), .ref (u 16), .ref (u 17), .int 0, .int 0])), (u 17, .inl (G.2 1, 25, .inl (fun _ => 0)))] := h
      obtain rfl : r_10 = 0 := hp_9
      exact m_iret () C0 h [] (by decide) rfl (by rw [sw_14]; rfl) (Nat.le_of_ble_eq_true rfl) (Nat.le_of_ble_eq_true rfl) dX11_count_125
    · refine lv_tableIn (off := 125) (tgt := 126) hx hb dX11_count_1 sw_11 sw_12 (by rw [sw_14]; rfl) (by decide) ?_
      refine lv_aload_n hx hb dX11_count_126 rfl (lv_at hl 0 rfl) ?_
      refine g_X11_pastSize C0 h 0 q_532 rfl rfl dX11_count_127 ?_
      exact m_iret () C0 h [] (by decide) rfl (by rw [sw_14]; rfl) (Nat.le_of_ble_eq_true rfl) (Nat.le_of_ble_eq_true rfl) dX11_count_130
    · refine lv_tableIn (off := 130) (tgt := 131) hx hb dX11_count_1 sw_11 sw_12 (by rw [sw_14]; rfl) (by decide) ?_
      refine lv_aload_n hx hb dX11_count_131 rfl (lv_at hl 0 rfl) ?_
      refine g_X11_reader C0 h 0 q_517 rfl rfl dX11_count_132 ?_
      refine m_cli (wr := [(x, .inr (11, [.ref (r 0), .ref (r 1), .ref (r 2), .ref (r 3), .ref (r 4), .ref (r 5), .ref (r 6), .ref (r 7), .ref (r 8), .ref (r 9), .ref (r 10), .ref (r 11), .ref (r 12), .ref (r 13), .ref (r 14), .ref (r 15), .int 0, .int 0, .int 0])), (r 0, .inr (0, [.ref (u 0), .ref (u 1), .ref (u 2), .ref (u 3), .ref (u 4), .int 0, .int 0, .int 0, .int 0])), (u 2, .inr (1, [.ref (u 11), .ref (u 12), .ref (u 13), .ref (u 14), .ref (u 15), .ref (u 16), .ref (u 17), .int 0, .int 0])), (u 16, .inl (G.2 1, 25, .inl (fun _ => 0))), (u 17, .inl (G.2 1, 25, .inl (fun _ => 0)))]) h (m_rV (ci := 5) (q0 := 3) (As := []) (rest := []) C0 h (c_X5_fed_0 l G (r 2) r v z) k_X5_fed q_587 q_588 q_586 rfl rfl rfl [3] (by decide) rfl hl.1 rfl rfl (Nat.le_of_ble_eq_true rfl) dX11_count_135 ⟨Nat.le_of_ble_eq_true rfl, Nat.le_of_ble_eq_true rfl⟩ ⟨Nat.le_of_ble_eq_true rfl, Nat.le_of_ble_eq_true rfl⟩) [3] [0, 1, 2, 4, 5] rfl rfl (by decide) (by decide) (fun r_13 u_11 H locs hp_12 h => ?_)
      have h : Wd G A s _ _ [(x, .inr (11, [.ref (r 0), .ref (r 1), .ref (r 2), .ref (r 3), .ref (r 4), .ref (r 5), .ref (r 6), .ref (r 7), .ref (r 8), .ref (r 9), .ref (r 10), .ref (r 11), .ref (r 12), .ref (r 13), .ref (r 14), .ref (r 15), .int 0, .int 0, .int 0])), (r 0, .inr (0, [.ref (u 0), .ref (u 1), .ref (u 2), .ref (u 3), .ref (u 4), .int 0, .int 0, .int 0, .int 0])), (u 2, .inr (1, [.ref (u 11), .ref (u 12), .ref (u 13), .ref (u 14), .ref (u 15), .ref (u 16), .ref (u 17), .int 0, .int 0])), (u 16, .inl (G.2 1, 25, .inl (fun _ => 0))), (u 17, .inl (G.2 1, 25, .inl (fun _ => 0))), (r 2, .inr (5, [.ref (r 1), .ref (z 0), .int 0, .int 0, .int 0, .int 0, .int 0, .int 0, .int 0, .int (-1), .ref (v 0)]))] := h
      obtain rfl : r_13 = 0 := hp_12
      exact m_iret () C0 h [] (by decide) rfl (by rw [sw_14]; rfl) (Nat.le_of_ble_eq_true rfl) (Nat.le_of_ble_eq_true rfl) dX11_count_138
    · refine lv_tableIn (off := 138) (tgt := 139) hx hb dX11_count_1 sw_11 sw_12 (by rw [sw_14]; rfl) (by decide) ?_
      refine lv_aload_n hx hb dX11_count_139 rfl (lv_at hl 0 rfl) ?_
      refine g_X11_now C0 h 0 q_515 rfl rfl dX11_count_140 ?_
      refine g_X0_lines C0 h 1 q_264 rfl rfl dX11_count_143 ?_
      exact m_iret () C0 h [] (by decide) rfl (by rw [sw_14]; rfl) (Nat.le_of_ble_eq_true rfl) (Nat.le_of_ble_eq_true rfl) dX11_count_146
    · refine lv_tableIn (off := 146) (tgt := 147) hx hb dX11_count_1 sw_11 sw_12 (by rw [sw_14]; rfl) (by decide) ?_
      refine lv_aload_n hx hb dX11_count_147 rfl (lv_at hl 0 rfl) ?_
      refine g_X11_now C0 h 0 q_515 rfl rfl dX11_count_148 ?_
      refine g_X0_folk C0 h 1 q_249 rfl rfl dX11_count_151 ?_
      refine m_cli (wr := [(x, .inr (11, [.ref (r 0), .ref (r 1), .ref (r 2), .ref (r 3), .ref (r 4), .ref (r 5), .ref (r 6), .ref (r 7), .ref (r 8), .ref (r 9), .ref (r 10), .ref (r 11), .ref (r 12), .ref (r 13), .ref (r 14), .ref (r 15), .int 0, .int 0, .int 0])), (r 0, .inr (0, [.ref (u 0), .ref (u 1), .ref (u 2), .ref (u 3), .ref (u 4), .int 0, .int 0, .int 0, .int 0])), (r 2, .inr (5, [.ref (r 1), .ref (z 0), .int 0, .int 0, .int 0, .int 0, .int 0, .int 0, .int 0, .int (-1), .ref (v 0)])), (u 16, .inl (G.2 1, 25, .inl (fun _ => 0))), (u 17, .inl (G.2 1, 25, .inl (fun _ => 0)))]) h (m_rV (ci := 1) (q0 := 2) (As := []) (rest := []) C0 h (c_X1_allLefts l G (u 2) (u 11) (u 12) (u 13) (u 14) (u 15) (u 16) (u 17)) k_X1_allLefts q_1426 q_1427 q_1425 rfl rfl rfl [2] (by decide) rfl hl.1 rfl rfl (Nat.le_of_ble_eq_true rfl) dX11_count_154 ⟨Nat.le_of_ble_eq_true rfl, Nat.le_of_ble_eq_true rfl⟩ ⟨Nat.le_of_ble_eq_true rfl, Nat.le_of_ble_eq_true rfl⟩) [2] [0, 1, 3, 4, 5] rfl rfl (by decide) (by decide) (fun r_16 u_14 H locs hp_15 h => ?_)
      have h : Wd G A s _ _ [(x, .inr (11, [.ref (r 0), .ref (r 1), .ref (r 2), .ref (r 3), .ref (r 4), .ref (r 5), .ref (r 6), .ref (r 7), .ref (r 8), .ref (r 9), .ref (r 10), .ref (r 11), .ref (r 12), .ref (r 13), .ref (r 14), .ref (r 15), .int 0, .int 0, .int 0])), (r 0, .inr (0, [.ref (u 0), .ref (u 1), .ref (u 2), .ref (u 3), .ref (u 4), .int 0, .int 0, .int 0, .int 0])), (r 2, .inr (5, [.ref (r 1), .ref (z 0), .int 0, .int 0, .int 0, .int 0, .int 0, .int 0, .int 0, .int (-1), .ref (v 0)])), (u 16, .inl (G.2 1, 25, .inl (fun _ => 0))), (u 17, .inl (G.2 1, 25, .inl (fun _ => 0))), (u 2, .inr (1, [.ref (u 11), .ref (u 12), .ref (u 13), .ref (u 14), .ref (u 15), .ref (u 16), .ref (u 17), .int 0, .int 0]))] := h
      obtain rfl : r_16 = 0 := hp_15
      exact m_iret () C0 h [] (by decide) rfl (by rw [sw_14]; rfl) (Nat.le_of_ble_eq_true rfl) (Nat.le_of_ble_eq_true rfl) dX11_count_157
