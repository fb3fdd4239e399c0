theorem upd111 (x : Int32) (k : Nat) : upd (upd (fun _ => 0) 111 x) (113 + k) 0 = upd (fun _ => 0) 111 x := upd_at (by unfold upd; rw [if_neg (by omega)])
theorem dX12_numbers_0 : decode cX12_numbers 0 = .ok (.aload_n 0, 1) := by decide +kernel
theorem dX12_numbers_1 : decode cX12_numbers 1 = .ok (.iconst 0, 1) := by decide +kernel
theorem dX12_numbers_2 : decode cX12_numbers 2 = .ok (.putfield 1, 3) := by decide +kernel
theorem dX12_numbers_5 : decode cX12_numbers 5 = .ok (.iload_n 1, 1) := by decide +kernel
theorem dX12_numbers_6 : decode cX12_numbers 6 = .ok (.i2l, 1) := by decide +kernel
theorem dX12_numbers_7 : decode cX12_numbers 7 = .ok (.lconst 0, 1) := by decide +kernel
theorem dX12_numbers_8 : decode cX12_numbers 8 = .ok (.ldc2_w 236, 3) := by decide +kernel
theorem dX12_numbers_11 : decode cX12_numbers 11 = .ok (.invokestatic 161, 3) := by decide +kernel
theorem dX12_numbers_14 : decode cX12_numbers 14 = .ok (.ifCond .eq 15, 3) := by decide +kernel
theorem dX12_numbers_17 : decode cX12_numbers 17 = .ok (.iload_n 2, 1) := by decide +kernel
theorem dX12_numbers_18 : decode cX12_numbers 18 = .ok (.i2l, 1) := by decide +kernel
theorem dX12_numbers_19 : decode cX12_numbers 19 = .ok (.lconst 0, 1) := by decide +kernel
theorem dX12_numbers_20 : decode cX12_numbers 20 = .ok (.ldc2_w 236, 3) := by decide +kernel
theorem dX12_numbers_23 : decode cX12_numbers 23 = .ok (.invokestatic 161, 3) := by decide +kernel
theorem dX12_numbers_26 : decode cX12_numbers 26 = .ok (.ifCond .ne 6, 3) := by decide +kernel
theorem dX12_numbers_29 : decode cX12_numbers 29 = .ok (.bipush (-2), 2) := by decide +kernel
theorem dX12_numbers_31 : decode cX12_numbers 31 = .ok (.ireturn, 1) := by decide +kernel
theorem dX12_numbers_32 : decode cX12_numbers 32 = .ok (.iload_n 3, 1) := by decide +kernel
theorem dX12_numbers_33 : decode cX12_numbers 33 = .ok (.i2l, 1) := by decide +kernel
theorem dX12_numbers_34 : decode cX12_numbers 34 = .ok (.lconst 0, 1) := by decide +kernel
theorem dX12_numbers_35 : decode cX12_numbers 35 = .ok (.ldc2_w 406, 3) := by decide +kernel
theorem dX12_numbers_38 : decode cX12_numbers 38 = .ok (.invokestatic 161, 3) := by decide +kernel
theorem dX12_numbers_41 : decode cX12_numbers 41 = .ok (.ifCond .ne 6, 3) := by decide +kernel
theorem dX12_numbers_44 : decode cX12_numbers 44 = .ok (.bipush (-3), 2) := by decide +kernel
theorem dX12_numbers_46 : decode cX12_numbers 46 = .ok (.ireturn, 1) := by decide +kernel
theorem dX12_numbers_47 : decode cX12_numbers 47 = .ok (.aload_n 0, 1) := by decide +kernel
theorem dX12_numbers_48 : decode cX12_numbers 48 = .ok (.getfield 86, 3) := by decide +kernel
theorem dX12_numbers_51 : decode cX12_numbers 51 = .ok (.iload_n 1, 1) := by decide +kernel
theorem dX12_numbers_52 : decode cX12_numbers 52 = .ok (.iload_n 2, 1) := by decide +kernel
theorem dX12_numbers_53 : decode cX12_numbers 53 = .ok (.iastore, 1) := by decide +kernel
theorem dX12_numbers_54 : decode cX12_numbers 54 = .ok (.aload_n 0, 1) := by decide +kernel
theorem dX12_numbers_55 : decode cX12_numbers 55 = .ok (.getfield 89, 3) := by decide +kernel
theorem dX12_numbers_58 : decode cX12_numbers 58 = .ok (.iload_n 1, 1) := by decide +kernel
theorem dX12_numbers_59 : decode cX12_numbers 59 = .ok (.iload_n 3, 1) := by decide +kernel
theorem dX12_numbers_60 : decode cX12_numbers 60 = .ok (.iastore, 1) := by decide +kernel
theorem dX12_numbers_61 : decode cX12_numbers 61 = .ok (.iconst 0, 1) := by decide +kernel
theorem dX12_numbers_62 : decode cX12_numbers 62 = .ok (.istore 4, 2) := by decide +kernel
theorem dX12_numbers_64 : decode cX12_numbers 64 = .ok (.iload 4, 2) := by decide +kernel
theorem dX12_numbers_66 : decode cX12_numbers 66 = .ok (.iload_n 3, 1) := by decide +kernel
theorem dX12_numbers_67 : decode cX12_numbers 67 = .ok (.if_icmp .ge 22, 3) := by decide +kernel
theorem dX12_numbers_70 : decode cX12_numbers 70 = .ok (.aload_n 0, 1) := by decide +kernel
theorem dX12_numbers_71 : decode cX12_numbers 71 = .ok (.getfield 92, 3) := by decide +kernel
theorem dX12_numbers_74 : decode cX12_numbers 74 = .ok (.bipush 40, 2) := by decide +kernel
theorem dX12_numbers_76 : decode cX12_numbers 76 = .ok (.iload_n 1, 1) := by decide +kernel
theorem dX12_numbers_77 : decode cX12_numbers 77 = .ok (.imul, 1) := by decide +kernel
theorem dX12_numbers_78 : decode cX12_numbers 78 = .ok (.iload 4, 2) := by decide +kernel
theorem dX12_numbers_80 : decode cX12_numbers 80 = .ok (.iadd, 1) := by decide +kernel
theorem dX12_numbers_81 : decode cX12_numbers 81 = .ok (.lconst 0, 1) := by decide +kernel
theorem dX12_numbers_82 : decode cX12_numbers 82 = .ok (.lastore, 1) := by decide +kernel
theorem dX12_numbers_83 : decode cX12_numbers 83 = .ok (.iinc 4 1, 3) := by decide +kernel
theorem dX12_numbers_86 : decode cX12_numbers 86 = .ok (.goto (-22), 3) := by decide +kernel
theorem dX12_numbers_89 : decode cX12_numbers 89 = .ok (.iconst 0, 1) := by decide +kernel
theorem dX12_numbers_90 : decode cX12_numbers 90 = .ok (.ireturn, 1) := by decide +kernel
theorem dX12_image_0 : decode cX12_image 0 = .ok (.aload_n 0, 1) := by decide +kernel
theorem dX12_image_1 : decode cX12_image 1 = .ok (.iconst 0, 1) := by decide +kernel
theorem dX12_image_2 : decode cX12_image 2 = .ok (.putfield 1, 3) := by decide +kernel
theorem dX12_image_5 : decode cX12_image 5 = .ok (.iload_n 1, 1) := by decide +kernel
theorem dX12_image_6 : decode cX12_image 6 = .ok (.i2l, 1) := by decide +kernel
theorem dX12_image_7 : decode cX12_image 7 = .ok (.lconst 0, 1) := by decide +kernel
theorem dX12_image_8 : decode cX12_image 8 = .ok (.lconst 1, 1) := by decide +kernel
theorem dX12_image_9 : decode cX12_image 9 = .ok (.invokestatic 161, 3) := by decide +kernel
theorem dX12_image_12 : decode cX12_image 12 = .ok (.ifCond .ne 6, 3) := by decide +kernel
theorem dX12_image_15 : decode cX12_image 15 = .ok (.bipush (-2), 2) := by decide +kernel
theorem dX12_image_17 : decode cX12_image 17 = .ok (.ireturn, 1) := by decide +kernel
theorem dX12_image_18 : decode cX12_image 18 = .ok (.iconst 0, 1) := by decide +kernel
theorem dX12_image_19 : decode cX12_image 19 = .ok (.istore_n 2, 1) := by decide +kernel
theorem dX12_image_20 : decode cX12_image 20 = .ok (.iload_n 2, 1) := by decide +kernel
theorem dX12_image_21 : decode cX12_image 21 = .ok (.sipush 1774, 3) := by decide +kernel
theorem dX12_image_24 : decode cX12_image 24 = .ok (.if_icmp .ge 29, 3) := by decide +kernel
theorem dX12_image_27 : decode cX12_image 27 = .ok (.aload_n 0, 1) := by decide +kernel
theorem dX12_image_28 : decode cX12_image 28 = .ok (.getfield 13, 3) := by decide +kernel
theorem dX12_image_31 : decode cX12_image 31 = .ok (.sipush 1774, 3) := by decide +kernel
theorem dX12_image_34 : decode cX12_image 34 = .ok (.iload_n 1, 1) := by decide +kernel
theorem dX12_image_35 : decode cX12_image 35 = .ok (.iconst 1, 1) := by decide +kernel
theorem dX12_image_36 : decode cX12_image 36 = .ok (.iadd, 1) := by decide +kernel
theorem dX12_image_37 : decode cX12_image 37 = .ok (.imul, 1) := by decide +kernel
theorem dX12_image_38 : decode cX12_image 38 = .ok (.iload_n 2, 1) := by decide +kernel
theorem dX12_image_39 : decode cX12_image 39 = .ok (.iadd, 1) := by decide +kernel
theorem dX12_image_40 : decode cX12_image 40 = .ok (.aload_n 0, 1) := by decide +kernel
theorem dX12_image_41 : decode cX12_image 41 = .ok (.getfield 13, 3) := by decide +kernel
theorem dX12_image_44 : decode cX12_image 44 = .ok (.iload_n 2, 1) := by decide +kernel
theorem dX12_image_45 : decode cX12_image 45 = .ok (.iaload, 1) := by decide +kernel
theorem dX12_image_46 : decode cX12_image 46 = .ok (.iastore, 1) := by decide +kernel
theorem dX12_image_47 : decode cX12_image 47 = .ok (.iinc 2 1, 3) := by decide +kernel
theorem dX12_image_50 : decode cX12_image 50 = .ok (.goto (-30), 3) := by decide +kernel
theorem dX12_image_53 : decode cX12_image 53 = .ok (.aload_n 0, 1) := by decide +kernel
theorem dX12_image_54 : decode cX12_image 54 = .ok (.getfield 17, 3) := by decide +kernel
theorem dX12_image_57 : decode cX12_image 57 = .ok (.iload_n 1, 1) := by decide +kernel
theorem dX12_image_58 : decode cX12_image 58 = .ok (.iconst 1, 1) := by decide +kernel
theorem dX12_image_59 : decode cX12_image 59 = .ok (.bastore, 1) := by decide +kernel
theorem dX12_image_60 : decode cX12_image 60 = .ok (.iconst 0, 1) := by decide +kernel
theorem dX12_image_61 : decode cX12_image 61 = .ok (.ireturn, 1) := by decide +kernel
theorem dX12_keeps_0 : decode cX12_keeps 0 = .ok (.iconst 0, 1) := by decide +kernel
theorem dX12_keeps_1 : decode cX12_keeps 1 = .ok (.istore_n 1, 1) := by decide +kernel
theorem dX12_keeps_2 : decode cX12_keeps 2 = .ok (.iload_n 1, 1) := by decide +kernel
theorem dX12_keeps_3 : decode cX12_keeps 3 = .ok (.bipush 76, 2) := by decide +kernel
theorem dX12_keeps_5 : decode cX12_keeps 5 = .ok (.if_icmp .ge 24, 3) := by decide +kernel
theorem dX12_keeps_8 : decode cX12_keeps 8 = .ok (.aload_n 0, 1) := by decide +kernel
theorem dX12_keeps_9 : decode cX12_keeps 9 = .ok (.getfield 33, 3) := by decide +kernel
theorem dX12_keeps_12 : decode cX12_keeps 12 = .ok (.iload_n 1, 1) := by decide +kernel
theorem dX12_keeps_13 : decode cX12_keeps 13 = .ok (.aload_n 0, 1) := by decide +kernel
theorem dX12_keeps_14 : decode cX12_keeps 14 = .ok (.getfield 13, 3) := by decide +kernel
theorem dX12_keeps_17 : decode cX12_keeps 17 = .ok (.bipush 36, 2) := by decide +kernel
theorem dX12_keeps_19 : decode cX12_keeps 19 = .ok (.iload_n 1, 1) := by decide +kernel
theorem dX12_keeps_20 : decode cX12_keeps 20 = .ok (.iadd, 1) := by decide +kernel
theorem dX12_keeps_21 : decode cX12_keeps 21 = .ok (.iaload, 1) := by decide +kernel
theorem dX12_keeps_22 : decode cX12_keeps 22 = .ok (.iastore, 1) := by decide +kernel
theorem dX12_keeps_23 : decode cX12_keeps 23 = .ok (.iinc 1 1, 3) := by decide +kernel
theorem dX12_keeps_26 : decode cX12_keeps 26 = .ok (.goto (-24), 3) := by decide +kernel
theorem dX12_keeps_29 : decode cX12_keeps 29 = .ok (.return_, 1) := by decide +kernel
theorem dX12_notes_0 : decode cX12_notes 0 = .ok (.aload_n 0, 1) := by decide +kernel
theorem dX12_notes_1 : decode cX12_notes 1 = .ok (.getfield 13, 3) := by decide +kernel
theorem dX12_notes_4 : decode cX12_notes 4 = .ok (.bipush 112, 2) := by decide +kernel
theorem dX12_notes_6 : decode cX12_notes 6 = .ok (.iaload, 1) := by decide +kernel
theorem dX12_notes_7 : decode cX12_notes 7 = .ok (.bipush 10, 2) := by decide +kernel
theorem dX12_notes_9 : decode cX12_notes 9 = .ok (.if_icmp .ne 48, 3) := by decide +kernel
theorem dX12_notes_57 : decode cX12_notes 57 = .ok (.iconst 0, 1) := by decide +kernel
theorem dX12_notes_58 : decode cX12_notes 58 = .ok (.istore_n 1, 1) := by decide +kernel
theorem dX12_notes_59 : decode cX12_notes 59 = .ok (.iload_n 1, 1) := by decide +kernel
theorem dX12_notes_60 : decode cX12_notes 60 = .ok (.bipush 76, 2) := by decide +kernel
theorem dX12_notes_62 : decode cX12_notes 62 = .ok (.if_icmp .ge 35, 3) := by decide +kernel
theorem dX12_notes_65 : decode cX12_notes 65 = .ok (.aload_n 0, 1) := by decide +kernel
theorem dX12_notes_66 : decode cX12_notes 66 = .ok (.getfield 13, 3) := by decide +kernel
theorem dX12_notes_69 : decode cX12_notes 69 = .ok (.bipush 113, 2) := by decide +kernel
theorem dX12_notes_71 : decode cX12_notes 71 = .ok (.bipush 76, 2) := by decide +kernel
theorem dX12_notes_73 : decode cX12_notes 73 = .ok (.aload_n 0, 1) := by decide +kernel
theorem dX12_notes_74 : decode cX12_notes 74 = .ok (.getfield 13, 3) := by decide +kernel
theorem dX12_notes_77 : decode cX12_notes 77 = .ok (.bipush 112, 2) := by decide +kernel
theorem dX12_notes_79 : decode cX12_notes 79 = .ok (.iaload, 1) := by decide +kernel
theorem dX12_notes_80 : decode cX12_notes 80 = .ok (.imul, 1) := by decide +kernel
theorem dX12_notes_81 : decode cX12_notes 81 = .ok (.iadd, 1) := by decide +kernel
theorem dX12_notes_82 : decode cX12_notes 82 = .ok (.iload_n 1, 1) := by decide +kernel
theorem dX12_notes_83 : decode cX12_notes 83 = .ok (.iadd, 1) := by decide +kernel
theorem dX12_notes_84 : decode cX12_notes 84 = .ok (.aload_n 0, 1) := by decide +kernel
theorem dX12_notes_85 : decode cX12_notes 85 = .ok (.getfield 33, 3) := by decide +kernel
theorem dX12_notes_88 : decode cX12_notes 88 = .ok (.iload_n 1, 1) := by decide +kernel
theorem dX12_notes_89 : decode cX12_notes 89 = .ok (.iaload, 1) := by decide +kernel
theorem dX12_notes_90 : decode cX12_notes 90 = .ok (.iastore, 1) := by decide +kernel
theorem dX12_notes_91 : decode cX12_notes 91 = .ok (.iinc 1 1, 3) := by decide +kernel
theorem dX12_notes_94 : decode cX12_notes 94 = .ok (.goto (-35), 3) := by decide +kernel
theorem dX12_notes_97 : decode cX12_notes 97 = .ok (.aload_n 0, 1) := by decide +kernel
theorem dX12_notes_98 : decode cX12_notes 98 = .ok (.getfield 13, 3) := by decide +kernel
theorem dX12_notes_101 : decode cX12_notes 101 = .ok (.bipush 112, 2) := by decide +kernel
theorem dX12_notes_103 : decode cX12_notes 103 = .ok (.dup2, 1) := by decide +kernel
theorem dX12_notes_104 : decode cX12_notes 104 = .ok (.iaload, 1) := by decide +kernel
theorem dX12_notes_105 : decode cX12_notes 105 = .ok (.iconst 1, 1) := by decide +kernel
theorem dX12_notes_106 : decode cX12_notes 106 = .ok (.iadd, 1) := by decide +kernel
theorem dX12_notes_107 : decode cX12_notes 107 = .ok (.iastore, 1) := by decide +kernel
theorem dX12_notes_108 : decode cX12_notes 108 = .ok (.return_, 1) := by decide +kernel
theorem dX12_hours_0 : decode cX12_hours 0 = .ok (.aload_n 0, 1) := by decide +kernel
theorem dX12_hours_1 : decode cX12_hours 1 = .ok (.iconst 0, 1) := by decide +kernel
theorem dX12_hours_2 : decode cX12_hours 2 = .ok (.putfield 1, 3) := by decide +kernel
theorem dX12_hours_5 : decode cX12_hours 5 = .ok (.iload_n 1, 1) := by decide +kernel
theorem dX12_hours_6 : decode cX12_hours 6 = .ok (.i2l, 1) := by decide +kernel
theorem dX12_hours_7 : decode cX12_hours 7 = .ok (.lconst 1, 1) := by decide +kernel
theorem dX12_hours_8 : decode cX12_hours 8 = .ok (.ldc2_w 328, 3) := by decide +kernel
theorem dX12_hours_11 : decode cX12_hours 11 = .ok (.invokestatic 161, 3) := by decide +kernel
theorem dX12_hours_14 : decode cX12_hours 14 = .ok (.ifCond .ne 6, 3) := by decide +kernel
theorem dX12_hours_17 : decode cX12_hours 17 = .ok (.bipush (-3), 2) := by decide +kernel
theorem dX12_hours_19 : decode cX12_hours 19 = .ok (.ireturn, 1) := by decide +kernel
theorem dX12_hours_20 : decode cX12_hours 20 = .ok (.aload_n 0, 1) := by decide +kernel
theorem dX12_hours_21 : decode cX12_hours 21 = .ok (.invokevirtual 297, 3) := by decide +kernel
theorem dX12_hours_24 : decode cX12_hours 24 = .ok (.aload_n 0, 1) := by decide +kernel
theorem dX12_hours_25 : decode cX12_hours 25 = .ok (.getfield 13, 3) := by decide +kernel
theorem dX12_hours_28 : decode cX12_hours 28 = .ok (.bipush 111, 2) := by decide +kernel
theorem dX12_hours_30 : decode cX12_hours 30 = .ok (.dup2, 1) := by decide +kernel
theorem dX12_hours_31 : decode cX12_hours 31 = .ok (.iaload, 1) := by decide +kernel
theorem dX12_hours_32 : decode cX12_hours 32 = .ok (.iload_n 1, 1) := by decide +kernel
theorem dX12_hours_33 : decode cX12_hours 33 = .ok (.iadd, 1) := by decide +kernel
theorem dX12_hours_34 : decode cX12_hours 34 = .ok (.iastore, 1) := by decide +kernel
theorem dX12_hours_35 : decode cX12_hours 35 = .ok (.aload_n 0, 1) := by decide +kernel
theorem dX12_hours_36 : decode cX12_hours 36 = .ok (.invokevirtual 303, 3) := by decide +kernel
theorem dX12_hours_39 : decode cX12_hours 39 = .ok (.aload_n 0, 1) := by decide +kernel
theorem dX12_hours_40 : decode cX12_hours 40 = .ok (.getfield 13, 3) := by decide +kernel
theorem dX12_hours_43 : decode cX12_hours 43 = .ok (.bipush 111, 2) := by decide +kernel
theorem dX12_hours_45 : decode cX12_hours 45 = .ok (.iaload, 1) := by decide +kernel
theorem dX12_hours_46 : decode cX12_hours 46 = .ok (.ireturn, 1) := by decide +kernel
theorem dX12_feed_0 : decode cX12_feed 0 = .ok (.aload_n 0, 1) := by decide +kernel
theorem dX12_feed_1 : decode cX12_feed 1 = .ok (.iconst 0, 1) := by decide +kernel
theorem dX12_feed_2 : decode cX12_feed 2 = .ok (.putfield 1, 3) := by decide +kernel
theorem dX12_feed_5 : decode cX12_feed 5 = .ok (.aload_n 0, 1) := by decide +kernel
theorem dX12_feed_6 : decode cX12_feed 6 = .ok (.getfield 99, 3) := by decide +kernel
theorem dX12_feed_9 : decode cX12_feed 9 = .ok (.bipush 20, 2) := by decide +kernel
theorem dX12_feed_11 : decode cX12_feed 11 = .ok (.iadd, 1) := by decide +kernel
theorem dX12_feed_12 : decode cX12_feed 12 = .ok (.sipush 900, 3) := by decide +kernel
theorem dX12_feed_15 : decode cX12_feed 15 = .ok (.if_icmp .le 6, 3) := by decide +kernel
theorem dX12_feed_21 : decode cX12_feed 21 = .ok (.iconst 0, 1) := by decide +kernel
theorem dX12_feed_22 : decode cX12_feed 22 = .ok (.istore 6, 2) := by decide +kernel
theorem dX12_feed_24 : decode cX12_feed 24 = .ok (.iload 6, 2) := by decide +kernel
theorem dX12_feed_26 : decode cX12_feed 26 = .ok (.bipush 20, 2) := by decide +kernel
theorem dX12_feed_28 : decode cX12_feed 28 = .ok (.if_icmp .ge 93, 3) := by decide +kernel
theorem dX12_feed_31 : decode cX12_feed 31 = .ok (.iload 6, 2) := by decide +kernel
theorem dX12_feed_33 : decode cX12_feed 33 = .ok (.iconst 4, 1) := by decide +kernel
theorem dX12_feed_34 : decode cX12_feed 34 = .ok (.if_icmp .ge 7, 3) := by decide +kernel
theorem dX12_feed_37 : decode cX12_feed 37 = .ok (.iload_n 1, 1) := by decide +kernel
theorem dX12_feed_38 : decode cX12_feed 38 = .ok (.goto 39, 3) := by decide +kernel
theorem dX12_feed_41 : decode cX12_feed 41 = .ok (.iload 6, 2) := by decide +kernel
theorem dX12_feed_43 : decode cX12_feed 43 = .ok (.bipush 8, 2) := by decide +kernel
theorem dX12_feed_45 : decode cX12_feed 45 = .ok (.if_icmp .ge 7, 3) := by decide +kernel
theorem dX12_feed_48 : decode cX12_feed 48 = .ok (.iload_n 2, 1) := by decide +kernel
theorem dX12_feed_49 : decode cX12_feed 49 = .ok (.goto 28, 3) := by decide +kernel
theorem dX12_feed_52 : decode cX12_feed 52 = .ok (.iload 6, 2) := by decide +kernel
theorem dX12_feed_54 : decode cX12_feed 54 = .ok (.bipush 12, 2) := by decide +kernel
theorem dX12_feed_56 : decode cX12_feed 56 = .ok (.if_icmp .ge 7, 3) := by decide +kernel
theorem dX12_feed_59 : decode cX12_feed 59 = .ok (.iload_n 3, 1) := by decide +kernel
theorem dX12_feed_60 : decode cX12_feed 60 = .ok (.goto 17, 3) := by decide +kernel
theorem dX12_feed_63 : decode cX12_feed 63 = .ok (.iload 6, 2) := by decide +kernel
theorem dX12_feed_65 : decode cX12_feed 65 = .ok (.bipush 16, 2) := by decide +kernel
theorem dX12_feed_67 : decode cX12_feed 67 = .ok (.if_icmp .ge 8, 3) := by decide +kernel
theorem dX12_feed_70 : decode cX12_feed 70 = .ok (.iload 4, 2) := by decide +kernel
theorem dX12_feed_72 : decode cX12_feed 72 = .ok (.goto 5, 3) := by decide +kernel
theorem dX12_feed_75 : decode cX12_feed 75 = .ok (.iload 5, 2) := by decide +kernel
theorem dX12_feed_77 : decode cX12_feed 77 = .ok (.istore 7, 2) := by decide +kernel
theorem dX12_feed_79 : decode cX12_feed 79 = .ok (.aload_n 0, 1) := by decide +kernel
theorem dX12_feed_80 : decode cX12_feed 80 = .ok (.getfield 21, 3) := by decide +kernel
theorem dX12_feed_83 : decode cX12_feed 83 = .ok (.aload_n 0, 1) := by decide +kernel
theorem dX12_feed_84 : decode cX12_feed 84 = .ok (.getfield 99, 3) := by decide +kernel
theorem dX12_feed_87 : decode cX12_feed 87 = .ok (.iload 7, 2) := by decide +kernel
theorem dX12_feed_89 : decode cX12_feed 89 = .ok (.bipush 24, 2) := by decide +kernel
theorem dX12_feed_91 : decode cX12_feed 91 = .ok (.bipush 8, 2) := by decide +kernel
theorem dX12_feed_93 : decode cX12_feed 93 = .ok (.iload 6, 2) := by decide +kernel
theorem dX12_feed_95 : decode cX12_feed 95 = .ok (.iconst 4, 1) := by decide +kernel
theorem dX12_feed_96 : decode cX12_feed 96 = .ok (.irem, 1) := by decide +kernel
theorem dX12_feed_97 : decode cX12_feed 97 = .ok (.imul, 1) := by decide +kernel
theorem dX12_feed_98 : decode cX12_feed 98 = .ok (.isub, 1) := by decide +kernel
theorem dX12_feed_99 : decode cX12_feed 99 = .ok (.ishr, 1) := by decide +kernel
theorem dX12_feed_100 : decode cX12_feed 100 = .ok (.sipush 255, 3) := by decide +kernel
theorem dX12_feed_103 : decode cX12_feed 103 = .ok (.iand, 1) := by decide +kernel
theorem dX12_feed_104 : decode cX12_feed 104 = .ok (.iastore, 1) := by decide +kernel
theorem dX12_feed_105 : decode cX12_feed 105 = .ok (.aload_n 0, 1) := by decide +kernel
theorem dX12_feed_106 : decode cX12_feed 106 = .ok (.dup, 1) := by decide +kernel
theorem dX12_feed_107 : decode cX12_feed 107 = .ok (.getfield 99, 3) := by decide +kernel
theorem dX12_feed_110 : decode cX12_feed 110 = .ok (.iconst 1, 1) := by decide +kernel
theorem dX12_feed_111 : decode cX12_feed 111 = .ok (.iadd, 1) := by decide +kernel
theorem dX12_feed_112 : decode cX12_feed 112 = .ok (.putfield 99, 3) := by decide +kernel
theorem dX12_feed_115 : decode cX12_feed 115 = .ok (.iinc 6 1, 3) := by decide +kernel
theorem dX12_feed_118 : decode cX12_feed 118 = .ok (.goto (-94), 3) := by decide +kernel
theorem dX12_feed_121 : decode cX12_feed 121 = .ok (.aload_n 0, 1) := by decide +kernel
theorem dX12_feed_122 : decode cX12_feed 122 = .ok (.getfield 99, 3) := by decide +kernel
theorem dX12_feed_125 : decode cX12_feed 125 = .ok (.ireturn, 1) := by decide +kernel
theorem dX12_plain_0 : decode cX12_plain 0 = .ok (.iconst 0, 1) := by decide +kernel
theorem dX12_plain_1 : decode cX12_plain 1 = .ok (.istore_n 1, 1) := by decide +kernel
theorem dX12_plain_2 : decode cX12_plain 2 = .ok (.iload_n 1, 1) := by decide +kernel
theorem dX12_plain_3 : decode cX12_plain 3 = .ok (.sipush 1774, 3) := by decide +kernel
theorem dX12_plain_6 : decode cX12_plain 6 = .ok (.if_icmp .ge 13, 3) := by decide +kernel
theorem dX12_plain_9 : decode cX12_plain 9 = .ok (.aload_n 0, 1) := by decide +kernel
theorem dX12_plain_10 : decode cX12_plain 10 = .ok (.iload_n 1, 1) := by decide +kernel
theorem dX12_plain_11 : decode cX12_plain 11 = .ok (.iconst 0, 1) := by decide +kernel
theorem dX12_plain_12 : decode cX12_plain 12 = .ok (.iastore, 1) := by decide +kernel
theorem dX12_plain_13 : decode cX12_plain 13 = .ok (.iinc 1 1, 3) := by decide +kernel
theorem dX12_plain_16 : decode cX12_plain 16 = .ok (.goto (-14), 3) := by decide +kernel
theorem dX12_plain_19 : decode cX12_plain 19 = .ok (.return_, 1) := by decide +kernel
theorem dX12_see_0 : decode cX12_see 0 = .ok (.iload_n 1, 1) := by decide +kernel
theorem dX12_see_1 : decode cX12_see 1 = .ok (.aload_n 0, 1) := by decide +kernel
theorem dX12_see_2 : decode cX12_see 2 = .ok (.getfield 102, 3) := by decide +kernel
theorem dX12_see_5 : decode cX12_see 5 = .ok (.if_icmp .ge 12, 3) := by decide +kernel
theorem dX12_see_17 : decode cX12_see 17 = .ok (.iconst (-1), 1) := by decide +kernel
theorem dX12_see_18 : decode cX12_see 18 = .ok (.ireturn, 1) := by decide +kernel
theorem dX12_next_0 : decode cX12_next 0 = .ok (.aload_n 0, 1) := by decide +kernel
theorem dX12_next_1 : decode cX12_next 1 = .ok (.aload_n 0, 1) := by decide +kernel
theorem dX12_next_2 : decode cX12_next 2 = .ok (.getfield 120, 3) := by decide +kernel
theorem dX12_next_5 : decode cX12_next 5 = .ok (.putfield 117, 3) := by decide +kernel
theorem dX12_next_8 : decode cX12_next 8 = .ok (.aload_n 0, 1) := by decide +kernel
theorem dX12_next_9 : decode cX12_next 9 = .ok (.aload_n 0, 1) := by decide +kernel
theorem dX12_next_10 : decode cX12_next 10 = .ok (.getfield 117, 3) := by decide +kernel
theorem dX12_next_13 : decode cX12_next 13 = .ok (.invokevirtual 123, 3) := by decide +kernel
theorem dX12_next_16 : decode cX12_next 16 = .ok (.bipush 10, 2) := by decide +kernel
theorem dX12_next_18 : decode cX12_next 18 = .ok (.if_icmp .eq 16, 3) := by decide +kernel
theorem dX12_next_21 : decode cX12_next 21 = .ok (.aload_n 0, 1) := by decide +kernel
theorem dX12_next_22 : decode cX12_next 22 = .ok (.aload_n 0, 1) := by decide +kernel
theorem dX12_next_23 : decode cX12_next 23 = .ok (.getfield 117, 3) := by decide +kernel
theorem dX12_next_26 : decode cX12_next 26 = .ok (.invokevirtual 123, 3) := by decide +kernel
theorem dX12_next_29 : decode cX12_next 29 = .ok (.bipush 32, 2) := by decide +kernel
theorem dX12_next_31 : decode cX12_next 31 = .ok (.if_icmp .ne 16, 3) := by decide +kernel
theorem dX12_next_47 : decode cX12_next 47 = .ok (.aload_n 0, 1) := by decide +kernel
theorem dX12_next_48 : decode cX12_next 48 = .ok (.aload_n 0, 1) := by decide +kernel
theorem dX12_next_49 : decode cX12_next 49 = .ok (.getfield 117, 3) := by decide +kernel
theorem dX12_next_52 : decode cX12_next 52 = .ok (.putfield 120, 3) := by decide +kernel
theorem dX12_next_55 : decode cX12_next 55 = .ok (.aload_n 0, 1) := by decide +kernel
theorem dX12_next_56 : decode cX12_next 56 = .ok (.getfield 117, 3) := by decide +kernel
theorem dX12_next_59 : decode cX12_next 59 = .ok (.aload_n 0, 1) := by decide +kernel
theorem dX12_next_60 : decode cX12_next 60 = .ok (.getfield 102, 3) := by decide +kernel
theorem dX12_next_63 : decode cX12_next 63 = .ok (.if_icmp .lt 12, 3) := by decide +kernel
theorem dX12_next_66 : decode cX12_next 66 = .ok (.aload_n 0, 1) := by decide +kernel
theorem dX12_next_67 : decode cX12_next 67 = .ok (.bipush 24, 2) := by decide +kernel
theorem dX12_next_69 : decode cX12_next 69 = .ok (.putfield 127, 3) := by decide +kernel
theorem dX12_next_72 : decode cX12_next 72 = .ok (.goto 222, 3) := by decide +kernel
theorem dX12_next_294 : decode cX12_next 294 = .ok (.return_, 1) := by decide +kernel
theorem dX12_city_0 : decode cX12_city 0 = .ok (.aload_n 0, 1) := by decide +kernel
theorem dX12_city_1 : decode cX12_city 1 = .ok (.iconst 0, 1) := by decide +kernel
theorem dX12_city_2 : decode cX12_city 2 = .ok (.putfield 1, 3) := by decide +kernel
theorem dX12_city_5 : decode cX12_city 5 = .ok (.iload_n 1, 1) := by decide +kernel
theorem dX12_city_6 : decode cX12_city 6 = .ok (.i2l, 1) := by decide +kernel
theorem dX12_city_7 : decode cX12_city 7 = .ok (.lconst 0, 1) := by decide +kernel
theorem dX12_city_8 : decode cX12_city 8 = .ok (.aload_n 0, 1) := by decide +kernel
theorem dX12_city_9 : decode cX12_city 9 = .ok (.getfield 99, 3) := by decide +kernel
theorem dX12_city_12 : decode cX12_city 12 = .ok (.i2l, 1) := by decide +kernel
theorem dX12_city_13 : decode cX12_city 13 = .ok (.invokestatic 161, 3) := by decide +kernel
theorem dX12_city_16 : decode cX12_city 16 = .ok (.ifCond .ne 6, 3) := by decide +kernel
theorem dX12_city_19 : decode cX12_city 19 = .ok (.bipush (-3), 2) := by decide +kernel
theorem dX12_city_21 : decode cX12_city 21 = .ok (.ireturn, 1) := by decide +kernel
theorem dX12_city_22 : decode cX12_city 22 = .ok (.aload_n 0, 1) := by decide +kernel
theorem dX12_city_23 : decode cX12_city 23 = .ok (.iload_n 1, 1) := by decide +kernel
theorem dX12_city_24 : decode cX12_city 24 = .ok (.putfield 102, 3) := by decide +kernel
theorem dX12_city_27 : decode cX12_city 27 = .ok (.aload_n 0, 1) := by decide +kernel
theorem dX12_city_28 : decode cX12_city 28 = .ok (.iconst 0, 1) := by decide +kernel
theorem dX12_city_29 : decode cX12_city 29 = .ok (.putfield 99, 3) := by decide +kernel
theorem dX12_city_32 : decode cX12_city 32 = .ok (.aload_n 0, 1) := by decide +kernel
theorem dX12_city_33 : decode cX12_city 33 = .ok (.iconst 0, 1) := by decide +kernel
theorem dX12_city_34 : decode cX12_city 34 = .ok (.putfield 120, 3) := by decide +kernel
theorem dX12_city_37 : decode cX12_city 37 = .ok (.aload_n 0, 1) := by decide +kernel
theorem dX12_city_38 : decode cX12_city 38 = .ok (.iconst 0, 1) := by decide +kernel
theorem dX12_city_39 : decode cX12_city 39 = .ok (.putfield 145, 3) := by decide +kernel
theorem dX12_city_42 : decode cX12_city 42 = .ok (.aload_n 0, 1) := by decide +kernel
theorem dX12_city_43 : decode cX12_city 43 = .ok (.getfield 24, 3) := by decide +kernel
theorem dX12_city_46 : decode cX12_city 46 = .ok (.invokestatic 95, 3) := by decide +kernel
theorem dX12_city_49 : decode cX12_city 49 = .ok (.aload_n 0, 1) := by decide +kernel
theorem dX12_city_50 : decode cX12_city 50 = .ok (.invokevirtual 154, 3) := by decide +kernel
theorem dX12_city_53 : decode cX12_city 53 = .ok (.aload_n 0, 1) := by decide +kernel
theorem dX12_city_54 : decode cX12_city 54 = .ok (.getfield 145, 3) := by decide +kernel
theorem dX12_city_57 : decode cX12_city 57 = .ok (.ifCond .ne 43, 3) := by decide +kernel
theorem dX12_city_60 : decode cX12_city 60 = .ok (.aload_n 0, 1) := by decide +kernel
theorem dX12_city_61 : decode cX12_city 61 = .ok (.getfield 127, 3) := by decide +kernel
theorem dX12_city_64 : decode cX12_city 64 = .ok (.bipush 24, 2) := by decide +kernel
theorem dX12_city_66 : decode cX12_city 66 = .ok (.if_icmp .eq 34, 3) := by decide +kernel
theorem dX12_city_100 : decode cX12_city 100 = .ok (.aload_n 0, 1) := by decide +kernel
theorem dX12_city_101 : decode cX12_city 101 = .ok (.aload_n 0, 1) := by decide +kernel
theorem dX12_city_102 : decode cX12_city 102 = .ok (.getfield 145, 3) := by decide +kernel
theorem dX12_city_105 : decode cX12_city 105 = .ok (.putfield 226, 3) := by decide +kernel
theorem dX12_city_108 : decode cX12_city 108 = .ok (.aload_n 0, 1) := by decide +kernel
theorem dX12_city_109 : decode cX12_city 109 = .ok (.aload_n 0, 1) := by decide +kernel
theorem dX12_city_110 : decode cX12_city 110 = .ok (.getfield 145, 3) := by decide +kernel
theorem dX12_city_113 : decode cX12_city 113 = .ok (.ifCond .ne 7, 3) := by decide +kernel
theorem dX12_city_116 : decode cX12_city 116 = .ok (.iconst (-1), 1) := by decide +kernel
theorem dX12_city_117 : decode cX12_city 117 = .ok (.goto 7, 3) := by decide +kernel
theorem dX12_city_124 : decode cX12_city 124 = .ok (.putfield 27, 3) := by decide +kernel
theorem dX12_city_127 : decode cX12_city 127 = .ok (.aload_n 0, 1) := by decide +kernel
theorem dX12_city_128 : decode cX12_city 128 = .ok (.getfield 145, 3) := by decide +kernel
theorem dX12_city_131 : decode cX12_city 131 = .ok (.ifCond .eq 11, 3) := by decide +kernel
theorem dX12_city_142 : decode cX12_city 142 = .ok (.iconst 0, 1) := by decide +kernel
theorem dX12_city_143 : decode cX12_city 143 = .ok (.istore_n 2, 1) := by decide +kernel
theorem dX12_city_144 : decode cX12_city 144 = .ok (.iload_n 2, 1) := by decide +kernel
theorem dX12_city_145 : decode cX12_city 145 = .ok (.sipush 1774, 3) := by decide +kernel
theorem dX12_city_148 : decode cX12_city 148 = .ok (.if_icmp .ge 21, 3) := by decide +kernel
theorem dX12_city_151 : decode cX12_city 151 = .ok (.aload_n 0, 1) := by decide +kernel
theorem dX12_city_152 : decode cX12_city 152 = .ok (.getfield 13, 3) := by decide +kernel
theorem dX12_city_155 : decode cX12_city 155 = .ok (.iload_n 2, 1) := by decide +kernel
theorem dX12_city_156 : decode cX12_city 156 = .ok (.aload_n 0, 1) := by decide +kernel
theorem dX12_city_157 : decode cX12_city 157 = .ok (.getfield 24, 3) := by decide +kernel
theorem dX12_city_160 : decode cX12_city 160 = .ok (.iload_n 2, 1) := by decide +kernel
theorem dX12_city_161 : decode cX12_city 161 = .ok (.iaload, 1) := by decide +kernel
theorem dX12_city_162 : decode cX12_city 162 = .ok (.iastore, 1) := by decide +kernel
theorem dX12_city_163 : decode cX12_city 163 = .ok (.iinc 2 1, 3) := by decide +kernel
theorem dX12_city_166 : decode cX12_city 166 = .ok (.goto (-22), 3) := by decide +kernel
theorem dX12_city_169 : decode cX12_city 169 = .ok (.aload_n 0, 1) := by decide +kernel
theorem dX12_city_170 : decode cX12_city 170 = .ok (.getfield 13, 3) := by decide +kernel
theorem dX12_city_173 : decode cX12_city 173 = .ok (.iconst 0, 1) := by decide +kernel
theorem dX12_city_174 : decode cX12_city 174 = .ok (.iaload, 1) := by decide +kernel
theorem dX12_city_175 : decode cX12_city 175 = .ok (.ireturn, 1) := by decide +kernel
theorem dX12_soldMany_0 : decode cX12_soldMany 0 = .ok (.iconst 0, 1) := by decide +kernel
theorem dX12_soldMany_1 : decode cX12_soldMany 1 = .ok (.istore_n 1, 1) := by decide +kernel
theorem dX12_soldMany_2 : decode cX12_soldMany 2 = .ok (.iconst 0, 1) := by decide +kernel
theorem dX12_soldMany_3 : decode cX12_soldMany 3 = .ok (.istore_n 2, 1) := by decide +kernel
theorem dX12_soldMany_4 : decode cX12_soldMany 4 = .ok (.iload_n 2, 1) := by decide +kernel
theorem dX12_soldMany_5 : decode cX12_soldMany 5 = .ok (.aload_n 0, 1) := by decide +kernel
theorem dX12_soldMany_6 : decode cX12_soldMany 6 = .ok (.invokevirtual 233, 3) := by decide +kernel
theorem dX12_soldMany_9 : decode cX12_soldMany 9 = .ok (.if_icmp .ge 21, 3) := by decide +kernel
theorem dX12_soldMany_30 : decode cX12_soldMany 30 = .ok (.iload_n 1, 1) := by decide +kernel
theorem dX12_soldMany_31 : decode cX12_soldMany 31 = .ok (.ireturn, 1) := by decide +kernel
theorem dX12_freeMany_0 : decode cX12_freeMany 0 = .ok (.iconst 0, 1) := by decide +kernel
theorem dX12_freeMany_1 : decode cX12_freeMany 1 = .ok (.istore_n 1, 1) := by decide +kernel
theorem dX12_freeMany_2 : decode cX12_freeMany 2 = .ok (.iconst 0, 1) := by decide +kernel
theorem dX12_freeMany_3 : decode cX12_freeMany 3 = .ok (.istore_n 2, 1) := by decide +kernel
theorem dX12_freeMany_4 : decode cX12_freeMany 4 = .ok (.iload_n 2, 1) := by decide +kernel
theorem dX12_freeMany_5 : decode cX12_freeMany 5 = .ok (.aload_n 0, 1) := by decide +kernel
theorem dX12_freeMany_6 : decode cX12_freeMany 6 = .ok (.invokevirtual 233, 3) := by decide +kernel
theorem dX12_freeMany_9 : decode cX12_freeMany 9 = .ok (.if_icmp .ge 26, 3) := by decide +kernel
theorem dX12_freeMany_35 : decode cX12_freeMany 35 = .ok (.iload_n 1, 1) := by decide +kernel
theorem dX12_freeMany_36 : decode cX12_freeMany 36 = .ok (.ireturn, 1) := by decide +kernel
theorem dX12_allLefts_0 : decode cX12_allLefts 0 = .ok (.iconst 0, 1) := by decide +kernel
theorem dX12_allLefts_1 : decode cX12_allLefts 1 = .ok (.istore_n 1, 1) := by decide +kernel
theorem dX12_allLefts_2 : decode cX12_allLefts 2 = .ok (.iconst 0, 1) := by decide +kernel
theorem dX12_allLefts_3 : decode cX12_allLefts 3 = .ok (.istore_n 2, 1) := by decide +kernel
theorem dX12_allLefts_4 : decode cX12_allLefts 4 = .ok (.iload_n 2, 1) := by decide +kernel
theorem dX12_allLefts_5 : decode cX12_allLefts 5 = .ok (.aload_n 0, 1) := by decide +kernel
theorem dX12_allLefts_6 : decode cX12_allLefts 6 = .ok (.getfield 13, 3) := by decide +kernel
theorem dX12_allLefts_9 : decode cX12_allLefts 9 = .ok (.iconst 3, 1) := by decide +kernel
theorem dX12_allLefts_10 : decode cX12_allLefts 10 = .ok (.iaload, 1) := by decide +kernel
theorem dX12_allLefts_11 : decode cX12_allLefts 11 = .ok (.if_icmp .ge 21, 3) := by decide +kernel
theorem dX12_allLefts_32 : decode cX12_allLefts 32 = .ok (.iload_n 1, 1) := by decide +kernel
theorem dX12_allLefts_33 : decode cX12_allLefts 33 = .ok (.ireturn, 1) := by decide +kernel
theorem dX12_count_0 : decode cX12_count 0 = .ok (.aload_n 0, 1) := by decide +kernel
theorem dX12_count_1 : decode cX12_count 1 = .ok (.iconst 0, 1) := by decide +kernel
theorem dX12_count_2 : decode cX12_count 2 = .ok (.putfield 1, 3) := by decide +kernel
theorem dX12_count_5 : decode cX12_count 5 = .ok (.iload_n 1, 1) := by decide +kernel
theorem dX12_count_6 : decode cX12_count 6 = .ok (.tableswitch 118 0 9 #[54, 61, 68, 75, 83, 88, 93, 101, 106, 113], 54) := by decide +kernel
theorem dX12_count_60 : decode cX12_count 60 = .ok (.aload_n 0, 1) := by decide +kernel
theorem dX12_count_61 : decode cX12_count 61 = .ok (.getfield 13, 3) := by decide +kernel
theorem dX12_count_64 : decode cX12_count 64 = .ok (.iconst 1, 1) := by decide +kernel
theorem dX12_count_65 : decode cX12_count 65 = .ok (.iaload, 1) := by decide +kernel
theorem dX12_count_66 : decode cX12_count 66 = .ok (.ireturn, 1) := by decide +kernel
theorem dX12_count_67 : decode cX12_count 67 = .ok (.aload_n 0, 1) := by decide +kernel
theorem dX12_count_68 : decode cX12_count 68 = .ok (.getfield 13, 3) := by decide +kernel
theorem dX12_count_71 : decode cX12_count 71 = .ok (.iconst 2, 1) := by decide +kernel
theorem dX12_count_72 : decode cX12_count 72 = .ok (.iaload, 1) := by decide +kernel
theorem dX12_count_73 : decode cX12_count 73 = .ok (.ireturn, 1) := by decide +kernel
theorem dX12_count_74 : decode cX12_count 74 = .ok (.aload_n 0, 1) := by decide +kernel
theorem dX12_count_75 : decode cX12_count 75 = .ok (.getfield 13, 3) := by decide +kernel
theorem dX12_count_78 : decode cX12_count 78 = .ok (.iconst 3, 1) := by decide +kernel
theorem dX12_count_79 : decode cX12_count 79 = .ok (.iaload, 1) := by decide +kernel
theorem dX12_count_80 : decode cX12_count 80 = .ok (.ireturn, 1) := by decide +kernel
theorem dX12_count_81 : decode cX12_count 81 = .ok (.aload_n 0, 1) := by decide +kernel
theorem dX12_count_82 : decode cX12_count 82 = .ok (.getfield 13, 3) := by decide +kernel
theorem dX12_count_85 : decode cX12_count 85 = .ok (.bipush 111, 2) := by decide +kernel
theorem dX12_count_87 : decode cX12_count 87 = .ok (.iaload, 1) := by decide +kernel
theorem dX12_count_88 : decode cX12_count 88 = .ok (.ireturn, 1) := by decide +kernel
theorem dX12_count_89 : decode cX12_count 89 = .ok (.aload_n 0, 1) := by decide +kernel
theorem dX12_count_90 : decode cX12_count 90 = .ok (.invokevirtual 465, 3) := by decide +kernel
theorem dX12_count_93 : decode cX12_count 93 = .ok (.ireturn, 1) := by decide +kernel
theorem dX12_count_94 : decode cX12_count 94 = .ok (.aload_n 0, 1) := by decide +kernel
theorem dX12_count_95 : decode cX12_count 95 = .ok (.invokevirtual 330, 3) := by decide +kernel
theorem dX12_count_98 : decode cX12_count 98 = .ok (.ireturn, 1) := by decide +kernel
theorem dX12_count_99 : decode cX12_count 99 = .ok (.aload_n 0, 1) := by decide +kernel
theorem dX12_count_100 : decode cX12_count 100 = .ok (.getfield 13, 3) := by decide +kernel
theorem dX12_count_103 : decode cX12_count 103 = .ok (.bipush 112, 2) := by decide +kernel
theorem dX12_count_105 : decode cX12_count 105 = .ok (.iaload, 1) := by decide +kernel
theorem dX12_count_106 : decode cX12_count 106 = .ok (.ireturn, 1) := by decide +kernel
theorem dX12_count_107 : decode cX12_count 107 = .ok (.aload_n 0, 1) := by decide +kernel
theorem dX12_count_108 : decode cX12_count 108 = .ok (.getfield 99, 3) := by decide +kernel
theorem dX12_count_111 : decode cX12_count 111 = .ok (.ireturn, 1) := by decide +kernel
theorem dX12_count_112 : decode cX12_count 112 = .ok (.aload_n 0, 1) := by decide +kernel
theorem dX12_count_113 : decode cX12_count 113 = .ok (.getfield 13, 3) := by decide +kernel
theorem dX12_count_116 : decode cX12_count 116 = .ok (.iconst 0, 1) := by decide +kernel
theorem dX12_count_117 : decode cX12_count 117 = .ok (.iaload, 1) := by decide +kernel
theorem dX12_count_118 : decode cX12_count 118 = .ok (.ireturn, 1) := by decide +kernel
theorem dX12_count_119 : decode cX12_count 119 = .ok (.aload_n 0, 1) := by decide +kernel
theorem dX12_count_120 : decode cX12_count 120 = .ok (.invokevirtual 468, 3) := by decide +kernel
theorem dX12_count_123 : decode cX12_count 123 = .ok (.ireturn, 1) := by decide +kernel
theorem dX12_count_124 : decode cX12_count 124 = .ok (.iconst (-1), 1) := by decide +kernel
theorem dX12_count_125 : decode cX12_count 125 = .ok (.ireturn, 1) := by decide +kernel
set_option maxHeartbeats 4000000 in
set_option maxRecDepth 100000 in
theorem c_X12_numbers (l : Launch) (G : GG) (o : Nat) (r : Nat → Nat) (p0 : Int32) (p1 : Int32) (p2 : Int32) : Mt l yX12_numbers cX12_numbers 5 (some .int) 3 0 0 G [.ref o, .int p0, .int p1, .int p2] [(o, mO r), (r 41, .inl (G.2 1, 4, .inl rS)), (r 42, .inl (G.2 1, 4, .inl (fun _ => 0))), (r 43, .inl (G.2 2, 160, .inr (.inl (fun _ => 0))))] (Ri (S := Unit) G (fun r _ => r = sp_numbers p0 p1 p2) (fun _ => [])) := by
  refine Mt.start (by decide) (Nat.le_of_ble_eq_true rfl) ?_
  intro p e s m below meth c A ls C0 hini h hl
  have C0 : Cx p s m _ meth c RX12 cX12_numbers 5 (some .int) := C0
  obtain ⟨hx, hb, hml, hown, hts, -⟩ := id C0
  have hl : lv_has ls 5 [(0, .ref o), (1, .int p0), (2, .int p1), (3, .int p2)] := hl
  refine lv_aload_n hx hb dX12_numbers_0 rfl (lv_at hl 0 rfl) ?_
  refine lv_iconst (v := 0) hx hb dX12_numbers_1 (by decide) ?_
  refine p_X12_thrown (ws' := [(o, mO r), (r 41, .inl (G.2 1, 4, .inl rS)), (r 42, .inl (G.2 1, 4, .inl (fun _ => 0))), (r 43, .inl (G.2 2, 160, .inr (.inl (fun _ => 0))))]) C0 h 0 q_1438 rfl (Nat.le_of_ble_eq_true rfl) rfl rfl rfl dX12_numbers_2 (fun H locs h => ?_)
  refine lv_iload_n hx hb dX12_numbers_5 rfl (lv_at hl 1 rfl) ?_
  refine lv_i2l (v := p0.toInt64) hx hb dX12_numbers_6 rfl ?_
  refine lv_lconst (v := 0) hx hb dX12_numbers_7 (by decide) ?_
  refine lv_ldc2 (v := 3) hx hb hown (hts _ q_1710) dX12_numbers_8 ?_
  refine m_cli (wr := [(o, mO r), (r 41, .inl (G.2 1, 4, .inl rS)), (r 42, .inl (G.2 1, 4, .inl (fun _ => 0))), (r 43, .inl (G.2 2, 160, .inr (.inl (fun _ => 0))))]) h (m_rS (As := [.long p0.toInt64, .long 0, .long 3]) (rest := []) C0 h (c_X12_within l G p0.toInt64 0 3) k_X12_within q_1580 q_1579 [] (by decide) rfl hl.1 rfl rfl (Nat.le_of_ble_eq_true rfl) dX12_numbers_11 ⟨Nat.le_of_ble_eq_true rfl, Nat.le_of_ble_eq_true rfl⟩ ⟨Nat.le_of_ble_eq_true rfl, Nat.le_of_ble_eq_true rfl⟩) [] [0, 1, 2, 3] rfl rfl (by decide) (by decide) (fun r_3 u_1 H locs hp_2 h => ?_)
  have h : Wd G A s _ _ [(o, mO r), (r 41, .inl (G.2 1, 4, .inl rS)), (r 42, .inl (G.2 1, 4, .inl (fun _ => 0))), (r 43, .inl (G.2 2, 160, .inr (.inl (fun _ => 0))))] := h
  rcases hp_2 with ⟨rfl, hp_2w⟩ | ⟨rfl, hp_2w⟩
  · -- answer 1
    have hp_2w := (i64_w p0 0 3).mp hp_2w
    have hp_2w1 := hp_2w.1
    have hp_2w2 := hp_2w.2
    refine lv_if_eq (tgt := 29) hx hb dX12_numbers_14 (by decide) (fun c_4 => absurd c_4 (by decide)) (fun c_4 => ?_)
    refine lv_iload_n hx hb dX12_numbers_17 rfl (lv_at hl 2 rfl) ?_
    refine lv_i2l (v := p1.toInt64) hx hb dX12_numbers_18 rfl ?_
    refine lv_lconst (v := 0) hx hb dX12_numbers_19 (by decide) ?_
    refine lv_ldc2 (v := 3) hx hb hown (hts _ q_1710) dX12_numbers_20 ?_
    refine m_cli (wr := [(o, mO r), (r 41, .inl (G.2 1, 4, .inl rS)), (r 42, .inl (G.2 1, 4, .inl (fun _ => 0))), (r 43, .inl (G.2 2, 160, .inr (.inl (fun _ => 0))))]) h (m_rS (As := [.long p1.toInt64, .long 0, .long 3]) (rest := []) C0 h (c_X12_within l G p1.toInt64 0 3) k_X12_within q_1580 q_1579 [] (by decide) rfl hl.1 rfl rfl (Nat.le_of_ble_eq_true rfl) dX12_numbers_23 ⟨Nat.le_of_ble_eq_true rfl, Nat.le_of_ble_eq_true rfl⟩ ⟨Nat.le_of_ble_eq_true rfl, Nat.le_of_ble_eq_true rfl⟩) [] [0, 1, 2, 3] rfl rfl (by decide) (by decide) (fun r_7 u_5 H locs hp_6 h => ?_)
    have h : Wd G A s _ _ [(o, mO r), (r 41, .inl (G.2 1, 4, .inl rS)), (r 42, .inl (G.2 1, 4, .inl (fun _ => 0))), (r 43, .inl (G.2 2, 160, .inr (.inl (fun _ => 0))))] := h
    rcases hp_6 with ⟨rfl, hp_6w⟩ | ⟨rfl, hp_6w⟩
    · -- answer 1
      have hp_6w := (i64_w p1 0 3).mp hp_6w
      have hp_6w1 := hp_6w.1
      have hp_6w2 := hp_6w.2
      refine lv_if_ne (tgt := 32) hx hb dX12_numbers_26 (by decide) (fun c_8 => ?_) (fun c_8 => absurd c_8 (by decide))
      refine lv_iload_n hx hb dX12_numbers_32 rfl (lv_at hl 3 rfl) ?_
      refine lv_i2l (v := p2.toInt64) hx hb dX12_numbers_33 rfl ?_
      refine lv_lconst (v := 0) hx hb dX12_numbers_34 (by decide) ?_
      refine lv_ldc2 (v := 40) hx hb hown (hts _ q_1940) dX12_numbers_35 ?_
      refine m_cli (wr := [(o, mO r), (r 41, .inl (G.2 1, 4, .inl rS)), (r 42, .inl (G.2 1, 4, .inl (fun _ => 0))), (r 43, .inl (G.2 2, 160, .inr (.inl (fun _ => 0))))]) h (m_rS (As := [.long p2.toInt64, .long 0, .long 40]) (rest := []) C0 h (c_X12_within l G p2.toInt64 0 40) k_X12_within q_1580 q_1579 [] (by decide) rfl hl.1 rfl rfl (Nat.le_of_ble_eq_true rfl) dX12_numbers_38 ⟨Nat.le_of_ble_eq_true rfl, Nat.le_of_ble_eq_true rfl⟩ ⟨Nat.le_of_ble_eq_true rfl, Nat.le_of_ble_eq_true rfl⟩) [] [0, 1, 2, 3] rfl rfl (by decide) (by decide) (fun r_11 u_9 H locs hp_10 h => ?_)
      have h : Wd G A s _ _ [(o, mO r), (r 41, .inl (G.2 1, 4, .inl rS)), (r 42, .inl (G.2 1, 4, .inl (fun _ => 0))), (r 43, .inl (G.2 2, 160, .inr (.inl (fun _ => 0))))] := h
      rcases hp_10 with ⟨rfl, hp_10w⟩ | ⟨rfl, hp_10w⟩
      · -- answer 1
        have hp_10w := (i64_w p2 0 40).mp hp_10w
        have hp_10w1 := hp_10w.1
        have hp_10w2 := hp_10w.2
        refine lv_if_ne (tgt := 47) hx hb dX12_numbers_41 (by decide) (fun c_12 => ?_) (fun c_12 => absurd c_12 (by decide))
        obtain ⟨N, hN40, rfl⟩ := nI_of2 (x := p2) (M := 40) (n := 40) (by decide) (by grind) hp_10w.2
        refine lv_aload_n hx hb dX12_numbers_47 rfl (lv_at hl 0 rfl) ?_
        refine g_X12_rowSort C0 h 0 q_1479 rfl rfl dX12_numbers_48 ?_
        refine lv_iload_n hx hb dX12_numbers_51 rfl (lv_at hl 1 rfl) ?_
        refine lv_iload_n hx hb dX12_numbers_52 rfl (lv_at hl 2 rfl) ?_
        rcases (in4 hp_2w1 hp_2w2) with rfl | rfl | rfl | rfl
        · -- p0 = 0
          refine m_iast (ws' := [(o, mO r), (r 41, .inl (G.2 1, 4, .inl (upd rS 0 p1))), (r 42, .inl (G.2 1, 4, .inl (fun _ => 0))), (r 43, .inl (G.2 2, 160, .inr (.inl (fun _ => 0))))]) C0 h 1 0 rfl (by decide) (by decide) (by decide) rfl dX12_numbers_53 (fun H locs h => ?_)
          refine lv_aload_n hx hb dX12_numbers_54 rfl (lv_at hl 0 rfl) ?_
          refine g_X12_rowMany C0 h 0 q_1480 rfl rfl dX12_numbers_55 ?_
          refine lv_iload_n hx hb dX12_numbers_58 rfl (lv_at hl 1 rfl) ?_
          refine lv_iload_n hx hb dX12_numbers_59 rfl (lv_at hl 3 rfl) ?_
          refine m_iast (ws' := [(o, mO r), (r 41, .inl (G.2 1, 4, .inl (upd rS 0 p1))), (r 42, .inl (G.2 1, 4, .inl (upd (fun _ => 0) 0 (nI N)))), (r 43, .inl (G.2 2, 160, .inr (.inl (fun _ => 0))))]) C0 h 2 0 rfl (by decide) (by decide) (by decide) rfl dX12_numbers_60 (fun H locs h => ?_)
          refine lv_iconst (v := 0) hx hb dX12_numbers_61 (by decide) ?_
          refine lv_istore (lv' := [(4, .int 0), (0, .ref o), (1, .int 0), (2, .int p1), (3, .int (nI N))]) hx hb dX12_numbers_62 hl (by decide) rfl (fun ls hl => ?_)
          have lp_64 : ∀ (n i : Nat) (g : Nat → Int64) (H : Heap) (locs : List Loc) (ls : Array Slot), i + n = N → Wd G A s H locs [(o, mO r), (r 41, .inl (G.2 1, 4, .inl (upd rS 0 p1))), (r 42, .inl (G.2 1, 4, .inl (upd (fun _ => 0) 0 (nI N)))), (r 43, .inl (G.2 2, 160, .inr (.inl g)))] → lv_has ls 5 [(4, .int (nI i)), (0, .ref o), (1, .int 0), (2, .int p1), (3, .int (nI N))] → W p l e (rmd 3 0 0) s m ([.ref o, .int 0, .int p1, .int (nI N)]).toArray below meth c H locs 0 0 (MQ below ((Ri (S := Unit) G (fun r _ => r = sp_numbers 0 p1 (nI N)) (fun _ => [])) A) ([.ref o, .int 0, .int p1, .int (nI N)]).toArray s 0 0 A) (F0 m 64 ls []) := by
            intro n
            induction n with
            | zero =>
              intro i g H locs ls hn h hl
              refine lv_iload hx hb dX12_numbers_64 (lv_at hl 0 rfl) ?_
              refine lv_iload_n hx hb dX12_numbers_66 rfl (lv_at hl 4 rfl) ?_
              refine lv_icmp_ge (tgt := 89) hx hb dX12_numbers_67 (by decide) (fun c_13 => ?_) (fun c_13 => by exact absurd ((nI_leI (a := N) (b := i) (by omega) (by omega)).mpr (by omega)) c_13)
              refine lv_iconst (v := 0) hx hb dX12_numbers_89 (by decide) ?_
              exact m_iret () C0 h [] (by decide) rfl (by unfold sp_numbers; grind) (Nat.le_of_ble_eq_true rfl) (Nat.le_of_ble_eq_true rfl) dX12_numbers_90
            | succ n ih_64 =>
              intro i g H locs ls hn h hl
              refine lv_iload hx hb dX12_numbers_64 (lv_at hl 0 rfl) ?_
              refine lv_iload_n hx hb dX12_numbers_66 rfl (lv_at hl 4 rfl) ?_
              refine lv_icmp_ge (tgt := 89) hx hb dX12_numbers_67 (by decide) (fun c_14 => by exact absurd ((nI_leI (a := N) (b := i) (by omega) (by omega)).mp c_14) (by omega)) (fun c_14 => ?_)
              refine lv_aload_n hx hb dX12_numbers_70 rfl (lv_at hl 1 rfl) ?_
              refine g_X12_numbers C0 h 0 q_1481 rfl rfl dX12_numbers_71 ?_
              refine lv_bipush (v := 40) hx hb dX12_numbers_74 (by decide) ?_
              refine lv_iload_n hx hb dX12_numbers_76 rfl (lv_at hl 2 rfl) ?_
              refine lv_imul hx hb dX12_numbers_77 ?_
              refine lv_topi (fun k_15 ek_15 => ?_)
              obtain rfl : k_15 = 0 := ek_15.trans (by decide)
              refine lv_iload hx hb dX12_numbers_78 (lv_at hl 0 rfl) ?_
              refine lv_iadd hx hb dX12_numbers_80 ?_
              refine lv_topi (fun k_16 ek_16 => ?_)
              obtain rfl : k_16 = nI (0 + i) := ek_16.trans (nI_add 0 _)
              refine lv_lconst (v := 0) hx hb dX12_numbers_81 (by decide) ?_
              refine m_last (ws' := [(o, mO r), (r 41, .inl (G.2 1, 4, .inl (upd rS 0 p1))), (r 42, .inl (G.2 1, 4, .inl (upd (fun _ => 0) 0 (nI N)))), (r 43, .inl (G.2 2, 160, .inr (.inl (vp_updL g (0 + i) 0))))]) C0 h 3 (0 + i) rfl rfl (by omega) (by decide) rfl dX12_numbers_82 (fun H locs h => ?_)
              refine lv_iinc (v := nI (i + 1)) (lv' := [(4, .int (nI (i + 1))), (0, .ref o), (1, .int 0), (2, .int p1), (3, .int (nI N))]) hx hb dX12_numbers_83 hl (k := 0) rfl (nI_1 _) (by decide) rfl (fun ls hl => ?_)
              refine lv_goto (tgt := 64) hx hb dX12_numbers_86 (by decide) ?_
              exact ih_64 (i + 1) (vp_updL g (0 + i) 0) _ _ _ (by omega) h (lv_sub hl [0, 1, 2, 3, 4] rfl)
          exact lp_64 (N - 0) 0 (fun _ => 0) _ _ _ (by omega) h (lv_sub hl [0, 1, 2, 3, 4] rfl)
        · -- p0 = 1
          refine m_iast (ws' := [(o, mO r), (r 41, .inl (G.2 1, 4, .inl (upd rS 1 p1))), (r 42, .inl (G.2 1, 4, .inl (fun _ => 0))), (r 43, .inl (G.2 2, 160, .inr (.inl (fun _ => 0))))]) C0 h 1 1 rfl (by decide) (by decide) (by decide) rfl dX12_numbers_53 (fun H locs h => ?_)
          refine lv_aload_n hx hb dX12_numbers_54 rfl (lv_at hl 0 rfl) ?_
          refine g_X12_rowMany C0 h 0 q_1480 rfl rfl dX12_numbers_55 ?_
          refine lv_iload_n hx hb dX12_numbers_58 rfl (lv_at hl 1 rfl) ?_
          refine lv_iload_n hx hb dX12_numbers_59 rfl (lv_at hl 3 rfl) ?_
          refine m_iast (ws' := [(o, mO r), (r 41, .inl (G.2 1, 4, .inl (upd rS 1 p1))), (r 42, .inl (G.2 1, 4, .inl (upd (fun _ => 0) 1 (nI N)))), (r 43, .inl (G.2 2, 160, .inr (.inl (fun _ => 0))))]) C0 h 2 1 rfl (by decide) (by decide) (by decide) rfl dX12_numbers_60 (fun H locs h => ?_)
          refine lv_iconst (v := 0) hx hb dX12_numbers_61 (by decide) ?_
          refine lv_istore (lv' := [(4, .int 0), (0, .ref o), (1, .int 1), (2, .int p1), (3, .int (nI N))]) hx hb dX12_numbers_62 hl (by decide) rfl (fun ls hl => ?_)
          have lp_64 : ∀ (n i : Nat) (g : Nat → Int64) (H : Heap) (locs : List Loc) (ls : Array Slot), i + n = N → Wd G A s H locs [(o, mO r), (r 41, .inl (G.2 1, 4, .inl (upd rS 1 p1))), (r 42, .inl (G.2 1, 4, .inl (upd (fun _ => 0) 1 (nI N)))), (r 43, .inl (G.2 2, 160, .inr (.inl g)))] → lv_has ls 5 [(4, .int (nI i)), (0, .ref o), (1, .int 1), (2, .int p1), (3, .int (nI N))] → W p l e (rmd 3 0 0) s m ([.ref o, .int 1, .int p1, .int (nI N)]).toArray below meth c H locs 0 0 (MQ below ((Ri (S := Unit) G (fun r _ => r = sp_numbers 1 p1 (nI N)) (fun _ => [])) A) ([.ref o, .int 1, .int p1, .int (nI N)]).toArray s 0 0 A) (F0 m 64 ls []) := by
            intro n
            induction n with
            | zero =>
              intro i g H locs ls hn h hl
              refine lv_iload hx hb dX12_numbers_64 (lv_at hl 0 rfl) ?_
              refine lv_iload_n hx hb dX12_numbers_66 rfl (lv_at hl 4 rfl) ?_
              refine lv_icmp_ge (tgt := 89) hx hb dX12_numbers_67 (by decide) (fun c_17 => ?_) (fun c_17 => by exact absurd ((nI_leI (a := N) (b := i) (by omega) (by omega)).mpr (by omega)) c_17)
              refine lv_iconst (v := 0) hx hb dX12_numbers_89 (by decide) ?_
              exact m_iret () C0 h [] (by decide) rfl (by unfold sp_numbers; grind) (Nat.le_of_ble_eq_true rfl) (Nat.le_of_ble_eq_true rfl) dX12_numbers_90
            | succ n ih_64 =>
              intro i g H locs ls hn h hl
              refine lv_iload hx hb dX12_numbers_64 (lv_at hl 0 rfl) ?_
              refine lv_iload_n hx hb dX12_numbers_66 rfl (lv_at hl 4 rfl) ?_
              refine lv_icmp_ge (tgt := 89) hx hb dX12_numbers_67 (by decide) (fun c_18 => by exact absurd ((nI_leI (a := N) (b := i) (by omega) (by omega)).mp c_18) (by omega)) (fun c_18 => ?_)
              refine lv_aload_n hx hb dX12_numbers_70 rfl (lv_at hl 1 rfl) ?_
              refine g_X12_numbers C0 h 0 q_1481 rfl rfl dX12_numbers_71 ?_
              refine lv_bipush (v := 40) hx hb dX12_numbers_74 (by decide) ?_
              refine lv_iload_n hx hb dX12_numbers_76 rfl (lv_at hl 2 rfl) ?_
              refine lv_imul hx hb dX12_numbers_77 ?_
              refine lv_topi (fun k_19 ek_19 => ?_)
              obtain rfl : k_19 = 40 := ek_19.trans (by decide)
              refine lv_iload hx hb dX12_numbers_78 (lv_at hl 0 rfl) ?_
              refine lv_iadd hx hb dX12_numbers_80 ?_
              refine lv_topi (fun k_20 ek_20 => ?_)
              obtain rfl : k_20 = nI (40 + i) := ek_20.trans (nI_add 40 _)
              refine lv_lconst (v := 0) hx hb dX12_numbers_81 (by decide) ?_
              refine m_last (ws' := [(o, mO r), (r 41, .inl (G.2 1, 4, .inl (upd rS 1 p1))), (r 42, .inl (G.2 1, 4, .inl (upd (fun _ => 0) 1 (nI N)))), (r 43, .inl (G.2 2, 160, .inr (.inl (vp_updL g (40 + i) 0))))]) C0 h 3 (40 + i) rfl rfl (by omega) (by decide) rfl dX12_numbers_82 (fun H locs h => ?_)
              refine lv_iinc (v := nI (i + 1)) (lv' := [(4, .int (nI (i + 1))), (0, .ref o), (1, .int 1), (2, .int p1), (3, .int (nI N))]) hx hb dX12_numbers_83 hl (k := 0) rfl (nI_1 _) (by decide) rfl (fun ls hl => ?_)
              refine lv_goto (tgt := 64) hx hb dX12_numbers_86 (by decide) ?_
              exact ih_64 (i + 1) (vp_updL g (40 + i) 0) _ _ _ (by omega) h (lv_sub hl [0, 1, 2, 3, 4] rfl)
          exact lp_64 (N - 0) 0 (fun _ => 0) _ _ _ (by omega) h (lv_sub hl [0, 1, 2, 3, 4] rfl)
        · -- p0 = 2
          refine m_iast (ws' := [(o, mO r), (r 41, .inl (G.2 1, 4, .inl (upd rS 2 p1))), (r 42, .inl (G.2 1, 4, .inl (fun _ => 0))), (r 43, .inl (G.2 2, 160, .inr (.inl (fun _ => 0))))]) C0 h 1 2 rfl (by decide) (by decide) (by decide) rfl dX12_numbers_53 (fun H locs h => ?_)
          refine lv_aload_n hx hb dX12_numbers_54 rfl (lv_at hl 0 rfl) ?_
          refine g_X12_rowMany C0 h 0 q_1480 rfl rfl dX12_numbers_55 ?_
          refine lv_iload_n hx hb dX12_numbers_58 rfl (lv_at hl 1 rfl) ?_
          refine lv_iload_n hx hb dX12_numbers_59 rfl (lv_at hl 3 rfl) ?_
          refine m_iast (ws' := [(o, mO r), (r 41, .inl (G.2 1, 4, .inl (upd rS 2 p1))), (r 42, .inl (G.2 1, 4, .inl (upd (fun _ => 0) 2 (nI N)))), (r 43, .inl (G.2 2, 160, .inr (.inl (fun _ => 0))))]) C0 h 2 2 rfl (by decide) (by decide) (by decide) rfl dX12_numbers_60 (fun H locs h => ?_)
          refine lv_iconst (v := 0) hx hb dX12_numbers_61 (by decide) ?_
          refine lv_istore (lv' := [(4, .int 0), (0, .ref o), (1, .int 2), (2, .int p1), (3, .int (nI N))]) hx hb dX12_numbers_62 hl (by decide) rfl (fun ls hl => ?_)
          have lp_64 : ∀ (n i : Nat) (g : Nat → Int64) (H : Heap) (locs : List Loc) (ls : Array Slot), i + n = N → Wd G A s H locs [(o, mO r), (r 41, .inl (G.2 1, 4, .inl (upd rS 2 p1))), (r 42, .inl (G.2 1, 4, .inl (upd (fun _ => 0) 2 (nI N)))), (r 43, .inl (G.2 2, 160, .inr (.inl g)))] → lv_has ls 5 [(4, .int (nI i)), (0, .ref o), (1, .int 2), (2, .int p1), (3, .int (nI N))] → W p l e (rmd 3 0 0) s m ([.ref o, .int 2, .int p1, .int (nI N)]).toArray below meth c H locs 0 0 (MQ below ((Ri (S := Unit) G (fun r _ => r = sp_numbers 2 p1 (nI N)) (fun _ => [])) A) ([.ref o, .int 2, .int p1, .int (nI N)]).toArray s 0 0 A) (F0 m 64 ls []) := by
            intro n
            induction n with
            | zero =>
              intro i g H locs ls hn h hl
              refine lv_iload hx hb dX12_numbers_64 (lv_at hl 0 rfl) ?_
              refine lv_iload_n hx hb dX12_numbers_66 rfl (lv_at hl 4 rfl) ?_
              refine lv_icmp_ge (tgt := 89) hx hb dX12_numbers_67 (by decide) (fun c_21 => ?_) (fun c_21 => by exact absurd ((nI_leI (a := N) (b := i) (by omega) (by omega)).mpr (by omega)) c_21)
              refine lv_iconst (v := 0) hx hb dX12_numbers_89 (by decide) ?_
              exact m_iret () C0 h [] (by decide) rfl (by unfold sp_numbers; grind) (Nat.le_of_ble_eq_true rfl) (Nat.le_of_ble_eq_true rfl) dX12_numbers_90
            | succ n ih_64 =>
              intro i g H locs ls hn h hl
              refine lv_iload hx hb dX12_numbers_64 (lv_at hl 0 rfl) ?_
              refine lv_iload_n hx hb dX12_numbers_66 rfl (lv_at hl 4 rfl) ?_
              refine lv_icmp_ge (tgt := 89) hx hb dX12_numbers_67 (by decide) (fun c_22 => by exact absurd ((nI_leI (a := N) (b := i) (by omega) (by omega)).mp c_22) (by omega)) (fun c_22 => ?_)
              refine lv_aload_n hx hb dX12_numbers_70 rfl (lv_at hl 1 rfl) ?_
              refine g_X12_numbers C0 h 0 q_1481 rfl rfl dX12_numbers_71 ?_
              refine lv_bipush (v := 40) hx hb dX12_numbers_74 (by decide) ?_
              refine lv_iload_n hx hb dX12_numbers_76 rfl (lv_at hl 2 rfl) ?_
              refine lv_imul hx hb dX12_numbers_77 ?_
              refine lv_topi (fun k_23 ek_23 => ?_)
              obtain rfl : k_23 = 80 := ek_23.trans (by decide)
              refine lv_iload hx hb dX12_numbers_78 (lv_at hl 0 rfl) ?_
              refine lv_iadd hx hb dX12_numbers_80 ?_
              refine lv_topi (fun k_24 ek_24 => ?_)
              obtain rfl : k_24 = nI (80 + i) := ek_24.trans (nI_add 80 _)
              refine lv_lconst (v := 0) hx hb dX12_numbers_81 (by decide) ?_
              refine m_last (ws' := [(o, mO r), (r 41, .inl (G.2 1, 4, .inl (upd rS 2 p1))), (r 42, .inl (G.2 1, 4, .inl (upd (fun _ => 0) 2 (nI N)))), (r 43, .inl (G.2 2, 160, .inr (.inl (vp_updL g (80 + i) 0))))]) C0 h 3 (80 + i) rfl rfl (by omega) (by decide) rfl dX12_numbers_82 (fun H locs h => ?_)
              refine lv_iinc (v := nI (i + 1)) (lv' := [(4, .int (nI (i + 1))), (0, .ref o), (1, .int 2), (2, .int p1), (3, .int (nI N))]) hx hb dX12_numbers_83 hl (k := 0) rfl (nI_1 _) (by decide) rfl (fun ls hl => ?_)
              refine lv_goto (tgt := 64) hx hb dX12_numbers_86 (by decide) ?_
              exact ih_64 (i + 1) (vp_updL g (80 + i) 0) _ _ _ (by omega) h (lv_sub hl [0, 1, 2, 3, 4] rfl)
          exact lp_64 (N - 0) 0 (fun _ => 0) _ _ _ (by omega) h (lv_sub hl [0, 1, 2, 3, 4] rfl)
        · -- p0 = 3
          refine m_iast (ws' := [(o, mO r), (r 41, .inl (G.2 1, 4, .inl (upd rS 3 p1))), (r 42, .inl (G.2 1, 4, .inl (fun _ => 0))), (r 43, .inl (G.2 2, 160, .inr (.inl (fun _ => 0))))]) C0 h 1 3 rfl (by decide) (by decide) (by decide) rfl dX12_numbers_53 (fun H locs h => ?_)
          refine lv_aload_n hx hb dX12_numbers_54 rfl (lv_at hl 0 rfl) ?_
          refine g_X12_rowMany C0 h 0 q_1480 rfl rfl dX12_numbers_55 ?_
          refine lv_iload_n hx hb dX12_numbers_58 rfl (lv_at hl 1 rfl) ?_
          refine lv_iload_n hx hb dX12_numbers_59 rfl (lv_at hl 3 rfl) ?_
          refine m_iast (ws' := [(o, mO r), (r 41, .inl (G.2 1, 4, .inl (upd rS 3 p1))), (r 42, .inl (G.2 1, 4, .inl (upd (fun _ => 0) 3 (nI N)))), (r 43, .inl (G.2 2, 160, .inr (.inl (fun _ => 0))))]) C0 h 2 3 rfl (by decide) (by decide) (by decide) rfl dX12_numbers_60 (fun H locs h => ?_)
          refine lv_iconst (v := 0) hx hb dX12_numbers_61 (by decide) ?_
          refine lv_istore (lv' := [(4, .int 0), (0, .ref o), (1, .int 3), (2, .int p1), (3, .int (nI N))]) hx hb dX12_numbers_62 hl (by decide) rfl (fun ls hl => ?_)
          have lp_64 : ∀ (n i : Nat) (g : Nat → Int64) (H : Heap) (locs : List Loc) (ls : Array Slot), i + n = N → Wd G A s H locs [(o, mO r), (r 41, .inl (G.2 1, 4, .inl (upd rS 3 p1))), (r 42, .inl (G.2 1, 4, .inl (upd (fun _ => 0) 3 (nI N)))), (r 43, .inl (G.2 2, 160, .inr (.inl g)))] → lv_has ls 5 [(4, .int (nI i)), (0, .ref o), (1, .int 3), (2, .int p1), (3, .int (nI N))] → W p l e (rmd 3 0 0) s m ([.ref o, .int 3, .int p1, .int (nI N)]).toArray below meth c H locs 0 0 (MQ below ((Ri (S := Unit) G (fun r _ => r = sp_numbers 3 p1 (nI N)) (fun _ => [])) A) ([.ref o, .int 3, .int p1, .int (nI N)]).toArray s 0 0 A) (F0 m 64 ls []) := by
            intro n
            induction n with
            | zero =>
              intro i g H locs ls hn h hl
              refine lv_iload hx hb dX12_numbers_64 (lv_at hl 0 rfl) ?_
              refine lv_iload_n hx hb dX12_numbers_66 rfl (lv_at hl 4 rfl) ?_
              refine lv_icmp_ge (tgt := 89) hx hb dX12_numbers_67 (by decide) (fun c_25 => ?_) (fun c_25 => by exact absurd ((nI_leI (a := N) (b := i) (by omega) (by omega)).mpr (by omega)) c_25)
              refine lv_iconst (v := 0) hx hb dX12_numbers_89 (by decide) ?_
              exact m_iret () C0 h [] (by decide) rfl (by unfold sp_numbers; grind) (Nat.le_of_ble_eq_true rfl) (Nat.le_of_ble_eq_true rfl) dX12_numbers_90
            | succ n ih_64 =>
              intro i g H locs ls hn h hl
              refine lv_iload hx hb dX12_numbers_64 (lv_at hl 0 rfl) ?_
              refine lv_iload_n hx hb dX12_numbers_66 rfl (lv_at hl 4 rfl) ?_
              refine lv_icmp_ge (tgt := 89) hx hb dX12_numbers_67 (by decide) (fun c_26 => by exact absurd ((nI_leI (a := N) (b := i) (by omega) (by omega)).mp c_26) (by omega)) (fun c_26 => ?_)
              refine lv_aload_n hx hb dX12_numbers_70 rfl (lv_at hl 1 rfl) ?_
              refine g_X12_numbers C0 h 0 q_1481 rfl rfl dX12_numbers_71 ?_
              refine lv_bipush (v := 40) hx hb dX12_numbers_74 (by decide) ?_
              refine lv_iload_n hx hb dX12_numbers_76 rfl (lv_at hl 2 rfl) ?_
              refine lv_imul hx hb dX12_numbers_77 ?_
              refine lv_topi (fun k_27 ek_27 => ?_)
              obtain rfl : k_27 = 120 := ek_27.trans (by decide)
              refine lv_iload hx hb dX12_numbers_78 (lv_at hl 0 rfl) ?_
              refine lv_iadd hx hb dX12_numbers_80 ?_
              refine lv_topi (fun k_28 ek_28 => ?_)
              obtain rfl : k_28 = nI (120 + i) := ek_28.trans (nI_add 120 _)
              refine lv_lconst (v := 0) hx hb dX12_numbers_81 (by decide) ?_
              refine m_last (ws' := [(o, mO r), (r 41, .inl (G.2 1, 4, .inl (upd rS 3 p1))), (r 42, .inl (G.2 1, 4, .inl (upd (fun _ => 0) 3 (nI N)))), (r 43, .inl (G.2 2, 160, .inr (.inl (vp_updL g (120 + i) 0))))]) C0 h 3 (120 + i) rfl rfl (by omega) (by decide) rfl dX12_numbers_82 (fun H locs h => ?_)
              refine lv_iinc (v := nI (i + 1)) (lv' := [(4, .int (nI (i + 1))), (0, .ref o), (1, .int 3), (2, .int p1), (3, .int (nI N))]) hx hb dX12_numbers_83 hl (k := 0) rfl (nI_1 _) (by decide) rfl (fun ls hl => ?_)
              refine lv_goto (tgt := 64) hx hb dX12_numbers_86 (by decide) ?_
              exact ih_64 (i + 1) (vp_updL g (120 + i) 0) _ _ _ (by omega) h (lv_sub hl [0, 1, 2, 3, 4] rfl)
          exact lp_64 (N - 0) 0 (fun _ => 0) _ _ _ (by omega) h (lv_sub hl [0, 1, 2, 3, 4] rfl)
      · -- answer 0
        have hp_10w : ¬ _ := fun hh => hp_10w ((i64_w p2 0 40).mpr hh)
        refine lv_if_ne (tgt := 47) hx hb dX12_numbers_41 (by decide) (fun c_29 => absurd c_29 (by decide)) (fun c_29 => ?_)
        refine lv_bipush (v := (-3)) hx hb dX12_numbers_44 (by decide) ?_
        exact m_iret () C0 h [] (by decide) rfl (by unfold sp_numbers; grind) (Nat.le_of_ble_eq_true rfl) (Nat.le_of_ble_eq_true rfl) dX12_numbers_46
    · -- answer 0
      have hp_6w : ¬ _ := fun hh => hp_6w ((i64_w p1 0 3).mpr hh)
      refine lv_if_ne (tgt := 32) hx hb dX12_numbers_26 (by decide) (fun c_30 => absurd c_30 (by decide)) (fun c_30 => ?_)
      refine lv_bipush (v := (-2)) hx hb dX12_numbers_29 (by decide) ?_
      exact m_iret () C0 h [] (by decide) rfl (by unfold sp_numbers; grind) (Nat.le_of_ble_eq_true rfl) (Nat.le_of_ble_eq_true rfl) dX12_numbers_31
  · -- answer 0
    have hp_2w : ¬ _ := fun hh => hp_2w ((i64_w p0 0 3).mpr hh)
    refine lv_if_eq (tgt := 29) hx hb dX12_numbers_14 (by decide) (fun c_31 => ?_) (fun c_31 => absurd c_31 (by decide))
    refine lv_bipush (v := (-2)) hx hb dX12_numbers_29 (by decide) ?_
    exact m_iret () C0 h [] (by decide) rfl (by unfold sp_numbers; grind) (Nat.le_of_ble_eq_true rfl) (Nat.le_of_ble_eq_true rfl) dX12_numbers_31
set_option maxHeartbeats 4000000 in
set_option maxRecDepth 100000 in
theorem c_X12_image (l : Launch) (G : GG) (o : Nat) (r : Nat → Nat) (p0 : Int32) : Mt l yX12_image cX12_image 3 (some .int) 3 0 0 G [.ref o, .int p0] [(o, mO r), (r 1, .inl (G.2 1, 5322, .inl (fun _ => 0))), (r 2, .inl (G.2 3, 2, .inl (fun _ => 0)))] (Ri (S := Unit) G (fun r _ => r = sp_image p0) (fun _ => [])) := by
  refine Mt.start (by decide) (Nat.le_of_ble_eq_true rfl) ?_
  intro p e s m below meth c A ls C0 hini h hl
  have C0 : Cx p s m _ meth c RX12 cX12_image 3 (some .int) := C0
  obtain ⟨hx, hb, hml, hown, hts, -⟩ := id C0
  have hl : lv_has ls 3 [(0, .ref o), (1, .int p0)] := hl
  refine lv_aload_n hx hb dX12_image_0 rfl (lv_at hl 0 rfl) ?_
  refine lv_iconst (v := 0) hx hb dX12_image_1 (by decide) ?_
  refine p_X12_thrown (ws' := [(o, mO r), (r 1, .inl (G.2 1, 5322, .inl (fun _ => 0))), (r 2, .inl (G.2 3, 2, .inl (fun _ => 0)))]) C0 h 0 q_1438 rfl (Nat.le_of_ble_eq_true rfl) rfl rfl rfl dX12_image_2 (fun H locs h => ?_)
  refine lv_iload_n hx hb dX12_image_5 rfl (lv_at hl 1 rfl) ?_
  refine lv_i2l (v := p0.toInt64) hx hb dX12_image_6 rfl ?_
  refine lv_lconst (v := 0) hx hb dX12_image_7 (by decide) ?_
  refine lv_lconst (v := 1) hx hb dX12_image_8 (by decide) ?_
  refine m_cli (wr := [(o, mO r), (r 1, .inl (G.2 1, 5322, .inl (fun _ => 0))), (r 2, .inl (G.2 3, 2, .inl (fun _ => 0)))]) h (m_rS (As := [.long p0.toInt64, .long 0, .long 1]) (rest := []) C0 h (c_X12_within l G p0.toInt64 0 1) k_X12_within q_1580 q_1579 [] (by decide) rfl hl.1 rfl rfl (Nat.le_of_ble_eq_true rfl) dX12_image_9 ⟨Nat.le_of_ble_eq_true rfl, Nat.le_of_ble_eq_true rfl⟩ ⟨Nat.le_of_ble_eq_true rfl, Nat.le_of_ble_eq_true rfl⟩) [] [0, 1, 2] rfl rfl (by decide) (by decide) (fun r_3 u_1 H locs hp_2 h => ?_)
  have h : Wd G A s _ _ [(o, mO r), (r 1, .inl (G.2 1, 5322, .inl (fun _ => 0))), (r 2, .inl (G.2 3, 2, .inl (fun _ => 0)))] := h
  rcases hp_2 with ⟨rfl, hp_2w⟩ | ⟨rfl, hp_2w⟩
  · -- answer 1
    have hp_2w := (i64_w p0 0 1).mp hp_2w
    have hp_2w1 := hp_2w.1
    have hp_2w2 := hp_2w.2
    refine lv_if_ne (tgt := 18) hx hb dX12_image_12 (by decide) (fun c_4 => ?_) (fun c_4 => absurd c_4 (by decide))
    rcases (in2 hp_2w1 hp_2w2) with rfl | rfl
    · -- p0 = 0
      refine lv_iconst (v := 0) hx hb dX12_image_18 (by decide) ?_
      refine lv_istore_n (lv' := [(2, .int 0), (0, .ref o), (1, .int 0)]) hx hb dX12_image_19 rfl hl (by decide) rfl (fun ls hl => ?_)
      have lp_20 : ∀ (n i : Nat) (H : Heap) (locs : List Loc) (ls : Array Slot), i + n = 1774 → Wd G A s H locs [(o, mO r), (r 1, .inl (G.2 1, 5322, .inl (fun _ => 0))), (r 2, .inl (G.2 3, 2, .inl (fun _ => 0)))] → lv_has ls 3 [(2, .int (nI i)), (0, .ref o), (1, .int 0)] → W p l e (rmd 3 0 0) s m ([.ref o, .int 0]).toArray below meth c H locs 0 0 (MQ below ((Ri (S := Unit) G (fun r _ => r = sp_image 0) (fun _ => [])) A) ([.ref o, .int 0]).toArray s 0 0 A) (F0 m 20 ls []) := by
        intro n
        induction n with
        | zero =>
          intro i H locs ls hn h hl
          refine lv_iload_n hx hb dX12_image_20 rfl (lv_at hl 0 rfl) ?_
          refine lv_sipush (v := 1774) hx hb dX12_image_21 (by decide) ?_
          refine lv_icmp_ge (tgt := 53) hx hb dX12_image_24 (by decide) (fun c_5 => ?_) (fun c_5 => by exact absurd ((nI_leI (a := 1774) (b := i) (by omega) (by omega)).mpr (by omega)) c_5)
          refine lv_aload_n hx hb dX12_image_53 rfl (lv_at hl 1 rfl) ?_
          refine g_X12_hasImage C0 h 0 q_1440 rfl rfl dX12_image_54 ?_
          refine lv_iload_n hx hb dX12_image_57 rfl (lv_at hl 2 rfl) ?_
          refine lv_iconst (v := 1) hx hb dX12_image_58 (by decide) ?_
          refine m_zast (ws' := [(o, mO r), (r 1, .inl (G.2 1, 5322, .inl (fun _ => 0))), (r 2, .inl (G.2 3, 2, .inl (upd (fun _ => 0) 0 (vp_nar .boolean 1))))]) C0 h 2 0 rfl (by decide) (by decide) (by decide) rfl dX12_image_59 (fun H locs h => ?_)
          refine lv_iconst (v := 0) hx hb dX12_image_60 (by decide) ?_
          exact m_iret () C0 h [] (by decide) rfl (by unfold sp_image; grind) (Nat.le_of_ble_eq_true rfl) (Nat.le_of_ble_eq_true rfl) dX12_image_61
        | succ n ih_20 =>
          intro i H locs ls hn h hl
          refine lv_iload_n hx hb dX12_image_20 rfl (lv_at hl 0 rfl) ?_
          refine lv_sipush (v := 1774) hx hb dX12_image_21 (by decide) ?_
          refine lv_icmp_ge (tgt := 53) hx hb dX12_image_24 (by decide) (fun c_6 => by exact absurd ((nI_leI (a := 1774) (b := i) (by omega) (by omega)).mp c_6) (by omega)) (fun c_6 => ?_)
          refine lv_aload_n hx hb dX12_image_27 rfl (lv_at hl 1 rfl) ?_
          refine g_X12_all C0 h 0 q_1439 rfl rfl dX12_image_28 ?_
          refine lv_sipush (v := 1774) hx hb dX12_image_31 (by decide) ?_
          refine lv_iload_n hx hb dX12_image_34 rfl (lv_at hl 2 rfl) ?_
          refine lv_iconst (v := 1) hx hb dX12_image_35 (by decide) ?_
          refine lv_iadd hx hb dX12_image_36 ?_
          refine lv_topi (fun k_7 ek_7 => ?_)
          obtain rfl : k_7 = 1 := ek_7.trans (by decide)
          refine lv_imul hx hb dX12_image_37 ?_
          refine lv_topi (fun k_8 ek_8 => ?_)
          obtain rfl : k_8 = 1774 := ek_8.trans (by decide)
          refine lv_iload_n hx hb dX12_image_38 rfl (lv_at hl 0 rfl) ?_
          refine lv_iadd hx hb dX12_image_39 ?_
          refine lv_topi (fun k_9 ek_9 => ?_)
          obtain rfl : k_9 = nI (1774 + i) := ek_9.trans (nI_add 1774 _)
          refine lv_aload_n hx hb dX12_image_40 rfl (lv_at hl 1 rfl) ?_
          refine g_X12_all C0 h 0 q_1439 rfl rfl dX12_image_41 ?_
          refine lv_iload_n hx hb dX12_image_44 rfl (lv_at hl 0 rfl) ?_
          refine m_iald C0 h 1 i rfl rfl (by omega) (by decide) dX12_image_45 ?_
          refine W.eq (g2 := F0 m 46 ls [.int 0, .int (nI (1774 + i)), .ref (r 1)]) rfl ?_
          refine m_iast (ws' := [(o, mO r), (r 1, .inl (G.2 1, 5322, .inl (upd (fun _ => 0) (1774 + i) 0))), (r 2, .inl (G.2 3, 2, .inl (fun _ => 0)))]) C0 h 1 (1774 + i) rfl rfl (by omega) (by decide) rfl dX12_image_46 (fun H locs h => ?_)
          refine lv_iinc (v := nI (i + 1)) (lv' := [(2, .int (nI (i + 1))), (0, .ref o), (1, .int 0)]) hx hb dX12_image_47 hl (k := 0) rfl (nI_1 _) (by decide) rfl (fun ls hl => ?_)
          refine lv_goto (tgt := 20) hx hb dX12_image_50 (by decide) ?_
          exact ih_20 (i + 1) _ _ _ (by omega) (by simpa only [upd00] using h) (lv_sub hl [0, 1, 2] rfl)
      exact lp_20 (1774 - 0) 0 _ _ _ (by omega) h (lv_sub hl [0, 1, 2] rfl)
    · -- p0 = 1
      refine lv_iconst (v := 0) hx hb dX12_image_18 (by decide) ?_
      refine lv_istore_n (lv' := [(2, .int 0), (0, .ref o), (1, .int 1)]) hx hb dX12_image_19 rfl hl (by decide) rfl (fun ls hl => ?_)
      have lp_20 : ∀ (n i : Nat) (H : Heap) (locs : List Loc) (ls : Array Slot), i + n = 1774 → Wd G A s H locs [(o, mO r), (r 1, .inl (G.2 1, 5322, .inl (fun _ => 0))), (r 2, .inl (G.2 3, 2, .inl (fun _ => 0)))] → lv_has ls 3 [(2, .int (nI i)), (0, .ref o), (1, .int 1)] → W p l e (rmd 3 0 0) s m ([.ref o, .int 1]).toArray below meth c H locs 0 0 (MQ below ((Ri (S := Unit) G (fun r _ => r = sp_image 1) (fun _ => [])) A) ([.ref o, .int 1]).toArray s 0 0 A) (F0 m 20 ls []) := by
        intro n
        induction n with
        | zero =>
          intro i H locs ls hn h hl
          refine lv_iload_n hx hb dX12_image_20 rfl (lv_at hl 0 rfl) ?_
          refine lv_sipush (v := 1774) hx hb dX12_image_21 (by decide) ?_
          refine lv_icmp_ge (tgt := 53) hx hb dX12_image_24 (by decide) (fun c_10 => ?_) (fun c_10 => by exact absurd ((nI_leI (a := 1774) (b := i) (by omega) (by omega)).mpr (by omega)) c_10)
          refine lv_aload_n hx hb dX12_image_53 rfl (lv_at hl 1 rfl) ?_
          refine g_X12_hasImage C0 h 0 q_1440 rfl rfl dX12_image_54 ?_
          refine lv_iload_n hx hb dX12_image_57 rfl (lv_at hl 2 rfl) ?_
          refine lv_iconst (v := 1) hx hb dX12_image_58 (by decide) ?_
          refine m_zast (ws' := [(o, mO r), (r 1, .inl (G.2 1, 5322, .inl (fun _ => 0))), (r 2, .inl (G.2 3, 2, .inl (upd (fun _ => 0) 1 (vp_nar .boolean 1))))]) C0 h 2 1 rfl (by decide) (by decide) (by decide) rfl dX12_image_59 (fun H locs h => ?_)
          refine lv_iconst (v := 0) hx hb dX12_image_60 (by decide) ?_
          exact m_iret () C0 h [] (by decide) rfl (by unfold sp_image; grind) (Nat.le_of_ble_eq_true rfl) (Nat.le_of_ble_eq_true rfl) dX12_image_61
        | succ n ih_20 =>
          intro i H locs ls hn h hl
          refine lv_iload_n hx hb dX12_image_20 rfl (lv_at hl 0 rfl) ?_
          refine lv_sipush (v := 1774) hx hb dX12_image_21 (by decide) ?_
          refine lv_icmp_ge (tgt := 53) hx hb dX12_image_24 (by decide) (fun c_11 => by exact absurd ((nI_leI (a := 1774) (b := i) (by omega) (by omega)).mp c_11) (by omega)) (fun c_11 => ?_)
          refine lv_aload_n hx hb dX12_image_27 rfl (lv_at hl 1 rfl) ?_
          refine g_X12_all C0 h 0 q_1439 rfl rfl dX12_image_28 ?_
          refine lv_sipush (v := 1774) hx hb dX12_image_31 (by decide) ?_
          refine lv_iload_n hx hb dX12_image_34 rfl (lv_at hl 2 rfl) ?_
          refine lv_iconst (v := 1) hx hb dX12_image_35 (by decide) ?_
          refine lv_iadd hx hb dX12_image_36 ?_
          refine lv_topi (fun k_12 ek_12 => ?_)
          obtain rfl : k_12 = 2 := ek_12.trans (by decide)
          refine lv_imul hx hb dX12_image_37 ?_
          refine lv_topi (fun k_13 ek_13 => ?_)
          obtain rfl : k_13 = 3548 := ek_13.trans (by decide)
          refine lv_iload_n hx hb dX12_image_38 rfl (lv_at hl 0 rfl) ?_
          refine lv_iadd hx hb dX12_image_39 ?_
          refine lv_topi (fun k_14 ek_14 => ?_)
          obtain rfl : k_14 = nI (3548 + i) := ek_14.trans (nI_add 3548 _)
          refine lv_aload_n hx hb dX12_image_40 rfl (lv_at hl 1 rfl) ?_
          refine g_X12_all C0 h 0 q_1439 rfl rfl dX12_image_41 ?_
          refine lv_iload_n hx hb dX12_image_44 rfl (lv_at hl 0 rfl) ?_
          refine m_iald C0 h 1 i rfl rfl (by omega) (by decide) dX12_image_45 ?_
          refine W.eq (g2 := F0 m 46 ls [.int 0, .int (nI (3548 + i)), .ref (r 1)]) rfl ?_
          refine m_iast (ws' := [(o, mO r), (r 1, .inl (G.2 1, 5322, .inl (upd (fun _ => 0) (3548 + i) 0))), (r 2, .inl (G.2 3, 2, .inl (fun _ => 0)))]) C0 h 1 (3548 + i) rfl rfl (by omega) (by decide) rfl dX12_image_46 (fun H locs h => ?_)
          refine lv_iinc (v := nI (i + 1)) (lv' := [(2, .int (nI (i + 1))), (0, .ref o), (1, .int 1)]) hx hb dX12_image_47 hl (k := 0) rfl (nI_1 _) (by decide) rfl (fun ls hl => ?_)
          refine lv_goto (tgt := 20) hx hb dX12_image_50 (by decide) ?_
          exact ih_20 (i + 1) _ _ _ (by omega) (by simpa only [upd00] using h) (lv_sub hl [0, 1, 2] rfl)
      exact lp_20 (1774 - 0) 0 _ _ _ (by omega) h (lv_sub hl [0, 1, 2] rfl)
  · -- answer 0
    have hp_2w : ¬ _ := fun hh => hp_2w ((i64_w p0 0 1).mpr hh)
    refine lv_if_ne (tgt := 18) hx hb dX12_image_12 (by decide) (fun c_15 => absurd c_15 (by decide)) (fun c_15 => ?_)
    refine lv_bipush (v := (-2)) hx hb dX12_image_15 (by decide) ?_
    exact m_iret () C0 h [] (by decide) rfl (by unfold sp_image; grind) (Nat.le_of_ble_eq_true rfl) (Nat.le_of_ble_eq_true rfl) dX12_image_17
set_option maxHeartbeats 4000000 in
set_option maxRecDepth 100000 in
theorem c_X12_keeps (l : Launch) (G : GG) (o : Nat) (r : Nat → Nat) : Mt l yX12_keeps cX12_keeps 2 none 0 0 0 G [.ref o] [(o, mO r), (r 1, .inl (G.2 1, 5322, .inl (fun _ => 0))), (r 16, .inl (G.2 1, 76, .inl (fun _ => 0)))] (Rv (S := Unit) G (fun _ => True) (fun _ => [(o, mO r), (r 1, .inl (G.2 1, 5322, .inl (fun _ => 0))), (r 16, .inl (G.2 1, 76, .inl (fun _ => 0)))])) := by
  refine Mt.start (by decide) (Nat.le_of_ble_eq_true rfl) ?_
  intro p e s m below meth c A ls C0 hini h hl
  have C0 : Cx p s m _ meth c RX12 cX12_keeps 2 none := C0
  obtain ⟨hx, hb, hml, hown, hts, -⟩ := id C0
  have hl : lv_has ls 2 [(0, .ref o)] := hl
  refine lv_iconst (v := 0) hx hb dX12_keeps_0 (by decide) ?_
  refine lv_istore_n (lv' := [(1, .int 0), (0, .ref o)]) hx hb dX12_keeps_1 rfl hl (by decide) rfl (fun ls hl => ?_)
  have lp_2 : ∀ (n i : Nat) (H : Heap) (locs : List Loc) (ls : Array Slot), i + n = 76 → Wd G A s H locs [(o, mO r), (r 1, .inl (G.2 1, 5322, .inl (fun _ => 0))), (r 16, .inl (G.2 1, 76, .inl (fun _ => 0)))] → lv_has ls 2 [(1, .int (nI i)), (0, .ref o)] → W p l e (rmd 0 0 0) s m ([.ref o]).toArray below meth c H locs 0 0 (MQ below ((Rv (S := Unit) G (fun _ => True) (fun _ => [(o, mO r), (r 1, .inl (G.2 1, 5322, .inl (fun _ => 0))), (r 16, .inl (G.2 1, 76, .inl (fun _ => 0)))])) A) ([.ref o]).toArray s 0 0 A) (F0 m 2 ls []) := by
    intro n
    induction n with
    | zero =>
      intro i H locs ls hn h hl
      refine lv_iload_n hx hb dX12_keeps_2 rfl (lv_at hl 0 rfl) ?_
      refine lv_bipush (v := 76) hx hb dX12_keeps_3 (by decide) ?_
      refine lv_icmp_ge (tgt := 29) hx hb dX12_keeps_5 (by decide) (fun c_1 => ?_) (fun c_1 => by exact absurd ((nI_leI (a := 76) (b := i) (by omega) (by omega)).mpr (by omega)) c_1)
      exact m_vret () C0 h [0, 1, 2] (by decide) rfl trivial (Nat.le_of_ble_eq_true rfl) (Nat.le_of_ble_eq_true rfl) dX12_keeps_29
    | succ n ih_2 =>
      intro i H locs ls hn h hl
      refine lv_iload_n hx hb dX12_keeps_2 rfl (lv_at hl 0 rfl) ?_
      refine lv_bipush (v := 76) hx hb dX12_keeps_3 (by decide) ?_
      refine lv_icmp_ge (tgt := 29) hx hb dX12_keeps_5 (by decide) (fun c_2 => by exact absurd ((nI_leI (a := 76) (b := i) (by omega) (by omega)).mp c_2) (by omega)) (fun c_2 => ?_)
      refine lv_aload_n hx hb dX12_keeps_8 rfl (lv_at hl 1 rfl) ?_
      refine g_X12_was C0 h 0 q_1454 rfl rfl dX12_keeps_9 ?_
      refine lv_iload_n hx hb dX12_keeps_12 rfl (lv_at hl 0 rfl) ?_
      refine lv_aload_n hx hb dX12_keeps_13 rfl (lv_at hl 1 rfl) ?_
      refine g_X12_all C0 h 0 q_1439 rfl rfl dX12_keeps_14 ?_
      refine lv_bipush (v := 36) hx hb dX12_keeps_17 (by decide) ?_
      refine lv_iload_n hx hb dX12_keeps_19 rfl (lv_at hl 0 rfl) ?_
      refine lv_iadd hx hb dX12_keeps_20 ?_
      refine lv_topi (fun k_3 ek_3 => ?_)
      obtain rfl : k_3 = nI (36 + i) := ek_3.trans (nI_add 36 _)
      refine m_iald C0 h 1 (36 + i) rfl rfl (by omega) (by decide) dX12_keeps_21 ?_
      refine W.eq (g2 := F0 m 22 ls [.int 0, .int (nI i), .ref (r 16)]) rfl ?_
      refine m_iast (ws' := [(o, mO r), (r 1, .inl (G.2 1, 5322, .inl (fun _ => 0))), (r 16, .inl (G.2 1, 76, .inl (upd (fun _ => 0) i 0)))]) C0 h 2 i rfl rfl (by omega) (by decide) rfl dX12_keeps_22 (fun H locs h => ?_)
      refine lv_iinc (v := nI (i + 1)) (lv' := [(1, .int (nI (i + 1))), (0, .ref o)]) hx hb dX12_keeps_23 hl (k := 0) rfl (nI_1 _) (by decide) rfl (fun ls hl => ?_)
      refine lv_goto (tgt := 2) hx hb dX12_keeps_26 (by decide) ?_
      exact ih_2 (i + 1) _ _ _ (by omega) (by simpa only [upd00] using h) (lv_sub hl [0, 1] rfl)
  exact lp_2 (76 - 0) 0 _ _ _ (by omega) h (lv_sub hl [0, 1] rfl)
set_option maxHeartbeats 4000000 in
set_option maxRecDepth 100000 in
theorem c_X12_notes (l : Launch) (G : GG) (o : Nat) (r : Nat → Nat) (p0 : Int32) : Mt l yX12_notes cX12_notes 2 none 0 0 0 G [.ref o] [(o, mO r), (r 1, .inl (G.2 1, 5322, .inl (upd (fun _ => 0) 111 p0))), (r 16, .inl (G.2 1, 76, .inl (fun _ => 0)))] (Rv (S := Unit) G (fun _ => True) (fun _ => [(o, mO r), (r 1, .inl (G.2 1, 5322, .inl (upd (upd (fun _ => 0) 111 p0) 112 1)))])) := by
  refine Mt.start (by decide) (Nat.le_of_ble_eq_true rfl) ?_
  intro p e s m below meth c A ls C0 hini h hl
  have C0 : Cx p s m _ meth c RX12 cX12_notes 2 none := C0
  obtain ⟨hx, hb, hml, hown, hts, -⟩ := id C0
  have hl : lv_has ls 2 [(0, .ref o)] := hl
  refine lv_aload_n hx hb dX12_notes_0 rfl (lv_at hl 0 rfl) ?_
  refine g_X12_all C0 h 0 q_1439 rfl rfl dX12_notes_1 ?_
  refine lv_bipush (v := 112) hx hb dX12_notes_4 (by decide) ?_
  refine m_iald C0 h 1 112 rfl (by decide) (by decide) (by decide) dX12_notes_6 ?_
  refine W.eq (g2 := F0 m 7 ls [.int 0]) rfl ?_
  refine lv_bipush (v := 10) hx hb dX12_notes_7 (by decide) ?_
  refine lv_icmp_ne (tgt := 57) hx hb dX12_notes_9 (by decide) (fun c_1 => ?_) (fun c_1 => absurd c_1 (by decide))
  refine lv_iconst (v := 0) hx hb dX12_notes_57 (by decide) ?_
  refine lv_istore_n (lv' := [(1, .int 0), (0, .ref o)]) hx hb dX12_notes_58 rfl hl (by decide) rfl (fun ls hl => ?_)
  have lp_59 : ∀ (n i : Nat) (H : Heap) (locs : List Loc) (ls : Array Slot), i + n = 76 → Wd G A s H locs [(o, mO r), (r 1, .inl (G.2 1, 5322, .inl (upd (fun _ => 0) 111 p0))), (r 16, .inl (G.2 1, 76, .inl (fun _ => 0)))] → lv_has ls 2 [(1, .int (nI i)), (0, .ref o)] → W p l e (rmd 0 0 0) s m ([.ref o]).toArray below meth c H locs 0 0 (MQ below ((Rv (S := Unit) G (fun _ => True) (fun _ => [(o, mO r), (r 1, .inl (G.2 1, 5322, .inl (upd (upd (fun _ => 0) 111 p0) 112 1)))])) A) ([.ref o]).toArray s 0 0 A) (F0 m 59 ls []) := by
    intro n
    induction n with
    | zero =>
      intro i H locs ls hn h hl
      refine lv_iload_n hx hb dX12_notes_59 rfl (lv_at hl 0 rfl) ?_
      refine lv_bipush (v := 76) hx hb dX12_notes_60 (by decide) ?_
      refine lv_icmp_ge (tgt := 97) hx hb dX12_notes_62 (by decide) (fun c_2 => ?_) (fun c_2 => by exact absurd ((nI_leI (a := 76) (b := i) (by omega) (by omega)).mpr (by omega)) c_2)
      refine lv_aload_n hx hb dX12_notes_97 rfl (lv_at hl 1 rfl) ?_
      refine g_X12_all C0 h 0 q_1439 rfl rfl dX12_notes_98 ?_
      refine lv_bipush (v := 112) hx hb dX12_notes_101 (by decide) ?_
      refine lv_dup2_11 hx hb dX12_notes_103 rfl rfl ?_
      refine m_iald C0 h 1 112 rfl (by decide) (by decide) (by decide) dX12_notes_104 ?_
      refine W.eq (g2 := F0 m 105 ls [.int 0, .int 112, .ref (r 1)]) rfl ?_
      refine lv_iconst (v := 1) hx hb dX12_notes_105 (by decide) ?_
      refine lv_iadd hx hb dX12_notes_106 ?_
      refine lv_topi (fun k_3 ek_3 => ?_)
      obtain rfl : k_3 = 1 := ek_3.trans (by decide)
      refine m_iast (ws' := [(o, mO r), (r 1, .inl (G.2 1, 5322, .inl (upd (upd (fun _ => 0) 111 p0) 112 1))), (r 16, .inl (G.2 1, 76, .inl (fun _ => 0)))]) C0 h 1 112 rfl (by decide) (by decide) (by decide) rfl dX12_notes_107 (fun H locs h => ?_)
      exact m_vret () C0 h [0, 1] (by decide) rfl trivial (Nat.le_of_ble_eq_true rfl) (Nat.le_of_ble_eq_true rfl) dX12_notes_108
    | succ n ih_59 =>
      intro i H locs ls hn h hl
      refine lv_iload_n hx hb dX12_notes_59 rfl (lv_at hl 0 rfl) ?_
      refine lv_bipush (v := 76) hx hb dX12_notes_60 (by decide) ?_
      refine lv_icmp_ge (tgt := 97) hx hb dX12_notes_62 (by decide) (fun c_4 => by exact absurd ((nI_leI (a := 76) (b := i) (by omega) (by omega)).mp c_4) (by omega)) (fun c_4 => ?_)
      refine lv_aload_n hx hb dX12_notes_65 rfl (lv_at hl 1 rfl) ?_
      refine g_X12_all C0 h 0 q_1439 rfl rfl dX12_notes_66 ?_
      refine lv_bipush (v := 113) hx hb dX12_notes_69 (by decide) ?_
      refine lv_bipush (v := 76) hx hb dX12_notes_71 (by decide) ?_
      refine lv_aload_n hx hb dX12_notes_73 rfl (lv_at hl 1 rfl) ?_
      refine g_X12_all C0 h 0 q_1439 rfl rfl dX12_notes_74 ?_
      refine lv_bipush (v := 112) hx hb dX12_notes_77 (by decide) ?_
      refine m_iald C0 h 1 112 rfl (by decide) (by decide) (by decide) dX12_notes_79 ?_
      refine W.eq (g2 := F0 m 80 ls [.int 0, .int 76, .int 113, .ref (r 1)]) rfl ?_
      refine lv_imul hx hb dX12_notes_80 ?_
      refine lv_topi (fun k_5 ek_5 => ?_)
      obtain rfl : k_5 = 0 := ek_5.trans (by decide)
      refine lv_iadd hx hb dX12_notes_81 ?_
      refine lv_topi (fun k_6 ek_6 => ?_)
      obtain rfl : k_6 = 113 := ek_6.trans (by decide)
      refine lv_iload_n hx hb dX12_notes_82 rfl (lv_at hl 0 rfl) ?_
      refine lv_iadd hx hb dX12_notes_83 ?_
      refine lv_topi (fun k_7 ek_7 => ?_)
      obtain rfl : k_7 = nI (113 + i) := ek_7.trans (nI_add 113 _)
      refine lv_aload_n hx hb dX12_notes_84 rfl (lv_at hl 1 rfl) ?_
      refine g_X12_was C0 h 0 q_1454 rfl rfl dX12_notes_85 ?_
      refine lv_iload_n hx hb dX12_notes_88 rfl (lv_at hl 0 rfl) ?_
      refine m_iald C0 h 2 i rfl rfl (by omega) (by decide) dX12_notes_89 ?_
      refine W.eq (g2 := F0 m 90 ls [.int 0, .int (nI (113 + i)), .ref (r 1)]) rfl ?_
      refine m_iast (ws' := [(o, mO r), (r 1, .inl (G.2 1, 5322, .inl (upd (upd (fun _ => 0) 111 p0) (113 + i) 0))), (r 16, .inl (G.2 1, 76, .inl (fun _ => 0)))]) C0 h 1 (113 + i) rfl rfl (by omega) (by decide) rfl dX12_notes_90 (fun H locs h => ?_)
      refine lv_iinc (v := nI (i + 1)) (lv' := [(1, .int (nI (i + 1))), (0, .ref o)]) hx hb dX12_notes_91 hl (k := 0) rfl (nI_1 _) (by decide) rfl (fun ls hl => ?_)
      refine lv_goto (tgt := 59) hx hb dX12_notes_94 (by decide) ?_
      exact ih_59 (i + 1) _ _ _ (by omega) (by simpa only [upd111] using h) (lv_sub hl [0, 1] rfl)
  exact lp_59 (76 - 0) 0 _ _ _ (by omega) h (lv_sub hl [0, 1] rfl)
set_option maxHeartbeats 4000000 in
set_option maxRecDepth 100000 in
theorem c_X12_hours (l : Launch) (G : GG) (o : Nat) (r : Nat → Nat) (p0 : Int32) : Mt l yX12_hours cX12_hours 2 (some .int) 3 0 0 G [.ref o, .int p0] [(o, mO r), (r 1, .inl (G.2 1, 5322, .inl (fun _ => 0))), (r 16, .inl (G.2 1, 76, .inl (fun _ => 0)))] (Ri (S := Unit) G (fun r _ => r = sp_hours p0) (fun _ => [])) := by
  refine Mt.start (by decide) (Nat.le_of_ble_eq_true rfl) ?_
  intro p e s m below meth c A ls C0 hini h hl
  have C0 : Cx p s m _ meth c RX12 cX12_hours 2 (some .int) := C0
  obtain ⟨hx, hb, hml, hown, hts, -⟩ := id C0
  have hl : lv_has ls 2 [(0, .ref o), (1, .int p0)] := hl
  refine lv_aload_n hx hb dX12_hours_0 rfl (lv_at hl 0 rfl) ?_
  refine lv_iconst (v := 0) hx hb dX12_hours_1 (by decide) ?_
  refine p_X12_thrown (ws' := [(o, mO r), (r 1, .inl (G.2 1, 5322, .inl (fun _ => 0))), (r 16, .inl (G.2 1, 76, .inl (fun _ => 0)))]) C0 h 0 q_1438 rfl (Nat.le_of_ble_eq_true rfl) rfl rfl rfl dX12_hours_2 (fun H locs h => ?_)
  refine lv_iload_n hx hb dX12_hours_5 rfl (lv_at hl 1 rfl) ?_
  refine lv_i2l (v := p0.toInt64) hx hb dX12_hours_6 rfl ?_
  refine lv_lconst (v := 1) hx hb dX12_hours_7 (by decide) ?_
  refine lv_ldc2 (v := 99) hx hb hown (hts _ q_1830) dX12_hours_8 ?_
  refine m_cli (wr := [(o, mO r), (r 1, .inl (G.2 1, 5322, .inl (fun _ => 0))), (r 16, .inl (G.2 1, 76, .inl (fun _ => 0)))]) h (m_rS (As := [.long p0.toInt64, .long 1, .long 99]) (rest := []) C0 h (c_X12_within l G p0.toInt64 1 99) k_X12_within q_1580 q_1579 [] (by decide) rfl hl.1 rfl rfl (Nat.le_of_ble_eq_true rfl) dX12_hours_11 ⟨Nat.le_of_ble_eq_true rfl, Nat.le_of_ble_eq_true rfl⟩ ⟨Nat.le_of_ble_eq_true rfl, Nat.le_of_ble_eq_true rfl⟩) [] [0, 1, 2] rfl rfl (by decide) (by decide) (fun r_3 u_1 H locs hp_2 h => ?_)
  have h : Wd G A s _ _ [(o, mO r), (r 1, .inl (G.2 1, 5322, .inl (fun _ => 0))), (r 16, .inl (G.2 1, 76, .inl (fun _ => 0)))] := h
  rcases hp_2 with ⟨rfl, hp_2w⟩ | ⟨rfl, hp_2w⟩
  · -- answer 1
    have hp_2w := (i64_w p0 1 99).mp hp_2w
    have hp_2w1 := hp_2w.1
    have hp_2w2 := hp_2w.2
    refine lv_if_ne (tgt := 20) hx hb dX12_hours_14 (by decide) (fun c_4 => ?_) (fun c_4 => absurd c_4 (by decide))
    refine lv_aload_n hx hb dX12_hours_20 rfl (lv_at hl 0 rfl) ?_
    refine m_clv (wr := []) h (m_rV (ci := 12) (q0 := 0) (As := []) (rest := []) C0 h (c_X12_keeps l G o r) k_X12_keeps q_1777 q_88 q_1775 rfl rfl rfl [0, 1, 2] (by decide) rfl hl.1 rfl rfl (Nat.le_of_ble_eq_true rfl) dX12_hours_21 ⟨Nat.le_of_ble_eq_true rfl, Nat.le_of_ble_eq_true rfl⟩ ⟨Nat.le_of_ble_eq_true rfl, Nat.le_of_ble_eq_true rfl⟩) [0, 1, 2] [] rfl rfl (by decide) (by decide) (fun u_5 H locs hp_6 h => ?_)
    have h : Wd G A s _ _ [(o, mO r), (r 1, .inl (G.2 1, 5322, .inl (fun _ => 0))), (r 16, .inl (G.2 1, 76, .inl (fun _ => 0)))] := h
    refine lv_aload_n hx hb dX12_hours_24 rfl (lv_at hl 0 rfl) ?_
    refine g_X12_all C0 h 0 q_1439 rfl rfl dX12_hours_25 ?_
    refine lv_bipush (v := 111) hx hb dX12_hours_28 (by decide) ?_
    refine lv_dup2_11 hx hb dX12_hours_30 rfl rfl ?_
    refine m_iald C0 h 1 111 rfl (by decide) (by decide) (by decide) dX12_hours_31 ?_
    refine W.eq (g2 := F0 m 32 ls [.int 0, .int 111, .ref (r 1)]) rfl ?_
    refine lv_iload_n hx hb dX12_hours_32 rfl (lv_at hl 1 rfl) ?_
    refine lv_iadd hx hb dX12_hours_33 ?_
    refine W.eq (g2 := F0 m 34 ls [.int p0, .int 111, .ref (r 1)]) (by rw [Int32.zero_add]) ?_
    refine m_iast (ws' := [(o, mO r), (r 1, .inl (G.2 1, 5322, .inl (upd (fun _ => 0) 111 p0))), (r 16, .inl (G.2 1, 76, .inl (fun _ => 0)))]) C0 h 1 111 rfl (by decide) (by decide) (by decide) rfl dX12_hours_34 (fun H locs h => ?_)
    refine lv_aload_n hx hb dX12_hours_35 rfl (lv_at hl 0 rfl) ?_
    refine m_clv (wr := []) h (m_rV (ci := 12) (q0 := 0) (As := []) (rest := []) C0 h (c_X12_notes l G o r p0) k_X12_notes q_1788 q_90 q_1786 rfl rfl rfl [0, 1, 2] (by decide) rfl hl.1 rfl rfl (Nat.le_of_ble_eq_true rfl) dX12_hours_36 ⟨Nat.le_of_ble_eq_true rfl, Nat.le_of_ble_eq_true rfl⟩ ⟨Nat.le_of_ble_eq_true rfl, Nat.le_of_ble_eq_true rfl⟩) [0, 1, 2] [] rfl rfl (by decide) (by decide) (fun u_7 H locs hp_8 h => ?_)
    have h : Wd G A s _ _ [(o, mO r), (r 1, .inl (G.2 1, 5322, .inl (upd (upd (fun _ => 0) 111 p0) 112 1)))] := h
    refine lv_aload_n hx hb dX12_hours_39 rfl (lv_at hl 0 rfl) ?_
    refine g_X12_all C0 h 0 q_1439 rfl rfl dX12_hours_40 ?_
    refine lv_bipush (v := 111) hx hb dX12_hours_43 (by decide) ?_
    refine m_iald C0 h 1 111 rfl (by decide) (by decide) (by decide) dX12_hours_45 ?_
    refine W.eq (g2 := F0 m 46 ls [.int p0]) rfl ?_
    exact m_iret () C0 h [] (by decide) rfl (by unfold sp_hours; grind) (Nat.le_of_ble_eq_true rfl) (Nat.le_of_ble_eq_true rfl) dX12_hours_46
  · -- answer 0
    have hp_2w : ¬ _ := fun hh => hp_2w ((i64_w p0 1 99).mpr hh)
    refine lv_if_ne (tgt := 20) hx hb dX12_hours_14 (by decide) (fun c_9 => absurd c_9 (by decide)) (fun c_9 => ?_)
    refine lv_bipush (v := (-3)) hx hb dX12_hours_17 (by decide) ?_
    exact m_iret () C0 h [] (by decide) rfl (by unfold sp_hours; grind) (Nat.le_of_ble_eq_true rfl) (Nat.le_of_ble_eq_true rfl) dX12_hours_19
set_option maxHeartbeats 4000000 in
set_option maxRecDepth 100000 in
theorem c_X12_feed (l : Launch) (G : GG) (o : Nat) (r : Nat → Nat) (p0 : Int32) (p1 : Int32) (p2 : Int32) (p3 : Int32) (p4 : Int32) : Mt l yX12_feed cX12_feed 8 (some .int) 3 0 0 G [.ref o, .int p0, .int p1, .int p2, .int p3, .int p4] [(o, mO r), (r 3, .inl (G.2 1, 900, .inl (fun _ => 0)))] (Ri (S := Unit) G (fun r _ => r = 20) (fun _ => [])) := by
  refine Mt.start (by decide) (Nat.le_of_ble_eq_true rfl) ?_
  intro p e s m below meth c A ls C0 hini h hl
  have C0 : Cx p s m _ meth c RX12 cX12_feed 8 (some .int) := C0
  obtain ⟨hx, hb, hml, hown, hts, -⟩ := id C0
  have hl : lv_has ls 8 [(0, .ref o), (1, .int p0), (2, .int p1), (3, .int p2), (4, .int p3), (5, .int p4)] := hl
  refine lv_aload_n hx hb dX12_feed_0 rfl (lv_at hl 0 rfl) ?_
  refine lv_iconst (v := 0) hx hb dX12_feed_1 (by decide) ?_
  refine p_X12_thrown (ws' := [(o, mO r), (r 3, .inl (G.2 1, 900, .inl (fun _ => 0)))]) C0 h 0 q_1438 rfl (Nat.le_of_ble_eq_true rfl) rfl rfl rfl dX12_feed_2 (fun H locs h => ?_)
  refine lv_aload_n hx hb dX12_feed_5 rfl (lv_at hl 0 rfl) ?_
  refine g_X12_taped C0 h 0 q_1443 rfl rfl dX12_feed_6 ?_
  refine lv_bipush (v := 20) hx hb dX12_feed_9 (by decide) ?_
  refine lv_iadd hx hb dX12_feed_11 ?_
  refine lv_topi (fun k_1 ek_1 => ?_)
  obtain rfl : k_1 = 20 := ek_1.trans (by decide)
  refine lv_sipush (v := 900) hx hb dX12_feed_12 (by decide) ?_
  refine lv_icmp_le (tgt := 21) hx hb dX12_feed_15 (by decide) (fun c_2 => ?_) (fun c_2 => absurd c_2 (by decide))
  refine lv_iconst (v := 0) hx hb dX12_feed_21 (by decide) ?_
  refine lv_istore (lv' := [(6, .int 0), (0, .ref o), (1, .int p0), (2, .int p1), (3, .int p2), (4, .int p3), (5, .int p4)]) hx hb dX12_feed_22 hl (by decide) rfl (fun ls hl => ?_)
  refine lv_iload hx hb dX12_feed_24 (lv_at hl 0 rfl) ?_
  refine lv_bipush (v := 20) hx hb dX12_feed_26 (by decide) ?_
  refine lv_icmp_ge (tgt := 121) hx hb dX12_feed_28 (by decide) (fun c_3 => absurd c_3 (by decide)) (fun c_3 => ?_)
  refine lv_iload hx hb dX12_feed_31 (lv_at hl 0 rfl) ?_
  refine lv_iconst (v := 4) hx hb dX12_feed_33 (by decide) ?_
  refine lv_icmp_ge (tgt := 41) hx hb dX12_feed_34 (by decide) (fun c_4 => absurd c_4 (by decide)) (fun c_4 => ?_)
  refine lv_iload_n hx hb dX12_feed_37 rfl (lv_at hl 2 rfl) ?_
  refine lv_goto (tgt := 77) hx hb dX12_feed_38 (by decide) ?_
  refine lv_istore (lv' := [(7, .int p0), (6, .int 0), (0, .ref o), (1, .int p0), (2, .int p1), (3, .int p2), (4, .int p3), (5, .int p4)]) hx hb dX12_feed_77 hl (by decide) rfl (fun ls hl => ?_)
  refine lv_aload_n hx hb dX12_feed_79 rfl (lv_at hl 2 rfl) ?_
  refine g_X12_tape C0 h 0 q_1441 rfl rfl dX12_feed_80 ?_
  refine lv_aload_n hx hb dX12_feed_83 rfl (lv_at hl 2 rfl) ?_
  refine g_X12_taped C0 h 0 q_1443 rfl rfl dX12_feed_84 ?_
  refine lv_iload hx hb dX12_feed_87 (lv_at hl 0 rfl) ?_
  refine lv_bipush (v := 24) hx hb dX12_feed_89 (by decide) ?_
  refine lv_bipush (v := 8) hx hb dX12_feed_91 (by decide) ?_
  refine lv_iload hx hb dX12_feed_93 (lv_at hl 1 rfl) ?_
  refine lv_iconst (v := 4) hx hb dX12_feed_95 (by decide) ?_
  refine lv_irem hx hb dX12_feed_96 (by decide) ?_
  refine lv_topi (fun k_5 ek_5 => ?_)
  obtain rfl : k_5 = 0 := ek_5.trans (by decide)
  refine lv_imul hx hb dX12_feed_97 ?_
  refine lv_topi (fun k_6 ek_6 => ?_)
  obtain rfl : k_6 = 0 := ek_6.trans (by decide)
  refine lv_isub hx hb dX12_feed_98 ?_
  refine lv_topi (fun k_7 ek_7 => ?_)
  obtain rfl : k_7 = 24 := ek_7.trans (by decide)
  refine lv_ishr hx hb dX12_feed_99 ?_
  refine lv_sipush (v := 255) hx hb dX12_feed_100 (by decide) ?_
  refine lv_iand hx hb dX12_feed_103 ?_
  refine m_iast (ws' := [(o, mO r), (r 3, .inl (G.2 1, 900, .inl (upd (fun _ => 0) 0 ((p0 >>> (24 &&& 31)) &&& 255))))]) C0 h 1 0 rfl (by decide) (by decide) (by decide) rfl dX12_feed_104 (fun H locs h => ?_)
  refine lv_aload_n hx hb dX12_feed_105 rfl (lv_at hl 2 rfl) ?_
  refine lv_dup hx hb dX12_feed_106 rfl ?_
  refine g_X12_taped C0 h 0 q_1443 rfl rfl dX12_feed_107 ?_
  refine lv_iconst (v := 1) hx hb dX12_feed_110 (by decide) ?_
  refine lv_iadd hx hb dX12_feed_111 ?_
  refine lv_topi (fun k_8 ek_8 => ?_)
  obtain rfl : k_8 = 1 := ek_8.trans (by decide)
  refine p_X12_taped (ws' := [(o, .inr (12, [.int 0, .ref (r 1), .ref (r 2), .ref (r 3), .ref (r 4), .int 1, .int 0, .int 0, .int 0, .int 0, .int 0, .int 0, .int 0, .int 0, .int (-1), .ref (r 15), .ref (r 16), .int 0, .int 0, .int 0, .ref (r 20), .ref (r 21), .ref (r 22), .ref (r 23), .ref (r 24), .ref (r 25), .int 0, .ref (r 27), .int 0, .ref (r 29), .ref (r 30), .ref (r 31), .ref (r 32), .ref (r 33), .ref (r 34), .int 0, .int 0, .int 0, .ref (r 38), .ref (r 39), .ref (r 40), .ref (r 41), .ref (r 42), .ref (r 43)])), (r 3, .inl (G.2 1, 900, .inl (upd (fun _ => 0) 0 ((p0 >>> (24 &&& 31)) &&& 255))))]) C0 h 0 q_1443 rfl (Nat.le_of_ble_eq_true rfl) rfl rfl rfl dX12_feed_112 (fun H locs h => ?_)
  refine lv_iinc (v := 1) (lv' := [(6, .int 1), (7, .int p0), (0, .ref o), (1, .int p0), (2, .int p1), (3, .int p2), (4, .int p3), (5, .int p4)]) hx hb dX12_feed_115 hl (k := 1) rfl (by decide) (by decide) rfl (fun ls hl => ?_)
  refine lv_goto (tgt := 24) hx hb dX12_feed_118 (by decide) ?_
  refine lv_iload hx hb dX12_feed_24 (lv_at hl 0 rfl) ?_
  refine lv_bipush (v := 20) hx hb dX12_feed_26 (by decide) ?_
  refine lv_icmp_ge (tgt := 121) hx hb dX12_feed_28 (by decide) (fun c_9 => absurd c_9 (by decide)) (fun c_9 => ?_)
  refine lv_iload hx hb dX12_feed_31 (lv_at hl 0 rfl) ?_
  refine lv_iconst (v := 4) hx hb dX12_feed_33 (by decide) ?_
  refine lv_icmp_ge (tgt := 41) hx hb dX12_feed_34 (by decide) (fun c_10 => absurd c_10 (by decide)) (fun c_10 => ?_)
  refine lv_iload_n hx hb dX12_feed_37 rfl (lv_at hl 3 rfl) ?_
  refine lv_goto (tgt := 77) hx hb dX12_feed_38 (by decide) ?_
  refine lv_istore (lv' := [(7, .int p0), (6, .int 1), (0, .ref o), (1, .int p0), (2, .int p1), (3, .int p2), (4, .int p3), (5, .int p4)]) hx hb dX12_feed_77 hl (by decide) rfl (fun ls hl => ?_)
  refine lv_aload_n hx hb dX12_feed_79 rfl (lv_at hl 2 rfl) ?_
  refine g_X12_tape C0 h 0 q_1441 rfl rfl dX12_feed_80 ?_
  refine lv_aload_n hx hb dX12_feed_83 rfl (lv_at hl 2 rfl) ?_
  refine g_X12_taped C0 h 0 q_1443 rfl rfl dX12_feed_84 ?_
  refine lv_iload hx hb dX12_feed_87 (lv_at hl 0 rfl) ?_
  refine lv_bipush (v := 24) hx hb dX12_feed_89 (by decide) ?_
  refine lv_bipush (v := 8) hx hb dX12_feed_91 (by decide) ?_
  refine lv_iload hx hb dX12_feed_93 (lv_at hl 1 rfl) ?_
  refine lv_iconst (v := 4) hx hb dX12_feed_95 (by decide) ?_
  refine lv_irem hx hb dX12_feed_96 (by decide) ?_
  refine lv_topi (fun k_11 ek_11 => ?_)
  obtain rfl : k_11 = 1 := ek_11.trans (by decide)
  refine lv_imul hx hb dX12_feed_97 ?_
  refine lv_topi (fun k_12 ek_12 => ?_)
  obtain rfl : k_12 = 8 := ek_12.trans (by decide)
  refine lv_isub hx hb dX12_feed_98 ?_
  refine lv_topi (fun k_13 ek_13 => ?_)
  obtain rfl : k_13 = 16 := ek_13.trans (by decide)
  refine lv_ishr hx hb dX12_feed_99 ?_
  refine lv_sipush (v := 255) hx hb dX12_feed_100 (by decide) ?_
  refine lv_iand hx hb dX12_feed_103 ?_
  refine m_iast (ws' := [(o, .inr (12, [.int 0, .ref (r 1), .ref (r 2), .ref (r 3), .ref (r 4), .int 1, .int 0, .int 0, .int 0, .int 0, .int 0, .int 0, .int 0, .int 0, .int (-1), .ref (r 15), .ref (r 16), .int 0, .int 0, .int 0, .ref (r 20), .ref (r 21), .ref (r 22), .ref (r 23), .ref (r 24), .ref (r 25), .int 0, .ref (r 27), .int 0, .ref (r 29), .ref (r 30), .ref (r 31), .ref (r 32), .ref (r 33), .ref (r 34), .int 0, .int 0, .int 0, .ref (r 38), .ref (r 39), .ref (r 40), .ref (r 41), .ref (r 42), .ref (r 43)])), (r 3, .inl (G.2 1, 900, .inl (upd (upd (fun _ => 0) 0 ((p0 >>> (24 &&& 31)) &&& 255)) 1 ((p0 >>> (16 &&& 31)) &&& 255))))]) C0 h 1 1 rfl (by decide) (by decide) (by decide) rfl dX12_feed_104 (fun H locs h => ?_)
  refine lv_aload_n hx hb dX12_feed_105 rfl (lv_at hl 2 rfl) ?_
  refine lv_dup hx hb dX12_feed_106 rfl ?_
  refine g_X12_taped C0 h 0 q_1443 rfl rfl dX12_feed_107 ?_
  refine lv_iconst (v := 1) hx hb dX12_feed_110 (by decide) ?_
  refine lv_iadd hx hb dX12_feed_111 ?_
  refine lv_topi (fun k_14 ek_14 => ?_)
  obtain rfl : k_14 = 2 := ek_14.trans (by decide)
  refine p_X12_taped (ws' := [(o, .inr (12, [.int 0, .ref (r 1), .ref (r 2), .ref (r 3), .ref (r 4), .int 2, .int 0, .int 0, .int 0, .int 0, .int 0, .int 0, .int 0, .int 0, .int (-1), .ref (r 15), .ref (r 16), .int 0, .int 0, .int 0, .ref (r 20), .ref (r 21), .ref (r 22), .ref (r 23), .ref (r 24), .ref (r 25), .int 0, .ref (r 27), .int 0, .ref (r 29), .ref (r 30), .ref (r 31), .ref (r 32), .ref (r 33), .ref (r 34), .int 0, .int 0, .int 0, .ref (r 38), .ref (r 39), .ref (r 40), .ref (r 41), .ref (r 42), .ref (r 43)])), (r 3, .inl (G.2 1, 900, .inl (upd (upd (fun _ => 0) 0 ((p0 >>> (24 &&& 31)) &&& 255)) 1 ((p0 >>> (16 &&& 31)) &&& 255))))]) C0 h 0 q_1443 rfl (Nat.le_of_ble_eq_true rfl) rfl rfl rfl dX12_feed_112 (fun H locs h => ?_)
  refine lv_iinc (v := 2) (lv' := [(6, .int 2), (7, .int p0), (0, .ref o), (1, .int p0), (2, .int p1), (3, .int p2), (4, .int p3), (5, .int p4)]) hx hb dX12_feed_115 hl (k := 1) rfl (by decide) (by decide) rfl (fun ls hl => ?_)
  refine lv_goto (tgt := 24) hx hb dX12_feed_118 (by decide) ?_
  refine lv_iload hx hb dX12_feed_24 (lv_at hl 0 rfl) ?_
  refine lv_bipush (v := 20) hx hb dX12_feed_26 (by decide) ?_
  refine lv_icmp_ge (tgt := 121) hx hb dX12_feed_28 (by decide) (fun c_15 => absurd c_15 (by decide)) (fun c_15 => ?_)
  refine lv_iload hx hb dX12_feed_31 (lv_at hl 0 rfl) ?_
  refine lv_iconst (v := 4) hx hb dX12_feed_33 (by decide) ?_
  refine lv_icmp_ge (tgt := 41) hx hb dX12_feed_34 (by decide) (fun c_16 => absurd c_16 (by decide)) (fun c_16 => ?_)
  refine lv_iload_n hx hb dX12_feed_37 rfl (lv_at hl 3 rfl) ?_
  refine lv_goto (tgt := 77) hx hb dX12_feed_38 (by decide) ?_
  refine lv_istore (lv' := [(7, .int p0), (6, .int 2), (0, .ref o), (1, .int p0), (2, .int p1), (3, .int p2), (4, .int p3), (5, .int p4)]) hx hb dX12_feed_77 hl (by decide) rfl (fun ls hl => ?_)
  refine lv_aload_n hx hb dX12_feed_79 rfl (lv_at hl 2 rfl) ?_
  refine g_X12_tape C0 h 0 q_1441 rfl rfl dX12_feed_80 ?_
  refine lv_aload_n hx hb dX12_feed_83 rfl (lv_at hl 2 rfl) ?_
  refine g_X12_taped C0 h 0 q_1443 rfl rfl dX12_feed_84 ?_
  refine lv_iload hx hb dX12_feed_87 (lv_at hl 0 rfl) ?_
  refine lv_bipush (v := 24) hx hb dX12_feed_89 (by decide) ?_
  refine lv_bipush (v := 8) hx hb dX12_feed_91 (by decide) ?_
  refine lv_iload hx hb dX12_feed_93 (lv_at hl 1 rfl) ?_
  refine lv_iconst (v := 4) hx hb dX12_feed_95 (by decide) ?_
  refine lv_irem hx hb dX12_feed_96 (by decide) ?_
  refine lv_topi (fun k_17 ek_17 => ?_)
  obtain rfl : k_17 = 2 := ek_17.trans (by decide)
  refine lv_imul hx hb dX12_feed_97 ?_
  refine lv_topi (fun k_18 ek_18 => ?_)
  obtain rfl : k_18 = 16 := ek_18.trans (by decide)
  refine lv_isub hx hb dX12_feed_98 ?_
  refine lv_topi (fun k_19 ek_19 => ?_)
  obtain rfl : k_19 = 8 := ek_19.trans (by decide)
  refine lv_ishr hx hb dX12_feed_99 ?_
  refine lv_sipush (v := 255) hx hb dX12_feed_100 (by decide) ?_
  refine lv_iand hx hb dX12_feed_103 ?_
  refine m_iast (ws' := [(o, .inr (12, [.int 0, .ref (r 1), .ref (r 2), .ref (r 3), .ref (r 4), .int 2, .int 0, .int 0, .int 0, .int 0, .int 0, .int 0, .int 0, .int 0, .int (-1), .ref (r 15), .ref (r 16), .int 0, .int 0, .int 0, .ref (r 20), .ref (r 21), .ref (r 22), .ref (r 23), .ref (r 24), .ref (r 25), .int 0, .ref (r 27), .int 0, .ref (r 29), .ref (r 30), .ref (r 31), .ref (r 32), .ref (r 33), .ref (r 34), .int 0, .int 0, .int 0, .ref (r 38), .ref (r 39), .ref (r 40), .ref (r 41), .ref (r 42), .ref (r 43)])), (r 3, .inl (G.2 1, 900, .inl (upd (upd (upd (fun _ => 0) 0 ((p0 >>> (24 &&& 31)) &&& 255)) 1 ((p0 >>> (16 &&& 31)) &&& 255)) 2 ((p0 >>> (8 &&& 31)) &&& 255))))]) C0 h 1 2 rfl (by decide) (by decide) (by decide) rfl dX12_feed_104 (fun H locs h => ?_)
  refine lv_aload_n hx hb dX12_feed_105 rfl (lv_at hl 2 rfl) ?_
  refine lv_dup hx hb dX12_feed_106 rfl ?_
  refine g_X12_taped C0 h 0 q_1443 rfl rfl dX12_feed_107 ?_
  refine lv_iconst (v := 1) hx hb dX12_feed_110 (by decide) ?_
  refine lv_iadd hx hb dX12_feed_111 ?_
  refine lv_topi (fun k_20 ek_20 => ?_)
  obtain rfl : k_20 = 3 := ek_20.trans (by decide)
  refine p_X12_taped (ws' := [(o, .inr (12, [.int 0, .ref (r 1), .ref (r 2), .ref (r 3), .ref (r 4), .int 3, .int 0, .int 0, .int 0, .int 0, .int 0, .int 0, .int 0, .int 0, .int (-1), .ref (r 15), .ref (r 16), .int 0, .int 0, .int 0, .ref (r 20), .ref (r 21), .ref (r 22), .ref (r 23), .ref (r 24), .ref (r 25), .int 0, .ref (r 27), .int 0, .ref (r 29), .ref (r 30), .ref (r 31), .ref (r 32), .ref (r 33), .ref (r 34), .int 0, .int 0, .int 0, .ref (r 38), .ref (r 39), .ref (r 40), .ref (r 41), .ref (r 42), .ref (r 43)])), (r 3, .inl (G.2 1, 900, .inl (upd (upd (upd (fun _ => 0) 0 ((p0 >>> (24 &&& 31)) &&& 255)) 1 ((p0 >>> (16 &&& 31)) &&& 255)) 2 ((p0 >>> (8 &&& 31)) &&& 255))))]) C0 h 0 q_1443 rfl (Nat.le_of_ble_eq_true rfl) rfl rfl rfl dX12_feed_112 (fun H locs h => ?_)
  refine lv_iinc (v := 3) (lv' := [(6, .int 3), (7, .int p0), (0, .ref o), (1, .int p0), (2, .int p1), (3, .int p2), (4, .int p3), (5, .int p4)]) hx hb dX12_feed_115 hl (k := 1) rfl (by decide) (by decide) rfl (fun ls hl => ?_)
  refine lv_goto (tgt := 24) hx hb dX12_feed_118 (by decide) ?_
  refine lv_iload hx hb dX12_feed_24 (lv_at hl 0 rfl) ?_
  refine lv_bipush (v := 20) hx hb dX12_feed_26 (by decide) ?_
  refine lv_icmp_ge (tgt := 121) hx hb dX12_feed_28 (by decide) (fun c_21 => absurd c_21 (by decide)) (fun c_21 => ?_)
  refine lv_iload hx hb dX12_feed_31 (lv_at hl 0 rfl) ?_
  refine lv_iconst (v := 4) hx hb dX12_feed_33 (by decide) ?_
  refine lv_icmp_ge (tgt := 41) hx hb dX12_feed_34 (by decide) (fun c_22 => absurd c_22 (by decide)) (fun c_22 => ?_)
  refine lv_iload_n hx hb dX12_feed_37 rfl (lv_at hl 3 rfl) ?_
  refine lv_goto (tgt := 77) hx hb dX12_feed_38 (by decide) ?_
  refine lv_istore (lv' := [(7, .int p0), (6, .int 3), (0, .ref o), (1, .int p0), (2, .int p1), (3, .int p2), (4, .int p3), (5, .int p4)]) hx hb dX12_feed_77 hl (by decide) rfl (fun ls hl => ?_)
  refine lv_aload_n hx hb dX12_feed_79 rfl (lv_at hl 2 rfl) ?_
  refine g_X12_tape C0 h 0 q_1441 rfl rfl dX12_feed_80 ?_
  refine lv_aload_n hx hb dX12_feed_83 rfl (lv_at hl 2 rfl) ?_
  refine g_X12_taped C0 h 0 q_1443 rfl rfl dX12_feed_84 ?_
  refine lv_iload hx hb dX12_feed_87 (lv_at hl 0 rfl) ?_
  refine lv_bipush (v := 24) hx hb dX12_feed_89 (by decide) ?_
  refine lv_bipush (v := 8) hx hb dX12_feed_91 (by decide) ?_
  refine lv_iload hx hb dX12_feed_93 (lv_at hl 1 rfl) ?_
  refine lv_iconst (v := 4) hx hb dX12_feed_95 (by decide) ?_
  refine lv_irem hx hb dX12_feed_96 (by decide) ?_
  refine lv_topi (fun k_23 ek_23 => ?_)
  obtain rfl : k_23 = 3 := ek_23.trans (by decide)
  refine lv_imul hx hb dX12_feed_97 ?_
  refine lv_topi (fun k_24 ek_24 => ?_)
  obtain rfl : k_24 = 24 := ek_24.trans (by decide)
  refine lv_isub hx hb dX12_feed_98 ?_
  refine lv_topi (fun k_25 ek_25 => ?_)
  obtain rfl : k_25 = 0 := ek_25.trans (by decide)
  refine lv_ishr hx hb dX12_feed_99 ?_
  refine lv_sipush (v := 255) hx hb dX12_feed_100 (by decide) ?_
  refine lv_iand hx hb dX12_feed_103 ?_
  refine m_iast (ws' := [(o, .inr (12, [.int 0, .ref (r 1), .ref (r 2), .ref (r 3), .ref (r 4), .int 3, .int 0, .int 0, .int 0, .int 0, .int 0, .int 0, .int 0, .int 0, .int (-1), .ref (r 15), .ref (r 16), .int 0, .int 0, .int 0, .ref (r 20), .ref (r 21), .ref (r 22), .ref (r 23), .ref (r 24), .ref (r 25), .int 0, .ref (r 27), .int 0, .ref (r 29), .ref (r 30), .ref (r 31), .ref (r 32), .ref (r 33), .ref (r 34), .int 0, .int 0, .int 0, .ref (r 38), .ref (r 39), .ref (r 40), .ref (r 41), .ref (r 42), .ref (r 43)])), (r 3, .inl (G.2 1, 900, .inl (upd (upd (upd (upd (fun _ => 0) 0 ((p0 >>> (24 &&& 31)) &&& 255)) 1 ((p0 >>> (16 &&& 31)) &&& 255)) 2 ((p0 >>> (8 &&& 31)) &&& 255)) 3 ((p0 >>> (0 &&& 31)) &&& 255))))]) C0 h 1 3 rfl (by decide) (by decide) (by decide) rfl dX12_feed_104 (fun H locs h => ?_)
  refine lv_aload_n hx hb dX12_feed_105 rfl (lv_at hl 2 rfl) ?_
  refine lv_dup hx hb dX12_feed_106 rfl ?_
  refine g_X12_taped C0 h 0 q_1443 rfl rfl dX12_feed_107 ?_
  refine lv_iconst (v := 1) hx hb dX12_feed_110 (by decide) ?_
  refine lv_iadd hx hb dX12_feed_111 ?_
  refine lv_topi (fun k_26 ek_26 => ?_)
  obtain rfl : k_26 = 4 := ek_26.trans (by decide)
  refine p_X12_taped (ws' := [(o, .inr (12, [.int 0, .ref (r 1), .ref (r 2), .ref (r 3), .ref (r 4), .int 4, .int 0, .int 0, .int 0, .int 0, .int 0, .int 0, .int 0, .int 0, .int (-1), .ref (r 15), .ref (r 16), .int 0, .int 0, .int 0, .ref (r 20), .ref (r 21), .ref (r 22), .ref (r 23), .ref (r 24), .ref (r 25), .int 0, .ref (r 27), .int 0, .ref (r 29), .ref (r 30), .ref (r 31), .ref (r 32), .ref (r 33), .ref (r 34), .int 0, .int 0, .int 0, .ref (r 38), .ref (r 39), .ref (r 40), .ref (r 41), .ref (r 42), .ref (r 43)])), (r 3, .inl (G.2 1, 900, .inl (upd (upd (upd (upd (fun _ => 0) 0 ((p0 >>> (24 &&& 31)) &&& 255)) 1 ((p0 >>> (16 &&& 31)) &&& 255)) 2 ((p0 >>> (8 &&& 31)) &&& 255)) 3 ((p0 >>> (0 &&& 31)) &&& 255))))]) C0 h 0 q_1443 rfl (Nat.le_of_ble_eq_true rfl) rfl rfl rfl dX12_feed_112 (fun H locs h => ?_)
  refine lv_iinc (v := 4) (lv' := [(6, .int 4), (7, .int p0), (0, .ref o), (1, .int p0), (2, .int p1), (3, .int p2), (4, .int p3), (5, .int p4)]) hx hb dX12_feed_115 hl (k := 1) rfl (by decide) (by decide) rfl (fun ls hl => ?_)
  refine lv_goto (tgt := 24) hx hb dX12_feed_118 (by decide) ?_
  refine lv_iload hx hb dX12_feed_24 (lv_at hl 0 rfl) ?_
  refine lv_bipush (v := 20) hx hb dX12_feed_26 (by decide) ?_
  refine lv_icmp_ge (tgt := 121) hx hb dX12_feed_28 (by decide) (fun c_27 => absurd c_27 (by decide)) (fun c_27 => ?_)
  refine lv_iload hx hb dX12_feed_31 (lv_at hl 0 rfl) ?_
  refine lv_iconst (v := 4) hx hb dX12_feed_33 (by decide) ?_
  refine lv_icmp_ge (tgt := 41) hx hb dX12_feed_34 (by decide) (fun c_28 => ?_) (fun c_28 => absurd c_28 (by decide))
  refine lv_iload hx hb dX12_feed_41 (lv_at hl 0 rfl) ?_
  refine lv_bipush (v := 8) hx hb dX12_feed_43 (by decide) ?_
  refine lv_icmp_ge (tgt := 52) hx hb dX12_feed_45 (by decide) (fun c_29 => absurd c_29 (by decide)) (fun c_29 => ?_)
  refine lv_iload_n hx hb dX12_feed_48 rfl (lv_at hl 4 rfl) ?_
  refine lv_goto (tgt := 77) hx hb dX12_feed_49 (by decide) ?_
  refine lv_istore (lv' := [(7, .int p1), (6, .int 4), (0, .ref o), (1, .int p0), (2, .int p1), (3, .int p2), (4, .int p3), (5, .int p4)]) hx hb dX12_feed_77 hl (by decide) rfl (fun ls hl => ?_)
  refine lv_aload_n hx hb dX12_feed_79 rfl (lv_at hl 2 rfl) ?_
  refine g_X12_tape C0 h 0 q_1441 rfl rfl dX12_feed_80 ?_
  refine lv_aload_n hx hb dX12_feed_83 rfl (lv_at hl 2 rfl) ?_
  refine g_X12_taped C0 h 0 q_1443 rfl rfl dX12_feed_84 ?_
  refine lv_iload hx hb dX12_feed_87 (lv_at hl 0 rfl) ?_
  refine lv_bipush (v := 24) hx hb dX12_feed_89 (by decide) ?_
  refine lv_bipush (v := 8) hx hb dX12_feed_91 (by decide) ?_
  refine lv_iload hx hb dX12_feed_93 (lv_at hl 1 rfl) ?_
  refine lv_iconst (v := 4) hx hb dX12_feed_95 (by decide) ?_
  refine lv_irem hx hb dX12_feed_96 (by decide) ?_
  refine lv_topi (fun k_30 ek_30 => ?_)
  obtain rfl : k_30 = 0 := ek_30.trans (by decide)
  refine lv_imul hx hb dX12_feed_97 ?_
  refine lv_topi (fun k_31 ek_31 => ?_)
  obtain rfl : k_31 = 0 := ek_31.trans (by decide)
  refine lv_isub hx hb dX12_feed_98 ?_
  refine lv_topi (fun k_32 ek_32 => ?_)
  obtain rfl : k_32 = 24 := ek_32.trans (by decide)
  refine lv_ishr hx hb dX12_feed_99 ?_
  refine lv_sipush (v := 255) hx hb dX12_feed_100 (by decide) ?_
  refine lv_iand hx hb dX12_feed_103 ?_
  refine m_iast (ws' := [(o, .inr (12, [.int 0, .ref (r 1), .ref (r 2), .ref (r 3), .ref (r 4), .int 4, .int 0, .int 0, .int 0, .int 0, .int 0, .int 0, .int 0, .int 0, .int (-1), .ref (r 15), .ref (r 16), .int 0, .int 0, .int 0, .ref (r 20), .ref (r 21), .ref (r 22), .ref (r 23), .ref (r 24), .ref (r 25), .int 0, .ref (r 27), .int 0, .ref (r 29), .ref (r 30), .ref (r 31), .ref (r 32), .ref (r 33), .ref (r 34), .int 0, .int 0, .int 0, .ref (r 38), .ref (r 39), .ref (r 40), .ref (r 41), .ref (r 42), .ref (r 43)])), (r 3, .inl (G.2 1, 900, .inl (upd (upd (upd (upd (upd (fun _ => 0) 0 ((p0 >>> (24 &&& 31)) &&& 255)) 1 ((p0 >>> (16 &&& 31)) &&& 255)) 2 ((p0 >>> (8 &&& 31)) &&& 255)) 3 ((p0 >>> (0 &&& 31)) &&& 255)) 4 ((p1 >>> (24 &&& 31)) &&& 255))))]) C0 h 1 4 rfl (by decide) (by decide) (by decide) rfl dX12_feed_104 (fun H locs h => ?_)
  refine lv_aload_n hx hb dX12_feed_105 rfl (lv_at hl 2 rfl) ?_
  refine lv_dup hx hb dX12_feed_106 rfl ?_
  refine g_X12_taped C0 h 0 q_1443 rfl rfl dX12_feed_107 ?_
  refine lv_iconst (v := 1) hx hb dX12_feed_110 (by decide) ?_
  refine lv_iadd hx hb dX12_feed_111 ?_
  refine lv_topi (fun k_33 ek_33 => ?_)
  obtain rfl : k_33 = 5 := ek_33.trans (by decide)
  refine p_X12_taped (ws' := [(o, .inr (12, [.int 0, .ref (r 1), .ref (r 2), .ref (r 3), .ref (r 4), .int 5, .int 0, .int 0, .int 0, .int 0, .int 0, .int 0, .int 0, .int 0, .int (-1), .ref (r 15), .ref (r 16), .int 0, .int 0, .int 0, .ref (r 20), .ref (r 21), .ref (r 22), .ref (r 23), .ref (r 24), .ref (r 25), .int 0, .ref (r 27), .int 0, .ref (r 29), .ref (r 30), .ref (r 31), .ref (r 32), .ref (r 33), .ref (r 34), .int 0, .int 0, .int 0, .ref (r 38), .ref (r 39), .ref (r 40), .ref (r 41), .ref (r 42), .ref (r 43)])), (r 3, .inl (G.2 1, 900, .inl (upd (upd (upd (upd (upd (fun _ => 0) 0 ((p0 >>> (24 &&& 31)) &&& 255)) 1 ((p0 >>> (16 &&& 31)) &&& 255)) 2 ((p0 >>> (8 &&& 31)) &&& 255)) 3 ((p0 >>> (0 &&& 31)) &&& 255)) 4 ((p1 >>> (24 &&& 31)) &&& 255))))]) C0 h 0 q_1443 rfl (Nat.le_of_ble_eq_true rfl) rfl rfl rfl dX12_feed_112 (fun H locs h => ?_)
  refine lv_iinc (v := 5) (lv' := [(6, .int 5), (7, .int p1), (0, .ref o), (1, .int p0), (2, .int p1), (3, .int p2), (4, .int p3), (5, .int p4)]) hx hb dX12_feed_115 hl (k := 1) rfl (by decide) (by decide) rfl (fun ls hl => ?_)
  refine lv_goto (tgt := 24) hx hb dX12_feed_118 (by decide) ?_
  refine lv_iload hx hb dX12_feed_24 (lv_at hl 0 rfl) ?_
  refine lv_bipush (v := 20) hx hb dX12_feed_26 (by decide) ?_
  refine lv_icmp_ge (tgt := 121) hx hb dX12_feed_28 (by decide) (fun c_34 => absurd c_34 (by decide)) (fun c_34 => ?_)
  refine lv_iload hx hb dX12_feed_31 (lv_at hl 0 rfl) ?_
  refine lv_iconst (v := 4) hx hb dX12_feed_33 (by decide) ?_
  refine lv_icmp_ge (tgt := 41) hx hb dX12_feed_34 (by decide) (fun c_35 => ?_) (fun c_35 => absurd c_35 (by decide))
  refine lv_iload hx hb dX12_feed_41 (lv_at hl 0 rfl) ?_
  refine lv_bipush (v := 8) hx hb dX12_feed_43 (by decide) ?_
  refine lv_icmp_ge (tgt := 52) hx hb dX12_feed_45 (by decide) (fun c_36 => absurd c_36 (by decide)) (fun c_36 => ?_)
  refine lv_iload_n hx hb dX12_feed_48 rfl (lv_at hl 4 rfl) ?_
  refine lv_goto (tgt := 77) hx hb dX12_feed_49 (by decide) ?_
  refine lv_istore (lv' := [(7, .int p1), (6, .int 5), (0, .ref o), (1, .int p0), (2, .int p1), (3, .int p2), (4, .int p3), (5, .int p4)]) hx hb dX12_feed_77 hl (by decide) rfl (fun ls hl => ?_)
  refine lv_aload_n hx hb dX12_feed_79 rfl (lv_at hl 2 rfl) ?_
  refine g_X12_tape C0 h 0 q_1441 rfl rfl dX12_feed_80 ?_
  refine lv_aload_n hx hb dX12_feed_83 rfl (lv_at hl 2 rfl) ?_
  refine g_X12_taped C0 h 0 q_1443 rfl rfl dX12_feed_84 ?_
  refine lv_iload hx hb dX12_feed_87 (lv_at hl 0 rfl) ?_
  refine lv_bipush (v := 24) hx hb dX12_feed_89 (by decide) ?_
  refine lv_bipush (v := 8) hx hb dX12_feed_91 (by decide) ?_
  refine lv_iload hx hb dX12_feed_93 (lv_at hl 1 rfl) ?_
  refine lv_iconst (v := 4) hx hb dX12_feed_95 (by decide) ?_
  refine lv_irem hx hb dX12_feed_96 (by decide) ?_
  refine lv_topi (fun k_37 ek_37 => ?_)
  obtain rfl : k_37 = 1 := ek_37.trans (by decide)
  refine lv_imul hx hb dX12_feed_97 ?_
  refine lv_topi (fun k_38 ek_38 => ?_)
  obtain rfl : k_38 = 8 := ek_38.trans (by decide)
  refine lv_isub hx hb dX12_feed_98 ?_
  refine lv_topi (fun k_39 ek_39 => ?_)
  obtain rfl : k_39 = 16 := ek_39.trans (by decide)
  refine lv_ishr hx hb dX12_feed_99 ?_
  refine lv_sipush (v := 255) hx hb dX12_feed_100 (by decide) ?_
  refine lv_iand hx hb dX12_feed_103 ?_
  refine m_iast (ws' := [(o, .inr (12, [.int 0, .ref (r 1), .ref (r 2), .ref (r 3), .ref (r 4), .int 5, .int 0, .int 0, .int 0, .int 0, .int 0, .int 0, .int 0, .int 0, .int (-1), .ref (r 15), .ref (r 16), .int 0, .int 0, .int 0, .ref (r 20), .ref (r 21), .ref (r 22), .ref (r 23), .ref (r 24), .ref (r 25), .int 0, .ref (r 27), .int 0, .ref (r 29), .ref (r 30), .ref (r 31), .ref (r 32), .ref (r 33), .ref (r 34), .int 0, .int 0, .int 0, .ref (r 38), .ref (r 39), .ref (r 40), .ref (r 41), .ref (r 42), .ref (r 43)])), (r 3, .inl (G.2 1, 900, .inl (upd (upd (upd (upd (upd (upd (fun _ => 0) 0 ((p0 >>> (24 &&& 31)) &&& 255)) 1 ((p0 >>> (16 &&& 31)) &&& 255)) 2 ((p0 >>> (8 &&& 31)) &&& 255)) 3 ((p0 >>> (0 &&& 31)) &&& 255)) 4 ((p1 >>> (24 &&& 31)) &&& 255)) 5 ((p1 >>> (16 &&& 31)) &&& 255))))]) C0 h 1 5 rfl (by decide) (by decide) (by decide) rfl dX12_feed_104 (fun H locs h => ?_)
  refine lv_aload_n hx hb dX12_feed_105 rfl (lv_at hl 2 rfl) ?_
  refine lv_dup hx hb dX12_feed_106 rfl ?_
  refine g_X12_taped C0 h 0 q_1443 rfl rfl dX12_feed_107 ?_
  refine lv_iconst (v := 1) hx hb dX12_feed_110 (by decide) ?_
  refine lv_iadd hx hb dX12_feed_111 ?_
  refine lv_topi (fun k_40 ek_40 => ?_)
  obtain rfl : k_40 = 6 := ek_40.trans (by decide)
  refine p_X12_taped (ws' := [(o, .inr (12, [.int 0, .ref (r 1), .ref (r 2), .ref (r 3), .ref (r 4), .int 6, .int 0, .int 0, .int 0, .int 0, .int 0, .int 0, .int 0, .int 0, .int (-1), .ref (r 15), .ref (r 16), .int 0, .int 0, .int 0, .ref (r 20), .ref (r 21), .ref (r 22), .ref (r 23), .ref (r 24), .ref (r 25), .int 0, .ref (r 27), .int 0, .ref (r 29), .ref (r 30), .ref (r 31), .ref (r 32), .ref (r 33), .ref (r 34), .int 0, .int 0, .int 0, .ref (r 38), .ref (r 39), .ref (r 40), .ref (r 41), .ref (r 42), .ref (r 43)])), (r 3, .inl (G.2 1, 900, .inl (upd (upd (upd (upd (upd (upd (fun _ => 0) 0 ((p0 >>> (24 &&& 31)) &&& 255)) 1 ((p0 >>> (16 &&& 31)) &&& 255)) 2 ((p0 >>> (8 &&& 31)) &&& 255)) 3 ((p0 >>> (0 &&& 31)) &&& 255)) 4 ((p1 >>> (24 &&& 31)) &&& 255)) 5 ((p1 >>> (16 &&& 31)) &&& 255))))]) C0 h 0 q_1443 rfl (Nat.le_of_ble_eq_true rfl) rfl rfl rfl dX12_feed_112 (fun H locs h => ?_)
  refine lv_iinc (v := 6) (lv' := [(6, .int 6), (7, .int p1), (0, .ref o), (1, .int p0), (2, .int p1), (3, .int p2), (4, .int p3), (5, .int p4)]) hx hb dX12_feed_115 hl (k := 1) rfl (by decide) (by decide) rfl (fun ls hl => ?_)
  refine lv_goto (tgt := 24) hx hb dX12_feed_118 (by decide) ?_
  refine lv_iload hx hb dX12_feed_24 (lv_at hl 0 rfl) ?_
  refine lv_bipush (v := 20) hx hb dX12_feed_26 (by decide) ?_
  refine lv_icmp_ge (tgt := 121) hx hb dX12_feed_28 (by decide) (fun c_41 => absurd c_41 (by decide)) (fun c_41 => ?_)
  refine lv_iload hx hb dX12_feed_31 (lv_at hl 0 rfl) ?_
  refine lv_iconst (v := 4) hx hb dX12_feed_33 (by decide) ?_
  refine lv_icmp_ge (tgt := 41) hx hb dX12_feed_34 (by decide) (fun c_42 => ?_) (fun c_42 => absurd c_42 (by decide))
  refine lv_iload hx hb dX12_feed_41 (lv_at hl 0 rfl) ?_
  refine lv_bipush (v := 8) hx hb dX12_feed_43 (by decide) ?_
  refine lv_icmp_ge (tgt := 52) hx hb dX12_feed_45 (by decide) (fun c_43 => absurd c_43 (by decide)) (fun c_43 => ?_)
  refine lv_iload_n hx hb dX12_feed_48 rfl (lv_at hl 4 rfl) ?_
  refine lv_goto (tgt := 77) hx hb dX12_feed_49 (by decide) ?_
  refine lv_istore (lv' := [(7, .int p1), (6, .int 6), (0, .ref o), (1, .int p0), (2, .int p1), (3, .int p2), (4, .int p3), (5, .int p4)]) hx hb dX12_feed_77 hl (by decide) rfl (fun ls hl => ?_)
  refine lv_aload_n hx hb dX12_feed_79 rfl (lv_at hl 2 rfl) ?_
  refine g_X12_tape C0 h 0 q_1441 rfl rfl dX12_feed_80 ?_
  refine lv_aload_n hx hb dX12_feed_83 rfl (lv_at hl 2 rfl) ?_
  refine g_X12_taped C0 h 0 q_1443 rfl rfl dX12_feed_84 ?_
  refine lv_iload hx hb dX12_feed_87 (lv_at hl 0 rfl) ?_
  refine lv_bipush (v := 24) hx hb dX12_feed_89 (by decide) ?_
  refine lv_bipush (v := 8) hx hb dX12_feed_91 (by decide) ?_
  refine lv_iload hx hb dX12_feed_93 (lv_at hl 1 rfl) ?_
  refine lv_iconst (v := 4) hx hb dX12_feed_95 (by decide) ?_
  refine lv_irem hx hb dX12_feed_96 (by decide) ?_
  refine lv_topi (fun k_44 ek_44 => ?_)
  obtain rfl : k_44 = 2 := ek_44.trans (by decide)
  refine lv_imul hx hb dX12_feed_97 ?_
  refine lv_topi (fun k_45 ek_45 => ?_)
  obtain rfl : k_45 = 16 := ek_45.trans (by decide)
  refine lv_isub hx hb dX12_feed_98 ?_
  refine lv_topi (fun k_46 ek_46 => ?_)
  obtain rfl : k_46 = 8 := ek_46.trans (by decide)
  refine lv_ishr hx hb dX12_feed_99 ?_
  refine lv_sipush (v := 255) hx hb dX12_feed_100 (by decide) ?_
  refine lv_iand hx hb dX12_feed_103 ?_
  refine m_iast (ws' := [(o, .inr (12, [.int 0, .ref (r 1), .ref (r 2), .ref (r 3), .ref (r 4), .int 6, .int 0, .int 0, .int 0, .int 0, .int 0, .int 0, .int 0, .int 0, .int (-1), .ref (r 15), .ref (r 16), .int 0, .int 0, .int 0, .ref (r 20), .ref (r 21), .ref (r 22), .ref (r 23), .ref (r 24), .ref (r 25), .int 0, .ref (r 27), .int 0, .ref (r 29), .ref (r 30), .ref (r 31), .ref (r 32), .ref (r 33), .ref (r 34), .int 0, .int 0, .int 0, .ref (r 38), .ref (r 39), .ref (r 40), .ref (r 41), .ref (r 42), .ref (r 43)])), (r 3, .inl (G.2 1, 900, .inl (upd (upd (upd (upd (upd (upd (upd (fun _ => 0) 0 ((p0 >>> (24 &&& 31)) &&& 255)) 1 ((p0 >>> (16 &&& 31)) &&& 255)) 2 ((p0 >>> (8 &&& 31)) &&& 255)) 3 ((p0 >>> (0 &&& 31)) &&& 255)) 4 ((p1 >>> (24 &&& 31)) &&& 255)) 5 ((p1 >>> (16 &&& 31)) &&& 255)) 6 ((p1 >>> (8 &&& 31)) &&& 255))))]) C0 h 1 6 rfl (by decide) (by decide) (by decide) rfl dX12_feed_104 (fun H locs h => ?_)
  refine lv_aload_n hx hb dX12_feed_105 rfl (lv_at hl 2 rfl) ?_
  refine lv_dup hx hb dX12_feed_106 rfl ?_
  refine g_X12_taped C0 h 0 q_1443 rfl rfl dX12_feed_107 ?_
  refine lv_iconst (v := 1) hx hb dX12_feed_110 (by decide) ?_
  refine lv_iadd hx hb dX12_feed_111 ?_
  refine lv_topi (fun k_47 ek_47 => ?_)
  obtain rfl : k_47 = 7 := ek_47.trans (by decide)
  refine p_X12_taped (ws' := [(o, .inr (12, [.int 0, .ref (r 1), .ref (r 2), .ref (r 3), .ref (r 4), .int 7, .int 0, .int 0, .int 0, .int 0, .int 0, .int 0, .int 0, .int 0, .int (-1), .ref (r 15), .ref (r 16), .int 0, .int 0, .int 0, .ref (r 20), .ref (r 21), .ref (r 22), .ref (r 23), .ref (r 24), .ref (r 25), .int 0, .ref (r 27), .int 0, .ref (r 29), .ref (r 30), .ref (r 31), .ref (r 32), .ref (r 33), .ref (r 34), .int 0, .int 0, .int 0, .ref (r 38), .ref (r 39), .ref (r 40), .ref (r 41), .ref (r 42), .ref (r 43)])), (r 3, .inl (G.2 1, 900, .inl (upd (upd (upd (upd (upd (upd (upd (fun _ => 0) 0 ((p0 >>> (24 &&& 31)) &&& 255)) 1 ((p0 >>> (16 &&& 31)) &&& 255)) 2 ((p0 >>> (8 &&& 31)) &&& 255)) 3 ((p0 >>> (0 &&& 31)) &&& 255)) 4 ((p1 >>> (24 &&& 31)) &&& 255)) 5 ((p1 >>> (16 &&& 31)) &&& 255)) 6 ((p1 >>> (8 &&& 31)) &&& 255))))]) C0 h 0 q_1443 rfl (Nat.le_of_ble_eq_true rfl) rfl rfl rfl dX12_feed_112 (fun H locs h => ?_)
  refine lv_iinc (v := 7) (lv' := [(6, .int 7), (7, .int p1), (0, .ref o), (1, .int p0), (2, .int p1), (3, .int p2), (4, .int p3), (5, .int p4)]) hx hb dX12_feed_115 hl (k := 1) rfl (by decide) (by decide) rfl (fun ls hl => ?_)
  refine lv_goto (tgt := 24) hx hb dX12_feed_118 (by decide) ?_
  refine lv_iload hx hb dX12_feed_24 (lv_at hl 0 rfl) ?_
  refine lv_bipush (v := 20) hx hb dX12_feed_26 (by decide) ?_
  refine lv_icmp_ge (tgt := 121) hx hb dX12_feed_28 (by decide) (fun c_48 => absurd c_48 (by decide)) (fun c_48 => ?_)
  refine lv_iload hx hb dX12_feed_31 (lv_at hl 0 rfl) ?_
  refine lv_iconst (v := 4) hx hb dX12_feed_33 (by decide) ?_
  refine lv_icmp_ge (tgt := 41) hx hb dX12_feed_34 (by decide) (fun c_49 => ?_) (fun c_49 => absurd c_49 (by decide))
  refine lv_iload hx hb dX12_feed_41 (lv_at hl 0 rfl) ?_
  refine lv_bipush (v := 8) hx hb dX12_feed_43 (by decide) ?_
  refine lv_icmp_ge (tgt := 52) hx hb dX12_feed_45 (by decide) (fun c_50 => absurd c_50 (by decide)) (fun c_50 => ?_)
  refine lv_iload_n hx hb dX12_feed_48 rfl (lv_at hl 4 rfl) ?_
  refine lv_goto (tgt := 77) hx hb dX12_feed_49 (by decide) ?_
  refine lv_istore (lv' := [(7, .int p1), (6, .int 7), (0, .ref o), (1, .int p0), (2, .int p1), (3, .int p2), (4, .int p3), (5, .int p4)]) hx hb dX12_feed_77 hl (by decide) rfl (fun ls hl => ?_)
  refine lv_aload_n hx hb dX12_feed_79 rfl (lv_at hl 2 rfl) ?_
  refine g_X12_tape C0 h 0 q_1441 rfl rfl dX12_feed_80 ?_
  refine lv_aload_n hx hb dX12_feed_83 rfl (lv_at hl 2 rfl) ?_
  refine g_X12_taped C0 h 0 q_1443 rfl rfl dX12_feed_84 ?_
  refine lv_iload hx hb dX12_feed_87 (lv_at hl 0 rfl) ?_
  refine lv_bipush (v := 24) hx hb dX12_feed_89 (by decide) ?_
  refine lv_bipush (v := 8) hx hb dX12_feed_91 (by decide) ?_
  refine lv_iload hx hb dX12_feed_93 (lv_at hl 1 rfl) ?_
  refine lv_iconst (v := 4) hx hb dX12_feed_95 (by decide) ?_
  refine lv_irem hx hb dX12_feed_96 (by decide) ?_
  refine lv_topi (fun k_51 ek_51 => ?_)
  obtain rfl : k_51 = 3 := ek_51.trans (by decide)
  refine lv_imul hx hb dX12_feed_97 ?_
  refine lv_topi (fun k_52 ek_52 => ?_)
  obtain rfl : k_52 = 24 := ek_52.trans (by decide)
  refine lv_isub hx hb dX12_feed_98 ?_
  refine lv_topi (fun k_53 ek_53 => ?_)
  obtain rfl : k_53 = 0 := ek_53.trans (by decide)
  refine lv_ishr hx hb dX12_feed_99 ?_
  refine lv_sipush (v := 255) hx hb dX12_feed_100 (by decide) ?_
  refine lv_iand hx hb dX12_feed_103 ?_
  refine m_iast (ws' := [(o, .inr (12, [.int 0, .ref (r 1), .ref (r 2), .ref (r 3), .ref (r 4), .int 7, .int 0, .int 0, .int 0, .int 0, .int 0, .int 0, .int 0, .int 0, .int (-1), .ref (r 15), .ref (r 16), .int 0, .int 0, .int 0, .ref (r 20), .ref (r 21), .ref (r 22), .ref (r 23), .ref (r 24), .ref (r 25), .int 0, .ref (r 27), .int 0, .ref (r 29), .ref (r 30), .ref (r 31), .ref (r 32), .ref (r 33), .ref (r 34), .int 0, .int 0, .int 0, .ref (r 38), .ref (r 39), .ref (r 40), .ref (r 41), .ref (r 42), .ref (r 43)])), (r 3, .inl (G.2 1, 900, .inl (upd (upd (upd (upd (upd (upd (upd (upd (fun _ => 0) 0 ((p0 >>> (24 &&& 31)) &&& 255)) 1 ((p0 >>> (16 &&& 31)) &&& 255)) 2 ((p0 >>> (8 &&& 31)) &&& 255)) 3 ((p0 >>> (0 &&& 31)) &&& 255)) 4 ((p1 >>> (24 &&& 31)) &&& 255)) 5 ((p1 >>> (16 &&& 31)) &&& 255)) 6 ((p1 >>> (8 &&& 31)) &&& 255)) 7 ((p1 >>> (0 &&& 31)) &&& 255))))]) C0 h 1 7 rfl (by decide) (by decide) (by decide) rfl dX12_feed_104 (fun H locs h => ?_)
  refine lv_aload_n hx hb dX12_feed_105 rfl (lv_at hl 2 rfl) ?_
  refine lv_dup hx hb dX12_feed_106 rfl ?_
  refine g_X12_taped C0 h 0 q_1443 rfl rfl dX12_feed_107 ?_
  refine lv_iconst (v := 1) hx hb dX12_feed_110 (by decide) ?_
  refine lv_iadd hx hb dX12_feed_111 ?_
  refine lv_topi (fun k_54 ek_54 => ?_)
  obtain rfl : k_54 = 8 := ek_54.trans (by decide)
  refine p_X12_taped (ws' := [(o, .inr (12, [.int 0, .ref (r 1), .ref (r 2), .ref (r 3), .ref (r 4), .int 8, .int 0, .int 0, .int 0, .int 0, .int 0, .int 0, .int 0, .int 0, .int (-1), .ref (r 15), .ref (r 16), .int 0, .int 0, .int 0, .ref (r 20), .ref (r 21), .ref (r 22), .ref (r 23), .ref (r 24), .ref (r 25), .int 0, .ref (r 27), .int 0, .ref (r 29), .ref (r 30), .ref (r 31), .ref (r 32), .ref (r 33), .ref (r 34), .int 0, .int 0, .int 0, .ref (r 38), .ref (r 39), .ref (r 40), .ref (r 41), .ref (r 42), .ref (r 43)])), (r 3, .inl (G.2 1, 900, .inl (upd (upd (upd (upd (upd (upd (upd (upd (fun _ => 0) 0 ((p0 >>> (24 &&& 31)) &&& 255)) 1 ((p0 >>> (16 &&& 31)) &&& 255)) 2 ((p0 >>> (8 &&& 31)) &&& 255)) 3 ((p0 >>> (0 &&& 31)) &&& 255)) 4 ((p1 >>> (24 &&& 31)) &&& 255)) 5 ((p1 >>> (16 &&& 31)) &&& 255)) 6 ((p1 >>> (8 &&& 31)) &&& 255)) 7 ((p1 >>> (0 &&& 31)) &&& 255))))]) C0 h 0 q_1443 rfl (Nat.le_of_ble_eq_true rfl) rfl rfl rfl dX12_feed_112 (fun H locs h => ?_)
  refine lv_iinc (v := 8) (lv' := [(6, .int 8), (7, .int p1), (0, .ref o), (1, .int p0), (2, .int p1), (3, .int p2), (4, .int p3), (5, .int p4)]) hx hb dX12_feed_115 hl (k := 1) rfl (by decide) (by decide) rfl (fun ls hl => ?_)
  refine lv_goto (tgt := 24) hx hb dX12_feed_118 (by decide) ?_
  refine lv_iload hx hb dX12_feed_24 (lv_at hl 0 rfl) ?_
  refine lv_bipush (v := 20) hx hb dX12_feed_26 (by decide) ?_
  refine lv_icmp_ge (tgt := 121) hx hb dX12_feed_28 (by decide) (fun c_55 => absurd c_55 (by decide)) (fun c_55 => ?_)
  refine lv_iload hx hb dX12_feed_31 (lv_at hl 0 rfl) ?_
  refine lv_iconst (v := 4) hx hb dX12_feed_33 (by decide) ?_
  refine lv_icmp_ge (tgt := 41) hx hb dX12_feed_34 (by decide) (fun c_56 => ?_) (fun c_56 => absurd c_56 (by decide))
  refine lv_iload hx hb dX12_feed_41 (lv_at hl 0 rfl) ?_
  refine lv_bipush (v := 8) hx hb dX12_feed_43 (by decide) ?_
  refine lv_icmp_ge (tgt := 52) hx hb dX12_feed_45 (by decide) (fun c_57 => ?_) (fun c_57 => absurd c_57 (by decide))
  refine lv_iload hx hb dX12_feed_52 (lv_at hl 0 rfl) ?_
  refine lv_bipush (v := 12) hx hb dX12_feed_54 (by decide) ?_
  refine lv_icmp_ge (tgt := 63) hx hb dX12_feed_56 (by decide) (fun c_58 => absurd c_58 (by decide)) (fun c_58 => ?_)
  refine lv_iload_n hx hb dX12_feed_59 rfl (lv_at hl 5 rfl) ?_
  refine lv_goto (tgt := 77) hx hb dX12_feed_60 (by decide) ?_
  refine lv_istore (lv' := [(7, .int p2), (6, .int 8), (0, .ref o), (1, .int p0), (2, .int p1), (3, .int p2), (4, .int p3), (5, .int p4)]) hx hb dX12_feed_77 hl (by decide) rfl (fun ls hl => ?_)
  refine lv_aload_n hx hb dX12_feed_79 rfl (lv_at hl 2 rfl) ?_
  refine g_X12_tape C0 h 0 q_1441 rfl rfl dX12_feed_80 ?_
  refine lv_aload_n hx hb dX12_feed_83 rfl (lv_at hl 2 rfl) ?_
  refine g_X12_taped C0 h 0 q_1443 rfl rfl dX12_feed_84 ?_
  refine lv_iload hx hb dX12_feed_87 (lv_at hl 0 rfl) ?_
  refine lv_bipush (v := 24) hx hb dX12_feed_89 (by decide) ?_
  refine lv_bipush (v := 8) hx hb dX12_feed_91 (by decide) ?_
  refine lv_iload hx hb dX12_feed_93 (lv_at hl 1 rfl) ?_
  refine lv_iconst (v := 4) hx hb dX12_feed_95 (by decide) ?_
  refine lv_irem hx hb dX12_feed_96 (by decide) ?_
  refine lv_topi (fun k_59 ek_59 => ?_)
  obtain rfl : k_59 = 0 := ek_59.trans (by decide)
  refine lv_imul hx hb dX12_feed_97 ?_
  refine lv_topi (fun k_60 ek_60 => ?_)
  obtain rfl : k_60 = 0 := ek_60.trans (by decide)
  refine lv_isub hx hb dX12_feed_98 ?_
  refine lv_topi (fun k_61 ek_61 => ?_)
  obtain rfl : k_61 = 24 := ek_61.trans (by decide)
  refine lv_ishr hx hb dX12_feed_99 ?_
  refine lv_sipush (v := 255) hx hb dX12_feed_100 (by decide) ?_
  refine lv_iand hx hb dX12_feed_103 ?_
  refine m_iast (ws' := [(o, .inr (12, [.int 0, .ref (r 1), .ref (r 2), .ref (r 3), .ref (r 4), .int 8, .int 0, .int 0, .int 0, .int 0, .int 0, .int 0, .int 0, .int 0, .int (-1), .ref (r 15), .ref (r 16), .int 0, .int 0, .int 0, .ref (r 20), .ref (r 21), .ref (r 22), .ref (r 23), .ref (r 24), .ref (r 25), .int 0, .ref (r 27), .int 0, .ref (r 29), .ref (r 30), .ref (r 31), .ref (r 32), .ref (r 33), .ref (r 34), .int 0, .int 0, .int 0, .ref (r 38), .ref (r 39), .ref (r 40), .ref (r 41), .ref (r 42), .ref (r 43)])), (r 3, .inl (G.2 1, 900, .inl (upd (upd (upd (upd (upd (upd (upd (upd (upd (fun _ => 0) 0 ((p0 >>> (24 &&& 31)) &&& 255)) 1 ((p0 >>> (16 &&& 31)) &&& 255)) 2 ((p0 >>> (8 &&& 31)) &&& 255)) 3 ((p0 >>> (0 &&& 31)) &&& 255)) 4 ((p1 >>> (24 &&& 31)) &&& 255)) 5 ((p1 >>> (16 &&& 31)) &&& 255)) 6 ((p1 >>> (8 &&& 31)) &&& 255)) 7 ((p1 >>> (0 &&& 31)) &&& 255)) 8 ((p2 >>> (24 &&& 31)) &&& 255))))]) C0 h 1 8 rfl (by decide) (by decide) (by decide) rfl dX12_feed_104 (fun H locs h => ?_)
  refine lv_aload_n hx hb dX12_feed_105 rfl (lv_at hl 2 rfl) ?_
  refine lv_dup hx hb dX12_feed_106 rfl ?_
  refine g_X12_taped C0 h 0 q_1443 rfl rfl dX12_feed_107 ?_
  refine lv_iconst (v := 1) hx hb dX12_feed_110 (by decide) ?_
  refine lv_iadd hx hb dX12_feed_111 ?_
  refine lv_topi (fun k_62 ek_62 => ?_)
  obtain rfl : k_62 = 9 := ek_62.trans (by decide)
  refine p_X12_taped (ws' := [(o, .inr (12, [.int 0, .ref (r 1), .ref (r 2), .ref (r 3), .ref (r 4), .int 9, .int 0, .int 0, .int 0, .int 0, .int 0, .int 0, .int 0, .int 0, .int (-1), .ref (r 15), .ref (r 16), .int 0, .int 0, .int 0, .ref (r 20), .ref (r 21), .ref (r 22), .ref (r 23), .ref (r 24), .ref (r 25), .int 0, .ref (r 27), .int 0, .ref (r 29), .ref (r 30), .ref (r 31), .ref (r 32), .ref (r 33), .ref (r 34), .int 0, .int 0, .int 0, .ref (r 38), .ref (r 39), .ref (r 40), .ref (r 41), .ref (r 42), .ref (r 43)])), (r 3, .inl (G.2 1, 900, .inl (upd (upd (upd (upd (upd (upd (upd (upd (upd (fun _ => 0) 0 ((p0 >>> (24 &&& 31)) &&& 255)) 1 ((p0 >>> (16 &&& 31)) &&& 255)) 2 ((p0 >>> (8 &&& 31)) &&& 255)) 3 ((p0 >>> (0 &&& 31)) &&& 255)) 4 ((p1 >>> (24 &&& 31)) &&& 255)) 5 ((p1 >>> (16 &&& 31)) &&& 255)) 6 ((p1 >>> (8 &&& 31)) &&& 255)) 7 ((p1 >>> (0 &&& 31)) &&& 255)) 8 ((p2 >>> (24 &&& 31)) &&& 255))))]) C0 h 0 q_1443 rfl (Nat.le_of_ble_eq_true rfl) rfl rfl rfl dX12_feed_112 (fun H locs h => ?_)
  refine lv_iinc (v := 9) (lv' := [(6, .int 9), (7, .int p2), (0, .ref o), (1, .int p0), (2, .int p1), (3, .int p2), (4, .int p3), (5, .int p4)]) hx hb dX12_feed_115 hl (k := 1) rfl (by decide) (by decide) rfl (fun ls hl => ?_)
  refine lv_goto (tgt := 24) hx hb dX12_feed_118 (by decide) ?_
  refine lv_iload hx hb dX12_feed_24 (lv_at hl 0 rfl) ?_
  refine lv_bipush (v := 20) hx hb dX12_feed_26 (by decide) ?_
  refine lv_icmp_ge (tgt := 121) hx hb dX12_feed_28 (by decide) (fun c_63 => absurd c_63 (by decide)) (fun c_63 => ?_)
  refine lv_iload hx hb dX12_feed_31 (lv_at hl 0 rfl) ?_
  refine lv_iconst (v := 4) hx hb dX12_feed_33 (by decide) ?_
  refine lv_icmp_ge (tgt := 41) hx hb dX12_feed_34 (by decide) (fun c_64 => ?_) (fun c_64 => absurd c_64 (by decide))
  refine lv_iload hx hb dX12_feed_41 (lv_at hl 0 rfl) ?_
  refine lv_bipush (v := 8) hx hb dX12_feed_43 (by decide) ?_
  refine lv_icmp_ge (tgt := 52) hx hb dX12_feed_45 (by decide) (fun c_65 => ?_) (fun c_65 => absurd c_65 (by decide))
  refine lv_iload hx hb dX12_feed_52 (lv_at hl 0 rfl) ?_
  refine lv_bipush (v := 12) hx hb dX12_feed_54 (by decide) ?_
  refine lv_icmp_ge (tgt := 63) hx hb dX12_feed_56 (by decide) (fun c_66 => absurd c_66 (by decide)) (fun c_66 => ?_)
  refine lv_iload_n hx hb dX12_feed_59 rfl (lv_at hl 5 rfl) ?_
  refine lv_goto (tgt := 77) hx hb dX12_feed_60 (by decide) ?_
  refine lv_istore (lv' := [(7, .int p2), (6, .int 9), (0, .ref o), (1, .int p0), (2, .int p1), (3, .int p2), (4, .int p3), (5, .int p4)]) hx hb dX12_feed_77 hl (by decide) rfl (fun ls hl => ?_)
  refine lv_aload_n hx hb dX12_feed_79 rfl (lv_at hl 2 rfl) ?_
  refine g_X12_tape C0 h 0 q_1441 rfl rfl dX12_feed_80 ?_
  refine lv_aload_n hx hb dX12_feed_83 rfl (lv_at hl 2 rfl) ?_
  refine g_X12_taped C0 h 0 q_1443 rfl rfl dX12_feed_84 ?_
  refine lv_iload hx hb dX12_feed_87 (lv_at hl 0 rfl) ?_
  refine lv_bipush (v := 24) hx hb dX12_feed_89 (by decide) ?_
  refine lv_bipush (v := 8) hx hb dX12_feed_91 (by decide) ?_
  refine lv_iload hx hb dX12_feed_93 (lv_at hl 1 rfl) ?_
  refine lv_iconst (v := 4) hx hb dX12_feed_95 (by decide) ?_
  refine lv_irem hx hb dX12_feed_96 (by decide) ?_
  refine lv_topi (fun k_67 ek_67 => ?_)
  obtain rfl : k_67 = 1 := ek_67.trans (by decide)
  refine lv_imul hx hb dX12_feed_97 ?_
  refine lv_topi (fun k_68 ek_68 => ?_)
  obtain rfl : k_68 = 8 := ek_68.trans (by decide)
  refine lv_isub hx hb dX12_feed_98 ?_
  refine lv_topi (fun k_69 ek_69 => ?_)
  obtain rfl : k_69 = 16 := ek_69.trans (by decide)
  refine lv_ishr hx hb dX12_feed_99 ?_
  refine lv_sipush (v := 255) hx hb dX12_feed_100 (by decide) ?_
  refine lv_iand hx hb dX12_feed_103 ?_
  refine m_iast (ws' := [(o, .inr (12, [.int 0, .ref (r 1), .ref (r 2), .ref (r 3), .ref (r 4), .int 9, .int 0, .int 0, .int 0, .int 0, .int 0, .int 0, .int 0, .int 0, .int (-1), .ref (r 15), .ref (r 16), .int 0, .int 0, .int 0, .ref (r 20), .ref (r 21), .ref (r 22), .ref (r 23), .ref (r 24), .ref (r 25), .int 0, .ref (r 27), .int 0, .ref (r 29), .ref (r 30), .ref (r 31), .ref (r 32), .ref (r 33), .ref (r 34), .int 0, .int 0, .int 0, .ref (r 38), .ref (r 39), .ref (r 40), .ref (r 41), .ref (r 42), .ref (r 43)])), (r 3, .inl (G.2 1, 900, .inl (upd (upd (upd (upd (upd (upd (upd (upd (upd (upd (fun _ => 0) 0 ((p0 >>> (24 &&& 31)) &&& 255)) 1 ((p0 >>> (16 &&& 31)) &&& 255)) 2 ((p0 >>> (8 &&& 31)) &&& 255)) 3 ((p0 >>> (0 &&& 31)) &&& 255)) 4 ((p1 >>> (24 &&& 31)) &&& 255)) 5 ((p1 >>> (16 &&& 31)) &&& 255)) 6 ((p1 >>> (8 &&& 31)) &&& 255)) 7 ((p1 >>> (0 &&& 31)) &&& 255)) 8 ((p2 >>> (24 &&& 31)) &&& 255)) 9 ((p2 >>> (16 &&& 31)) &&& 255))))]) C0 h 1 9 rfl (by decide) (by decide) (by decide) rfl dX12_feed_104 (fun H locs h => ?_)
  refine lv_aload_n hx hb dX12_feed_105 rfl (lv_at hl 2 rfl) ?_
  refine lv_dup hx hb dX12_feed_106 rfl ?_
  refine g_X12_taped C0 h 0 q_1443 rfl rfl dX12_feed_107 ?_
  refine lv_iconst (v := 1) hx hb dX12_feed_110 (by decide) ?_
  refine lv_iadd hx hb dX12_feed_111 ?_
  refine lv_topi (fun k_70 ek_70 => ?_)
  obtain rfl : k_70 = 10 := ek_70.trans (by decide)
  refine p_X12_taped (ws' := [(o, .inr (12, [.int 0, .ref (r 1), .ref (r 2), .ref (r 3), .ref (r 4), .int 10, .int 0, .int 0, .int 0, .int 0, .int 0, .int 0, .int 0, .int 0, .int (-1), .ref (r 15), .ref (r 16), .int 0, .int 0, .int 0, .ref (r 20), .ref (r 21), .ref (r 22), .ref (r 23), .ref (r 24), .ref (r 25), .int 0, .ref (r 27), .int 0, .ref (r 29), .ref (r 30), .ref (r 31), .ref (r 32), .ref (r 33), .ref (r 34), .int 0, .int 0, .int 0, .ref (r 38), .ref (r 39), .ref (r 40), .ref (r 41), .ref (r 42), .ref (r 43)])), (r 3, .inl (G.2 1, 900, .inl (upd (upd (upd (upd (upd (upd (upd (upd (upd (upd (fun _ => 0) 0 ((p0 >>> (24 &&& 31)) &&& 255)) 1 ((p0 >>> (16 &&& 31)) &&& 255)) 2 ((p0 >>> (8 &&& 31)) &&& 255)) 3 ((p0 >>> (0 &&& 31)) &&& 255)) 4 ((p1 >>> (24 &&& 31)) &&& 255)) 5 ((p1 >>> (16 &&& 31)) &&& 255)) 6 ((p1 >>> (8 &&& 31)) &&& 255)) 7 ((p1 >>> (0 &&& 31)) &&& 255)) 8 ((p2 >>> (24 &&& 31)) &&& 255)) 9 ((p2 >>> (16 &&& 31)) &&& 255))))]) C0 h 0 q_1443 rfl (Nat.le_of_ble_eq_true rfl) rfl rfl rfl dX12_feed_112 (fun H locs h => ?_)
  refine lv_iinc (v := 10) (lv' := [(6, .int 10), (7, .int p2), (0, .ref o), (1, .int p0), (2, .int p1), (3, .int p2), (4, .int p3), (5, .int p4)]) hx hb dX12_feed_115 hl (k := 1) rfl (by decide) (by decide) rfl (fun ls hl => ?_)
  refine lv_goto (tgt := 24) hx hb dX12_feed_118 (by decide) ?_
  refine lv_iload hx hb dX12_feed_24 (lv_at hl 0 rfl) ?_
  refine lv_bipush (v := 20) hx hb dX12_feed_26 (by decide) ?_
  refine lv_icmp_ge (tgt := 121) hx hb dX12_feed_28 (by decide) (fun c_71 => absurd c_71 (by decide)) (fun c_71 => ?_)
  refine lv_iload hx hb dX12_feed_31 (lv_at hl 0 rfl) ?_
  refine lv_iconst (v := 4) hx hb dX12_feed_33 (by decide) ?_
  refine lv_icmp_ge (tgt := 41) hx hb dX12_feed_34 (by decide) (fun c_72 => ?_) (fun c_72 => absurd c_72 (by decide))
  refine lv_iload hx hb dX12_feed_41 (lv_at hl 0 rfl) ?_
  refine lv_bipush (v := 8) hx hb dX12_feed_43 (by decide) ?_
  refine lv_icmp_ge (tgt := 52) hx hb dX12_feed_45 (by decide) (fun c_73 => ?_) (fun c_73 => absurd c_73 (by decide))
  refine lv_iload hx hb dX12_feed_52 (lv_at hl 0 rfl) ?_
  refine lv_bipush (v := 12) hx hb dX12_feed_54 (by decide) ?_
  refine lv_icmp_ge (tgt := 63) hx hb dX12_feed_56 (by decide) (fun c_74 => absurd c_74 (by decide)) (fun c_74 => ?_)
  refine lv_iload_n hx hb dX12_feed_59 rfl (lv_at hl 5 rfl) ?_
  refine lv_goto (tgt := 77) hx hb dX12_feed_60 (by decide) ?_
  refine lv_istore (lv' := [(7, .int p2), (6, .int 10), (0, .ref o), (1, .int p0), (2, .int p1), (3, .int p2), (4, .int p3), (5, .int p4)]) hx hb dX12_feed_77 hl (by decide) rfl (fun ls hl => ?_)
  refine lv_aload_n hx hb dX12_feed_79 rfl (lv_at hl 2 rfl) ?_
  refine g_X12_tape C0 h 0 q_1441 rfl rfl dX12_feed_80 ?_
  refine lv_aload_n hx hb dX12_feed_83 rfl (lv_at hl 2 rfl) ?_
  refine g_X12_taped C0 h 0 q_1443 rfl rfl dX12_feed_84 ?_
  refine lv_iload hx hb dX12_feed_87 (lv_at hl 0 rfl) ?_
  refine lv_bipush (v := 24) hx hb dX12_feed_89 (by decide) ?_
  refine lv_bipush (v := 8) hx hb dX12_feed_91 (by decide) ?_
  refine lv_iload hx hb dX12_feed_93 (lv_at hl 1 rfl) ?_
  refine lv_iconst (v := 4) hx hb dX12_feed_95 (by decide) ?_
  refine lv_irem hx hb dX12_feed_96 (by decide) ?_
  refine lv_topi (fun k_75 ek_75 => ?_)
  obtain rfl : k_75 = 2 := ek_75.trans (by decide)
  refine lv_imul hx hb dX12_feed_97 ?_
  refine lv_topi (fun k_76 ek_76 => ?_)
  obtain rfl : k_76 = 16 := ek_76.trans (by decide)
  refine lv_isub hx hb dX12_feed_98 ?_
  refine lv_topi (fun k_77 ek_77 => ?_)
  obtain rfl : k_77 = 8 := ek_77.trans (by decide)
  refine lv_ishr hx hb dX12_feed_99 ?_
  refine lv_sipush (v := 255) hx hb dX12_feed_100 (by decide) ?_
  refine lv_iand hx hb dX12_feed_103 ?_
  refine m_iast (ws' := [(o, .inr (12, [.int 0, .ref (r 1), .ref (r 2), .ref (r 3), .ref (r 4), .int 10, .int 0, .int 0, .int 0, .int 0, .int 0, .int 0, .int 0, .int 0, .int (-1), .ref (r 15), .ref (r 16), .int 0, .int 0, .int 0, .ref (r 20), .ref (r 21), .ref (r 22), .ref (r 23), .ref (r 24), .ref (r 25), .int 0, .ref (r 27), .int 0, .ref (r 29), .ref (r 30), .ref (r 31), .ref (r 32), .ref (r 33), .ref (r 34), .int 0, .int 0, .int 0, .ref (r 38), .ref (r 39), .ref (r 40), .ref (r 41), .ref (r 42), .ref (r 43)])), (r 3, .inl (G.2 1, 900, .inl (upd (upd (upd (upd (upd (upd (upd (upd (upd (upd (upd (fun _ => 0) 0 ((p0 >>> (24 &&& 31)) &&& 255)) 1 ((p0 >>> (16 &&& 31)) &&& 255)) 2 ((p0 >>> (8 &&& 31)) &&& 255)) 3 ((p0 >>> (0 &&& 31)) &&& 255)) 4 ((p1 >>> (24 &&& 31)) &&& 255)) 5 ((p1 >>> (16 &&& 31)) &&& 255)) 6 ((p1 >>> (8 &&& 31)) &&& 255)) 7 ((p1 >>> (0 &&& 31)) &&& 255)) 8 ((p2 >>> (24 &&& 31)) &&& 255)) 9 ((p2 >>> (16 &&& 31)) &&& 255)) 10 ((p2 >>> (8 &&& 31)) &&& 255))))]) C0 h 1 10 rfl (by decide) (by decide) (by decide) rfl dX12_feed_104 (fun H locs h => ?_)
  refine lv_aload_n hx hb dX12_feed_105 rfl (lv_at hl 2 rfl) ?_
  refine lv_dup hx hb dX12_feed_106 rfl ?_
  refine g_X12_taped C0 h 0 q_1443 rfl rfl dX12_feed_107 ?_
  refine lv_iconst (v := 1) hx hb dX12_feed_110 (by decide) ?_
  refine lv_iadd hx hb dX12_feed_111 ?_
  refine lv_topi (fun k_78 ek_78 => ?_)
  obtain rfl : k_78 = 11 := ek_78.trans (by decide)
  refine p_X12_taped (ws' := [(o, .inr (12, [.int 0, .ref (r 1), .ref (r 2), .ref (r 3), .ref (r 4), .int 11, .int 0, .int 0, .int 0, .int 0, .int 0, .int 0, .int 0, .int 0, .int (-1), .ref (r 15), .ref (r 16), .int 0, .int 0, .int 0, .ref (r 20), .ref (r 21), .ref (r 22), .ref (r 23), .ref (r 24), .ref (r 25), .int 0, .ref (r 27), .int 0, .ref (r 29), .ref (r 30), .ref (r 31), .ref (r 32), .ref (r 33), .ref (r 34), .int 0, .int 0, .int 0, .ref (r 38), .ref (r 39), .ref (r 40), .ref (r 41), .ref (r 42), .ref (r 43)])), (r 3, .inl (G.2 1, 900, .inl (upd (upd (upd (upd (upd (upd (upd (upd (upd (upd (upd (fun _ => 0) 0 ((p0 >>> (24 &&& 31)) &&& 255)) 1 ((p0 >>> (16 &&& 31)) &&& 255)) 2 ((p0 >>> (8 &&& 31)) &&& 255)) 3 ((p0 >>> (0 &&& 31)) &&& 255)) 4 ((p1 >>> (24 &&& 31)) &&& 255)) 5 ((p1 >>> (16 &&& 31)) &&& 255)) 6 ((p1 >>> (8 &&& 31)) &&& 255)) 7 ((p1 >>> (0 &&& 31)) &&& 255)) 8 ((p2 >>> (24 &&& 31)) &&& 255)) 9 ((p2 >>> (16 &&& 31)) &&& 255)) 10 ((p2 >>> (8 &&& 31)) &&& 255))))]) C0 h 0 q_1443 rfl (Nat.le_of_ble_eq_true rfl) rfl rfl rfl dX12_feed_112 (fun H locs h => ?_)
  refine lv_iinc (v := 11) (lv' := [(6, .int 11), (7, .int p2), (0, .ref o), (1, .int p0), (2, .int p1), (3, .int p2), (4, .int p3), (5, .int p4)]) hx hb dX12_feed_115 hl (k := 1) rfl (by decide) (by decide) rfl (fun ls hl => ?_)
  refine lv_goto (tgt := 24) hx hb dX12_feed_118 (by decide) ?_
  refine lv_iload hx hb dX12_feed_24 (lv_at hl 0 rfl) ?_
  refine lv_bipush (v := 20) hx hb dX12_feed_26 (by decide) ?_
  refine lv_icmp_ge (tgt := 121) hx hb dX12_feed_28 (by decide) (fun c_79 => absurd c_79 (by decide)) (fun c_79 => ?_)
  refine lv_iload hx hb dX12_feed_31 (lv_at hl 0 rfl) ?_
  refine lv_iconst (v := 4) hx hb dX12_feed_33 (by decide) ?_
  refine lv_icmp_ge (tgt := 41) hx hb dX12_feed_34 (by decide) (fun c_80 => ?_) (fun c_80 => absurd c_80 (by decide))
  refine lv_iload hx hb dX12_feed_41 (lv_at hl 0 rfl) ?_
  refine lv_bipush (v := 8) hx hb dX12_feed_43 (by decide) ?_
  refine lv_icmp_ge (tgt := 52) hx hb dX12_feed_45 (by decide) (fun c_81 => ?_) (fun c_81 => absurd c_81 (by decide))
  refine lv_iload hx hb dX12_feed_52 (lv_at hl 0 rfl) ?_
  refine lv_bipush (v := 12) hx hb dX12_feed_54 (by decide) ?_
  refine lv_icmp_ge (tgt := 63) hx hb dX12_feed_56 (by decide) (fun c_82 => absurd c_82 (by decide)) (fun c_82 => ?_)
  refine lv_iload_n hx hb dX12_feed_59 rfl (lv_at hl 5 rfl) ?_
  refine lv_goto (tgt := 77) hx hb dX12_feed_60 (by decide) ?_
  refine lv_istore (lv' := [(7, .int p2), (6, .int 11), (0, .ref o), (1, .int p0), (2, .int p1), (3, .int p2), (4, .int p3), (5, .int p4)]) hx hb dX12_feed_77 hl (by decide) rfl (fun ls hl => ?_)
  refine lv_aload_n hx hb dX12_feed_79 rfl (lv_at hl 2 rfl) ?_
  refine g_X12_tape C0 h 0 q_1441 rfl rfl dX12_feed_80 ?_
  refine lv_aload_n hx hb dX12_feed_83 rfl (lv_at hl 2 rfl) ?_
  refine g_X12_taped C0 h 0 q_1443 rfl rfl dX12_feed_84 ?_
  refine lv_iload hx hb dX12_feed_87 (lv_at hl 0 rfl) ?_
  refine lv_bipush (v := 24) hx hb dX12_feed_89 (by decide) ?_
  refine lv_bipush (v := 8) hx hb dX12_feed_91 (by decide) ?_
  refine lv_iload hx hb dX12_feed_93 (lv_at hl 1 rfl) ?_
  refine lv_iconst (v := 4) hx hb dX12_feed_95 (by decide) ?_
  refine lv_irem hx hb dX12_feed_96 (by decide) ?_
  refine lv_topi (fun k_83 ek_83 => ?_)
  obtain rfl : k_83 = 3 := ek_83.trans (by decide)
  refine lv_imul hx hb dX12_feed_97 ?_
  refine lv_topi (fun k_84 ek_84 => ?_)
  obtain rfl : k_84 = 24 := ek_84.trans (by decide)
  refine lv_isub hx hb dX12_feed_98 ?_
  refine lv_topi (fun k_85 ek_85 => ?_)
  obtain rfl : k_85 = 0 := ek_85.trans (by decide)
  refine lv_ishr hx hb dX12_feed_99 ?_
  refine lv_sipush (v := 255) hx hb dX12_feed_100 (by decide) ?_
  refine lv_iand hx hb dX12_feed_103 ?_
  refine m_iast (ws' := [(o, .inr (12, [.int 0, .ref (r 1), .ref (r 2), .ref (r 3), .ref (r 4), .int 11, .int 0, .int 0, .int 0, .int 0, .int 0, .int 0, .int 0, .int 0, .int (-1), .ref (r 15), .ref (r 16), .int 0, .int 0, .int 0, .ref (r 20), .ref (r 21), .ref (r 22), .ref (r 23), .ref (r 24), .ref (r 25), .int 0, .ref (r 27), .int 0, .ref (r 29), .ref (r 30), .ref (r 31), .ref (r 32), .ref (r 33), .ref (r 34), .int 0, .int 0, .int 0, .ref (r 38), .ref (r 39), .ref (r 40), .ref (r 41), .ref (r 42), .ref (r 43)])), (r 3, .inl (G.2 1, 900, .inl (upd (upd (upd (upd (upd (upd (upd (upd (upd (upd (upd (upd (fun _ => 0) 0 ((p0 >>> (24 &&& 31)) &&& 255)) 1 ((p0 >>> (16 &&& 31)) &&& 255)) 2 ((p0 >>> (8 &&& 31)) &&& 255)) 3 ((p0 >>> (0 &&& 31)) &&& 255)) 4 ((p1 >>> (24 &&& 31)) &&& 255)) 5 ((p1 >>> (16 &&& 31)) &&& 255)) 6 ((p1 >>> (8 &&& 31)) &&& 255)) 7 ((p1 >>> (0 &&& 31)) &&& 255)) 8 ((p2 >>> (24 &&& 31)) &&& 255)) 9 ((p2 >>> (16 &&& 31)) &&& 255)) 10 ((p2 >>> (8 &&& 31)) &&& 255)) 11 ((p2 >>> (0 &&& 31)) &&& 255))))]) C0 h 1 11 rfl (by decide) (by decide) (by decide) rfl dX12_feed_104 (fun H locs h => ?_)
  refine lv_aload_n hx hb dX12_feed_105 rfl (lv_at hl 2 rfl) ?_
  refine lv_dup hx hb dX12_feed_106 rfl ?_
  refine g_X12_taped C0 h 0 q_1443 rfl rfl dX12_feed_107 ?_
  refine lv_iconst (v := 1) hx hb dX12_feed_110 (by decide) ?_
  refine lv_iadd hx hb dX12_feed_111 ?_
  refine lv_topi (fun k_86 ek_86 => ?_)
  obtain rfl : k_86 = 12 := ek_86.trans (by decide)
  refine p_X12_taped (ws' := [(o, .inr (12, [.int 0, .ref (r 1), .ref (r 2), .ref (r 3), .ref (r 4), .int 12, .int 0, .int 0, .int 0, .int 0, .int 0, .int 0, .int 0, .int 0, .int (-1), .ref (r 15), .ref (r 16), .int 0, .int 0, .int 0, .ref (r 20), .ref (r 21), .ref (r 22), .ref (r 23), .ref (r 24), .ref (r 25), .int 0, .ref (r 27), .int 0, .ref (r 29), .ref (r 30), .ref (r 31), .ref (r 32), .ref (r 33), .ref (r 34), .int 0, .int 0, .int 0, .ref (r 38), .ref (r 39), .ref (r 40), .ref (r 41), .ref (r 42), .ref (r 43)])), (r 3, .inl (G.2 1, 900, .inl (upd (upd (upd (upd (upd (upd (upd (upd (upd (upd (upd (upd (fun _ => 0) 0 ((p0 >>> (24 &&& 31)) &&& 255)) 1 ((p0 >>> (16 &&& 31)) &&& 255)) 2 ((p0 >>> (8 &&& 31)) &&& 255)) 3 ((p0 >>> (0 &&& 31)) &&& 255)) 4 ((p1 >>> (24 &&& 31)) &&& 255)) 5 ((p1 >>> (16 &&& 31)) &&& 255)) 6 ((p1 >>> (8 &&& 31)) &&& 255)) 7 ((p1 >>> (0 &&& 31)) &&& 255)) 8 ((p2 >>> (24 &&& 31)) &&& 255)) 9 ((p2 >>> (16 &&& 31)) &&& 255)) 10 ((p2 >>> (8 &&& 31)) &&& 255)) 11 ((p2 >>> (0 &&& 31)) &&& 255))))]) C0 h 0 q_1443 rfl (Nat.le_of_ble_eq_true rfl) rfl rfl rfl dX12_feed_112 (fun H locs h => ?_)
  refine lv_iinc (v := 12) (lv' := [(6, .int 12), (7, .int p2), (0, .ref o), (1, .int p0), (2, .int p1), (3, .int p2), (4, .int p3), (5, .int p4)]) hx hb dX12_feed_115 hl (k := 1) rfl (by decide) (by decide) rfl (fun ls hl => ?_)
  refine lv_goto (tgt := 24) hx hb dX12_feed_118 (by decide) ?_
  refine lv_iload hx hb dX12_feed_24 (lv_at hl 0 rfl) ?_
  refine lv_bipush (v := 20) hx hb dX12_feed_26 (by decide) ?_
  refine lv_icmp_ge (tgt := 121) hx hb dX12_feed_28 (by decide) (fun c_87 => absurd c_87 (by decide)) (fun c_87 => ?_)
  refine lv_iload hx hb dX12_feed_31 (lv_at hl 0 rfl) ?_
  refine lv_iconst (v := 4) hx hb dX12_feed_33 (by decide) ?_
  refine lv_icmp_ge (tgt := 41) hx hb dX12_feed_34 (by decide) (fun c_88 => ?_) (fun c_88 => absurd c_88 (by decide))
  refine lv_iload hx hb dX12_feed_41 (lv_at hl 0 rfl) ?_
  refine lv_bipush (v := 8) hx hb dX12_feed_43 (by decide) ?_
  refine lv_icmp_ge (tgt := 52) hx hb dX12_feed_45 (by decide) (fun c_89 => ?_) (fun c_89 => absurd c_89 (by decide))
  refine lv_iload hx hb dX12_feed_52 (lv_at hl 0 rfl) ?_
  refine lv_bipush (v := 12) hx hb dX12_feed_54 (by decide) ?_
  refine lv_icmp_ge (tgt := 63) hx hb dX12_feed_56 (by decide) (fun c_90 => ?_) (fun c_90 => absurd c_90 (by decide))
  refine lv_iload hx hb dX12_feed_63 (lv_at hl 0 rfl) ?_
  refine lv_bipush (v := 16) hx hb dX12_feed_65 (by decide) ?_
  refine lv_icmp_ge (tgt := 75) hx hb dX12_feed_67 (by decide) (fun c_91 => absurd c_91 (by decide)) (fun c_91 => ?_)
  refine lv_iload hx hb dX12_feed_70 (lv_at hl 6 rfl) ?_
  refine lv_goto (tgt := 77) hx hb dX12_feed_72 (by decide) ?_
  refine lv_istore (lv' := [(7, .int p3), (6, .int 12), (0, .ref o), (1, .int p0), (2, .int p1), (3, .int p2), (4, .int p3), (5, .int p4)]) hx hb dX12_feed_77 hl (by decide) rfl (fun ls hl => ?_)
  refine lv_aload_n hx hb dX12_feed_79 rfl (lv_at hl 2 rfl) ?_
  refine g_X12_tape C0 h 0 q_1441 rfl rfl dX12_feed_80 ?_
  refine lv_aload_n hx hb dX12_feed_83 rfl (lv_at hl 2 rfl) ?_
  refine g_X12_taped C0 h 0 q_1443 rfl rfl dX12_feed_84 ?_
  refine lv_iload hx hb dX12_feed_87 (lv_at hl 0 rfl) ?_
  refine lv_bipush (v := 24) hx hb dX12_feed_89 (by decide) ?_
  refine lv_bipush (v := 8) hx hb dX12_feed_91 (by decide) ?_
  refine lv_iload hx hb dX12_feed_93 (lv_at hl 1 rfl) ?_
  refine lv_iconst (v := 4) hx hb dX12_feed_95 (by decide) ?_
  refine lv_irem hx hb dX12_feed_96 (by decide) ?_
  refine lv_topi (fun k_92 ek_92 => ?_)
  obtain rfl : k_92 = 0 := ek_92.trans (by decide)
  refine lv_imul hx hb dX12_feed_97 ?_
  refine lv_topi (fun k_93 ek_93 => ?_)
  obtain rfl : k_93 = 0 := ek_93.trans (by decide)
  refine lv_isub hx hb dX12_feed_98 ?_
  refine lv_topi (fun k_94 ek_94 => ?_)
  obtain rfl : k_94 = 24 := ek_94.trans (by decide)
  refine lv_ishr hx hb dX12_feed_99 ?_
  refine lv_sipush (v := 255) hx hb dX12_feed_100 (by decide) ?_
  refine lv_iand hx hb dX12_feed_103 ?_
  refine m_iast (ws' := [(o, .inr (12, [.int 0, .ref (r 1), .ref (r 2), .ref (r 3), .ref (r 4), .int 12, .int 0, .int 0, .int 0, .int 0, .int 0, .int 0, .int 0, .int 0, .int (-1), .ref (r 15), .ref (r 16), .int 0, .int 0, .int 0, .ref (r 20), .ref (r 21), .ref (r 22), .ref (r 23), .ref (r 24), .ref (r 25), .int 0, .ref (r 27), .int 0, .ref (r 29), .ref (r 30), .ref (r 31), .ref (r 32), .ref (r 33), .ref (r 34), .int 0, .int 0, .int 0, .ref (r 38), .ref (r 39), .ref (r 40), .ref (r 41), .ref (r 42), .ref (r 43)])), (r 3, .inl (G.2 1, 900, .inl (upd (upd (upd (upd (upd (upd (upd (upd (upd (upd (upd (upd (upd (fun _ => 0) 0 ((p0 >>> (24 &&& 31)) &&& 255)) 1 ((p0 >>> (16 &&& 31)) &&& 255)) 2 ((p0 >>> (8 &&& 31)) &&& 255)) 3 ((p0 >>> (0 &&& 31)) &&& 255)) 4 ((p1 >>> (24 &&& 31)) &&& 255)) 5 ((p1 >>> (16 &&& 31)) &&& 255)) 6 ((p1 >>> (8 &&& 31)) &&& 255)) 7 ((p1 >>> (0 &&& 31)) &&& 255)) 8 ((p2 >>> (24 &&& 31)) &&& 255)) 9 ((p2 >>> (16 &&& 31)) &&& 255)) 10 ((p2 >>> (8 &&& 31)) &&& 255)) 11 ((p2 >>> (0 &&& 31)) &&& 255)) 12 ((p3 >>> (24 &&& 31)) &&& 255))))]) C0 h 1 12 rfl (by decide) (by decide) (by decide) rfl dX12_feed_104 (fun H locs h => ?_)
  refine lv_aload_n hx hb dX12_feed_105 rfl (lv_at hl 2 rfl) ?_
  refine lv_dup hx hb dX12_feed_106 rfl ?_
  refine g_X12_taped C0 h 0 q_1443 rfl rfl dX12_feed_107 ?_
  refine lv_iconst (v := 1) hx hb dX12_feed_110 (by decide) ?_
  refine lv_iadd hx hb dX12_feed_111 ?_
  refine lv_topi (fun k_95 ek_95 => ?_)
  obtain rfl : k_95 = 13 := ek_95.trans (by decide)
  refine p_X12_taped (ws' := [(o, .inr (12, [.int 0, .ref (r 1), .ref (r 2), .ref (r 3), .ref (r 4), .int 13, .int 0, .int 0, .int 0, .int 0, .int 0, .int 0, .int 0, .int 0, .int (-1), .ref (r 15), .ref (r 16), .int 0, .int 0, .int 0, .ref (r 20), .ref (r 21), .ref (r 22), .ref (r 23), .ref (r 24), .ref (r 25), .int 0, .ref (r 27), .int 0, .ref (r 29), .ref (r 30), .ref (r 31), .ref (r 32), .ref (r 33), .ref (r 34), .int 0, .int 0, .int 0, .ref (r 38), .ref (r 39), .ref (r 40), .ref (r 41), .ref (r 42), .ref (r 43)])), (r 3, .inl (G.2 1, 900, .inl (upd (upd (upd (upd (upd (upd (upd (upd (upd (upd (upd (upd (upd (fun _ => 0) 0 ((p0 >>> (24 &&& 31)) &&& 255)) 1 ((p0 >>> (16 &&& 31)) &&& 255)) 2 ((p0 >>> (8 &&& 31)) &&& 255)) 3 ((p0 >>> (0 &&& 31)) &&& 255)) 4 ((p1 >>> (24 &&& 31)) &&& 255)) 5 ((p1 >>> (16 &&& 31)) &&& 255)) 6 ((p1 >>> (8 &&& 31)) &&& 255)) 7 ((p1 >>> (0 &&& 31)) &&& 255)) 8 ((p2 >>> (24 &&& 31)) &&& 255)) 9 ((p2 >>> (16 &&& 31)) &&& 255)) 10 ((p2 >>> (8 &&& 31)) &&& 255)) 11 ((p2 >>> (0 &&& 31)) &&& 255)) 12 ((p3 >>> (24 &&& 31)) &&& 255))))]) C0 h 0 q_1443 rfl (Nat.le_of_ble_eq_true rfl) rfl rfl rfl dX12_feed_112 (fun H locs h => ?_)
  refine lv_iinc (v := 13) (lv' := [(6, .int 13), (7, .int p3), (0, .ref o), (1, .int p0), (2, .int p1), (3, .int p2), (4, .int p3), (5, .int p4)]) hx hb dX12_feed_115 hl (k := 1) rfl (by decide) (by decide) rfl (fun ls hl => ?_)
  refine lv_goto (tgt := 24) hx hb dX12_feed_118 (by decide) ?_
  refine lv_iload hx hb dX12_feed_24 (lv_at hl 0 rfl) ?_
  refine lv_bipush (v := 20) hx hb dX12_feed_26 (by decide) ?_
  refine lv_icmp_ge (tgt := 121) hx hb dX12_feed_28 (by decide) (fun c_96 => absurd c_96 (by decide)) (fun c_96 => ?_)
  refine lv_iload hx hb dX12_feed_31 (lv_at hl 0 rfl) ?_
  refine lv_iconst (v := 4) hx hb dX12_feed_33 (by decide) ?_
  refine lv_icmp_ge (tgt := 41) hx hb dX12_feed_34 (by decide) (fun c_97 => ?_) (fun c_97 => absurd c_97 (by decide))
  refine lv_iload hx hb dX12_feed_41 (lv_at hl 0 rfl) ?_
  refine lv_bipush (v := 8) hx hb dX12_feed_43 (by decide) ?_
  refine lv_icmp_ge (tgt := 52) hx hb dX12_feed_45 (by decide) (fun c_98 => ?_) (fun c_98 => absurd c_98 (by decide))
  refine lv_iload hx hb dX12_feed_52 (lv_at hl 0 rfl) ?_
  refine lv_bipush (v := 12) hx hb dX12_feed_54 (by decide) ?_
  refine lv_icmp_ge (tgt := 63) hx hb dX12_feed_56 (by decide) (fun c_99 => ?_) (fun c_99 => absurd c_99 (by decide))
  refine lv_iload hx hb dX12_feed_63 (lv_at hl 0 rfl) ?_
  refine lv_bipush (v := 16) hx hb dX12_feed_65 (by decide) ?_
  refine lv_icmp_ge (tgt := 75) hx hb dX12_feed_67 (by decide) (fun c_100 => absurd c_100 (by decide)) (fun c_100 => ?_)
  refine lv_iload hx hb dX12_feed_70 (lv_at hl 6 rfl) ?_
  refine lv_goto (tgt := 77) hx hb dX12_feed_72 (by decide) ?_
  refine lv_istore (lv' := [(7, .int p3), (6, .int 13), (0, .ref o), (1, .int p0), (2, .int p1), (3, .int p2), (4, .int p3), (5, .int p4)]) hx hb dX12_feed_77 hl (by decide) rfl (fun ls hl => ?_)
  refine lv_aload_n hx hb dX12_feed_79 rfl (lv_at hl 2 rfl) ?_
  refine g_X12_tape C0 h 0 q_1441 rfl rfl dX12_feed_80 ?_
  refine lv_aload_n hx hb dX12_feed_83 rfl (lv_at hl 2 rfl) ?_
  refine g_X12_taped C0 h 0 q_1443 rfl rfl dX12_feed_84 ?_
  refine lv_iload hx hb dX12_feed_87 (lv_at hl 0 rfl) ?_
  refine lv_bipush (v := 24) hx hb dX12_feed_89 (by decide) ?_
  refine lv_bipush (v := 8) hx hb dX12_feed_91 (by decide) ?_
  refine lv_iload hx hb dX12_feed_93 (lv_at hl 1 rfl) ?_
  refine lv_iconst (v := 4) hx hb dX12_feed_95 (by decide) ?_
  refine lv_irem hx hb dX12_feed_96 (by decide) ?_
  refine lv_topi (fun k_101 ek_101 => ?_)
  obtain rfl : k_101 = 1 := ek_101.trans (by decide)
  refine lv_imul hx hb dX12_feed_97 ?_
  refine lv_topi (fun k_102 ek_102 => ?_)
  obtain rfl : k_102 = 8 := ek_102.trans (by decide)
  refine lv_isub hx hb dX12_feed_98 ?_
  refine lv_topi (fun k_103 ek_103 => ?_)
  obtain rfl : k_103 = 16 := ek_103.trans (by decide)
  refine lv_ishr hx hb dX12_feed_99 ?_
  refine lv_sipush (v := 255) hx hb dX12_feed_100 (by decide) ?_
  refine lv_iand hx hb dX12_feed_103 ?_
  refine m_iast (ws' := [(o, .inr (12, [.int 0, .ref (r 1), .ref (r 2), .ref (r 3), .ref (r 4), .int 13, .int 0, .int 0, .int 0, .int 0, .int 0, .int 0, .int 0, .int 0, .int (-1), .ref (r 15), .ref (r 16), .int 0, .int 0, .int 0, .ref (r 20), .ref (r 21), .ref (r 22), .ref (r 23), .ref (r 24), .ref (r 25), .int 0, .ref (r 27), .int 0, .ref (r 29), .ref (r 30), .ref (r 31), .ref (r 32), .ref (r 33), .ref (r 34), .int 0, .int 0, .int 0, .ref (r 38), .ref (r 39), .ref (r 40), .ref (r 41), .ref (r 42), .ref (r 43)])), (r 3, .inl (G.2 1, 900, .inl (upd (upd (upd (upd (upd (upd (upd (upd (upd (upd (upd (upd (upd (upd (fun _ => 0) 0 ((p0 >>> (24 &&& 31)) &&& 255)) 1 ((p0 >>> (16 &&& 31)) &&& 255)) 2 ((p0 >>> (8 &&& 31)) &&& 255)) 3 ((p0 >>> (0 &&& 31)) &&& 255)) 4 ((p1 >>> (24 &&& 31)) &&& 255)) 5 ((p1 >>> (16 &&& 31)) &&& 255)) 6 ((p1 >>> (8 &&& 31)) &&& 255)) 7 ((p1 >>> (0 &&& 31)) &&& 255)) 8 ((p2 >>> (24 &&& 31)) &&& 255)) 9 ((p2 >>> (16 &&& 31)) &&& 255)) 10 ((p2 >>> (8 &&& 31)) &&& 255)) 11 ((p2 >>> (0 &&& 31)) &&& 255)) 12 ((p3 >>> (24 &&& 31)) &&& 255)) 13 ((p3 >>> (16 &&& 31)) &&& 255))))]) C0 h 1 13 rfl (by decide) (by decide) (by decide) rfl dX12_feed_104 (fun H locs h => ?_)
  refine lv_aload_n hx hb dX12_feed_105 rfl (lv_at hl 2 rfl) ?_
  refine lv_dup hx hb dX12_feed_106 rfl ?_
  refine g_X12_taped C0 h 0 q_1443 rfl rfl dX12_feed_107 ?_
  refine lv_iconst (v := 1) hx hb dX12_feed_110 (by decide) ?_
  refine lv_iadd hx hb dX12_feed_111 ?_
  refine lv_topi (fun k_104 ek_104 => ?_)
  obtain rfl : k_104 = 14 := ek_104.trans (by decide)
  refine p_X12_taped (ws' := [(o, .inr (12, [.int 0, .ref (r 1), .ref (r 2), .ref (r 3), .ref (r 4), .int 14, .int 0, .int 0, .int 0, .int 0, .int 0, .int 0, .int 0, .int 0, .int (-1), .ref (r 15), .ref (r 16), .int 0, .int 0, .int 0, .ref (r 20), .ref (r 21), .ref (r 22), .ref (r 23), .ref (r 24), .ref (r 25), .int 0, .ref (r 27), .int 0, .ref (r 29), .ref (r 30), .ref (r 31), .ref (r 32), .ref (r 33), .ref (r 34), .int 0, .int 0, .int 0, .ref (r 38), .ref (r 39), .ref (r 40), .ref (r 41), .ref (r 42), .ref (r 43)])), (r 3, .inl (G.2 1, 900, .inl (upd (upd (upd (upd (upd (upd (upd (upd (upd (upd (upd (upd (upd (upd (fun _ => 0) 0 ((p0 >>> (24 &&& 31)) &&& 255)) 1 ((p0 >>> (16 &&& 31)) &&& 255)) 2 ((p0 >>> (8 &&& 31)) &&& 255)) 3 ((p0 >>> (0 &&& 31)) &&& 255)) 4 ((p1 >>> (24 &&& 31)) &&& 255)) 5 ((p1 >>> (16 &&& 31)) &&& 255)) 6 ((p1 >>> (8 &&& 31)) &&& 255)) 7 ((p1 >>> (0 &&& 31)) &&& 255)) 8 ((p2 >>> (24 &&& 31)) &&& 255)) 9 ((p2 >>> (16 &&& 31)) &&& 255)) 10 ((p2 >>> (8 &&& 31)) &&& 255)) 11 ((p2 >>> (0 &&& 31)) &&& 255)) 12 ((p3 >>> (24 &&& 31)) &&& 255)) 13 ((p3 >>> (16 &&& 31)) &&& 255))))]) C0 h 0 q_1443 rfl (Nat.le_of_ble_eq_true rfl) rfl rfl rfl dX12_feed_112 (fun H locs h => ?_)
  refine lv_iinc (v := 14) (lv' := [(6, .int 14), (7, .int p3), (0, .ref o), (1, .int p0), (2, .int p1), (3, .int p2), (4, .int p3), (5, .int p4)]) hx hb dX12_feed_115 hl (k := 1) rfl (by decide) (by decide) rfl (fun ls hl => ?_)
  refine lv_goto (tgt := 24) hx hb dX12_feed_118 (by decide) ?_
  refine lv_iload hx hb dX12_feed_24 (lv_at hl 0 rfl) ?_
  refine lv_bipush (v := 20) hx hb dX12_feed_26 (by decide) ?_
  refine lv_icmp_ge (tgt := 121) hx hb dX12_feed_28 (by decide) (fun c_105 => absurd c_105 (by decide)) (fun c_105 => ?_)
  refine lv_iload hx hb dX12_feed_31 (lv_at hl 0 rfl) ?_
  refine lv_iconst (v := 4) hx hb dX12_feed_33 (by decide) ?_
  refine lv_icmp_ge (tgt := 41) hx hb dX12_feed_34 (by decide) (fun c_106 => ?_) (fun c_106 => absurd c_106 (by decide))
  refine lv_iload hx hb dX12_feed_41 (lv_at hl 0 rfl) ?_
  refine lv_bipush (v := 8) hx hb dX12_feed_43 (by decide) ?_
  refine lv_icmp_ge (tgt := 52) hx hb dX12_feed_45 (by decide) (fun c_107 => ?_) (fun c_107 => absurd c_107 (by decide))
  refine lv_iload hx hb dX12_feed_52 (lv_at hl 0 rfl) ?_
  refine lv_bipush (v := 12) hx hb dX12_feed_54 (by decide) ?_
  refine lv_icmp_ge (tgt := 63) hx hb dX12_feed_56 (by decide) (fun c_108 => ?_) (fun c_108 => absurd c_108 (by decide))
  refine lv_iload hx hb dX12_feed_63 (lv_at hl 0 rfl) ?_
  refine lv_bipush (v := 16) hx hb dX12_feed_65 (by decide) ?_
  refine lv_icmp_ge (tgt := 75) hx hb dX12_feed_67 (by decide) (fun c_109 => absurd c_109 (by decide)) (fun c_109 => ?_)
  refine lv_iload hx hb dX12_feed_70 (lv_at hl 6 rfl) ?_
  refine lv_goto (tgt := 77) hx hb dX12_feed_72 (by decide) ?_
  refine lv_istore (lv' := [(7, .int p3), (6, .int 14), (0, .ref o), (1, .int p0), (2, .int p1), (3, .int p2), (4, .int p3), (5, .int p4)]) hx hb dX12_feed_77 hl (by decide) rfl (fun ls hl => ?_)
  refine lv_aload_n hx hb dX12_feed_79 rfl (lv_at hl 2 rfl) ?_
  refine g_X12_tape C0 h 0 q_1441 rfl rfl dX12_feed_80 ?_
  refine lv_aload_n hx hb dX12_feed_83 rfl (lv_at hl 2 rfl) ?_
  refine g_X12_taped C0 h 0 q_1443 rfl rfl dX12_feed_84 ?_
  refine lv_iload hx hb dX12_feed_87 (lv_at hl 0 rfl) ?_
  refine lv_bipush (v := 24) hx hb dX12_feed_89 (by decide) ?_
  refine lv_bipush (v := 8) hx hb dX12_feed_91 (by decide) ?_
  refine lv_iload hx hb dX12_feed_93 (lv_at hl 1 rfl) ?_
  refine lv_iconst (v := 4) hx hb dX12_feed_95 (by decide) ?_
  refine lv_irem hx hb dX12_feed_96 (by decide) ?_
  refine lv_topi (fun k_110 ek_110 => ?_)
  obtain rfl : k_110 = 2 := ek_110.trans (by decide)
  refine lv_imul hx hb dX12_feed_97 ?_
  refine lv_topi (fun k_111 ek_111 => ?_)
  obtain rfl : k_111 = 16 := ek_111.trans (by decide)
  refine lv_isub hx hb dX12_feed_98 ?_
  refine lv_topi (fun k_112 ek_112 => ?_)
  obtain rfl : k_112 = 8 := ek_112.trans (by decide)
  refine lv_ishr hx hb dX12_feed_99 ?_
  refine lv_sipush (v := 255) hx hb dX12_feed_100 (by decide) ?_
  refine lv_iand hx hb dX12_feed_103 ?_
  refine m_iast (ws' := [(o, .inr (12, [.int 0, .ref (r 1), .ref (r 2), .ref (r 3), .ref (r 4), .int 14, .int 0, .int 0, .int 0, .int 0, .int 0, .int 0, .int 0, .int 0, .int (-1), .ref (r 15), .ref (r 16), .int 0, .int 0, .int 0, .ref (r 20), .ref (r 21), .ref (r 22), .ref (r 23), .ref (r 24), .ref (r 25), .int 0, .ref (r 27), .int 0, .ref (r 29), .ref (r 30), .ref (r 31), .ref (r 32), .ref (r 33), .ref (r 34), .int 0, .int 0, .int 0, .ref (r 38), .ref (r 39), .ref (r 40), .ref (r 41), .ref (r 42), .ref (r 43)])), (r 3, .inl (G.2 1, 900, .inl (upd (upd (upd (upd (upd (upd (upd (upd (upd (upd (upd (upd (upd (upd (upd (fun _ => 0) 0 ((p0 >>> (24 &&& 31)) &&& 255)) 1 ((p0 >>> (16 &&& 31)) &&& 255)) 2 ((p0 >>> (8 &&& 31)) &&& 255)) 3 ((p0 >>> (0 &&& 31)) &&& 255)) 4 ((p1 >>> (24 &&& 31)) &&& 255)) 5 ((p1 >>> (16 &&& 31)) &&& 255)) 6 ((p1 >>> (8 &&& 31)) &&& 255)) 7 ((p1 >>> (0 &&& 31)) &&& 255)) 8 ((p2 >>> (24 &&& 31)) &&& 255)) 9 ((p2 >>> (16 &&& 31)) &&& 255)) 10 ((p2 >>> (8 &&& 31)) &&& 255)) 11 ((p2 >>> (0 &&& 31)) &&& 255)) 12 ((p3 >>> (24 &&& 31)) &&& 255)) 13 ((p3 >>> (16 &&& 31)) &&& 255)) 14 ((p3 >>> (8 &&& 31)) &&& 255))))]) C0 h 1 14 rfl (by decide) (by decide) (by decide) rfl dX12_feed_104 (fun H locs h => ?_)
  refine lv_aload_n hx hb dX12_feed_105 rfl (lv_at hl 2 rfl) ?_
  refine lv_dup hx hb dX12_feed_106 rfl ?_
  refine g_X12_taped C0 h 0 q_1443 rfl rfl dX12_feed_107 ?_
  refine lv_iconst (v := 1) hx hb dX12_feed_110 (by decide) ?_
  refine lv_iadd hx hb dX12_feed_111 ?_
  refine lv_topi (fun k_113 ek_113 => ?_)
  obtain rfl : k_113 = 15 := ek_113.trans (by decide)
  refine p_X12_taped (ws' := [(o, .inr (12, [.int 0, .ref (r 1), .ref (r 2), .ref (r 3), .ref (r 4), .int 15, .int 0, .int 0, .int 0, .int 0, .int 0, .int 0, .int 0, .int 0, .int (-1), .ref (r 15), .ref (r 16), .int 0, .int 0, .int 0, .ref (r 20), .ref (r 21), .ref (r 22), .ref (r 23), .ref (r 24), .ref (r 25), .int 0, .ref (r 27), .int 0, .ref (r 29), .ref (r 30), .ref (r 31), .ref (r 32), .ref (r 33), .ref (r 34), .int 0, .int 0, .int 0, .ref (r 38), .ref (r 39), .ref (r 40), .ref (r 41), .ref (r 42), .ref (r 43)])), (r 3, .inl (G.2 1, 900, .inl (upd (upd (upd (upd (upd (upd (upd (upd (upd (upd (upd (upd (upd (upd (upd (fun _ => 0) 0 ((p0 >>> (24 &&& 31)) &&& 255)) 1 ((p0 >>> (16 &&& 31)) &&& 255)) 2 ((p0 >>> (8 &&& 31)) &&& 255)) 3 ((p0 >>> (0 &&& 31)) &&& 255)) 4 ((p1 >>> (24 &&& 31)) &&& 255)) 5 ((p1 >>> (16 &&& 31)) &&& 255)) 6 ((p1 >>> (8 &&& 31)) &&& 255)) 7 ((p1 >>> (0 &&& 31)) &&& 255)) 8 ((p2 >>> (24 &&& 31)) &&& 255)) 9 ((p2 >>> (16 &&& 31)) &&& 255)) 10 ((p2 >>> (8 &&& 31)) &&& 255)) 11 ((p2 >>> (0 &&& 31)) &&& 255)) 12 ((p3 >>> (24 &&& 31)) &&& 255)) 13 ((p3 >>> (16 &&& 31)) &&& 255)) 14 ((p3 >>> (8 &&& 31)) &&& 255))))]) C0 h 0 q_1443 rfl (Nat.le_of_ble_eq_true rfl) rfl rfl rfl dX12_feed_112 (fun H locs h => ?_)
  refine lv_iinc (v := 15) (lv' := [(6, .int 15), (7, .int p3), (0, .ref o), (1, .int p0), (2, .int p1), (3, .int p2), (4, .int p3), (5, .int p4)]) hx hb dX12_feed_115 hl (k := 1) rfl (by decide) (by decide) rfl (fun ls hl => ?_)
  refine lv_goto (tgt := 24) hx hb dX12_feed_118 (by decide) ?_
  refine lv_iload hx hb dX12_feed_24 (lv_at hl 0 rfl) ?_
  refine lv_bipush (v := 20) hx hb dX12_feed_26 (by decide) ?_
  refine lv_icmp_ge (tgt := 121) hx hb dX12_feed_28 (by decide) (fun c_114 => absurd c_114 (by decide)) (fun c_114 => ?_)
  refine lv_iload hx hb dX12_feed_31 (lv_at hl 0 rfl) ?_
  refine lv_iconst (v := 4) hx hb dX12_feed_33 (by decide) ?_
  refine lv_icmp_ge (tgt := 41) hx hb dX12_feed_34 (by decide) (fun c_115 => ?_) (fun c_115 => absurd c_115 (by decide))
  refine lv_iload hx hb dX12_feed_41 (lv_at hl 0 rfl) ?_
  refine lv_bipush (v := 8) hx hb dX12_feed_43 (by decide) ?_
  refine lv_icmp_ge (tgt := 52) hx hb dX12_feed_45 (by decide) (fun c_116 => ?_) (fun c_116 => absurd c_116 (by decide))
  refine lv_iload hx hb dX12_feed_52 (lv_at hl 0 rfl) ?_
  refine lv_bipush (v := 12) hx hb dX12_feed_54 (by decide) ?_
  refine lv_icmp_ge (tgt := 63) hx hb dX12_feed_56 (by decide) (fun c_117 => ?_) (fun c_117 => absurd c_117 (by decide))
  refine lv_iload hx hb dX12_feed_63 (lv_at hl 0 rfl) ?_
  refine lv_bipush (v := 16) hx hb dX12_feed_65 (by decide) ?_
  refine lv_icmp_ge (tgt := 75) hx hb dX12_feed_67 (by decide) (fun c_118 => absurd c_118 (by decide)) (fun c_118 => ?_)
  refine lv_iload hx hb dX12_feed_70 (lv_at hl 6 rfl) ?_
  refine lv_goto (tgt := 77) hx hb dX12_feed_72 (by decide) ?_
  refine lv_istore (lv' := [(7, .int p3), (6, .int 15), (0, .ref o), (1, .int p0), (2, .int p1), (3, .int p2), (4, .int p3), (5, .int p4)]) hx hb dX12_feed_77 hl (by decide) rfl (fun ls hl => ?_)
  refine lv_aload_n hx hb dX12_feed_79 rfl (lv_at hl 2 rfl) ?_
  refine g_X12_tape C0 h 0 q_1441 rfl rfl dX12_feed_80 ?_
  refine lv_aload_n hx hb dX12_feed_83 rfl (lv_at hl 2 rfl) ?_
  refine g_X12_taped C0 h 0 q_1443 rfl rfl dX12_feed_84 ?_
  refine lv_iload hx hb dX12_feed_87 (lv_at hl 0 rfl) ?_
  refine lv_bipush (v := 24) hx hb dX12_feed_89 (by decide) ?_
  refine lv_bipush (v := 8) hx hb dX12_feed_91 (by decide) ?_
  refine lv_iload hx hb dX12_feed_93 (lv_at hl 1 rfl) ?_
  refine lv_iconst (v := 4) hx hb dX12_feed_95 (by decide) ?_
  refine lv_irem hx hb dX12_feed_96 (by decide) ?_
  refine lv_topi (fun k_119 ek_119 => ?_)
  obtain rfl : k_119 = 3 := ek_119.trans (by decide)
  refine lv_imul hx hb dX12_feed_97 ?_
  refine lv_topi (fun k_120 ek_120 => ?_)
  obtain rfl : k_120 = 24 := ek_120.trans (by decide)
  refine lv_isub hx hb dX12_feed_98 ?_
  refine lv_topi (fun k_121 ek_121 => ?_)
  obtain rfl : k_121 = 0 := ek_121.trans (by decide)
  refine lv_ishr hx hb dX12_feed_99 ?_
  refine lv_sipush (v := 255) hx hb dX12_feed_100 (by decide) ?_
  refine lv_iand hx hb dX12_feed_103 ?_
  refine m_iast (ws' := [(o, .inr (12, [.int 0, .ref (r 1), .ref (r 2), .ref (r 3), .ref (r 4), .int 15, .int 0, .int 0, .int 0, .int 0, .int 0, .int 0, .int 0, .int 0, .int (-1), .ref (r 15), .ref (r 16), .int 0, .int 0, .int 0, .ref (r 20), .ref (r 21), .ref (r 22), .ref (r 23), .ref (r 24), .ref (r 25), .int 0, .ref (r 27), .int 0, .ref (r 29), .ref (r 30), .ref (r 31), .ref (r 32), .ref (r 33), .ref (r 34), .int 0, .int 0, .int 0, .ref (r 38), .ref (r 39), .ref (r 40), .ref (r 41), .ref (r 42), .ref (r 43)])), (r 3, .inl (G.2 1, 900, .inl (upd (upd (upd (upd (upd (upd (upd (upd (upd (upd (upd (upd (upd (upd (upd (upd (fun _ => 0) 0 ((p0 >>> (24 &&& 31)) &&& 255)) 1 ((p0 >>> (16 &&& 31)) &&& 255)) 2 ((p0 >>> (8 &&& 31)) &&& 255)) 3 ((p0 >>> (0 &&& 31)) &&& 255)) 4 ((p1 >>> (24 &&& 31)) &&& 255)) 5 ((p1 >>> (16 &&& 31)) &&& 255)) 6 ((p1 >>> (8 &&& 31)) &&& 255)) 7 ((p1 >>> (0 &&& 31)) &&& 255)) 8 ((p2 >>> (24 &&& 31)) &&& 255)) 9 ((p2 >>> (16 &&& 31)) &&& 255)) 10 ((p2 >>> (8 &&& 31)) &&& 255)) 11 ((p2 >>> (0 &&& 31)) &&& 255)) 12 ((p3 >>> (24 &&& 31)) &&& 255)) 13 ((p3 >>> (16 &&& 31)) &&& 255)) 14 ((p3 >>> (8 &&& 31)) &&& 255)) 15 ((p3 >>> (0 &&& 31)) &&& 255))))]) C0 h 1 15 rfl (by decide) (by decide) (by decide) rfl dX12_feed_104 (fun H locs h => ?_)
  refine lv_aload_n hx hb dX12_feed_105 rfl (lv_at hl 2 rfl) ?_
  refine lv_dup hx hb dX12_feed_106 rfl ?_
  refine g_X12_taped C0 h 0 q_1443 rfl rfl dX12_feed_107 ?_
  refine lv_iconst (v := 1) hx hb dX12_feed_110 (by decide) ?_
  refine lv_iadd hx hb dX12_feed_111 ?_
  refine lv_topi (fun k_122 ek_122 => ?_)
  obtain rfl : k_122 = 16 := ek_122.trans (by decide)
  refine p_X12_taped (ws' := [(o, .inr (12, [.int 0, .ref (r 1), .ref (r 2), .ref (r 3), .ref (r 4), .int 16, .int 0, .int 0, .int 0, .int 0, .int 0, .int 0, .int 0, .int 0, .int (-1), .ref (r 15), .ref (r 16), .int 0, .int 0, .int 0, .ref (r 20), .ref (r 21), .ref (r 22), .ref (r 23), .ref (r 24), .ref (r 25), .int 0, .ref (r 27), .int 0, .ref (r 29), .ref (r 30), .ref (r 31), .ref (r 32), .ref (r 33), .ref (r 34), .int 0, .int 0, .int 0, .ref (r 38), .ref (r 39), .ref (r 40), .ref (r 41), .ref (r 42), .ref (r 43)])), (r 3, .inl (G.2 1, 900, .inl (upd (upd (upd (upd (upd (upd (upd (upd (upd (upd (upd (upd (upd (upd (upd (upd (fun _ => 0) 0 ((p0 >>> (24 &&& 31)) &&& 255)) 1 ((p0 >>> (16 &&& 31)) &&& 255)) 2 ((p0 >>> (8 &&& 31)) &&& 255)) 3 ((p0 >>> (0 &&& 31)) &&& 255)) 4 ((p1 >>> (24 &&& 31)) &&& 255)) 5 ((p1 >>> (16 &&& 31)) &&& 255)) 6 ((p1 >>> (8 &&& 31)) &&& 255)) 7 ((p1 >>> (0 &&& 31)) &&& 255)) 8 ((p2 >>> (24 &&& 31)) &&& 255)) 9 ((p2 >>> (16 &&& 31)) &&& 255)) 10 ((p2 >>> (8 &&& 31)) &&& 255)) 11 ((p2 >>> (0 &&& 31)) &&& 255)) 12 ((p3 >>> (24 &&& 31)) &&& 255)) 13 ((p3 >>> (16 &&& 31)) &&& 255)) 14 ((p3 >>> (8 &&& 31)) &&& 255)) 15 ((p3 >>> (0 &&& 31)) &&& 255))))]) C0 h 0 q_1443 rfl (Nat.le_of_ble_eq_true rfl) rfl rfl rfl dX12_feed_112 (fun H locs h => ?_)
  refine lv_iinc (v := 16) (lv' := [(6, .int 16), (7, .int p3), (0, .ref o), (1, .int p0), (2, .int p1), (3, .int p2), (4, .int p3), (5, .int p4)]) hx hb dX12_feed_115 hl (k := 1) rfl (by decide) (by decide) rfl (fun ls hl => ?_)
  refine lv_goto (tgt := 24) hx hb dX12_feed_118 (by decide) ?_
  refine lv_iload hx hb dX12_feed_24 (lv_at hl 0 rfl) ?_
  refine lv_bipush (v := 20) hx hb dX12_feed_26 (by decide) ?_
  refine lv_icmp_ge (tgt := 121) hx hb dX12_feed_28 (by decide) (fun c_123 => absurd c_123 (by decide)) (fun c_123 => ?_)
  refine lv_iload hx hb dX12_feed_31 (lv_at hl 0 rfl) ?_
  refine lv_iconst (v := 4) hx hb dX12_feed_33 (by decide) ?_
  refine lv_icmp_ge (tgt := 41) hx hb dX12_feed_34 (by decide) (fun c_124 => ?_) (fun c_124 => absurd c_124 (by decide))
  refine lv_iload hx hb dX12_feed_41 (lv_at hl 0 rfl) ?_
  refine lv_bipush (v := 8) hx hb dX12_feed_43 (by decide) ?_
  refine lv_icmp_ge (tgt := 52) hx hb dX12_feed_45 (by decide) (fun c_125 => ?_) (fun c_125 => absurd c_125 (by decide))
  refine lv_iload hx hb dX12_feed_52 (lv_at hl 0 rfl) ?_
  refine lv_bipush (v := 12) hx hb dX12_feed_54 (by decide) ?_
  refine lv_icmp_ge (tgt := 63) hx hb dX12_feed_56 (by decide) (fun c_126 => ?_) (fun c_126 => absurd c_126 (by decide))
  refine lv_iload hx hb dX12_feed_63 (lv_at hl 0 rfl) ?_
  refine lv_bipush (v := 16) hx hb dX12_feed_65 (by decide) ?_
  refine lv_icmp_ge (tgt := 75) hx hb dX12_feed_67 (by decide) (fun c_127 => ?_) (fun c_127 => absurd c_127 (by decide))
  refine lv_iload hx hb dX12_feed_75 (lv_at hl 7 rfl) ?_
  refine lv_istore (lv' := [(7, .int p4), (6, .int 16), (0, .ref o), (1, .int p0), (2, .int p1), (3, .int p2), (4, .int p3), (5, .int p4)]) hx hb dX12_feed_77 hl (by decide) rfl (fun ls hl => ?_)
  refine lv_aload_n hx hb dX12_feed_79 rfl (lv_at hl 2 rfl) ?_
  refine g_X12_tape C0 h 0 q_1441 rfl rfl dX12_feed_80 ?_
  refine lv_aload_n hx hb dX12_feed_83 rfl (lv_at hl 2 rfl) ?_
  refine g_X12_taped C0 h 0 q_1443 rfl rfl dX12_feed_84 ?_
  refine lv_iload hx hb dX12_feed_87 (lv_at hl 0 rfl) ?_
  refine lv_bipush (v := 24) hx hb dX12_feed_89 (by decide) ?_
  refine lv_bipush (v := 8) hx hb dX12_feed_91 (by decide) ?_
  refine lv_iload hx hb dX12_feed_93 (lv_at hl 1 rfl) ?_
  refine lv_iconst (v := 4) hx hb dX12_feed_95 (by decide) ?_
  refine lv_irem hx hb dX12_feed_96 (by decide) ?_
  refine lv_topi (fun k_128 ek_128 => ?_)
  obtain rfl : k_128 = 0 := ek_128.trans (by decide)
  refine lv_imul hx hb dX12_feed_97 ?_
  refine lv_topi (fun k_129 ek_129 => ?_)
  obtain rfl : k_129 = 0 := ek_129.trans (by decide)
  refine lv_isub hx hb dX12_feed_98 ?_
  refine lv_topi (fun k_130 ek_130 => ?_)
  obtain rfl : k_130 = 24 := ek_130.trans (by decide)
  refine lv_ishr hx hb dX12_feed_99 ?_
  refine lv_sipush (v := 255) hx hb dX12_feed_100 (by decide) ?_
  refine lv_iand hx hb dX12_feed_103 ?_
  refine m_iast (ws' := [(o, .inr (12, [.int 0, .ref (r 1), .ref (r 2), .ref (r 3), .ref (r 4), .int 16, .int 0, .int 0, .int 0, .int 0, .int 0, .int 0, .int 0, .int 0, .int (-1), .ref (r 15), .ref (r 16), .int 0, .int 0, .int 0, .ref (r 20), .ref (r 21), .ref (r 22), .ref (r 23), .ref (r 24), .ref (r 25), .int 0, .ref (r 27), .int 0, .ref (r 29), .ref (r 30), .ref (r 31), .ref (r 32), .ref (r 33), .ref (r 34), .int 0, .int 0, .int 0, .ref (r 38), .ref (r 39), .ref (r 40), .ref (r 41), .ref (r 42), .ref (r 43)])), (r 3, .inl (G.2 1, 900, .inl (upd (upd (upd (upd (upd (upd (upd (upd (upd (upd (upd (upd (upd (upd (upd (upd (upd (fun _ => 0) 0 ((p0 >>> (24 &&& 31)) &&& 255)) 1 ((p0 >>> (16 &&& 31)) &&& 255)) 2 ((p0 >>> (8 &&& 31)) &&& 255)) 3 ((p0 >>> (0 &&& 31)) &&& 255)) 4 ((p1 >>> (24 &&& 31)) &&& 255)) 5 ((p1 >>> (16 &&& 31)) &&& 255)) 6 ((p1 >>> (8 &&& 31)) &&& 255)) 7 ((p1 >>> (0 &&& 31)) &&& 255)) 8 ((p2 >>> (24 &&& 31)) &&& 255)) 9 ((p2 >>> (16 &&& 31)) &&& 255)) 10 ((p2 >>> (8 &&& 31)) &&& 255)) 11 ((p2 >>> (0 &&& 31)) &&& 255)) 12 ((p3 >>> (24 &&& 31)) &&& 255)) 13 ((p3 >>> (16 &&& 31)) &&& 255)) 14 ((p3 >>> (8 &&& 31)) &&& 255)) 15 ((p3 >>> (0 &&& 31)) &&& 255)) 16 ((p4 >>> (24 &&& 31)) &&& 255))))]) C0 h 1 16 rfl (by decide) (by decide) (by decide) rfl dX12_feed_104 (fun H locs h => ?_)
  refine lv_aload_n hx hb dX12_feed_105 rfl (lv_at hl 2 rfl) ?_
  refine lv_dup hx hb dX12_feed_106 rfl ?_
  refine g_X12_taped C0 h 0 q_1443 rfl rfl dX12_feed_107 ?_
  refine lv_iconst (v := 1) hx hb dX12_feed_110 (by decide) ?_
  refine lv_iadd hx hb dX12_feed_111 ?_
  refine lv_topi (fun k_131 ek_131 => ?_)
  obtain rfl : k_131 = 17 := ek_131.trans (by decide)
  refine p_X12_taped (ws' := [(o, .inr (12, [.int 0, .ref (r 1), .ref (r 2), .ref (r 3), .ref (r 4), .int 17, .int 0, .int 0, .int 0, .int 0, .int 0, .int 0, .int 0, .int 0, .int (-1), .ref (r 15), .ref (r 16), .int 0, .int 0, .int 0, .ref (r 20), .ref (r 21), .ref (r 22), .ref (r 23), .ref (r 24), .ref (r 25), .int 0, .ref (r 27), .int 0, .ref (r 29), .ref (r 30), .ref (r 31), .ref (r 32), .ref (r 33), .ref (r 34), .int 0, .int 0, .int 0, .ref (r 38), .ref (r 39), .ref (r 40), .ref (r 41), .ref (r 42), .ref (r 43)])), (r 3, .inl (G.2 1, 900, .inl (upd (upd (upd (upd (upd (upd (upd (upd (upd (upd (upd (upd (upd (upd (upd (upd (upd (fun _ => 0) 0 ((p0 >>> (24 &&& 31)) &&& 255)) 1 ((p0 >>> (16 &&& 31)) &&& 255)) 2 ((p0 >>> (8 &&& 31)) &&& 255)) 3 ((p0 >>> (0 &&& 31)) &&& 255)) 4 ((p1 >>> (24 &&& 31)) &&& 255)) 5 ((p1 >>> (16 &&& 31)) &&& 255)) 6 ((p1 >>> (8 &&& 31)) &&& 255)) 7 ((p1 >>> (0 &&& 31)) &&& 255)) 8 ((p2 >>> (24 &&& 31)) &&& 255)) 9 ((p2 >>> (16 &&& 31)) &&& 255)) 10 ((p2 >>> (8 &&& 31)) &&& 255)) 11 ((p2 >>> (0 &&& 31)) &&& 255)) 12 ((p3 >>> (24 &&& 31)) &&& 255)) 13 ((p3 >>> (16 &&& 31)) &&& 255)) 14 ((p3 >>> (8 &&& 31)) &&& 255)) 15 ((p3 >>> (0 &&& 31)) &&& 255)) 16 ((p4 >>> (24 &&& 31)) &&& 255))))]) C0 h 0 q_1443 rfl (Nat.le_of_ble_eq_true rfl) rfl rfl rfl dX12_feed_112 (fun H locs h => ?_)
  refine lv_iinc (v := 17) (lv' := [(6, .int 17), (7, .int p4), (0, .ref o), (1, .int p0), (2, .int p1), (3, .int p2), (4, .int p3), (5, .int p4)]) hx hb dX12_feed_115 hl (k := 1) rfl (by decide) (by decide) rfl (fun ls hl => ?_)
  refine lv_goto (tgt := 24) hx hb dX12_feed_118 (by decide) ?_
  refine lv_iload hx hb dX12_feed_24 (lv_at hl 0 rfl) ?_
  refine lv_bipush (v := 20) hx hb dX12_feed_26 (by decide) ?_
  refine lv_icmp_ge (tgt := 121) hx hb dX12_feed_28 (by decide) (fun c_132 => absurd c_132 (by decide)) (fun c_132 => ?_)
  refine lv_iload hx hb dX12_feed_31 (lv_at hl 0 rfl) ?_
  refine lv_iconst (v := 4) hx hb dX12_feed_33 (by decide) ?_
  refine lv_icmp_ge (tgt := 41) hx hb dX12_feed_34 (by decide) (fun c_133 => ?_) (fun c_133 => absurd c_133 (by decide))
  refine lv_iload hx hb dX12_feed_41 (lv_at hl 0 rfl) ?_
  refine lv_bipush (v := 8) hx hb dX12_feed_43 (by decide) ?_
  refine lv_icmp_ge (tgt := 52) hx hb dX12_feed_45 (by decide) (fun c_134 => ?_) (fun c_134 => absurd c_134 (by decide))
  refine lv_iload hx hb dX12_feed_52 (lv_at hl 0 rfl) ?_
  refine lv_bipush (v := 12) hx hb dX12_feed_54 (by decide) ?_
  refine lv_icmp_ge (tgt := 63) hx hb dX12_feed_56 (by decide) (fun c_135 => ?_) (fun c_135 => absurd c_135 (by decide))
  refine lv_iload hx hb dX12_feed_63 (lv_at hl 0 rfl) ?_
  refine lv_bipush (v := 16) hx hb dX12_feed_65 (by decide) ?_
  refine lv_icmp_ge (tgt := 75) hx hb dX12_feed_67 (by decide) (fun c_136 => ?_) (fun c_136 => absurd c_136 (by decide))
  refine lv_iload hx hb dX12_feed_75 (lv_at hl 7 rfl) ?_
  refine lv_istore (lv' := [(7, .int p4), (6, .int 17), (0, .ref o), (1, .int p0), (2, .int p1), (3, .int p2), (4, .int p3), (5, .int p4)]) hx hb dX12_feed_77 hl (by decide) rfl (fun ls hl => ?_)
  refine lv_aload_n hx hb dX12_feed_79 rfl (lv_at hl 2 rfl) ?_
  refine g_X12_tape C0 h 0 q_1441 rfl rfl dX12_feed_80 ?_
  refine lv_aload_n hx hb dX12_feed_83 rfl (lv_at hl 2 rfl) ?_
  refine g_X12_taped C0 h 0 q_1443 rfl rfl dX12_feed_84 ?_
  refine lv_iload hx hb dX12_feed_87 (lv_at hl 0 rfl) ?_
  refine lv_bipush (v := 24) hx hb dX12_feed_89 (by decide) ?_
  refine lv_bipush (v := 8) hx hb dX12_feed_91 (by decide) ?_
  refine lv_iload hx hb dX12_feed_93 (lv_at hl 1 rfl) ?_
  refine lv_iconst (v := 4) hx hb dX12_feed_95 (by decide) ?_
  refine lv_irem hx hb dX12_feed_96 (by decide) ?_
  refine lv_topi (fun k_137 ek_137 => ?_)
  obtain rfl : k_137 = 1 := ek_137.trans (by decide)
  refine lv_imul hx hb dX12_feed_97 ?_
  refine lv_topi (fun k_138 ek_138 => ?_)
  obtain rfl : k_138 = 8 := ek_138.trans (by decide)
  refine lv_isub hx hb dX12_feed_98 ?_
  refine lv_topi (fun k_139 ek_139 => ?_)
  obtain rfl : k_139 = 16 := ek_139.trans (by decide)
  refine lv_ishr hx hb dX12_feed_99 ?_
  refine lv_sipush (v := 255) hx hb dX12_feed_100 (by decide) ?_
  refine lv_iand hx hb dX12_feed_103 ?_
  refine m_iast (ws' := [(o, .inr (12, [.int 0, .ref (r 1), .ref (r 2), .ref (r 3), .ref (r 4), .int 17, .int 0, .int 0, .int 0, .int 0, .int 0, .int 0, .int 0, .int 0, .int (-1), .ref (r 15), .ref (r 16), .int 0, .int 0, .int 0, .ref (r 20), .ref (r 21), .ref (r 22), .ref (r 23), .ref (r 24), .ref (r 25), .int 0, .ref (r 27), .int 0, .ref (r 29), .ref (r 30), .ref (r 31), .ref (r 32), .ref (r 33), .ref (r 34), .int 0, .int 0, .int 0, .ref (r 38), .ref (r 39), .ref (r 40), .ref (r 41), .ref (r 42), .ref (r 43)])), (r 3, .inl (G.2 1, 900, .inl (upd (upd (upd (upd (upd (upd (upd (upd (upd (upd (upd (upd (upd (upd (upd (upd (upd (upd (fun _ => 0) 0 ((p0 >>> (24 &&& 31)) &&& 255)) 1 ((p0 >>> (16 &&& 31)) &&& 255)) 2 ((p0 >>> (8 &&& 31)) &&& 255)) 3 ((p0 >>> (0 &&& 31)) &&& 255)) 4 ((p1 >>> (24 &&& 31)) &&& 255)) 5 ((p1 >>> (16 &&& 31)) &&& 255)) 6 ((p1 >>> (8 &&& 31)) &&& 255)) 7 ((p1 >>> (0 &&& 31)) &&& 255)) 8 ((p2 >>> (24 &&& 31)) &&& 255)) 9 ((p2 >>> (16 &&& 31)) &&& 255)) 10 ((p2 >>> (8 &&& 31)) &&& 255)) 11 ((p2 >>> (0 &&& 31)) &&& 255)) 12 ((p3 >>> (24 &&& 31)) &&& 255)) 13 ((p3 >>> (16 &&& 31)) &&& 255)) 14 ((p3 >>> (8 &&& 31)) &&& 255)) 15 ((p3 >>> (0 &&& 31)) &&& 255)) 16 ((p4 >>> (24 &&& 31)) &&& 255)) 17 ((p4 >>> (16 &&& 31)) &&& 255))))]) C0 h 1 17 rfl (by decide) (by decide) (by decide) rfl dX12_feed_104 (fun H locs h => ?_)
  refine lv_aload_n hx hb dX12_feed_105 rfl (lv_at hl 2 rfl) ?_
  refine lv_dup hx hb dX12_feed_106 rfl ?_
  refine g_X12_taped C0 h 0 q_1443 rfl rfl dX12_feed_107 ?_
  refine lv_iconst (v := 1) hx hb dX12_feed_110 (by decide) ?_
  refine lv_iadd hx hb dX12_feed_111 ?_
  refine lv_topi (fun k_140 ek_140 => ?_)
  obtain rfl : k_140 = 18 := ek_140.trans (by decide)
  refine p_X12_taped (ws' := [(o, .inr (12, [.int 0, .ref (r 1), .ref (r 2), .ref (r 3), .ref (r 4), .int 18, .int 0, .int 0, .int 0, .int 0, .int 0, .int 0, .int 0, .int 0, .int (-1), .ref (r 15), .ref (r 16), .int 0, .int 0, .int 0, .ref (r 20), .ref (r 21), .ref (r 22), .ref (r 23), .ref (r 24), .ref (r 25), .int 0, .ref (r 27), .int 0, .ref (r 29), .ref (r 30), .ref (r 31), .ref (r 32), .ref (r 33), .ref (r 34), .int 0, .int 0, .int 0, .ref (r 38), .ref (r 39), .ref (r 40), .ref (r 41), .ref (r 42), .ref (r 43)])), (r 3, .inl (G.2 1, 900, .inl (upd (upd (upd (upd (upd (upd (upd (upd (upd (upd (upd (upd (upd (upd (upd (upd (upd (upd (fun _ => 0) 0 ((p0 >>> (24 &&& 31)) &&& 255)) 1 ((p0 >>> (16 &&& 31)) &&& 255)) 2 ((p0 >>> (8 &&& 31)) &&& 255)) 3 ((p0 >>> (0 &&& 31)) &&& 255)) 4 ((p1 >>> (24 &&& 31)) &&& 255)) 5 ((p1 >>> (16 &&& 31)) &&& 255)) 6 ((p1 >>> (8 &&& 31)) &&& 255)) 7 ((p1 >>> (0 &&& 31)) &&& 255)) 8 ((p2 >>> (24 &&& 31)) &&& 255)) 9 ((p2 >>> (16 &&& 31)) &&& 255)) 10 ((p2 >>> (8 &&& 31)) &&& 255)) 11 ((p2 >>> (0 &&& 31)) &&& 255)) 12 ((p3 >>> (24 &&& 31)) &&& 255)) 13 ((p3 >>> (16 &&& 31)) &&& 255)) 14 ((p3 >>> (8 &&& 31)) &&& 255)) 15 ((p3 >>> (0 &&& 31)) &&& 255)) 16 ((p4 >>> (24 &&& 31)) &&& 255)) 17 ((p4 >>> (16 &&& 31)) &&& 255))))]) C0 h 0 q_1443 rfl (Nat.le_of_ble_eq_true rfl) rfl rfl rfl dX12_feed_112 (fun H locs h => ?_)
  refine lv_iinc (v := 18) (lv' := [(6, .int 18), (7, .int p4), (0, .ref o), (1, .int p0), (2, .int p1), (3, .int p2), (4, .int p3), (5, .int p4)]) hx hb dX12_feed_115 hl (k := 1) rfl (by decide) (by decide) rfl (fun ls hl => ?_)
  refine lv_goto (tgt := 24) hx hb dX12_feed_118 (by decide) ?_
  refine lv_iload hx hb dX12_feed_24 (lv_at hl 0 rfl) ?_
  refine lv_bipush (v := 20) hx hb dX12_feed_26 (by decide) ?_
  refine lv_icmp_ge (tgt := 121) hx hb dX12_feed_28 (by decide) (fun c_141 => absurd c_141 (by decide)) (fun c_141 => ?_)
  refine lv_iload hx hb dX12_feed_31 (lv_at hl 0 rfl) ?_
  refine lv_iconst (v := 4) hx hb dX12_feed_33 (by decide) ?_
  refine lv_icmp_ge (tgt := 41) hx hb dX12_feed_34 (by decide) (fun c_142 => ?_) (fun c_142 => absurd c_142 (by decide))
  refine lv_iload hx hb dX12_feed_41 (lv_at hl 0 rfl) ?_
  refine lv_bipush (v := 8) hx hb dX12_feed_43 (by decide) ?_
  refine lv_icmp_ge (tgt := 52) hx hb dX12_feed_45 (by decide) (fun c_143 => ?_) (fun c_143 => absurd c_143 (by decide))
  refine lv_iload hx hb dX12_feed_52 (lv_at hl 0 rfl) ?_
  refine lv_bipush (v := 12) hx hb dX12_feed_54 (by decide) ?_
  refine lv_icmp_ge (tgt := 63) hx hb dX12_feed_56 (by decide) (fun c_144 => ?_) (fun c_144 => absurd c_144 (by decide))
  refine lv_iload hx hb dX12_feed_63 (lv_at hl 0 rfl) ?_
  refine lv_bipush (v := 16) hx hb dX12_feed_65 (by decide) ?_
  refine lv_icmp_ge (tgt := 75) hx hb dX12_feed_67 (by decide) (fun c_145 => ?_) (fun c_145 => absurd c_145 (by decide))
  refine lv_iload hx hb dX12_feed_75 (lv_at hl 7 rfl) ?_
  refine lv_istore (lv' := [(7, .int p4), (6, .int 18), (0, .ref o), (1, .int p0), (2, .int p1), (3, .int p2), (4, .int p3), (5, .int p4)]) hx hb dX12_feed_77 hl (by decide) rfl (fun ls hl => ?_)
  refine lv_aload_n hx hb dX12_feed_79 rfl (lv_at hl 2 rfl) ?_
  refine g_X12_tape C0 h 0 q_1441 rfl rfl dX12_feed_80 ?_
  refine lv_aload_n hx hb dX12_feed_83 rfl (lv_at hl 2 rfl) ?_
  refine g_X12_taped C0 h 0 q_1443 rfl rfl dX12_feed_84 ?_
  refine lv_iload hx hb dX12_feed_87 (lv_at hl 0 rfl) ?_
  refine lv_bipush (v := 24) hx hb dX12_feed_89 (by decide) ?_
  refine lv_bipush (v := 8) hx hb dX12_feed_91 (by decide) ?_
  refine lv_iload hx hb dX12_feed_93 (lv_at hl 1 rfl) ?_
  refine lv_iconst (v := 4) hx hb dX12_feed_95 (by decide) ?_
  refine lv_irem hx hb dX12_feed_96 (by decide) ?_
  refine lv_topi (fun k_146 ek_146 => ?_)
  obtain rfl : k_146 = 2 := ek_146.trans (by decide)
  refine lv_imul hx hb dX12_feed_97 ?_
  refine lv_topi (fun k_147 ek_147 => ?_)
  obtain rfl : k_147 = 16 := ek_147.trans (by decide)
  refine lv_isub hx hb dX12_feed_98 ?_
  refine lv_topi (fun k_148 ek_148 => ?_)
  obtain rfl : k_148 = 8 := ek_148.trans (by decide)
  refine lv_ishr hx hb dX12_feed_99 ?_
  refine lv_sipush (v := 255) hx hb dX12_feed_100 (by decide) ?_
  refine lv_iand hx hb dX12_feed_103 ?_
  refine m_iast (ws' := [(o, .inr (12, [.int 0, .ref (r 1), .ref (r 2), .ref (r 3), .ref (r 4), .int 18, .int 0, .int 0, .int 0, .int 0, .int 0, .int 0, .int 0, .int 0, .int (-1), .ref (r 15), .ref (r 16), .int 0, .int 0, .int 0, .ref (r 20), .ref (r 21), .ref (r 22), .ref (r 23), .ref (r 24), .ref (r 25), .int 0, .ref (r 27), .int 0, .ref (r 29), .ref (r 30), .ref (r 31), .ref (r 32), .ref (r 33), .ref (r 34), .int 0, .int 0, .int 0, .ref (r 38), .ref (r 39), .ref (r 40), .ref (r 41), .ref (r 42), .ref (r 43)])), (r 3, .inl (G.2 1, 900, .inl (upd (upd (upd (upd (upd (upd (upd (upd (upd (upd (upd (upd (upd (upd (upd (upd (upd (upd (upd (fun _ => 0) 0 ((p0 >>> (24 &&& 31)) &&& 255)) 1 ((p0 >>> (16 &&& 31)) &&& 255)) 2 ((p0 >>> (8 &&& 31)) &&& 255)) 3 ((p0 >>> (0 &&& 31)) &&& 255)) 4 ((p1 >>> (24 &&& 31)) &&& 255)) 5 ((p1 >>> (16 &&& 31)) &&& 255)) 6 ((p1 >>> (8 &&& 31)) &&& 255)) 7 ((p1 >>> (0 &&& 31)) &&& 255)) 8 ((p2 >>> (24 &&& 31)) &&& 255)) 9 ((p2 >>> (16 &&& 31)) &&& 255)) 10 ((p2 >>> (8 &&& 31)) &&& 255)) 11 ((p2 >>> (0 &&& 31)) &&& 255)) 12 ((p3 >>> (24 &&& 31)) &&& 255)) 13 ((p3 >>> (16 &&& 31)) &&& 255)) 14 ((p3 >>> (8 &&& 31)) &&& 255)) 15 ((p3 >>> (0 &&& 31)) &&& 255)) 16 ((p4 >>> (24 &&& 31)) &&& 255)) 17 ((p4 >>> (16 &&& 31)) &&& 255)) 18 ((p4 >>> (8 &&& 31)) &&& 255))))]) C0 h 1 18 rfl (by decide) (by decide) (by decide) rfl dX12_feed_104 (fun H locs h => ?_)
  refine lv_aload_n hx hb dX12_feed_105 rfl (lv_at hl 2 rfl) ?_
  refine lv_dup hx hb dX12_feed_106 rfl ?_
  refine g_X12_taped C0 h 0 q_1443 rfl rfl dX12_feed_107 ?_
  refine lv_iconst (v := 1) hx hb dX12_feed_110 (by decide) ?_
  refine lv_iadd hx hb dX12_feed_111 ?_
  refine lv_topi (fun k_149 ek_149 => ?_)
  obtain rfl : k_149 = 19 := ek_149.trans (by decide)
  refine p_X12_taped (ws' := [(o, .inr (12, [.int 0, .ref (r 1), .ref (r 2), .ref (r 3), .ref (r 4), .int 19, .int 0, .int 0, .int 0, .int 0, .int 0, .int 0, .int 0, .int 0, .int (-1), .ref (r 15), .ref (r 16), .int 0, .int 0, .int 0, .ref (r 20), .ref (r 21), .ref (r 22), .ref (r 23), .ref (r 24), .ref (r 25), .int 0, .ref (r 27), .int 0, .ref (r 29), .ref (r 30), .ref (r 31), .ref (r 32), .ref (r 33), .ref (r 34), .int 0, .int 0, .int 0, .ref (r 38), .ref (r 39), .ref (r 40), .ref (r 41), .ref (r 42), .ref (r 43)])), (r 3, .inl (G.2 1, 900, .inl (upd (upd (upd (upd (upd (upd (upd (upd (upd (upd (upd (upd (upd (upd (upd (upd (upd (upd (upd (fun _ => 0) 0 ((p0 >>> (24 &&& 31)) &&& 255)) 1 ((p0 >>> (16 &&& 31)) &&& 255)) 2 ((p0 >>> (8 &&& 31)) &&& 255)) 3 ((p0 >>> (0 &&& 31)) &&& 255)) 4 ((p1 >>> (24 &&& 31)) &&& 255)) 5 ((p1 >>> (16 &&& 31)) &&& 255)) 6 ((p1 >>> (8 &&& 31)) &&& 255)) 7 ((p1 >>> (0 &&& 31)) &&& 255)) 8 ((p2 >>> (24 &&& 31)) &&& 255)) 9 ((p2 >>> (16 &&& 31)) &&& 255)) 10 ((p2 >>> (8 &&& 31)) &&& 255)) 11 ((p2 >>> (0 &&& 31)) &&& 255)) 12 ((p3 >>> (24 &&& 31)) &&& 255)) 13 ((p3 >>> (16 &&& 31)) &&& 255)) 14 ((p3 >>> (8 &&& 31)) &&& 255)) 15 ((p3 >>> (0 &&& 31)) &&& 255)) 16 ((p4 >>> (24 &&& 31)) &&& 255)) 17 ((p4 >>> (16 &&& 31)) &&& 255)) 18 ((p4 >>> (8 &&& 31)) &&& 255))))]) C0 h 0 q_1443 rfl (Nat.le_of_ble_eq_true rfl) rfl rfl rfl dX12_feed_112 (fun H locs h => ?_)
  refine lv_iinc (v := 19) (lv' := [(6, .int 19), (7, .int p4), (0, .ref o), (1, .int p0), (2, .int p1), (3, .int p2), (4, .int p3), (5, .int p4)]) hx hb dX12_feed_115 hl (k := 1) rfl (by decide) (by decide) rfl (fun ls hl => ?_)
  refine lv_goto (tgt := 24) hx hb dX12_feed_118 (by decide) ?_
  refine lv_iload hx hb dX12_feed_24 (lv_at hl 0 rfl) ?_
  refine lv_bipush (v := 20) hx hb dX12_feed_26 (by decide) ?_
  refine lv_icmp_ge (tgt := 121) hx hb dX12_feed_28 (by decide) (fun c_150 => absurd c_150 (by decide)) (fun c_150 => ?_)
  refine lv_iload hx hb dX12_feed_31 (lv_at hl 0 rfl) ?_
  refine lv_iconst (v := 4) hx hb dX12_feed_33 (by decide) ?_
  refine lv_icmp_ge (tgt := 41) hx hb dX12_feed_34 (by decide) (fun c_151 => ?_) (fun c_151 => absurd c_151 (by decide))
  refine lv_iload hx hb dX12_feed_41 (lv_at hl 0 rfl) ?_
  refine lv_bipush (v := 8) hx hb dX12_feed_43 (by decide) ?_
  refine lv_icmp_ge (tgt := 52) hx hb dX12_feed_45 (by decide) (fun c_152 => ?_) (fun c_152 => absurd c_152 (by decide))
  refine lv_iload hx hb dX12_feed_52 (lv_at hl 0 rfl) ?_
  refine lv_bipush (v := 12) hx hb dX12_feed_54 (by decide) ?_
  refine lv_icmp_ge (tgt := 63) hx hb dX12_feed_56 (by decide) (fun c_153 => ?_) (fun c_153 => absurd c_153 (by decide))
  refine lv_iload hx hb dX12_feed_63 (lv_at hl 0 rfl) ?_
  refine lv_bipush (v := 16) hx hb dX12_feed_65 (by decide) ?_
  refine lv_icmp_ge (tgt := 75) hx hb dX12_feed_67 (by decide) (fun c_154 => ?_) (fun c_154 => absurd c_154 (by decide))
  refine lv_iload hx hb dX12_feed_75 (lv_at hl 7 rfl) ?_
  refine lv_istore (lv' := [(7, .int p4), (6, .int 19), (0, .ref o), (1, .int p0), (2, .int p1), (3, .int p2), (4, .int p3), (5, .int p4)]) hx hb dX12_feed_77 hl (by decide) rfl (fun ls hl => ?_)
  refine lv_aload_n hx hb dX12_feed_79 rfl (lv_at hl 2 rfl) ?_
  refine g_X12_tape C0 h 0 q_1441 rfl rfl dX12_feed_80 ?_
  refine lv_aload_n hx hb dX12_feed_83 rfl (lv_at hl 2 rfl) ?_
  refine g_X12_taped C0 h 0 q_1443 rfl rfl dX12_feed_84 ?_
  refine lv_iload hx hb dX12_feed_87 (lv_at hl 0 rfl) ?_
  refine lv_bipush (v := 24) hx hb dX12_feed_89 (by decide) ?_
  refine lv_bipush (v := 8) hx hb dX12_feed_91 (by decide) ?_
  refine lv_iload hx hb dX12_feed_93 (lv_at hl 1 rfl) ?_
  refine lv_iconst (v := 4) hx hb dX12_feed_95 (by decide) ?_
  refine lv_irem hx hb dX12_feed_96 (by decide) ?_
  refine lv_topi (fun k_155 ek_155 => ?_)
  obtain rfl : k_155 = 3 := ek_155.trans (by decide)
  refine lv_imul hx hb dX12_feed_97 ?_
  refine lv_topi (fun k_156 ek_156 => ?_)
  obtain rfl : k_156 = 24 := ek_156.trans (by decide)
  refine lv_isub hx hb dX12_feed_98 ?_
  refine lv_topi (fun k_157 ek_157 => ?_)
  obtain rfl : k_157 = 0 := ek_157.trans (by decide)
  refine lv_ishr hx hb dX12_feed_99 ?_
  refine lv_sipush (v := 255) hx hb dX12_feed_100 (by decide) ?_
  refine lv_iand hx hb dX12_feed_103 ?_
  refine m_iast (ws' := [(o, .inr (12, [.int 0, .ref (r 1), .ref (r 2), .ref (r 3), .ref (r 4), .int 19, .int 0, .int 0, .int 0, .int 0, .int 0, .int 0, .int 0, .int 0, .int (-1), .ref (r 15), .ref (r 16), .int 0, .int 0, .int 0, .ref (r 20), .ref (r 21), .ref (r 22), .ref (r 23), .ref (r 24), .ref (r 25), .int 0, .ref (r 27), .int 0, .ref (r 29), .ref (r 30), .ref (r 31), .ref (r 32), .ref (r 33), .ref (r 34), .int 0, .int 0, .int 0, .ref (r 38), .ref (r 39), .ref (r 40), .ref (r 41), .ref (r 42), .ref (r 43)])), (r 3, .inl (G.2 1, 900, .inl (upd (upd (upd (upd (upd (upd (upd (upd (upd (upd (upd (upd (upd (upd (upd (upd (upd (upd (upd (upd (fun _ => 0) 0 ((p0 >>> (24 &&& 31)) &&& 255)) 1 ((p0 >>> (16 &&& 31)) &&& 255)) 2 ((p0 >>> (8 &&& 31)) &&& 255)) 3 ((p0 >>> (0 &&& 31)) &&& 255)) 4 ((p1 >>> (24 &&& 31)) &&& 255)) 5 ((p1 >>> (16 &&& 31)) &&& 255)) 6 ((p1 >>> (8 &&& 31)) &&& 255)) 7 ((p1 >>> (0 &&& 31)) &&& 255)) 8 ((p2 >>> (24 &&& 31)) &&& 255)) 9 ((p2 >>> (16 &&& 31)) &&& 255)) 10 ((p2 >>> (8 &&& 31)) &&& 255)) 11 ((p2 >>> (0 &&& 31)) &&& 255)) 12 ((p3 >>> (24 &&& 31)) &&& 255)) 13 ((p3 >>> (16 &&& 31)) &&& 255)) 14 ((p3 >>> (8 &&& 31)) &&& 255)) 15 ((p3 >>> (0 &&& 31)) &&& 255)) 16 ((p4 >>> (24 &&& 31)) &&& 255)) 17 ((p4 >>> (16 &&& 31)) &&& 255)) 18 ((p4 >>> (8 &&& 31)) &&& 255)) 19 ((p4 >>> (0 &&& 31)) &&& 255))))]) C0 h 1 19 rfl (by decide) (by decide) (by decide) rfl dX12_feed_104 (fun H locs h => ?_)
  refine lv_aload_n hx hb dX12_feed_105 rfl (lv_at hl 2 rfl) ?_
  refine lv_dup hx hb dX12_feed_106 rfl ?_
  refine g_X12_taped C0 h 0 q_1443 rfl rfl dX12_feed_107 ?_
  refine lv_iconst (v := 1) hx hb dX12_feed_110 (by decide) ?_
  refine lv_iadd hx hb dX12_feed_111 ?_
  refine lv_topi (fun k_158 ek_158 => ?_)
  obtain rfl : k_158 = 20 := ek_158.trans (by decide)
  refine p_X12_taped (ws' := [(o, .inr (12, [.int 0, .ref (r 1), .ref (r 2), .ref (r 3), .ref (r 4), .int 20, .int 0, .int 0, .int 0, .int 0, .int 0, .int 0, .int 0, .int 0, .int (-1), .ref (r 15), .ref (r 16), .int 0, .int 0, .int 0, .ref (r 20), .ref (r 21), .ref (r 22), .ref (r 23), .ref (r 24), .ref (r 25), .int 0, .ref (r 27), .int 0, .ref (r 29), .ref (r 30), .ref (r 31), .ref (r 32), .ref (r 33), .ref (r 34), .int 0, .int 0, .int 0, .ref (r 38), .ref (r 39), .ref (r 40), .ref (r 41), .ref (r 42), .ref (r 43)])), (r 3, .inl (G.2 1, 900, .inl (upd (upd (upd (upd (upd (upd (upd (upd (upd (upd (upd (upd (upd (upd (upd (upd (upd (upd (upd (upd (fun _ => 0) 0 ((p0 >>> (24 &&& 31)) &&& 255)) 1 ((p0 >>> (16 &&& 31)) &&& 255)) 2 ((p0 >>> (8 &&& 31)) &&& 255)) 3 ((p0 >>> (0 &&& 31)) &&& 255)) 4 ((p1 >>> (24 &&& 31)) &&& 255)) 5 ((p1 >>> (16 &&& 31)) &&& 255)) 6 ((p1 >>> (8 &&& 31)) &&& 255)) 7 ((p1 >>> (0 &&& 31)) &&& 255)) 8 ((p2 >>> (24 &&& 31)) &&& 255)) 9 ((p2 >>> (16 &&& 31)) &&& 255)) 10 ((p2 >>> (8 &&& 31)) &&& 255)) 11 ((p2 >>> (0 &&& 31)) &&& 255)) 12 ((p3 >>> (24 &&& 31)) &&& 255)) 13 ((p3 >>> (16 &&& 31)) &&& 255)) 14 ((p3 >>> (8 &&& 31)) &&& 255)) 15 ((p3 >>> (0 &&& 31)) &&& 255)) 16 ((p4 >>> (24 &&& 31)) &&& 255)) 17 ((p4 >>> (16 &&& 31)) &&& 255)) 18 ((p4 >>> (8 &&& 31)) &&& 255)) 19 ((p4 >>> (0 &&& 31)) &&& 255))))]) C0 h 0 q_1443 rfl (Nat.le_of_ble_eq_true rfl) rfl rfl rfl dX12_feed_112 (fun H locs h => ?_)
  refine lv_iinc (v := 20) (lv' := [(6, .int 20), (7, .int p4), (0, .ref o), (1, .int p0), (2, .int p1), (3, .int p2), (4, .int p3), (5, .int p4)]) hx hb dX12_feed_115 hl (k := 1) rfl (by decide) (by decide) rfl (fun ls hl => ?_)
  refine lv_goto (tgt := 24) hx hb dX12_feed_118 (by decide) ?_
  refine lv_iload hx hb dX12_feed_24 (lv_at hl 0 rfl) ?_
  refine lv_bipush (v := 20) hx hb dX12_feed_26 (by decide) ?_
  refine lv_icmp_ge (tgt := 121) hx hb dX12_feed_28 (by decide) (fun c_159 => ?_) (fun c_159 => absurd c_159 (by decide))
  refine lv_aload_n hx hb dX12_feed_121 rfl (lv_at hl 2 rfl) ?_
  refine g_X12_taped C0 h 0 q_1443 rfl rfl dX12_feed_122 ?_
  exact m_iret () C0 h [] (by decide) rfl rfl (Nat.le_of_ble_eq_true rfl) (Nat.le_of_ble_eq_true rfl) dX12_feed_125
set_option maxHeartbeats 4000000 in
set_option maxRecDepth 100000 in
theorem c_X12_plain_all (l : Launch) (G : GG) (a : Nat) : Mt l yX12_plain cX12_plain 2 none 0 0 0 G [.ref a] [(a, .inl (G.2 1, 5322, .inl (fun _ => 0)))] (Rv (S := Unit) G (fun _ => True) (fun _ => [(a, .inl (G.2 1, 5322, .inl (fun _ => 0)))])) := by
  refine Mt.start (by decide) (Nat.le_of_ble_eq_true rfl) ?_
  intro p e s m below meth c A ls C0 hini h hl
  have C0 : Cx p s m _ meth c RX12 cX12_plain 2 none := C0
  obtain ⟨hx, hb, hml, hown, hts, -⟩ := id C0
  have hl : lv_has ls 2 [(0, .ref a)] := hl
  refine lv_iconst (v := 0) hx hb dX12_plain_0 (by decide) ?_
  refine lv_istore_n (lv' := [(1, .int 0), (0, .ref a)]) hx hb dX12_plain_1 rfl hl (by decide) rfl (fun ls hl => ?_)
  have lp_2 : ∀ (n i : Nat) (H : Heap) (locs : List Loc) (ls : Array Slot), i + n = 1774 → Wd G A s H locs [(a, .inl (G.2 1, 5322, .inl (fun _ => 0)))] → lv_has ls 2 [(1, .int (nI i)), (0, .ref a)] → W p l e (rmd 0 0 0) s m ([.ref a]).toArray below meth c H locs 0 0 (MQ below ((Rv (S := Unit) G (fun _ => True) (fun _ => [(a, .inl (G.2 1, 5322, .inl (fun _ => 0)))])) A) ([.ref a]).toArray s 0 0 A) (F0 m 2 ls []) := by
    intro n
    induction n with
    | zero =>
      intro i H locs ls hn h hl
      refine lv_iload_n hx hb dX12_plain_2 rfl (lv_at hl 0 rfl) ?_
      refine lv_sipush (v := 1774) hx hb dX12_plain_3 (by decide) ?_
      refine lv_icmp_ge (tgt := 19) hx hb dX12_plain_6 (by decide) (fun c_1 => ?_) (fun c_1 => by exact absurd ((nI_leI (a := 1774) (b := i) (by omega) (by omega)).mpr (by omega)) c_1)
      exact m_vret () C0 h [0] (by decide) rfl trivial (Nat.le_of_ble_eq_true rfl) (Nat.le_of_ble_eq_true rfl) dX12_plain_19
    | succ n ih_2 =>
      intro i H locs ls hn h hl
      refine lv_iload_n hx hb dX12_plain_2 rfl (lv_at hl 0 rfl) ?_
      refine lv_sipush (v := 1774) hx hb dX12_plain_3 (by decide) ?_
      refine lv_icmp_ge (tgt := 19) hx hb dX12_plain_6 (by decide) (fun c_2 => by exact absurd ((nI_leI (a := 1774) (b := i) (by omega) (by omega)).mp c_2) (by omega)) (fun c_2 => ?_)
      refine lv_aload_n hx hb dX12_plain_9 rfl (lv_at hl 1 rfl) ?_
      refine lv_iload_n hx hb dX12_plain_10 rfl (lv_at hl 0 rfl) ?_
      refine lv_iconst (v := 0) hx hb dX12_plain_11 (by decide) ?_
      refine m_iast (ws' := [(a, .inl (G.2 1, 5322, .inl (upd (fun _ => 0) i 0)))]) C0 h 0 i rfl rfl (by omega) (by decide) rfl dX12_plain_12 (fun H locs h => ?_)
      refine lv_iinc (v := nI (i + 1)) (lv' := [(1, .int (nI (i + 1))), (0, .ref a)]) hx hb dX12_plain_13 hl (k := 0) rfl (nI_1 _) (by decide) rfl (fun ls hl => ?_)
      refine lv_goto (tgt := 2) hx hb dX12_plain_16 (by decide) ?_
      exact ih_2 (i + 1) _ _ _ (by omega) (by simpa only [upd00] using h) (lv_sub hl [0, 1] rfl)
  exact lp_2 (1774 - 0) 0 _ _ _ (by omega) h (lv_sub hl [0, 1] rfl)
set_option maxHeartbeats 4000000 in
set_option maxRecDepth 100000 in
theorem c_X12_plain_fresh (l : Launch) (G : GG) (a : Nat) : Mt l yX12_plain cX12_plain 2 none 0 0 0 G [.ref a] [(a, .inl (G.2 1, 1774, .inl (fun _ => 0)))] (Rv (S := Unit) G (fun _ => True) (fun _ => [(a, .inl (G.2 1, 1774, .inl (fun _ => 0)))])) := by
  refine Mt.start (by decide) (Nat.le_of_ble_eq_true rfl) ?_
  intro p e s m below meth c A ls C0 hini h hl
  have C0 : Cx p s m _ meth c RX12 cX12_plain 2 none := C0
  obtain ⟨hx, hb, hml, hown, hts, -⟩ := id C0
  have hl : lv_has ls 2 [(0, .ref a)] := hl
  refine lv_iconst (v := 0) hx hb dX12_plain_0 (by decide) ?_
  refine lv_istore_n (lv' := [(1, .int 0), (0, .ref a)]) hx hb dX12_plain_1 rfl hl (by decide) rfl (fun ls hl => ?_)
  have lp_2 : ∀ (n i : Nat) (H : Heap) (locs : List Loc) (ls : Array Slot), i + n = 1774 → Wd G A s H locs [(a, .inl (G.2 1, 1774, .inl (fun _ => 0)))] → lv_has ls 2 [(1, .int (nI i)), (0, .ref a)] → W p l e (rmd 0 0 0) s m ([.ref a]).toArray below meth c H locs 0 0 (MQ below ((Rv (S := Unit) G (fun _ => True) (fun _ => [(a, .inl (G.2 1, 1774, .inl (fun _ => 0)))])) A) ([.ref a]).toArray s 0 0 A) (F0 m 2 ls []) := by
    intro n
    induction n with
    | zero =>
      intro i H locs ls hn h hl
      refine lv_iload_n hx hb dX12_plain_2 rfl (lv_at hl 0 rfl) ?_
      refine lv_sipush (v := 1774) hx hb dX12_plain_3 (by decide) ?_
      refine lv_icmp_ge (tgt := 19) hx hb dX12_plain_6 (by decide) (fun c_1 => ?_) (fun c_1 => by exact absurd ((nI_leI (a := 1774) (b := i) (by omega) (by omega)).mpr (by omega)) c_1)
      exact m_vret () C0 h [0] (by decide) rfl trivial (Nat.le_of_ble_eq_true rfl) (Nat.le_of_ble_eq_true rfl) dX12_plain_19
    | succ n ih_2 =>
      intro i H locs ls hn h hl
      refine lv_iload_n hx hb dX12_plain_2 rfl (lv_at hl 0 rfl) ?_
      refine lv_sipush (v := 1774) hx hb dX12_plain_3 (by decide) ?_
      refine lv_icmp_ge (tgt := 19) hx hb dX12_plain_6 (by decide) (fun c_2 => by exact absurd ((nI_leI (a := 1774) (b := i) (by omega) (by omega)).mp c_2) (by omega)) (fun c_2 => ?_)
      refine lv_aload_n hx hb dX12_plain_9 rfl (lv_at hl 1 rfl) ?_
      refine lv_iload_n hx hb dX12_plain_10 rfl (lv_at hl 0 rfl) ?_
      refine lv_iconst (v := 0) hx hb dX12_plain_11 (by decide) ?_
      refine m_iast (ws' := [(a, .inl (G.2 1, 1774, .inl (upd (fun _ => 0) i 0)))]) C0 h 0 i rfl rfl (by omega) (by decide) rfl dX12_plain_12 (fun H locs h => ?_)
      refine lv_iinc (v := nI (i + 1)) (lv' := [(1, .int (nI (i + 1))), (0, .ref a)]) hx hb dX12_plain_13 hl (k := 0) rfl (nI_1 _) (by decide) rfl (fun ls hl => ?_)
      refine lv_goto (tgt := 2) hx hb dX12_plain_16 (by decide) ?_
      exact ih_2 (i + 1) _ _ _ (by omega) (by simpa only [upd00] using h) (lv_sub hl [0, 1] rfl)
  exact lp_2 (1774 - 0) 0 _ _ _ (by omega) h (lv_sub hl [0, 1] rfl)
set_option maxHeartbeats 4000000 in
set_option maxRecDepth 100000 in
theorem c_X12_see (l : Launch) (G : GG) (o : Nat) (r : Nat → Nat) : Mt l yX12_see cX12_see 2 (some .int) 0 0 0 G [.ref o, .int 0] [(o, mO r)] (Ri (S := Unit) G (fun r _ => r = (-1)) (fun _ => [(o, mO r)])) := by
  refine Mt.start (by decide) (Nat.le_of_ble_eq_true rfl) ?_
  intro p e s m below meth c A ls C0 hini h hl
  have C0 : Cx p s m _ meth c RX12 cX12_see 2 (some .int) := C0
  obtain ⟨hx, hb, hml, hown, hts, -⟩ := id C0
  have hl : lv_has ls 2 [(0, .ref o), (1, .int 0)] := hl
  refine lv_iload_n hx hb dX12_see_0 rfl (lv_at hl 1 rfl) ?_
  refine lv_aload_n hx hb dX12_see_1 rfl (lv_at hl 0 rfl) ?_
  refine g_X12_size C0 h 0 q_1446 rfl rfl dX12_see_2 ?_
  refine lv_icmp_ge (tgt := 17) hx hb dX12_see_5 (by decide) (fun c_1 => ?_) (fun c_1 => absurd c_1 (by decide))
  refine lv_iconst (v := (-1)) hx hb dX12_see_17 (by decide) ?_
  exact m_iret () C0 h [0] (by decide) rfl rfl (Nat.le_of_ble_eq_true rfl) (Nat.le_of_ble_eq_true rfl) dX12_see_18
set_option maxHeartbeats 4000000 in
set_option maxRecDepth 100000 in
theorem c_X12_next (l : Launch) (G : GG) (o : Nat) (r : Nat → Nat) : Mt l yX12_next cX12_next 2 none 1 0 0 G [.ref o] [(o, mO r)] (Rv (S := Unit) G (fun _ => True) (fun _ => [(o, .inr (12, [.int 0, .ref (r 1), .ref (r 2), .ref (r 3), .ref (r 4), .int 0, .int 0, .int 0, .int 0, .int 24, .int 0, .int 0, .int 0, .int 0, .int (-1), .ref (r 15), .ref (r 16), .int 0, .int 0, .int 0, .ref (r 20), .ref (r 21), .ref (r 22), .ref (r 23), .ref (r 24), .ref (r 25), .int 0, .ref (r 27), .int 0, .ref (r 29), .ref (r 30), .ref (r 31), .ref (r 32), .ref (r 33), .ref (r 34), .int 0, .int 0, .int 0, .ref (r 38), .ref (r 39), .ref (r 40), .ref (r 41), .ref (r 42), .ref (r 43)]))])) := by
  refine Mt.start (by decide) (Nat.le_of_ble_eq_true rfl) ?_
  intro p e s m below meth c A ls C0 hini h hl
  have C0 : Cx p s m _ meth c RX12 cX12_next 2 none := C0
  obtain ⟨hx, hb, hml, hown, hts, -⟩ := id C0
  have hl : lv_has ls 2 [(0, .ref o)] := hl
  refine lv_aload_n hx hb dX12_next_0 rfl (lv_at hl 0 rfl) ?_
  refine lv_aload_n hx hb dX12_next_1 rfl (lv_at hl 0 rfl) ?_
  refine g_X12_behind C0 h 0 q_1445 rfl rfl dX12_next_2 ?_
  refine p_X12_at (ws' := [(o, mO r)]) C0 h 0 q_1444 rfl (Nat.le_of_ble_eq_true rfl) rfl rfl rfl dX12_next_5 (fun H locs h => ?_)
  refine lv_aload_n hx hb dX12_next_8 rfl (lv_at hl 0 rfl) ?_
  refine lv_aload_n hx hb dX12_next_9 rfl (lv_at hl 0 rfl) ?_
  refine g_X12_at C0 h 0 q_1444 rfl rfl dX12_next_10 ?_
  refine m_cli (wr := []) h (m_rV (ci := 12) (q0 := 0) (As := [.int 0]) (rest := []) C0 h (c_X12_see l G o r) k_X12_see q_1588 q_57 q_1586 rfl rfl rfl [0] (by decide) rfl hl.1 rfl rfl (Nat.le_of_ble_eq_true rfl) dX12_next_13 ⟨Nat.le_of_ble_eq_true rfl, Nat.le_of_ble_eq_true rfl⟩ ⟨Nat.le_of_ble_eq_true rfl, Nat.le_of_ble_eq_true rfl⟩) [0] [] rfl rfl (by decide) (by decide) (fun r_3 u_1 H locs hp_2 h => ?_)
  have h : Wd G A s _ _ [(o, mO r)] := h
  obtain rfl : r_3 = (-1) := hp_2
  refine lv_bipush (v := 10) hx hb dX12_next_16 (by decide) ?_
  refine lv_icmp_eq (tgt := 34) hx hb dX12_next_18 (by decide) (fun c_4 => absurd c_4 (by decide)) (fun c_4 => ?_)
  refine lv_aload_n hx hb dX12_next_21 rfl (lv_at hl 0 rfl) ?_
  refine lv_aload_n hx hb dX12_next_22 rfl (lv_at hl 0 rfl) ?_
  refine g_X12_at C0 h 0 q_1444 rfl rfl dX12_next_23 ?_
  refine m_cli (wr := []) h (m_rV (ci := 12) (q0 := 0) (As := [.int 0]) (rest := []) C0 h (c_X12_see l G o r) k_X12_see q_1588 q_57 q_1586 rfl rfl rfl [0] (by decide) rfl hl.1 rfl rfl (Nat.le_of_ble_eq_true rfl) dX12_next_26 ⟨Nat.le_of_ble_eq_true rfl, Nat.le_of_ble_eq_true rfl⟩ ⟨Nat.le_of_ble_eq_true rfl, Nat.le_of_ble_eq_true rfl⟩) [0] [] rfl rfl (by decide) (by decide) (fun r_7 u_5 H locs hp_6 h => ?_)
  have h : Wd G A s _ _ [(o, mO r)] := h
  obtain rfl : r_7 = (-1) := hp_6
  refine lv_bipush (v := 32) hx hb dX12_next_29 (by decide) ?_
  refine lv_icmp_ne (tgt := 47) hx hb dX12_next_31 (by decide) (fun c_8 => ?_) (fun c_8 => absurd c_8 (by decide))
  refine lv_aload_n hx hb dX12_next_47 rfl (lv_at hl 0 rfl) ?_
  refine lv_aload_n hx hb dX12_next_48 rfl (lv_at hl 0 rfl) ?_
  refine g_X12_at C0 h 0 q_1444 rfl rfl dX12_next_49 ?_
  refine p_X12_behind (ws' := [(o, mO r)]) C0 h 0 q_1445 rfl (Nat.le_of_ble_eq_true rfl) rfl rfl rfl dX12_next_52 (fun H locs h => ?_)
  refine lv_aload_n hx hb dX12_next_55 rfl (lv_at hl 0 rfl) ?_
  refine g_X12_at C0 h 0 q_1444 rfl rfl dX12_next_56 ?_
  refine lv_aload_n hx hb dX12_next_59 rfl (lv_at hl 0 rfl) ?_
  refine g_X12_size C0 h 0 q_1446 rfl rfl dX12_next_60 ?_
  refine lv_icmp_lt (tgt := 75) hx hb dX12_next_63 (by decide) (fun c_9 => absurd c_9 (by decide)) (fun c_9 => ?_)
  refine lv_aload_n hx hb dX12_next_66 rfl (lv_at hl 0 rfl) ?_
  refine lv_bipush (v := 24) hx hb dX12_next_67 (by decide) ?_
  refine p_X12_kind (ws' := [(o, .inr (12, [.int 0, .ref (r 1), .ref (r 2), .ref (r 3), .ref (r 4), .int 0, .int 0, .int 0, .int 0, .int 24, .int 0, .int 0, .int 0, .int 0, .int (-1), .ref (r 15), .ref (r 16), .int 0, .int 0, .int 0, .ref (r 20), .ref (r 21), .ref (r 22), .ref (r 23), .ref (r 24), .ref (r 25), .int 0, .ref (r 27), .int 0, .ref (r 29), .ref (r 30), .ref (r 31), .ref (r 32), .ref (r 33), .ref (r 34), .int 0, .int 0, .int 0, .ref (r 38), .ref (r 39), .ref (r 40), .ref (r 41), .ref (r 42), .ref (r 43)]))]) C0 h 0 q_1447 rfl (Nat.le_of_ble_eq_true rfl) rfl rfl rfl dX12_next_69 (fun H locs h => ?_)
  refine lv_goto (tgt := 294) hx hb dX12_next_72 (by decide) ?_
  exact m_vret () C0 h [0] (by decide) rfl trivial (Nat.le_of_ble_eq_true rfl) (Nat.le_of_ble_eq_true rfl) dX12_next_294
set_option maxHeartbeats 4000000 in
set_option maxRecDepth 100000 in
theorem c_X12_city (l : Launch) (G : GG) (o : Nat) (r : Nat → Nat) (p0 : Int32) : Mt l yX12_city cX12_city 3 (some .int) 3 0 0 G [.ref o, .int p0] [(o, mO r), (r 1, .inl (G.2 1, 5322, .inl (fun _ => 0))), (r 4, .inl (G.2 1, 1774, .inl (fun _ => 0)))] (Ri (S := Unit) G (fun r _ => r = sp_city p0) (fun _ => [])) := by
  refine Mt.start (by decide) (Nat.le_of_ble_eq_true rfl) ?_
  intro p e s m below meth c A ls C0 hini h hl
  have C0 : Cx p s m _ meth c RX12 cX12_city 3 (some .int) := C0
  obtain ⟨hx, hb, hml, hown, hts, -⟩ := id C0
  have hl : lv_has ls 3 [(0, .ref o), (1, .int p0)] := hl
  refine lv_aload_n hx hb dX12_city_0 rfl (lv_at hl 0 rfl) ?_
  refine lv_iconst (v := 0) hx hb dX12_city_1 (by decide) ?_
  refine p_X12_thrown (ws' := [(o, mO r), (r 1, .inl (G.2 1, 5322, .inl (fun _ => 0))), (r 4, .inl (G.2 1, 1774, .inl (fun _ => 0)))]) C0 h 0 q_1438 rfl (Nat.le_of_ble_eq_true rfl) rfl rfl rfl dX12_city_2 (fun H locs h => ?_)
  refine lv_iload_n hx hb dX12_city_5 rfl (lv_at hl 1 rfl) ?_
  refine lv_i2l (v := p0.toInt64) hx hb dX12_city_6 rfl ?_
  refine lv_lconst (v := 0) hx hb dX12_city_7 (by decide) ?_
  refine lv_aload_n hx hb dX12_city_8 rfl (lv_at hl 0 rfl) ?_
  refine g_X12_taped C0 h 0 q_1443 rfl rfl dX12_city_9 ?_
  refine lv_i2l (v := 0) hx hb dX12_city_12 (by decide) ?_
  refine m_cli (wr := [(o, mO r), (r 1, .inl (G.2 1, 5322, .inl (fun _ => 0))), (r 4, .inl (G.2 1, 1774, .inl (fun _ => 0)))]) h (m_rS (As := [.long p0.toInt64, .long 0, .long 0]) (rest := []) C0 h (c_X12_within l G p0.toInt64 0 0) k_X12_within q_1580 q_1579 [] (by decide) rfl hl.1 rfl rfl (Nat.le_of_ble_eq_true rfl) dX12_city_13 ⟨Nat.le_of_ble_eq_true rfl, Nat.le_of_ble_eq_true rfl⟩ ⟨Nat.le_of_ble_eq_true rfl, Nat.le_of_ble_eq_true rfl⟩) [] [0, 1, 2] rfl rfl (by decide) (by decide) (fun r_3 u_1 H locs hp_2 h => ?_)
  have h : Wd G A s _ _ [(o, mO r), (r 1, .inl (G.2 1, 5322, .inl (fun _ => 0))), (r 4, .inl (G.2 1, 1774, .inl (fun _ => 0)))] := h
  rcases hp_2 with ⟨rfl, hp_2w⟩ | ⟨rfl, hp_2w⟩
  · -- answer 1
    have hp_2w := (i64_w p0 0 0).mp hp_2w
    have hp_2w1 := hp_2w.1
    have hp_2w2 := hp_2w.2
    refine lv_if_ne (tgt := 22) hx hb dX12_city_16 (by decide) (fun c_4 => ?_) (fun c_4 => absurd c_4 (by decide))
    obtain rfl : p0 = 0 := by grind
    refine lv_aload_n hx hb dX12_city_22 rfl (lv_at hl 0 rfl) ?_
    refine lv_iload_n hx hb dX12_city_23 rfl (lv_at hl 1 rfl) ?_
    refine p_X12_size (ws' := [(o, mO r), (r 1, .inl (G.2 1, 5322, .inl (fun _ => 0))), (r 4, .inl (G.2 1, 1774, .inl (fun _ => 0)))]) C0 h 0 q_1446 rfl (Nat.le_of_ble_eq_true rfl) rfl rfl rfl dX12_city_24 (fun H locs h => ?_)
    refine lv_aload_n hx hb dX12_city_27 rfl (lv_at hl 0 rfl) ?_
    refine lv_iconst (v := 0) hx hb dX12_city_28 (by decide) ?_
    refine p_X12_taped (ws' := [(o, mO r), (r 1, .inl (G.2 1, 5322, .inl (fun _ => 0))), (r 4, .inl (G.2 1, 1774, .inl (fun _ => 0)))]) C0 h 0 q_1443 rfl (Nat.le_of_ble_eq_true rfl) rfl rfl rfl dX12_city_29 (fun H locs h => ?_)
    refine lv_aload_n hx hb dX12_city_32 rfl (lv_at hl 0 rfl) ?_
    refine lv_iconst (v := 0) hx hb dX12_city_33 (by decide) ?_
    refine p_X12_behind (ws' := [(o, mO r), (r 1, .inl (G.2 1, 5322, .inl (fun _ => 0))), (r 4, .inl (G.2 1, 1774, .inl (fun _ => 0)))]) C0 h 0 q_1445 rfl (Nat.le_of_ble_eq_true rfl) rfl rfl rfl dX12_city_34 (fun H locs h => ?_)
    refine lv_aload_n hx hb dX12_city_37 rfl (lv_at hl 0 rfl) ?_
    refine lv_iconst (v := 0) hx hb dX12_city_38 (by decide) ?_
    refine p_X12_wrong (ws' := [(o, mO r), (r 1, .inl (G.2 1, 5322, .inl (fun _ => 0))), (r 4, .inl (G.2 1, 1774, .inl (fun _ => 0)))]) C0 h 0 q_1449 rfl (Nat.le_of_ble_eq_true rfl) rfl rfl rfl dX12_city_39 (fun H locs h => ?_)
    refine lv_aload_n hx hb dX12_city_42 rfl (lv_at hl 0 rfl) ?_
    refine g_X12_fresh C0 h 0 q_1442 rfl rfl dX12_city_43 ?_
    refine m_clv (wr := [(o, mO r), (r 1, .inl (G.2 1, 5322, .inl (fun _ => 0)))]) h (m_rS (As := [.ref (r 4)]) (rest := []) C0 h (c_X12_plain_fresh l G (r 4)) k_X12_plain q_1436 q_1435 [2] (by decide) rfl hl.1 rfl rfl (Nat.le_of_ble_eq_true rfl) dX12_city_46 ⟨Nat.le_of_ble_eq_true rfl, Nat.le_of_ble_eq_true rfl⟩ ⟨Nat.le_of_ble_eq_true rfl, Nat.le_of_ble_eq_true rfl⟩) [2] [0, 1] rfl rfl (by decide) (by decide) (fun u_5 H locs hp_6 h => ?_)
    have h : Wd G A s _ _ [(o, mO r), (r 1, .inl (G.2 1, 5322, .inl (fun _ => 0))), (r 4, .inl (G.2 1, 1774, .inl (fun _ => 0)))] := h
    refine lv_aload_n hx hb dX12_city_49 rfl (lv_at hl 0 rfl) ?_
    refine m_clv (wr := [(r 1, .inl (G.2 1, 5322, .inl (fun _ => 0))), (r 4, .inl (G.2 1, 1774, .inl (fun _ => 0)))]) h (m_rV (ci := 12) (q0 := 0) (As := []) (rest := []) C0 h (c_X12_next l G o r) k_X12_next q_1584 q_56 q_1582 rfl rfl rfl [0] (by decide) rfl hl.1 rfl rfl (Nat.le_of_ble_eq_true rfl) dX12_city_50 ⟨Nat.le_of_ble_eq_true rfl, Nat.le_of_ble_eq_true rfl⟩ ⟨Nat.le_of_ble_eq_true rfl, Nat.le_of_ble_eq_true rfl⟩) [0] [1, 2] rfl rfl (by decide) (by decide) (fun u_7 H locs hp_8 h => ?_)
    have h : Wd G A s _ _ [(r 1, .inl (G.2 1, 5322, .inl (fun _ => 0))), (r 4, .inl (G.2 1, 1774, .inl (fun _ => 0))), (o, .inr (12, [.int 0, .ref (r 1), .ref (r 2), .ref (r 3), .ref (r 4), .int 0, .int 0, .int 0, .int 0, .int 24, .int 0, .int 0, .int 0, .int 0, .int (-1), .ref (r 15), .ref (r 16), .int 0, .int 0, .int 0, .ref (r 20), .ref (r 21), .ref (r 22), .ref (r 23), .ref (r 24), .ref (r 25), .int 0, .ref (r 27), .int 0, .ref (r 29), .ref (r 30), .ref (r 31), .ref (r 32), .ref (r 33), .ref (r 34), .int 0, .int 0, .int 0, .ref (r 38), .ref (r 39), .ref (r 40), .ref (r 41), .ref (r 42), .ref (r 43)]))] := h
    refine lv_aload_n hx hb dX12_city_53 rfl (lv_at hl 0 rfl) ?_
    refine g_X12_wrong C0 h 2 q_1449 rfl rfl dX12_city_54 ?_
    refine lv_if_ne (tgt := 100) hx hb dX12_city_57 (by decide) (fun c_9 => absurd c_9 (by decide)) (fun c_9 => ?_)
    refine lv_aload_n hx hb dX12_city_60 rfl (lv_at hl 0 rfl) ?_
    refine g_X12_kind C0 h 2 q_1447 rfl rfl dX12_city_61 ?_
    refine lv_bipush (v := 24) hx hb dX12_city_64 (by decide) ?_
    refine lv_icmp_eq (tgt := 100) hx hb dX12_city_66 (by decide) (fun c_10 => ?_) (fun c_10 => absurd c_10 (by decide))
    refine lv_aload_n hx hb dX12_city_100 rfl (lv_at hl 0 rfl) ?_
    refine lv_aload_n hx hb dX12_city_101 rfl (lv_at hl 0 rfl) ?_
    refine g_X12_wrong C0 h 2 q_1449 rfl rfl dX12_city_102 ?_
    refine p_X12_faultKind (ws' := [(r 1, .inl (G.2 1, 5322, .inl (fun _ => 0))), (r 4, .inl (G.2 1, 1774, .inl (fun _ => 0))), (o, .inr (12, [.int 0, .ref (r 1), .ref (r 2), .ref (r 3), .ref (r 4), .int 0, .int 0, .int 0, .int 0, .int 24, .int 0, .int 0, .int 0, .int 0, .int (-1), .ref (r 15), .ref (r 16), .int 0, .int 0, .int 0, .ref (r 20), .ref (r 21), .ref (r 22), .ref (r 23), .ref (r 24), .ref (r 25), .int 0, .ref (r 27), .int 0, .ref (r 29), .ref (r 30), .ref (r 31), .ref (r 32), .ref (r 33), .ref (r 34), .int 0, .int 0, .int 0, .ref (r 38), .ref (r 39), .ref (r 40), .ref (r 41), .ref (r 42), .ref (r 43)]))]) C0 h 2 q_1451 rfl (Nat.le_of_ble_eq_true rfl) rfl rfl rfl dX12_city_105 (fun H locs h => ?_)
    refine lv_aload_n hx hb dX12_city_108 rfl (lv_at hl 0 rfl) ?_
    refine lv_aload_n hx hb dX12_city_109 rfl (lv_at hl 0 rfl) ?_
    refine g_X12_wrong C0 h 2 q_1449 rfl rfl dX12_city_110 ?_
    refine lv_if_ne (tgt := 120) hx hb dX12_city_113 (by decide) (fun c_11 => absurd c_11 (by decide)) (fun c_11 => ?_)
    refine lv_iconst (v := (-1)) hx hb dX12_city_116 (by decide) ?_
    refine lv_goto (tgt := 124) hx hb dX12_city_117 (by decide) ?_
    refine p_X12_faultPlace (ws' := [(r 1, .inl (G.2 1, 5322, .inl (fun _ => 0))), (r 4, .inl (G.2 1, 1774, .inl (fun _ => 0))), (o, .inr (12, [.int 0, .ref (r 1), .ref (r 2), .ref (r 3), .ref (r 4), .int 0, .int 0, .int 0, .int 0, .int 24, .int 0, .int 0, .int 0, .int 0, .int (-1), .ref (r 15), .ref (r 16), .int 0, .int 0, .int 0, .ref (r 20), .ref (r 21), .ref (r 22), .ref (r 23), .ref (r 24), .ref (r 25), .int 0, .ref (r 27), .int 0, .ref (r 29), .ref (r 30), .ref (r 31), .ref (r 32), .ref (r 33), .ref (r 34), .int 0, .int 0, .int 0, .ref (r 38), .ref (r 39), .ref (r 40), .ref (r 41), .ref (r 42), .ref (r 43)]))]) C0 h 2 q_1452 rfl (Nat.le_of_ble_eq_true rfl) rfl rfl rfl dX12_city_124 (fun H locs h => ?_)
    refine lv_aload_n hx hb dX12_city_127 rfl (lv_at hl 0 rfl) ?_
    refine g_X12_wrong C0 h 2 q_1449 rfl rfl dX12_city_128 ?_
    refine lv_if_eq (tgt := 142) hx hb dX12_city_131 (by decide) (fun c_12 => ?_) (fun c_12 => absurd c_12 (by decide))
    refine lv_iconst (v := 0) hx hb dX12_city_142 (by decide) ?_
    refine lv_istore_n (lv' := [(2, .int 0), (0, .ref o), (1, .int 0)]) hx hb dX12_city_143 rfl hl (by decide) rfl (fun ls hl => ?_)
    have lp_144 : ∀ (n i : Nat) (H : Heap) (locs : List Loc) (ls : Array Slot), i + n = 1774 → Wd G A s H locs [(r 1, .inl (G.2 1, 5322, .inl (fun _ => 0))), (r 4, .inl (G.2 1, 1774, .inl (fun _ => 0))), (o, .inr (12, [.int 0, .ref (r 1), .ref (r 2), .ref (r 3), .ref (r 4), .int 0, .int 0, .int 0, .int 0, .int 24, .int 0, .int 0, .int 0, .int 0, .int (-1), .ref (r 15), .ref (r 16), .int 0, .int 0, .int 0, .ref (r 20), .ref (r 21), .ref (r 22), .ref (r 23), .ref (r 24), .ref (r 25), .int 0, .ref (r 27), .int 0, .ref (r 29), .ref (r 30), .ref (r 31), .ref (r 32), .ref (r 33), .ref (r 34), .int 0, .int 0, .int 0, .ref (r 38), .ref (r 39), .ref (r 40), .ref (r 41), .ref (r 42), .ref (r 43)]))] → lv_has ls 3 [(2, .int (nI i)), (0, .ref o), (1, .int 0)] → W p l e (rmd 3 0 0) s m ([.ref o, .int 0]).toArray below meth c H locs 0 0 (MQ below ((Ri (S := Unit) G (fun r _ => r = sp_city 0) (fun _ => [])) A) ([.ref o, .int 0]).toArray s 0 0 A) (F0 m 144 ls []) := by
      intro n
      induction n with
      | zero =>
        intro i H locs ls hn h hl
        refine lv_iload_n hx hb dX12_city_144 rfl (lv_at hl 0 rfl) ?_
        refine lv_sipush (v := 1774) hx hb dX12_city_145 (by decide) ?_
        refine lv_icmp_ge (tgt := 169) hx hb dX12_city_148 (by decide) (fun c_13 => ?_) (fun c_13 => by exact absurd ((nI_leI (a := 1774) (b := i) (by omega) (by omega)).mpr (by omega)) c_13)
        refine lv_aload_n hx hb dX12_city_169 rfl (lv_at hl 1 rfl) ?_
        refine g_X12_all C0 h 2 q_1439 rfl rfl dX12_city_170 ?_
        refine lv_iconst (v := 0) hx hb dX12_city_173 (by decide) ?_
        refine m_iald C0 h 0 0 rfl (by decide) (by decide) (by decide) dX12_city_174 ?_
        refine W.eq (g2 := F0 m 175 ls [.int 0]) rfl ?_
        exact m_iret () C0 h [] (by decide) rfl (by unfold sp_city; grind) (Nat.le_of_ble_eq_true rfl) (Nat.le_of_ble_eq_true rfl) dX12_city_175
      | succ n ih_144 =>
        intro i H locs ls hn h hl
        refine lv_iload_n hx hb dX12_city_144 rfl (lv_at hl 0 rfl) ?_
        refine lv_sipush (v := 1774) hx hb dX12_city_145 (by decide) ?_
        refine lv_icmp_ge (tgt := 169) hx hb dX12_city_148 (by decide) (fun c_14 => by exact absurd ((nI_leI (a := 1774) (b := i) (by omega) (by omega)).mp c_14) (by omega)) (fun c_14 => ?_)
        refine lv_aload_n hx hb dX12_city_151 rfl (lv_at hl 1 rfl) ?_
        refine g_X12_all C0 h 2 q_1439 rfl rfl dX12_city_152 ?_
        refine lv_iload_n hx hb dX12_city_155 rfl (lv_at hl 0 rfl) ?_
        refine lv_aload_n hx hb dX12_city_156 rfl (lv_at hl 1 rfl) ?_
        refine g_X12_fresh C0 h 2 q_1442 rfl rfl dX12_city_157 ?_
        refine lv_iload_n hx hb dX12_city_160 rfl (lv_at hl 0 rfl) ?_
        refine m_iald C0 h 1 i rfl rfl (by omega) (by decide) dX12_city_161 ?_
        refine W.eq (g2 := F0 m 162 ls [.int 0, .int (nI i), .ref (r 1)]) rfl ?_
        refine m_iast (ws' := [(r 1, .inl (G.2 1, 5322, .inl (upd (fun _ => 0) i 0))), (r 4, .inl (G.2 1, 1774, .inl (fun _ => 0))), (o, .inr (12, [.int 0, .ref (r 1), .ref (r 2), .ref (r 3), .ref (r 4), .int 0, .int 0, .int 0, .int 0, .int 24, .int 0, .int 0, .int 0, .int 0, .int (-1), .ref (r 15), .ref (r 16), .int 0, .int 0, .int 0, .ref (r 20), .ref (r 21), .ref (r 22), .ref (r 23), .ref (r 24), .ref (r 25), .int 0, .ref (r 27), .int 0, .ref (r 29), .ref (r 30), .ref (r 31), .ref (r 32), .ref (r 33), .ref (r 34), .int 0, .int 0, .int 0, .ref (r 38), .ref (r 39), .ref (r 40), .ref (r 41), .ref (r 42), .ref (r 43)]))]) C0 h 0 i rfl rfl (by omega) (by decide) rfl dX12_city_162 (fun H locs h => ?_)
        refine lv_iinc (v := nI (i + 1)) (lv' := [(2, .int (nI (i + 1))), (0, .ref o), (1, .int 0)]) hx hb dX12_city_163 hl (k := 0) rfl (nI_1 _) (by decide) rfl (fun ls hl => ?_)
        refine lv_goto (tgt := 144) hx hb dX12_city_166 (by decide) ?_
        exact ih_144 (i + 1) _ _ _ (by omega) (by simpa only [upd00] using h) (lv_sub hl [0, 1, 2] rfl)
    exact lp_144 (1774 - 0) 0 _ _ _ (by omega) h (lv_sub hl [0, 1, 2] rfl)
  · -- answer 0
    have hp_2w : ¬ _ := fun hh => hp_2w ((i64_w p0 0 0).mpr hh)
    refine lv_if_ne (tgt := 22) hx hb dX12_city_16 (by decide) (fun c_15 => absurd c_15 (by decide)) (fun c_15 => ?_)
    refine lv_bipush (v := (-3)) hx hb dX12_city_19 (by decide) ?_
    exact m_iret () C0 h [] (by decide) rfl (by unfold sp_city; grind) (Nat.le_of_ble_eq_true rfl) (Nat.le_of_ble_eq_true rfl) dX12_city_21
set_option maxHeartbeats 4000000 in
set_option maxRecDepth 100000 in
theorem c_X12_soldMany (l : Launch) (G : GG) (o : Nat) (r : Nat → Nat) : Mt l yX12_soldMany cX12_soldMany 3 (some .int) 1 0 0 G [.ref o] [(o, mO r), (r 1, .inl (G.2 1, 5322, .inl (fun _ => 0)))] (Ri (S := Unit) G (fun r _ => r = 0) (fun _ => [(o, mO r), (r 1, .inl (G.2 1, 5322, .inl (fun _ => 0)))])) := by
  refine Mt.start (by decide) (Nat.le_of_ble_eq_true rfl) ?_
  intro p e s m below meth c A ls C0 hini h hl
  have C0 : Cx p s m _ meth c RX12 cX12_soldMany 3 (some .int) := C0
  obtain ⟨hx, hb, hml, hown, hts, -⟩ := id C0
  have hl : lv_has ls 3 [(0, .ref o)] := hl
  refine lv_iconst (v := 0) hx hb dX12_soldMany_0 (by decide) ?_
  refine lv_istore_n (lv' := [(1, .int 0), (0, .ref o)]) hx hb dX12_soldMany_1 rfl hl (by decide) rfl (fun ls hl => ?_)
  refine lv_iconst (v := 0) hx hb dX12_soldMany_2 (by decide) ?_
  refine lv_istore_n (lv' := [(2, .int 0), (1, .int 0), (0, .ref o)]) hx hb dX12_soldMany_3 rfl hl (by decide) rfl (fun ls hl => ?_)
  refine lv_iload_n hx hb dX12_soldMany_4 rfl (lv_at hl 0 rfl) ?_
  refine lv_aload_n hx hb dX12_soldMany_5 rfl (lv_at hl 2 rfl) ?_
  refine m_cli (wr := []) h (m_rV (ci := 12) (q0 := 0) (As := []) (rest := [.int 0]) C0 h (c_X12_crossings l G o r) k_X12_crossings q_1705 q_79 q_1703 rfl rfl rfl [0, 1] (by decide) rfl hl.1 rfl rfl (Nat.le_of_ble_eq_true rfl) dX12_soldMany_6 ⟨Nat.le_of_ble_eq_true rfl, Nat.le_of_ble_eq_true rfl⟩ ⟨Nat.le_of_ble_eq_true rfl, Nat.le_of_ble_eq_true rfl⟩) [0, 1] [] rfl rfl (by decide) (by decide) (fun r_3 u_1 H locs hp_2 h => ?_)
  have h : Wd G A s _ _ [(o, mO r), (r 1, .inl (G.2 1, 5322, .inl (fun _ => 0)))] := h
  obtain rfl : r_3 = 0 := hp_2
  refine lv_icmp_ge (tgt := 30) hx hb dX12_soldMany_9 (by decide) (fun c_4 => ?_) (fun c_4 => absurd c_4 (by decide))
  refine lv_iload_n hx hb dX12_soldMany_30 rfl (lv_at hl 1 rfl) ?_
  exact m_iret () C0 h [0, 1] (by decide) rfl rfl (Nat.le_of_ble_eq_true rfl) (Nat.le_of_ble_eq_true rfl) dX12_soldMany_31
set_option maxHeartbeats 4000000 in
set_option maxRecDepth 100000 in
theorem c_X12_freeMany (l : Launch) (G : GG) (o : Nat) (r : Nat → Nat) : Mt l yX12_freeMany cX12_freeMany 3 (some .int) 1 0 0 G [.ref o] [(o, mO r), (r 1, .inl (G.2 1, 5322, .inl (fun _ => 0)))] (Ri (S := Unit) G (fun r _ => r = 0) (fun _ => [(o, mO r), (r 1, .inl (G.2 1, 5322, .inl (fun _ => 0)))])) := by
  refine Mt.start (by decide) (Nat.le_of_ble_eq_true rfl) ?_
  intro p e s m below meth c A ls C0 hini h hl
  have C0 : Cx p s m _ meth c RX12 cX12_freeMany 3 (some .int) := C0
  obtain ⟨hx, hb, hml, hown, hts, -⟩ := id C0
  have hl : lv_has ls 3 [(0, .ref o)] := hl
  refine lv_iconst (v := 0) hx hb dX12_freeMany_0 (by decide) ?_
  refine lv_istore_n (lv' := [(1, .int 0), (0, .ref o)]) hx hb dX12_freeMany_1 rfl hl (by decide) rfl (fun ls hl => ?_)
  refine lv_iconst (v := 0) hx hb dX12_freeMany_2 (by decide) ?_
  refine lv_istore_n (lv' := [(2, .int 0), (1, .int 0), (0, .ref o)]) hx hb dX12_freeMany_3 rfl hl (by decide) rfl (fun ls hl => ?_)
  refine lv_iload_n hx hb dX12_freeMany_4 rfl (lv_at hl 0 rfl) ?_
  refine lv_aload_n hx hb dX12_freeMany_5 rfl (lv_at hl 2 rfl) ?_
  refine m_cli (wr := []) h (m_rV (ci := 12) (q0 := 0) (As := []) (rest := [.int 0]) C0 h (c_X12_crossings l G o r) k_X12_crossings q_1705 q_79 q_1703 rfl rfl rfl [0, 1] (by decide) rfl hl.1 rfl rfl (Nat.le_of_ble_eq_true rfl) dX12_freeMany_6 ⟨Nat.le_of_ble_eq_true rfl, Nat.le_of_ble_eq_true rfl⟩ ⟨Nat.le_of_ble_eq_true rfl, Nat.le_of_ble_eq_true rfl⟩) [0, 1] [] rfl rfl (by decide) (by decide) (fun r_3 u_1 H locs hp_2 h => ?_)
  have h : Wd G A s _ _ [(o, mO r), (r 1, .inl (G.2 1, 5322, .inl (fun _ => 0)))] := h
  obtain rfl : r_3 = 0 := hp_2
  refine lv_icmp_ge (tgt := 35) hx hb dX12_freeMany_9 (by decide) (fun c_4 => ?_) (fun c_4 => absurd c_4 (by decide))
  refine lv_iload_n hx hb dX12_freeMany_35 rfl (lv_at hl 1 rfl) ?_
  exact m_iret () C0 h [0, 1] (by decide) rfl rfl (Nat.le_of_ble_eq_true rfl) (Nat.le_of_ble_eq_true rfl) dX12_freeMany_36
set_option maxHeartbeats 4000000 in
set_option maxRecDepth 100000 in
theorem c_X12_allLefts (l : Launch) (G : GG) (o : Nat) (r : Nat → Nat) : Mt l yX12_allLefts cX12_allLefts 3 (some .int) 1 0 0 G [.ref o] [(o, mO r), (r 1, .inl (G.2 1, 5322, .inl (fun _ => 0)))] (Ri (S := Unit) G (fun r _ => r = 0) (fun _ => [(o, mO r), (r 1, .inl (G.2 1, 5322, .inl (fun _ => 0)))])) := by
  refine Mt.start (by decide) (Nat.le_of_ble_eq_true rfl) ?_
  intro p e s m below meth c A ls C0 hini h hl
  have C0 : Cx p s m _ meth c RX12 cX12_allLefts 3 (some .int) := C0
  obtain ⟨hx, hb, hml, hown, hts, -⟩ := id C0
  have hl : lv_has ls 3 [(0, .ref o)] := hl
  refine lv_iconst (v := 0) hx hb dX12_allLefts_0 (by decide) ?_
  refine lv_istore_n (lv' := [(1, .int 0), (0, .ref o)]) hx hb dX12_allLefts_1 rfl hl (by decide) rfl (fun ls hl => ?_)
  refine lv_iconst (v := 0) hx hb dX12_allLefts_2 (by decide) ?_
  refine lv_istore_n (lv' := [(2, .int 0), (1, .int 0), (0, .ref o)]) hx hb dX12_allLefts_3 rfl hl (by decide) rfl (fun ls hl => ?_)
  refine lv_iload_n hx hb dX12_allLefts_4 rfl (lv_at hl 0 rfl) ?_
  refine lv_aload_n hx hb dX12_allLefts_5 rfl (lv_at hl 2 rfl) ?_
  refine g_X12_all C0 h 0 q_1439 rfl rfl dX12_allLefts_6 ?_
  refine lv_iconst (v := 3) hx hb dX12_allLefts_9 (by decide) ?_
  refine m_iald C0 h 1 3 rfl (by decide) (by decide) (by decide) dX12_allLefts_10 ?_
  refine W.eq (g2 := F0 m 11 ls [.int 0, .int 0]) rfl ?_
  refine lv_icmp_ge (tgt := 32) hx hb dX12_allLefts_11 (by decide) (fun c_1 => ?_) (fun c_1 => absurd c_1 (by decide))
  refine lv_iload_n hx hb dX12_allLefts_32 rfl (lv_at hl 1 rfl) ?_
  exact m_iret () C0 h [0, 1] (by decide) rfl rfl (Nat.le_of_ble_eq_true rfl) (Nat.le_of_ble_eq_true rfl) dX12_allLefts_33
set_option maxHeartbeats 4000000 in
set_option maxRecDepth 100000 in
theorem c_X12_count (l : Launch) (G : GG) (o : Nat) (r : Nat → Nat) (p0 : Int32) : Mt l yX12_count cX12_count 2 (some .int) 3 0 0 G [.ref o, .int p0] [(o, mO r), (r 1, .inl (G.2 1, 5322, .inl (fun _ => 0)))] (Ri (S := Unit) G (fun r _ => r = sp_count p0) (fun _ => [])) := by
  refine Mt.start (by decide) (Nat.le_of_ble_eq_true rfl) ?_
  intro p e s m below meth c A ls C0 hini h hl
  have C0 : Cx p s m _ meth c RX12 cX12_count 2 (some .int) := C0
  obtain ⟨hx, hb, hml, hown, hts, -⟩ := id C0
  have hl : lv_has ls 2 [(0, .ref o), (1, .int p0)] := hl
  refine lv_aload_n hx hb dX12_count_0 rfl (lv_at hl 0 rfl) ?_
  refine lv_iconst (v := 0) hx hb dX12_count_1 (by decide) ?_
  refine p_X12_thrown (ws' := [(o, mO r), (r 1, .inl (G.2 1, 5322, .inl (fun _ => 0)))]) C0 h 0 q_1438 rfl (Nat.le_of_ble_eq_true rfl) rfl rfl rfl dX12_count_2 (fun H locs h => ?_)
  refine lv_iload_n hx hb dX12_count_5 rfl (lv_at hl 1 rfl) ?_
  by_cases sw_1 : p0.toInt < 0 ∨ 9 < p0.toInt
  · refine lv_tableOut (tgt := 124) hx hb dX12_count_6 sw_1 (by decide) ?_
    refine lv_iconst (v := (-1)) hx hb dX12_count_124 (by decide) ?_
    exact m_iret () C0 h [] (by decide) rfl (sp_count_out sw_1).symm (Nat.le_of_ble_eq_true rfl) (Nat.le_of_ble_eq_true rfl) dX12_count_125
  · obtain ⟨sw_11, sw_12⟩ := not_or.mp sw_1
    have sw_13 : p0 = 0 ∨ p0 = 1 ∨ p0 = 2 ∨ p0 = 3 ∨ p0 = 4 ∨ p0 = 5 ∨ p0 = 6 ∨ p0 = 7 ∨ p0 = 8 ∨ p0 = 9 := by
      have e1 : p0 = Int32.ofInt p0.toInt := (Int32.ofInt_toInt _).symm
      rcases (show p0.toInt = 0 ∨ p0.toInt = 1 ∨ p0.toInt = 2 ∨ p0.toInt = 3 ∨ p0.toInt = 4 ∨ p0.toInt = 5 ∨ p0.toInt = 6 ∨ p0.toInt = 7 ∨ p0.toInt = 8 ∨ p0.toInt = 9 by omega) with e2 | e2 | e2 | e2 | e2 | e2 | e2 | e2 | e2 | e2 <;> rw [e2] at e1 <;> simp [e1]
    rcases sw_13 with sw_14 | sw_14 | sw_14 | sw_14 | sw_14 | sw_14 | sw_14 | sw_14 | sw_14 | sw_14
    · refine lv_tableIn (off := 54) (tgt := 60) hx hb dX12_count_6 sw_11 sw_12 (by rw [sw_14]; rfl) (by decide) ?_
      refine lv_aload_n hx hb dX12_count_60 rfl (lv_at hl 0 rfl) ?_
      refine g_X12_all C0 h 0 q_1439 rfl rfl dX12_count_61 ?_
      refine lv_iconst (v := 1) hx hb dX12_count_64 (by decide) ?_
      refine m_iald C0 h 1 1 rfl (by decide) (by decide) (by decide) dX12_count_65 ?_
      refine W.eq (g2 := F0 m 66 ls [.int 0]) rfl ?_
      exact m_iret () C0 h [] (by decide) rfl (by rw [sw_14]; rfl) (Nat.le_of_ble_eq_true rfl) (Nat.le_of_ble_eq_true rfl) dX12_count_66
    · refine lv_tableIn (off := 61) (tgt := 67) hx hb dX12_count_6 sw_11 sw_12 (by rw [sw_14]; rfl) (by decide) ?_
      refine lv_aload_n hx hb dX12_count_67 rfl (lv_at hl 0 rfl) ?_
      refine g_X12_all C0 h 0 q_1439 rfl rfl dX12_count_68 ?_
      refine lv_iconst (v := 2) hx hb dX12_count_71 (by decide) ?_
      refine m_iald C0 h 1 2 rfl (by decide) (by decide) (by decide) dX12_count_72 ?_
      refine W.eq (g2 := F0 m 73 ls [.int 0]) rfl ?_
      exact m_iret () C0 h [] (by decide) rfl (by rw [sw_14]; rfl) (Nat.le_of_ble_eq_true rfl) (Nat.le_of_ble_eq_true rfl) dX12_count_73
    · refine lv_tableIn (off := 68) (tgt := 74) hx hb dX12_count_6 sw_11 sw_12 (by rw [sw_14]; rfl) (by decide) ?_
      refine lv_aload_n hx hb dX12_count_74 rfl (lv_at hl 0 rfl) ?_
      refine g_X12_all C0 h 0 q_1439 rfl rfl dX12_count_75 ?_
      refine lv_iconst (v := 3) hx hb dX12_count_78 (by decide) ?_
      refine m_iald C0 h 1 3 rfl (by decide) (by decide) (by decide) dX12_count_79 ?_
      refine W.eq (g2 := F0 m 80 ls [.int 0]) rfl ?_
      exact m_iret () C0 h [] (by decide) rfl (by rw [sw_14]; rfl) (Nat.le_of_ble_eq_true rfl) (Nat.le_of_ble_eq_true rfl) dX12_count_80
    · refine lv_tableIn (off := 75) (tgt := 81) hx hb dX12_count_6 sw_11 sw_12 (by rw [sw_14]; rfl) (by decide) ?_
      refine lv_aload_n hx hb dX12_count_81 rfl (lv_at hl 0 rfl) ?_
      refine g_X12_all C0 h 0 q_1439 rfl rfl dX12_count_82 ?_
      refine lv_bipush (v := 111) hx hb dX12_count_85 (by decide) ?_
      refine m_iald C0 h 1 111 rfl (by decide) (by decide) (by decide) dX12_count_87 ?_
      refine W.eq (g2 := F0 m 88 ls [.int 0]) rfl ?_
      exact m_iret () C0 h [] (by decide) rfl (by rw [sw_14]; rfl) (Nat.le_of_ble_eq_true rfl) (Nat.le_of_ble_eq_true rfl) dX12_count_88
    · refine lv_tableIn (off := 83) (tgt := 89) hx hb dX12_count_6 sw_11 sw_12 (by rw [sw_14]; rfl) (by decide) ?_
      refine lv_aload_n hx hb dX12_count_89 rfl (lv_at hl 0 rfl) ?_
      refine m_cli (wr := []) h (m_rV (ci := 12) (q0 := 0) (As := []) (rest := []) C0 h (c_X12_soldMany l G o r) k_X12_soldMany q_2063 q_122 q_2061 rfl rfl rfl [0, 1] (by decide) rfl hl.1 rfl rfl (Nat.le_of_ble_eq_true rfl) dX12_count_90 ⟨Nat.le_of_ble_eq_true rfl, Nat.le_of_ble_eq_true rfl⟩ ⟨Nat.le_of_ble_eq_true rfl, Nat.le_of_ble_eq_true rfl⟩) [0, 1] [] rfl rfl (by decide) (by decide) (fun r_4 u_2 H locs hp_3 h => ?_)
      have h : Wd G A s _ _ [(o, mO r), (r 1, .inl (G.2 1, 5322, .inl (fun _ => 0)))] := h
      obtain rfl : r_4 = 0 := hp_3
      exact m_iret () C0 h [] (by decide) rfl (by rw [sw_14]; rfl) (Nat.le_of_ble_eq_true rfl) (Nat.le_of_ble_eq_true rfl) dX12_count_93
    · refine lv_tableIn (off := 88) (tgt := 94) hx hb dX12_count_6 sw_11 sw_12 (by rw [sw_14]; rfl) (by decide) ?_
      refine lv_aload_n hx hb dX12_count_94 rfl (lv_at hl 0 rfl) ?_
      refine m_cli (wr := []) h (m_rV (ci := 12) (q0 := 0) (As := []) (rest := []) C0 h (c_X12_freeMany l G o r) k_X12_freeMany q_1837 q_96 q_1835 rfl rfl rfl [0, 1] (by decide) rfl hl.1 rfl rfl (Nat.le_of_ble_eq_true rfl) dX12_count_95 ⟨Nat.le_of_ble_eq_true rfl, Nat.le_of_ble_eq_true rfl⟩ ⟨Nat.le_of_ble_eq_true rfl, Nat.le_of_ble_eq_true rfl⟩) [0, 1] [] rfl rfl (by decide) (by decide) (fun r_7 u_5 H locs hp_6 h => ?_)
      have h : Wd G A s _ _ [(o, mO r), (r 1, .inl (G.2 1, 5322, .inl (fun _ => 0)))] := h
      obtain rfl : r_7 = 0 := hp_6
      exact m_iret () C0 h [] (by decide) rfl (by rw [sw_14]; rfl) (Nat.le_of_ble_eq_true rfl) (Nat.le_of_ble_eq_true rfl) dX12_count_98
    · refine lv_tableIn (off := 93) (tgt := 99) hx hb dX12_count_6 sw_11 sw_12 (by rw [sw_14]; rfl) (by decide) ?_
      refine lv_aload_n hx hb dX12_count_99 rfl (lv_at hl 0 rfl) ?_
      refine g_X12_all C0 h 0 q_1439 rfl rfl dX12_count_100 ?_
      refine lv_bipush (v := 112) hx hb dX12_count_103 (by decide) ?_
      refine m_iald C0 h 1 112 rfl (by decide) (by decide) (by decide) dX12_count_105 ?_
      refine W.eq (g2 := F0 m 106 ls [.int 0]) rfl ?_
      exact m_iret () C0 h [] (by decide) rfl (by rw [sw_14]; rfl) (Nat.le_of_ble_eq_true rfl) (Nat.le_of_ble_eq_true rfl) dX12_count_106
    · refine lv_tableIn (off := 101) (tgt := 107) hx hb dX12_count_6 sw_11 sw_12 (by rw [sw_14]; rfl) (by decide) ?_
      refine lv_aload_n hx hb dX12_count_107 rfl (lv_at hl 0 rfl) ?_
      refine g_X12_taped C0 h 0 q_1443 rfl rfl dX12_count_108 ?_
      exact m_iret () C0 h [] (by decide) rfl (by rw [sw_14]; rfl) (Nat.le_of_ble_eq_true rfl) (Nat.le_of_ble_eq_true rfl) dX12_count_111
    · refine lv_tableIn (off := 106) (tgt := 112) hx hb dX12_count_6 sw_11 sw_12 (by rw [sw_14]; rfl) (by decide) ?_
      refine lv_aload_n hx hb dX12_count_112 rfl (lv_at hl 0 rfl) ?_
      refine g_X12_all C0 h 0 q_1439 rfl rfl dX12_count_113 ?_
      refine lv_iconst (v := 0) hx hb dX12_count_116 (by decide) ?_
      refine m_iald C0 h 1 0 rfl (by decide) (by decide) (by decide) dX12_count_117 ?_
      refine W.eq (g2 := F0 m 118 ls [.int 0]) rfl ?_
      exact m_iret () C0 h [] (by decide) rfl (by rw [sw_14]; rfl) (Nat.le_of_ble_eq_true rfl) (Nat.le_of_ble_eq_true rfl) dX12_count_118
    · refine lv_tableIn (off := 113) (tgt := 119) hx hb dX12_count_6 sw_11 sw_12 (by rw [sw_14]; rfl) (by decide) ?_
      refine lv_aload_n hx hb dX12_count_119 rfl (lv_at hl 0 rfl) ?_
      refine m_cli (wr := []) h (m_rV (ci := 12) (q0 := 0) (As := []) (rest := []) C0 h (c_X12_allLefts l G o r) k_X12_allLefts q_2067 q_123 q_2065 rfl rfl rfl [0, 1] (by decide) rfl hl.1 rfl rfl (Nat.le_of_ble_eq_true rfl) dX12_count_120 ⟨Nat.le_of_ble_eq_true rfl, Nat.le_of_ble_eq_true rfl⟩ ⟨Nat.le_of_ble_eq_true rfl, Nat.le_of_ble_eq_true rfl⟩) [0, 1] [] rfl rfl (by decide) (by decide) (fun r_10 u_8 H locs hp_9 h => ?_)
      have h : Wd G A s _ _ [(o, mO r), (r 1, .inl (G.2 1, 5322, .inl (fun _ => 0)))] := h
      obtain rfl : r_10 = 0 := hp_9
      exact m_iret () C0 h [] (by decide) rfl (by rw [sw_14]; rfl) (Nat.le_of_ble_eq_true rfl) (Nat.le_of_ble_eq_true rfl) dX12_count_123
