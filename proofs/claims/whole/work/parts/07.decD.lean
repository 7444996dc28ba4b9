/-! the instructions as they are decoded; written by wip/whole/gen_code.py -/
theorem dX7_goDays_0 : decode bX7_goDays 0 = .ok (.iconst 0, 1) ∧ 0 + 1 = 1 := by decide +kernel
theorem dX7_goDays_1 : decode bX7_goDays 1 = .ok (.istore_n 2, 1) ∧ 1 + 1 = 2 := by decide +kernel
theorem dX7_goDays_2 : decode bX7_goDays 2 = .ok (.iload_n 2, 1) ∧ 2 + 1 = 3 := by decide +kernel
theorem dX7_goDays_3 : decode bX7_goDays 3 = .ok (.iload_n 1, 1) ∧ 3 + 1 = 4 := by decide +kernel
theorem dX7_goDays_4 : decode bX7_goDays 4 = .ok (.if_icmp .ge 13, 3) ∧ 4 + 3 = 7 ∧ ((4 : Nat) : Int) + (13) = ((17 : Nat) : Int) := by decide +kernel
theorem dX7_goDays_7 : decode bX7_goDays 7 = .ok (.aload_n 0, 1) ∧ 7 + 1 = 8 := by decide +kernel
theorem dX7_goDays_8 : decode bX7_goDays 8 = .ok (.invokevirtual 381, 3) ∧ 8 + 3 = 11 := by decide +kernel
theorem dX7_goDays_11 : decode bX7_goDays 11 = .ok (.iinc 2 1, 3) ∧ 11 + 3 = 14 := by decide +kernel
theorem dX7_goDays_14 : decode bX7_goDays 14 = .ok (.goto (-12), 3) ∧ ((14 : Nat) : Int) + (-12) = ((2 : Nat) : Int) := by decide +kernel
theorem dX7_goDays_17 : decode bX7_goDays 17 = .ok (.return_, 1) := by decide +kernel
theorem dX7_pass_0 : decode bX7_pass 0 = .ok (.aload_n 0, 1) ∧ 0 + 1 = 1 := by decide +kernel
theorem dX7_pass_1 : decode bX7_pass 1 = .ok (.iload_n 1, 1) ∧ 1 + 1 = 2 := by decide +kernel
theorem dX7_pass_2 : decode bX7_pass 2 = .ok (.invokevirtual 384, 3) ∧ 2 + 3 = 5 := by decide +kernel
theorem dX7_pass_5 : decode bX7_pass 5 = .ok (.ifCond .ne 6, 3) ∧ 5 + 3 = 8 ∧ ((5 : Nat) : Int) + (6) = ((11 : Nat) : Int) := by decide +kernel
theorem dX7_pass_8 : decode bX7_pass 8 = .ok (.bipush (-2), 2) ∧ 8 + 2 = 10 := by decide +kernel
theorem dX7_pass_10 : decode bX7_pass 10 = .ok (.ireturn, 1) := by decide +kernel
theorem dX7_pass_11 : decode bX7_pass 11 = .ok (.aload_n 0, 1) ∧ 11 + 1 = 12 := by decide +kernel
theorem dX7_pass_12 : decode bX7_pass 12 = .ok (.getfield 16, 3) ∧ 12 + 3 = 15 := by decide +kernel
theorem dX7_pass_15 : decode bX7_pass 15 = .ok (.iload_n 1, 1) ∧ 15 + 1 = 16 := by decide +kernel
theorem dX7_pass_16 : decode bX7_pass 16 = .ok (.iadd, 1) ∧ 16 + 1 = 17 := by decide +kernel
theorem dX7_pass_17 : decode bX7_pass 17 = .ok (.sipush 9999, 3) ∧ 17 + 3 = 20 := by decide +kernel
theorem dX7_pass_20 : decode bX7_pass 20 = .ok (.if_icmp .le 6, 3) ∧ 20 + 3 = 23 ∧ ((20 : Nat) : Int) + (6) = ((26 : Nat) : Int) := by decide +kernel
theorem dX7_pass_23 : decode bX7_pass 23 = .ok (.bipush (-3), 2) ∧ 23 + 2 = 25 := by decide +kernel
theorem dX7_pass_25 : decode bX7_pass 25 = .ok (.ireturn, 1) := by decide +kernel
theorem dX7_pass_26 : decode bX7_pass 26 = .ok (.aload_n 0, 1) ∧ 26 + 1 = 27 := by decide +kernel
theorem dX7_pass_27 : decode bX7_pass 27 = .ok (.iload_n 1, 1) ∧ 27 + 1 = 28 := by decide +kernel
theorem dX7_pass_28 : decode bX7_pass 28 = .ok (.invokevirtual 387, 3) ∧ 28 + 3 = 31 := by decide +kernel
theorem dX7_pass_31 : decode bX7_pass 31 = .ok (.aload_n 0, 1) ∧ 31 + 1 = 32 := by decide +kernel
theorem dX7_pass_32 : decode bX7_pass 32 = .ok (.getfield 7, 3) ∧ 32 + 3 = 35 := by decide +kernel
theorem dX7_pass_35 : decode bX7_pass 35 = .ok (.ireturn, 1) := by decide +kernel
theorem dX7_save_0 : decode bX7_save 0 = .ok (.aload_n 0, 1) ∧ 0 + 1 = 1 := by decide +kernel
theorem dX7_save_1 : decode bX7_save 1 = .ok (.ldc_w 390, 3) ∧ 1 + 3 = 4 := by decide +kernel
theorem dX7_save_4 : decode bX7_save 4 = .ok (.putfield 111, 3) ∧ 4 + 3 = 7 := by decide +kernel
theorem dX7_save_7 : decode bX7_save 7 = .ok (.aload_n 0, 1) ∧ 7 + 1 = 8 := by decide +kernel
theorem dX7_save_8 : decode bX7_save 8 = .ok (.iconst 0, 1) ∧ 8 + 1 = 9 := by decide +kernel
theorem dX7_save_9 : decode bX7_save 9 = .ok (.putfield 114, 3) ∧ 9 + 3 = 12 := by decide +kernel
theorem dX7_save_12 : decode bX7_save 12 = .ok (.aload_n 0, 1) ∧ 12 + 1 = 13 := by decide +kernel
theorem dX7_save_13 : decode bX7_save 13 = .ok (.aload_n 0, 1) ∧ 13 + 1 = 14 := by decide +kernel
theorem dX7_save_14 : decode bX7_save 14 = .ok (.getfield 7, 3) ∧ 14 + 3 = 17 := by decide +kernel
theorem dX7_save_17 : decode bX7_save 17 = .ok (.putfield 117, 3) ∧ 17 + 3 = 20 := by decide +kernel
theorem dX7_save_20 : decode bX7_save 20 = .ok (.aload_n 0, 1) ∧ 20 + 1 = 21 := by decide +kernel
theorem dX7_save_21 : decode bX7_save 21 = .ok (.aload_n 0, 1) ∧ 21 + 1 = 22 := by decide +kernel
theorem dX7_save_22 : decode bX7_save 22 = .ok (.getfield 16, 3) ∧ 22 + 3 = 25 := by decide +kernel
theorem dX7_save_25 : decode bX7_save 25 = .ok (.putfield 120, 3) ∧ 25 + 3 = 28 := by decide +kernel
theorem dX7_save_28 : decode bX7_save 28 = .ok (.iconst 0, 1) ∧ 28 + 1 = 29 := by decide +kernel
theorem dX7_save_29 : decode bX7_save 29 = .ok (.istore_n 1, 1) ∧ 29 + 1 = 30 := by decide +kernel
theorem dX7_save_30 : decode bX7_save 30 = .ok (.iload_n 1, 1) ∧ 30 + 1 = 31 := by decide +kernel
theorem dX7_save_31 : decode bX7_save 31 = .ok (.bipush 6, 2) ∧ 31 + 2 = 33 := by decide +kernel
theorem dX7_save_33 : decode bX7_save 33 = .ok (.if_icmp .ge 93, 3) ∧ 33 + 3 = 36 ∧ ((33 : Nat) : Int) + (93) = ((126 : Nat) : Int) := by decide +kernel
theorem dX7_save_36 : decode bX7_save 36 = .ok (.aload_n 0, 1) ∧ 36 + 1 = 37 := by decide +kernel
theorem dX7_save_37 : decode bX7_save 37 = .ok (.getfield 123, 3) ∧ 37 + 3 = 40 := by decide +kernel
theorem dX7_save_40 : decode bX7_save 40 = .ok (.iload_n 1, 1) ∧ 40 + 1 = 41 := by decide +kernel
theorem dX7_save_41 : decode bX7_save 41 = .ok (.aload_n 0, 1) ∧ 41 + 1 = 42 := by decide +kernel
theorem dX7_save_42 : decode bX7_save 42 = .ok (.getfield 26, 3) ∧ 42 + 3 = 45 := by decide +kernel
theorem dX7_save_45 : decode bX7_save 45 = .ok (.iload_n 1, 1) ∧ 45 + 1 = 46 := by decide +kernel
theorem dX7_save_46 : decode bX7_save 46 = .ok (.iaload, 1) ∧ 46 + 1 = 47 := by decide +kernel
theorem dX7_save_47 : decode bX7_save 47 = .ok (.iastore, 1) ∧ 47 + 1 = 48 := by decide +kernel
theorem dX7_save_48 : decode bX7_save 48 = .ok (.aload_n 0, 1) ∧ 48 + 1 = 49 := by decide +kernel
theorem dX7_save_49 : decode bX7_save 49 = .ok (.getfield 126, 3) ∧ 49 + 3 = 52 := by decide +kernel
theorem dX7_save_52 : decode bX7_save 52 = .ok (.iload_n 1, 1) ∧ 52 + 1 = 53 := by decide +kernel
theorem dX7_save_53 : decode bX7_save 53 = .ok (.aload_n 0, 1) ∧ 53 + 1 = 54 := by decide +kernel
theorem dX7_save_54 : decode bX7_save 54 = .ok (.getfield 29, 3) ∧ 54 + 3 = 57 := by decide +kernel
theorem dX7_save_57 : decode bX7_save 57 = .ok (.iload_n 1, 1) ∧ 57 + 1 = 58 := by decide +kernel
theorem dX7_save_58 : decode bX7_save 58 = .ok (.iaload, 1) ∧ 58 + 1 = 59 := by decide +kernel
theorem dX7_save_59 : decode bX7_save 59 = .ok (.iastore, 1) ∧ 59 + 1 = 60 := by decide +kernel
theorem dX7_save_60 : decode bX7_save 60 = .ok (.aload_n 0, 1) ∧ 60 + 1 = 61 := by decide +kernel
theorem dX7_save_61 : decode bX7_save 61 = .ok (.getfield 129, 3) ∧ 61 + 3 = 64 := by decide +kernel
theorem dX7_save_64 : decode bX7_save 64 = .ok (.iload_n 1, 1) ∧ 64 + 1 = 65 := by decide +kernel
theorem dX7_save_65 : decode bX7_save 65 = .ok (.aload_n 0, 1) ∧ 65 + 1 = 66 := by decide +kernel
theorem dX7_save_66 : decode bX7_save 66 = .ok (.getfield 32, 3) ∧ 66 + 3 = 69 := by decide +kernel
theorem dX7_save_69 : decode bX7_save 69 = .ok (.iload_n 1, 1) ∧ 69 + 1 = 70 := by decide +kernel
theorem dX7_save_70 : decode bX7_save 70 = .ok (.iaload, 1) ∧ 70 + 1 = 71 := by decide +kernel
theorem dX7_save_71 : decode bX7_save 71 = .ok (.iastore, 1) ∧ 71 + 1 = 72 := by decide +kernel
theorem dX7_save_72 : decode bX7_save 72 = .ok (.aload_n 0, 1) ∧ 72 + 1 = 73 := by decide +kernel
theorem dX7_save_73 : decode bX7_save 73 = .ok (.getfield 132, 3) ∧ 73 + 3 = 76 := by decide +kernel
theorem dX7_save_76 : decode bX7_save 76 = .ok (.iload_n 1, 1) ∧ 76 + 1 = 77 := by decide +kernel
theorem dX7_save_77 : decode bX7_save 77 = .ok (.aload_n 0, 1) ∧ 77 + 1 = 78 := by decide +kernel
theorem dX7_save_78 : decode bX7_save 78 = .ok (.getfield 35, 3) ∧ 78 + 3 = 81 := by decide +kernel
theorem dX7_save_81 : decode bX7_save 81 = .ok (.iload_n 1, 1) ∧ 81 + 1 = 82 := by decide +kernel
theorem dX7_save_82 : decode bX7_save 82 = .ok (.iaload, 1) ∧ 82 + 1 = 83 := by decide +kernel
theorem dX7_save_83 : decode bX7_save 83 = .ok (.iastore, 1) ∧ 83 + 1 = 84 := by decide +kernel
theorem dX7_save_84 : decode bX7_save 84 = .ok (.aload_n 0, 1) ∧ 84 + 1 = 85 := by decide +kernel
theorem dX7_save_85 : decode bX7_save 85 = .ok (.getfield 135, 3) ∧ 85 + 3 = 88 := by decide +kernel
theorem dX7_save_88 : decode bX7_save 88 = .ok (.iload_n 1, 1) ∧ 88 + 1 = 89 := by decide +kernel
theorem dX7_save_89 : decode bX7_save 89 = .ok (.aload_n 0, 1) ∧ 89 + 1 = 90 := by decide +kernel
theorem dX7_save_90 : decode bX7_save 90 = .ok (.getfield 38, 3) ∧ 90 + 3 = 93 := by decide +kernel
theorem dX7_save_93 : decode bX7_save 93 = .ok (.iload_n 1, 1) ∧ 93 + 1 = 94 := by decide +kernel
theorem dX7_save_94 : decode bX7_save 94 = .ok (.iaload, 1) ∧ 94 + 1 = 95 := by decide +kernel
theorem dX7_save_95 : decode bX7_save 95 = .ok (.iastore, 1) ∧ 95 + 1 = 96 := by decide +kernel
theorem dX7_save_96 : decode bX7_save 96 = .ok (.aload_n 0, 1) ∧ 96 + 1 = 97 := by decide +kernel
theorem dX7_save_97 : decode bX7_save 97 = .ok (.getfield 138, 3) ∧ 97 + 3 = 100 := by decide +kernel
theorem dX7_save_100 : decode bX7_save 100 = .ok (.iload_n 1, 1) ∧ 100 + 1 = 101 := by decide +kernel
theorem dX7_save_101 : decode bX7_save 101 = .ok (.aload_n 0, 1) ∧ 101 + 1 = 102 := by decide +kernel
theorem dX7_save_102 : decode bX7_save 102 = .ok (.getfield 41, 3) ∧ 102 + 3 = 105 := by decide +kernel
theorem dX7_save_105 : decode bX7_save 105 = .ok (.iload_n 1, 1) ∧ 105 + 1 = 106 := by decide +kernel
theorem dX7_save_106 : decode bX7_save 106 = .ok (.iaload, 1) ∧ 106 + 1 = 107 := by decide +kernel
theorem dX7_save_107 : decode bX7_save 107 = .ok (.iastore, 1) ∧ 107 + 1 = 108 := by decide +kernel
theorem dX7_save_108 : decode bX7_save 108 = .ok (.aload_n 0, 1) ∧ 108 + 1 = 109 := by decide +kernel
theorem dX7_save_109 : decode bX7_save 109 = .ok (.getfield 141, 3) ∧ 109 + 3 = 112 := by decide +kernel
theorem dX7_save_112 : decode bX7_save 112 = .ok (.iload_n 1, 1) ∧ 112 + 1 = 113 := by decide +kernel
theorem dX7_save_113 : decode bX7_save 113 = .ok (.aload_n 0, 1) ∧ 113 + 1 = 114 := by decide +kernel
theorem dX7_save_114 : decode bX7_save 114 = .ok (.getfield 47, 3) ∧ 114 + 3 = 117 := by decide +kernel
theorem dX7_save_117 : decode bX7_save 117 = .ok (.iload_n 1, 1) ∧ 117 + 1 = 118 := by decide +kernel
theorem dX7_save_118 : decode bX7_save 118 = .ok (.iaload, 1) ∧ 118 + 1 = 119 := by decide +kernel
theorem dX7_save_119 : decode bX7_save 119 = .ok (.iastore, 1) ∧ 119 + 1 = 120 := by decide +kernel
theorem dX7_save_120 : decode bX7_save 120 = .ok (.iinc 1 1, 3) ∧ 120 + 3 = 123 := by decide +kernel
theorem dX7_save_123 : decode bX7_save 123 = .ok (.goto (-93), 3) ∧ ((123 : Nat) : Int) + (-93) = ((30 : Nat) : Int) := by decide +kernel
theorem dX7_save_126 : decode bX7_save 126 = .ok (.return_, 1) := by decide +kernel
theorem dX7_putBack_0 : decode bX7_putBack 0 = .ok (.aload_n 0, 1) ∧ 0 + 1 = 1 := by decide +kernel
theorem dX7_putBack_1 : decode bX7_putBack 1 = .ok (.sipush 9999, 3) ∧ 1 + 3 = 4 := by decide +kernel
theorem dX7_putBack_4 : decode bX7_putBack 4 = .ok (.putfield 111, 3) ∧ 4 + 3 = 7 := by decide +kernel
theorem dX7_putBack_7 : decode bX7_putBack 7 = .ok (.aload_n 0, 1) ∧ 7 + 1 = 8 := by decide +kernel
theorem dX7_putBack_8 : decode bX7_putBack 8 = .ok (.iconst (-1), 1) ∧ 8 + 1 = 9 := by decide +kernel
theorem dX7_putBack_9 : decode bX7_putBack 9 = .ok (.putfield 101, 3) ∧ 9 + 3 = 12 := by decide +kernel
theorem dX7_putBack_12 : decode bX7_putBack 12 = .ok (.aload_n 0, 1) ∧ 12 + 1 = 13 := by decide +kernel
theorem dX7_putBack_13 : decode bX7_putBack 13 = .ok (.iconst (-1), 1) ∧ 13 + 1 = 14 := by decide +kernel
theorem dX7_putBack_14 : decode bX7_putBack 14 = .ok (.putfield 104, 3) ∧ 14 + 3 = 17 := by decide +kernel
theorem dX7_putBack_17 : decode bX7_putBack 17 = .ok (.aload_n 0, 1) ∧ 17 + 1 = 18 := by decide +kernel
theorem dX7_putBack_18 : decode bX7_putBack 18 = .ok (.aload_n 0, 1) ∧ 18 + 1 = 19 := by decide +kernel
theorem dX7_putBack_19 : decode bX7_putBack 19 = .ok (.getfield 117, 3) ∧ 19 + 3 = 22 := by decide +kernel
theorem dX7_putBack_22 : decode bX7_putBack 22 = .ok (.putfield 7, 3) ∧ 22 + 3 = 25 := by decide +kernel
theorem dX7_putBack_25 : decode bX7_putBack 25 = .ok (.aload_n 0, 1) ∧ 25 + 1 = 26 := by decide +kernel
theorem dX7_putBack_26 : decode bX7_putBack 26 = .ok (.aload_n 0, 1) ∧ 26 + 1 = 27 := by decide +kernel
theorem dX7_putBack_27 : decode bX7_putBack 27 = .ok (.getfield 120, 3) ∧ 27 + 3 = 30 := by decide +kernel
theorem dX7_putBack_30 : decode bX7_putBack 30 = .ok (.putfield 16, 3) ∧ 30 + 3 = 33 := by decide +kernel
theorem dX7_putBack_33 : decode bX7_putBack 33 = .ok (.iconst 0, 1) ∧ 33 + 1 = 34 := by decide +kernel
theorem dX7_putBack_34 : decode bX7_putBack 34 = .ok (.istore_n 1, 1) ∧ 34 + 1 = 35 := by decide +kernel
theorem dX7_putBack_35 : decode bX7_putBack 35 = .ok (.iload_n 1, 1) ∧ 35 + 1 = 36 := by decide +kernel
theorem dX7_putBack_36 : decode bX7_putBack 36 = .ok (.bipush 6, 2) ∧ 36 + 2 = 38 := by decide +kernel
theorem dX7_putBack_38 : decode bX7_putBack 38 = .ok (.if_icmp .ge 93, 3) ∧ 38 + 3 = 41 ∧ ((38 : Nat) : Int) + (93) = ((131 : Nat) : Int) := by decide +kernel
theorem dX7_putBack_41 : decode bX7_putBack 41 = .ok (.aload_n 0, 1) ∧ 41 + 1 = 42 := by decide +kernel
theorem dX7_putBack_42 : decode bX7_putBack 42 = .ok (.getfield 26, 3) ∧ 42 + 3 = 45 := by decide +kernel
theorem dX7_putBack_45 : decode bX7_putBack 45 = .ok (.iload_n 1, 1) ∧ 45 + 1 = 46 := by decide +kernel
theorem dX7_putBack_46 : decode bX7_putBack 46 = .ok (.aload_n 0, 1) ∧ 46 + 1 = 47 := by decide +kernel
theorem dX7_putBack_47 : decode bX7_putBack 47 = .ok (.getfield 123, 3) ∧ 47 + 3 = 50 := by decide +kernel
theorem dX7_putBack_50 : decode bX7_putBack 50 = .ok (.iload_n 1, 1) ∧ 50 + 1 = 51 := by decide +kernel
theorem dX7_putBack_51 : decode bX7_putBack 51 = .ok (.iaload, 1) ∧ 51 + 1 = 52 := by decide +kernel
theorem dX7_putBack_52 : decode bX7_putBack 52 = .ok (.iastore, 1) ∧ 52 + 1 = 53 := by decide +kernel
theorem dX7_putBack_53 : decode bX7_putBack 53 = .ok (.aload_n 0, 1) ∧ 53 + 1 = 54 := by decide +kernel
theorem dX7_putBack_54 : decode bX7_putBack 54 = .ok (.getfield 29, 3) ∧ 54 + 3 = 57 := by decide +kernel
theorem dX7_putBack_57 : decode bX7_putBack 57 = .ok (.iload_n 1, 1) ∧ 57 + 1 = 58 := by decide +kernel
theorem dX7_putBack_58 : decode bX7_putBack 58 = .ok (.aload_n 0, 1) ∧ 58 + 1 = 59 := by decide +kernel
theorem dX7_putBack_59 : decode bX7_putBack 59 = .ok (.getfield 126, 3) ∧ 59 + 3 = 62 := by decide +kernel
theorem dX7_putBack_62 : decode bX7_putBack 62 = .ok (.iload_n 1, 1) ∧ 62 + 1 = 63 := by decide +kernel
theorem dX7_putBack_63 : decode bX7_putBack 63 = .ok (.iaload, 1) ∧ 63 + 1 = 64 := by decide +kernel
theorem dX7_putBack_64 : decode bX7_putBack 64 = .ok (.iastore, 1) ∧ 64 + 1 = 65 := by decide +kernel
theorem dX7_putBack_65 : decode bX7_putBack 65 = .ok (.aload_n 0, 1) ∧ 65 + 1 = 66 := by decide +kernel
theorem dX7_putBack_66 : decode bX7_putBack 66 = .ok (.getfield 32, 3) ∧ 66 + 3 = 69 := by decide +kernel
theorem dX7_putBack_69 : decode bX7_putBack 69 = .ok (.iload_n 1, 1) ∧ 69 + 1 = 70 := by decide +kernel
theorem dX7_putBack_70 : decode bX7_putBack 70 = .ok (.aload_n 0, 1) ∧ 70 + 1 = 71 := by decide +kernel
theorem dX7_putBack_71 : decode bX7_putBack 71 = .ok (.getfield 129, 3) ∧ 71 + 3 = 74 := by decide +kernel
theorem dX7_putBack_74 : decode bX7_putBack 74 = .ok (.iload_n 1, 1) ∧ 74 + 1 = 75 := by decide +kernel
theorem dX7_putBack_75 : decode bX7_putBack 75 = .ok (.iaload, 1) ∧ 75 + 1 = 76 := by decide +kernel
theorem dX7_putBack_76 : decode bX7_putBack 76 = .ok (.iastore, 1) ∧ 76 + 1 = 77 := by decide +kernel
theorem dX7_putBack_77 : decode bX7_putBack 77 = .ok (.aload_n 0, 1) ∧ 77 + 1 = 78 := by decide +kernel
theorem dX7_putBack_78 : decode bX7_putBack 78 = .ok (.getfield 35, 3) ∧ 78 + 3 = 81 := by decide +kernel
theorem dX7_putBack_81 : decode bX7_putBack 81 = .ok (.iload_n 1, 1) ∧ 81 + 1 = 82 := by decide +kernel
theorem dX7_putBack_82 : decode bX7_putBack 82 = .ok (.aload_n 0, 1) ∧ 82 + 1 = 83 := by decide +kernel
theorem dX7_putBack_83 : decode bX7_putBack 83 = .ok (.getfield 132, 3) ∧ 83 + 3 = 86 := by decide +kernel
theorem dX7_putBack_86 : decode bX7_putBack 86 = .ok (.iload_n 1, 1) ∧ 86 + 1 = 87 := by decide +kernel
theorem dX7_putBack_87 : decode bX7_putBack 87 = .ok (.iaload, 1) ∧ 87 + 1 = 88 := by decide +kernel
theorem dX7_putBack_88 : decode bX7_putBack 88 = .ok (.iastore, 1) ∧ 88 + 1 = 89 := by decide +kernel
theorem dX7_putBack_89 : decode bX7_putBack 89 = .ok (.aload_n 0, 1) ∧ 89 + 1 = 90 := by decide +kernel
theorem dX7_putBack_90 : decode bX7_putBack 90 = .ok (.getfield 38, 3) ∧ 90 + 3 = 93 := by decide +kernel
theorem dX7_putBack_93 : decode bX7_putBack 93 = .ok (.iload_n 1, 1) ∧ 93 + 1 = 94 := by decide +kernel
theorem dX7_putBack_94 : decode bX7_putBack 94 = .ok (.aload_n 0, 1) ∧ 94 + 1 = 95 := by decide +kernel
theorem dX7_putBack_95 : decode bX7_putBack 95 = .ok (.getfield 135, 3) ∧ 95 + 3 = 98 := by decide +kernel
theorem dX7_putBack_98 : decode bX7_putBack 98 = .ok (.iload_n 1, 1) ∧ 98 + 1 = 99 := by decide +kernel
theorem dX7_putBack_99 : decode bX7_putBack 99 = .ok (.iaload, 1) ∧ 99 + 1 = 100 := by decide +kernel
theorem dX7_putBack_100 : decode bX7_putBack 100 = .ok (.iastore, 1) ∧ 100 + 1 = 101 := by decide +kernel
theorem dX7_putBack_101 : decode bX7_putBack 101 = .ok (.aload_n 0, 1) ∧ 101 + 1 = 102 := by decide +kernel
theorem dX7_putBack_102 : decode bX7_putBack 102 = .ok (.getfield 41, 3) ∧ 102 + 3 = 105 := by decide +kernel
theorem dX7_putBack_105 : decode bX7_putBack 105 = .ok (.iload_n 1, 1) ∧ 105 + 1 = 106 := by decide +kernel
theorem dX7_putBack_106 : decode bX7_putBack 106 = .ok (.aload_n 0, 1) ∧ 106 + 1 = 107 := by decide +kernel
theorem dX7_putBack_107 : decode bX7_putBack 107 = .ok (.getfield 138, 3) ∧ 107 + 3 = 110 := by decide +kernel
theorem dX7_putBack_110 : decode bX7_putBack 110 = .ok (.iload_n 1, 1) ∧ 110 + 1 = 111 := by decide +kernel
theorem dX7_putBack_111 : decode bX7_putBack 111 = .ok (.iaload, 1) ∧ 111 + 1 = 112 := by decide +kernel
theorem dX7_putBack_112 : decode bX7_putBack 112 = .ok (.iastore, 1) ∧ 112 + 1 = 113 := by decide +kernel
theorem dX7_putBack_113 : decode bX7_putBack 113 = .ok (.aload_n 0, 1) ∧ 113 + 1 = 114 := by decide +kernel
theorem dX7_putBack_114 : decode bX7_putBack 114 = .ok (.getfield 47, 3) ∧ 114 + 3 = 117 := by decide +kernel
theorem dX7_putBack_117 : decode bX7_putBack 117 = .ok (.iload_n 1, 1) ∧ 117 + 1 = 118 := by decide +kernel
theorem dX7_putBack_118 : decode bX7_putBack 118 = .ok (.aload_n 0, 1) ∧ 118 + 1 = 119 := by decide +kernel
theorem dX7_putBack_119 : decode bX7_putBack 119 = .ok (.getfield 141, 3) ∧ 119 + 3 = 122 := by decide +kernel
theorem dX7_putBack_122 : decode bX7_putBack 122 = .ok (.iload_n 1, 1) ∧ 122 + 1 = 123 := by decide +kernel
theorem dX7_putBack_123 : decode bX7_putBack 123 = .ok (.iaload, 1) ∧ 123 + 1 = 124 := by decide +kernel
theorem dX7_putBack_124 : decode bX7_putBack 124 = .ok (.iastore, 1) ∧ 124 + 1 = 125 := by decide +kernel
theorem dX7_putBack_125 : decode bX7_putBack 125 = .ok (.iinc 1 1, 3) ∧ 125 + 3 = 128 := by decide +kernel
theorem dX7_putBack_128 : decode bX7_putBack 128 = .ok (.goto (-93), 3) ∧ ((128 : Nat) : Int) + (-93) = ((35 : Nat) : Int) := by decide +kernel
theorem dX7_putBack_131 : decode bX7_putBack 131 = .ok (.return_, 1) := by decide +kernel
theorem dX7_on_0 : decode bX7_on 0 = .ok (.aload_n 0, 1) ∧ 0 + 1 = 1 := by decide +kernel
theorem dX7_on_1 : decode bX7_on 1 = .ok (.iload_n 2, 1) ∧ 1 + 1 = 2 := by decide +kernel
theorem dX7_on_2 : decode bX7_on 2 = .ok (.iconst 0, 1) ∧ 2 + 1 = 3 := by decide +kernel
theorem dX7_on_3 : decode bX7_on 3 = .ok (.iconst 2, 1) ∧ 3 + 1 = 4 := by decide +kernel
theorem dX7_on_4 : decode bX7_on 4 = .ok (.invokevirtual 263, 3) ∧ 4 + 3 = 7 := by decide +kernel
theorem dX7_on_7 : decode bX7_on 7 = .ok (.ifCond .ne 39, 3) ∧ 7 + 3 = 10 ∧ ((7 : Nat) : Int) + (39) = ((46 : Nat) : Int) := by decide +kernel
theorem dX7_on_10 : decode bX7_on 10 = .ok (.aload_n 0, 1) ∧ 10 + 1 = 11 := by decide +kernel
theorem dX7_on_11 : decode bX7_on 11 = .ok (.iload_n 2, 1) ∧ 11 + 1 = 12 := by decide +kernel
theorem dX7_on_12 : decode bX7_on 12 = .ok (.bipush 10, 2) ∧ 12 + 2 = 14 := by decide +kernel
theorem dX7_on_14 : decode bX7_on 14 = .ok (.bipush 9, 2) ∧ 14 + 2 = 16 := by decide +kernel
theorem dX7_on_16 : decode bX7_on 16 = .ok (.aload_n 0, 1) ∧ 16 + 1 = 17 := by decide +kernel
theorem dX7_on_17 : decode bX7_on 17 = .ok (.getfield 13, 3) ∧ 17 + 3 = 20 := by decide +kernel
theorem dX7_on_20 : decode bX7_on 20 = .ok (.iadd, 1) ∧ 20 + 1 = 21 := by decide +kernel
theorem dX7_on_21 : decode bX7_on 21 = .ok (.invokevirtual 263, 3) ∧ 21 + 3 = 24 := by decide +kernel
theorem dX7_on_24 : decode bX7_on 24 = .ok (.ifCond .ne 22, 3) ∧ 24 + 3 = 27 ∧ ((24 : Nat) : Int) + (22) = ((46 : Nat) : Int) := by decide +kernel
theorem dX7_on_27 : decode bX7_on 27 = .ok (.aload_n 0, 1) ∧ 27 + 1 = 28 := by decide +kernel
theorem dX7_on_28 : decode bX7_on 28 = .ok (.iload_n 2, 1) ∧ 28 + 1 = 29 := by decide +kernel
theorem dX7_on_29 : decode bX7_on 29 = .ok (.bipush 20, 2) ∧ 29 + 2 = 31 := by decide +kernel
theorem dX7_on_31 : decode bX7_on 31 = .ok (.bipush 19, 2) ∧ 31 + 2 = 33 := by decide +kernel
theorem dX7_on_33 : decode bX7_on 33 = .ok (.aload_n 0, 1) ∧ 33 + 1 = 34 := by decide +kernel
theorem dX7_on_34 : decode bX7_on 34 = .ok (.getfield 13, 3) ∧ 34 + 3 = 37 := by decide +kernel
theorem dX7_on_37 : decode bX7_on 37 = .ok (.iadd, 1) ∧ 37 + 1 = 38 := by decide +kernel
theorem dX7_on_38 : decode bX7_on 38 = .ok (.invokevirtual 263, 3) ∧ 38 + 3 = 41 := by decide +kernel
theorem dX7_on_41 : decode bX7_on 41 = .ok (.ifCond .ne 5, 3) ∧ 41 + 3 = 44 ∧ ((41 : Nat) : Int) + (5) = ((46 : Nat) : Int) := by decide +kernel
theorem dX7_on_44 : decode bX7_on 44 = .ok (.iconst (-1), 1) ∧ 44 + 1 = 45 := by decide +kernel
theorem dX7_on_45 : decode bX7_on 45 = .ok (.ireturn, 1) := by decide +kernel
theorem dX7_on_46 : decode bX7_on 46 = .ok (.aload_n 0, 1) ∧ 46 + 1 = 47 := by decide +kernel
theorem dX7_on_47 : decode bX7_on 47 = .ok (.iload_n 1, 1) ∧ 47 + 1 = 48 := by decide +kernel
theorem dX7_on_48 : decode bX7_on 48 = .ok (.invokevirtual 384, 3) ∧ 48 + 3 = 51 := by decide +kernel
theorem dX7_on_51 : decode bX7_on 51 = .ok (.ifCond .ne 6, 3) ∧ 51 + 3 = 54 ∧ ((51 : Nat) : Int) + (6) = ((57 : Nat) : Int) := by decide +kernel
theorem dX7_on_54 : decode bX7_on 54 = .ok (.bipush (-2), 2) ∧ 54 + 2 = 56 := by decide +kernel
theorem dX7_on_56 : decode bX7_on 56 = .ok (.ireturn, 1) := by decide +kernel
theorem dX7_on_57 : decode bX7_on 57 = .ok (.aload_n 0, 1) ∧ 57 + 1 = 58 := by decide +kernel
theorem dX7_on_58 : decode bX7_on 58 = .ok (.invokevirtual 391, 3) ∧ 58 + 3 = 61 := by decide +kernel
theorem dX7_on_61 : decode bX7_on 61 = .ok (.aload_n 0, 1) ∧ 61 + 1 = 62 := by decide +kernel
theorem dX7_on_62 : decode bX7_on 62 = .ok (.iload_n 1, 1) ∧ 62 + 1 = 63 := by decide +kernel
theorem dX7_on_63 : decode bX7_on 63 = .ok (.invokevirtual 387, 3) ∧ 63 + 3 = 66 := by decide +kernel
theorem dX7_on_66 : decode bX7_on 66 = .ok (.iload_n 2, 1) ∧ 66 + 1 = 67 := by decide +kernel
theorem dX7_on_67 : decode bX7_on 67 = .ok (.ifCond .ne 10, 3) ∧ 67 + 3 = 70 ∧ ((67 : Nat) : Int) + (10) = ((77 : Nat) : Int) := by decide +kernel
theorem dX7_on_70 : decode bX7_on 70 = .ok (.aload_n 0, 1) ∧ 70 + 1 = 71 := by decide +kernel
theorem dX7_on_71 : decode bX7_on 71 = .ok (.getfield 7, 3) ∧ 71 + 3 = 74 := by decide +kernel
theorem dX7_on_74 : decode bX7_on 74 = .ok (.goto 54, 3) ∧ ((74 : Nat) : Int) + (54) = ((128 : Nat) : Int) := by decide +kernel
theorem dX7_on_77 : decode bX7_on 77 = .ok (.iload_n 2, 1) ∧ 77 + 1 = 78 := by decide +kernel
theorem dX7_on_78 : decode bX7_on 78 = .ok (.iconst 1, 1) ∧ 78 + 1 = 79 := by decide +kernel
theorem dX7_on_79 : decode bX7_on 79 = .ok (.if_icmp .ne 10, 3) ∧ 79 + 3 = 82 ∧ ((79 : Nat) : Int) + (10) = ((89 : Nat) : Int) := by decide +kernel
theorem dX7_on_82 : decode bX7_on 82 = .ok (.aload_n 0, 1) ∧ 82 + 1 = 83 := by decide +kernel
theorem dX7_on_83 : decode bX7_on 83 = .ok (.getfield 114, 3) ∧ 83 + 3 = 86 := by decide +kernel
theorem dX7_on_86 : decode bX7_on 86 = .ok (.goto 42, 3) ∧ ((86 : Nat) : Int) + (42) = ((128 : Nat) : Int) := by decide +kernel
theorem dX7_on_89 : decode bX7_on 89 = .ok (.iload_n 2, 1) ∧ 89 + 1 = 90 := by decide +kernel
theorem dX7_on_90 : decode bX7_on 90 = .ok (.iconst 2, 1) ∧ 90 + 1 = 91 := by decide +kernel
theorem dX7_on_91 : decode bX7_on 91 = .ok (.if_icmp .ne 10, 3) ∧ 91 + 3 = 94 ∧ ((91 : Nat) : Int) + (10) = ((101 : Nat) : Int) := by decide +kernel
theorem dX7_on_94 : decode bX7_on 94 = .ok (.aload_n 0, 1) ∧ 94 + 1 = 95 := by decide +kernel
theorem dX7_on_95 : decode bX7_on 95 = .ok (.invokevirtual 371, 3) ∧ 95 + 3 = 98 := by decide +kernel
theorem dX7_on_98 : decode bX7_on 98 = .ok (.goto 30, 3) ∧ ((98 : Nat) : Int) + (30) = ((128 : Nat) : Int) := by decide +kernel
theorem dX7_on_101 : decode bX7_on 101 = .ok (.iload_n 2, 1) ∧ 101 + 1 = 102 := by decide +kernel
theorem dX7_on_102 : decode bX7_on 102 = .ok (.bipush 20, 2) ∧ 102 + 2 = 104 := by decide +kernel
theorem dX7_on_104 : decode bX7_on 104 = .ok (.if_icmp .ge 15, 3) ∧ 104 + 3 = 107 ∧ ((104 : Nat) : Int) + (15) = ((119 : Nat) : Int) := by decide +kernel
theorem dX7_on_107 : decode bX7_on 107 = .ok (.aload_n 0, 1) ∧ 107 + 1 = 108 := by decide +kernel
theorem dX7_on_108 : decode bX7_on 108 = .ok (.getfield 32, 3) ∧ 108 + 3 = 111 := by decide +kernel
theorem dX7_on_111 : decode bX7_on 111 = .ok (.iload_n 2, 1) ∧ 111 + 1 = 112 := by decide +kernel
theorem dX7_on_112 : decode bX7_on 112 = .ok (.bipush 10, 2) ∧ 112 + 2 = 114 := by decide +kernel
theorem dX7_on_114 : decode bX7_on 114 = .ok (.isub, 1) ∧ 114 + 1 = 115 := by decide +kernel
theorem dX7_on_115 : decode bX7_on 115 = .ok (.iaload, 1) ∧ 115 + 1 = 116 := by decide +kernel
theorem dX7_on_116 : decode bX7_on 116 = .ok (.goto 12, 3) ∧ ((116 : Nat) : Int) + (12) = ((128 : Nat) : Int) := by decide +kernel
theorem dX7_on_119 : decode bX7_on 119 = .ok (.aload_n 0, 1) ∧ 119 + 1 = 120 := by decide +kernel
theorem dX7_on_120 : decode bX7_on 120 = .ok (.getfield 38, 3) ∧ 120 + 3 = 123 := by decide +kernel
theorem dX7_on_123 : decode bX7_on 123 = .ok (.iload_n 2, 1) ∧ 123 + 1 = 124 := by decide +kernel
theorem dX7_on_124 : decode bX7_on 124 = .ok (.bipush 20, 2) ∧ 124 + 2 = 126 := by decide +kernel
theorem dX7_on_126 : decode bX7_on 126 = .ok (.isub, 1) ∧ 126 + 1 = 127 := by decide +kernel
theorem dX7_on_127 : decode bX7_on 127 = .ok (.iaload, 1) ∧ 127 + 1 = 128 := by decide +kernel
theorem dX7_on_128 : decode bX7_on 128 = .ok (.istore_n 3, 1) ∧ 128 + 1 = 129 := by decide +kernel
theorem dX7_on_129 : decode bX7_on 129 = .ok (.aload_n 0, 1) ∧ 129 + 1 = 130 := by decide +kernel
theorem dX7_on_130 : decode bX7_on 130 = .ok (.invokevirtual 394, 3) ∧ 130 + 3 = 133 := by decide +kernel
theorem dX7_on_133 : decode bX7_on 133 = .ok (.iload_n 3, 1) ∧ 133 + 1 = 134 := by decide +kernel
theorem dX7_on_134 : decode bX7_on 134 = .ok (.ireturn, 1) := by decide +kernel
theorem dX7_lowest_0 : decode bX7_lowest 0 = .ok (.aload_n 0, 1) ∧ 0 + 1 = 1 := by decide +kernel
theorem dX7_lowest_1 : decode bX7_lowest 1 = .ok (.iload_n 2, 1) ∧ 1 + 1 = 2 := by decide +kernel
theorem dX7_lowest_2 : decode bX7_lowest 2 = .ok (.iconst 0, 1) ∧ 2 + 1 = 3 := by decide +kernel
theorem dX7_lowest_3 : decode bX7_lowest 3 = .ok (.iconst 1, 1) ∧ 3 + 1 = 4 := by decide +kernel
theorem dX7_lowest_4 : decode bX7_lowest 4 = .ok (.invokevirtual 263, 3) ∧ 4 + 3 = 7 := by decide +kernel
theorem dX7_lowest_7 : decode bX7_lowest 7 = .ok (.ifCond .ne 5, 3) ∧ 7 + 3 = 10 ∧ ((7 : Nat) : Int) + (5) = ((12 : Nat) : Int) := by decide +kernel
theorem dX7_lowest_10 : decode bX7_lowest 10 = .ok (.iconst (-1), 1) ∧ 10 + 1 = 11 := by decide +kernel
theorem dX7_lowest_11 : decode bX7_lowest 11 = .ok (.ireturn, 1) := by decide +kernel
theorem dX7_lowest_12 : decode bX7_lowest 12 = .ok (.aload_n 0, 1) ∧ 12 + 1 = 13 := by decide +kernel
theorem dX7_lowest_13 : decode bX7_lowest 13 = .ok (.iload_n 1, 1) ∧ 13 + 1 = 14 := by decide +kernel
theorem dX7_lowest_14 : decode bX7_lowest 14 = .ok (.invokevirtual 384, 3) ∧ 14 + 3 = 17 := by decide +kernel
theorem dX7_lowest_17 : decode bX7_lowest 17 = .ok (.ifCond .ne 6, 3) ∧ 17 + 3 = 20 ∧ ((17 : Nat) : Int) + (6) = ((23 : Nat) : Int) := by decide +kernel
theorem dX7_lowest_20 : decode bX7_lowest 20 = .ok (.bipush (-2), 2) ∧ 20 + 2 = 22 := by decide +kernel
theorem dX7_lowest_22 : decode bX7_lowest 22 = .ok (.ireturn, 1) := by decide +kernel
theorem dX7_lowest_23 : decode bX7_lowest 23 = .ok (.aload_n 0, 1) ∧ 23 + 1 = 24 := by decide +kernel
theorem dX7_lowest_24 : decode bX7_lowest 24 = .ok (.invokevirtual 391, 3) ∧ 24 + 3 = 27 := by decide +kernel
theorem dX7_lowest_27 : decode bX7_lowest 27 = .ok (.aload_n 0, 1) ∧ 27 + 1 = 28 := by decide +kernel
theorem dX7_lowest_28 : decode bX7_lowest 28 = .ok (.getfield 7, 3) ∧ 28 + 3 = 31 := by decide +kernel
theorem dX7_lowest_31 : decode bX7_lowest 31 = .ok (.istore_n 3, 1) ∧ 31 + 1 = 32 := by decide +kernel
theorem dX7_lowest_32 : decode bX7_lowest 32 = .ok (.iconst 0, 1) ∧ 32 + 1 = 33 := by decide +kernel
theorem dX7_lowest_33 : decode bX7_lowest 33 = .ok (.istore 4, 2) ∧ 33 + 2 = 35 := by decide +kernel
theorem dX7_lowest_35 : decode bX7_lowest 35 = .ok (.iconst 1, 1) ∧ 35 + 1 = 36 := by decide +kernel
theorem dX7_lowest_36 : decode bX7_lowest 36 = .ok (.istore 5, 2) ∧ 36 + 2 = 38 := by decide +kernel
theorem dX7_lowest_38 : decode bX7_lowest 38 = .ok (.iload 5, 2) ∧ 38 + 2 = 40 := by decide +kernel
theorem dX7_lowest_40 : decode bX7_lowest 40 = .ok (.iload_n 1, 1) ∧ 40 + 1 = 41 := by decide +kernel
theorem dX7_lowest_41 : decode bX7_lowest 41 = .ok (.if_icmp .gt 33, 3) ∧ 41 + 3 = 44 ∧ ((41 : Nat) : Int) + (33) = ((74 : Nat) : Int) := by decide +kernel
theorem dX7_lowest_44 : decode bX7_lowest 44 = .ok (.aload_n 0, 1) ∧ 44 + 1 = 45 := by decide +kernel
theorem dX7_lowest_45 : decode bX7_lowest 45 = .ok (.invokevirtual 381, 3) ∧ 45 + 3 = 48 := by decide +kernel
theorem dX7_lowest_48 : decode bX7_lowest 48 = .ok (.aload_n 0, 1) ∧ 48 + 1 = 49 := by decide +kernel
theorem dX7_lowest_49 : decode bX7_lowest 49 = .ok (.getfield 7, 3) ∧ 49 + 3 = 52 := by decide +kernel
theorem dX7_lowest_52 : decode bX7_lowest 52 = .ok (.iload_n 3, 1) ∧ 52 + 1 = 53 := by decide +kernel
theorem dX7_lowest_53 : decode bX7_lowest 53 = .ok (.if_icmp .lt 6, 3) ∧ 53 + 3 = 56 ∧ ((53 : Nat) : Int) + (6) = ((59 : Nat) : Int) := by decide +kernel
theorem dX7_lowest_56 : decode bX7_lowest 56 = .ok (.goto 12, 3) ∧ ((56 : Nat) : Int) + (12) = ((68 : Nat) : Int) := by decide +kernel
theorem dX7_lowest_59 : decode bX7_lowest 59 = .ok (.aload_n 0, 1) ∧ 59 + 1 = 60 := by decide +kernel
theorem dX7_lowest_60 : decode bX7_lowest 60 = .ok (.getfield 7, 3) ∧ 60 + 3 = 63 := by decide +kernel
theorem dX7_lowest_63 : decode bX7_lowest 63 = .ok (.istore_n 3, 1) ∧ 63 + 1 = 64 := by decide +kernel
theorem dX7_lowest_64 : decode bX7_lowest 64 = .ok (.iload 5, 2) ∧ 64 + 2 = 66 := by decide +kernel
theorem dX7_lowest_66 : decode bX7_lowest 66 = .ok (.istore 4, 2) ∧ 66 + 2 = 68 := by decide +kernel
theorem dX7_lowest_68 : decode bX7_lowest 68 = .ok (.iinc 5 1, 3) ∧ 68 + 3 = 71 := by decide +kernel
theorem dX7_lowest_71 : decode bX7_lowest 71 = .ok (.goto (-33), 3) ∧ ((71 : Nat) : Int) + (-33) = ((38 : Nat) : Int) := by decide +kernel
theorem dX7_lowest_74 : decode bX7_lowest 74 = .ok (.aload_n 0, 1) ∧ 74 + 1 = 75 := by decide +kernel
theorem dX7_lowest_75 : decode bX7_lowest 75 = .ok (.invokevirtual 394, 3) ∧ 75 + 3 = 78 := by decide +kernel
theorem dX7_lowest_78 : decode bX7_lowest 78 = .ok (.iload_n 2, 1) ∧ 78 + 1 = 79 := by decide +kernel
theorem dX7_lowest_79 : decode bX7_lowest 79 = .ok (.ifCond .ne 7, 3) ∧ 79 + 3 = 82 ∧ ((79 : Nat) : Int) + (7) = ((86 : Nat) : Int) := by decide +kernel
theorem dX7_lowest_82 : decode bX7_lowest 82 = .ok (.iload_n 3, 1) ∧ 82 + 1 = 83 := by decide +kernel
theorem dX7_lowest_83 : decode bX7_lowest 83 = .ok (.goto 5, 3) ∧ ((83 : Nat) : Int) + (5) = ((88 : Nat) : Int) := by decide +kernel
theorem dX7_lowest_86 : decode bX7_lowest 86 = .ok (.iload 4, 2) ∧ 86 + 2 = 88 := by decide +kernel
theorem dX7_lowest_88 : decode bX7_lowest 88 = .ok (.ireturn, 1) := by decide +kernel
theorem dX7_first_0 : decode bX7_first 0 = .ok (.aload_n 0, 1) ∧ 0 + 1 = 1 := by decide +kernel
theorem dX7_first_1 : decode bX7_first 1 = .ok (.invokevirtual 391, 3) ∧ 1 + 3 = 4 := by decide +kernel
theorem dX7_first_4 : decode bX7_first 4 = .ok (.iconst 0, 1) ∧ 4 + 1 = 5 := by decide +kernel
theorem dX7_first_5 : decode bX7_first 5 = .ok (.istore_n 1, 1) ∧ 5 + 1 = 6 := by decide +kernel
theorem dX7_first_6 : decode bX7_first 6 = .ok (.iload_n 1, 1) ∧ 6 + 1 = 7 := by decide +kernel
theorem dX7_first_7 : decode bX7_first 7 = .ok (.bipush 61, 2) ∧ 7 + 2 = 9 := by decide +kernel
theorem dX7_first_9 : decode bX7_first 9 = .ok (.if_icmp .ge 20, 3) ∧ 9 + 3 = 12 ∧ ((9 : Nat) : Int) + (20) = ((29 : Nat) : Int) := by decide +kernel
theorem dX7_first_12 : decode bX7_first 12 = .ok (.aload_n 0, 1) ∧ 12 + 1 = 13 := by decide +kernel
theorem dX7_first_13 : decode bX7_first 13 = .ok (.getfield 114, 3) ∧ 13 + 3 = 16 := by decide +kernel
theorem dX7_first_16 : decode bX7_first 16 = .ok (.ifCond .ne 13, 3) ∧ 16 + 3 = 19 ∧ ((16 : Nat) : Int) + (13) = ((29 : Nat) : Int) := by decide +kernel
theorem dX7_first_19 : decode bX7_first 19 = .ok (.aload_n 0, 1) ∧ 19 + 1 = 20 := by decide +kernel
theorem dX7_first_20 : decode bX7_first 20 = .ok (.invokevirtual 381, 3) ∧ 20 + 3 = 23 := by decide +kernel
theorem dX7_first_23 : decode bX7_first 23 = .ok (.iinc 1 1, 3) ∧ 23 + 3 = 26 := by decide +kernel
theorem dX7_first_26 : decode bX7_first 26 = .ok (.goto (-20), 3) ∧ ((26 : Nat) : Int) + (-20) = ((6 : Nat) : Int) := by decide +kernel
theorem dX7_first_29 : decode bX7_first 29 = .ok (.aload_n 0, 1) ∧ 29 + 1 = 30 := by decide +kernel
theorem dX7_first_30 : decode bX7_first 30 = .ok (.getfield 114, 3) ∧ 30 + 3 = 33 := by decide +kernel
theorem dX7_first_33 : decode bX7_first 33 = .ok (.ifCond .le 9, 3) ∧ 33 + 3 = 36 ∧ ((33 : Nat) : Int) + (9) = ((42 : Nat) : Int) := by decide +kernel
theorem dX7_first_36 : decode bX7_first 36 = .ok (.iload_n 1, 1) ∧ 36 + 1 = 37 := by decide +kernel
theorem dX7_first_37 : decode bX7_first 37 = .ok (.iconst 1, 1) ∧ 37 + 1 = 38 := by decide +kernel
theorem dX7_first_38 : decode bX7_first 38 = .ok (.isub, 1) ∧ 38 + 1 = 39 := by decide +kernel
theorem dX7_first_39 : decode bX7_first 39 = .ok (.goto 5, 3) ∧ ((39 : Nat) : Int) + (5) = ((44 : Nat) : Int) := by decide +kernel
theorem dX7_first_42 : decode bX7_first 42 = .ok (.bipush (-5), 2) ∧ 42 + 2 = 44 := by decide +kernel
theorem dX7_first_44 : decode bX7_first 44 = .ok (.istore_n 2, 1) ∧ 44 + 1 = 45 := by decide +kernel
theorem dX7_first_45 : decode bX7_first 45 = .ok (.aload_n 0, 1) ∧ 45 + 1 = 46 := by decide +kernel
theorem dX7_first_46 : decode bX7_first 46 = .ok (.invokevirtual 394, 3) ∧ 46 + 3 = 49 := by decide +kernel
theorem dX7_first_49 : decode bX7_first 49 = .ok (.iload_n 2, 1) ∧ 49 + 1 = 50 := by decide +kernel
theorem dX7_first_50 : decode bX7_first 50 = .ok (.ireturn, 1) := by decide +kernel
theorem dX7_turnedThen_0 : decode bX7_turnedThen 0 = .ok (.aload_n 0, 1) ∧ 0 + 1 = 1 := by decide +kernel
theorem dX7_turnedThen_1 : decode bX7_turnedThen 1 = .ok (.bipush 30, 2) ∧ 1 + 2 = 3 := by decide +kernel
theorem dX7_turnedThen_3 : decode bX7_turnedThen 3 = .ok (.invokevirtual 387, 3) ∧ 3 + 3 = 6 := by decide +kernel
theorem dX7_turnedThen_6 : decode bX7_turnedThen 6 = .ok (.aload_n 0, 1) ∧ 6 + 1 = 7 := by decide +kernel
theorem dX7_turnedThen_7 : decode bX7_turnedThen 7 = .ok (.getfield 114, 3) ∧ 7 + 3 = 10 := by decide +kernel
theorem dX7_turnedThen_10 : decode bX7_turnedThen 10 = .ok (.istore_n 1, 1) ∧ 10 + 1 = 11 := by decide +kernel
theorem dX7_turnedThen_11 : decode bX7_turnedThen 11 = .ok (.aload_n 0, 1) ∧ 11 + 1 = 12 := by decide +kernel
theorem dX7_turnedThen_12 : decode bX7_turnedThen 12 = .ok (.invokevirtual 394, 3) ∧ 12 + 3 = 15 := by decide +kernel
theorem dX7_turnedThen_15 : decode bX7_turnedThen 15 = .ok (.iload_n 1, 1) ∧ 15 + 1 = 16 := by decide +kernel
theorem dX7_turnedThen_16 : decode bX7_turnedThen 16 = .ok (.ireturn, 1) := by decide +kernel
theorem dX7_turned_0 : decode bX7_turned 0 = .ok (.aload_n 0, 1) ∧ 0 + 1 = 1 := by decide +kernel
theorem dX7_turned_1 : decode bX7_turned 1 = .ok (.invokevirtual 391, 3) ∧ 1 + 3 = 4 := by decide +kernel
theorem dX7_turned_4 : decode bX7_turned 4 = .ok (.aload_n 0, 1) ∧ 4 + 1 = 5 := by decide +kernel
theorem dX7_turned_5 : decode bX7_turned 5 = .ok (.invokevirtual 397, 3) ∧ 5 + 3 = 8 := by decide +kernel
theorem dX7_turned_8 : decode bX7_turned 8 = .ok (.ireturn, 1) := by decide +kernel
theorem dX7_callOf_0 : decode bX7_callOf 0 = .ok (.bipush (-5), 2) ∧ 0 + 2 = 2 := by decide +kernel
theorem dX7_callOf_2 : decode bX7_callOf 2 = .ok (.istore_n 1, 1) ∧ 2 + 1 = 3 := by decide +kernel
theorem dX7_callOf_3 : decode bX7_callOf 3 = .ok (.aload_n 0, 1) ∧ 3 + 1 = 4 := by decide +kernel
theorem dX7_callOf_4 : decode bX7_callOf 4 = .ok (.invokevirtual 400, 3) ∧ 4 + 3 = 7 := by decide +kernel
theorem dX7_callOf_7 : decode bX7_callOf 7 = .ok (.istore_n 2, 1) ∧ 7 + 1 = 8 := by decide +kernel
theorem dX7_callOf_8 : decode bX7_callOf 8 = .ok (.iconst 0, 1) ∧ 8 + 1 = 9 := by decide +kernel
theorem dX7_callOf_9 : decode bX7_callOf 9 = .ok (.istore_n 3, 1) ∧ 9 + 1 = 10 := by decide +kernel
theorem dX7_callOf_10 : decode bX7_callOf 10 = .ok (.iload_n 3, 1) ∧ 10 + 1 = 11 := by decide +kernel
theorem dX7_callOf_11 : decode bX7_callOf 11 = .ok (.aload_n 0, 1) ∧ 11 + 1 = 12 := by decide +kernel
theorem dX7_callOf_12 : decode bX7_callOf 12 = .ok (.getfield 13, 3) ∧ 12 + 3 = 15 := by decide +kernel
theorem dX7_callOf_15 : decode bX7_callOf 15 = .ok (.if_icmp .ge 50, 3) ∧ 15 + 3 = 18 ∧ ((15 : Nat) : Int) + (50) = ((65 : Nat) : Int) := by decide +kernel
theorem dX7_callOf_18 : decode bX7_callOf 18 = .ok (.aload_n 0, 1) ∧ 18 + 1 = 19 := by decide +kernel
theorem dX7_callOf_19 : decode bX7_callOf 19 = .ok (.getfield 32, 3) ∧ 19 + 3 = 22 := by decide +kernel
theorem dX7_callOf_22 : decode bX7_callOf 22 = .ok (.iload_n 3, 1) ∧ 22 + 1 = 23 := by decide +kernel
theorem dX7_callOf_23 : decode bX7_callOf 23 = .ok (.iaload, 1) ∧ 23 + 1 = 24 := by decide +kernel
theorem dX7_callOf_24 : decode bX7_callOf 24 = .ok (.ifCond .ne 6, 3) ∧ 24 + 3 = 27 ∧ ((24 : Nat) : Int) + (6) = ((30 : Nat) : Int) := by decide +kernel
theorem dX7_callOf_27 : decode bX7_callOf 27 = .ok (.goto 32, 3) ∧ ((27 : Nat) : Int) + (32) = ((59 : Nat) : Int) := by decide +kernel
theorem dX7_callOf_30 : decode bX7_callOf 30 = .ok (.aload_n 0, 1) ∧ 30 + 1 = 31 := by decide +kernel
theorem dX7_callOf_31 : decode bX7_callOf 31 = .ok (.invokevirtual 391, 3) ∧ 31 + 3 = 34 := by decide +kernel
theorem dX7_callOf_34 : decode bX7_callOf 34 = .ok (.aload_n 0, 1) ∧ 34 + 1 = 35 := by decide +kernel
theorem dX7_callOf_35 : decode bX7_callOf 35 = .ok (.iload_n 3, 1) ∧ 35 + 1 = 36 := by decide +kernel
theorem dX7_callOf_36 : decode bX7_callOf 36 = .ok (.invokevirtual 288, 3) ∧ 36 + 3 = 39 := by decide +kernel
theorem dX7_callOf_39 : decode bX7_callOf 39 = .ok (.aload_n 0, 1) ∧ 39 + 1 = 40 := by decide +kernel
theorem dX7_callOf_40 : decode bX7_callOf 40 = .ok (.invokevirtual 397, 3) ∧ 40 + 3 = 43 := by decide +kernel
theorem dX7_callOf_43 : decode bX7_callOf 43 = .ok (.istore 4, 2) ∧ 43 + 2 = 45 := by decide +kernel
theorem dX7_callOf_45 : decode bX7_callOf 45 = .ok (.iload 4, 2) ∧ 45 + 2 = 47 := by decide +kernel
theorem dX7_callOf_47 : decode bX7_callOf 47 = .ok (.iload_n 2, 1) ∧ 47 + 1 = 48 := by decide +kernel
theorem dX7_callOf_48 : decode bX7_callOf 48 = .ok (.if_icmp .lt 6, 3) ∧ 48 + 3 = 51 ∧ ((48 : Nat) : Int) + (6) = ((54 : Nat) : Int) := by decide +kernel
theorem dX7_callOf_51 : decode bX7_callOf 51 = .ok (.goto 8, 3) ∧ ((51 : Nat) : Int) + (8) = ((59 : Nat) : Int) := by decide +kernel
theorem dX7_callOf_54 : decode bX7_callOf 54 = .ok (.iload_n 3, 1) ∧ 54 + 1 = 55 := by decide +kernel
theorem dX7_callOf_55 : decode bX7_callOf 55 = .ok (.istore_n 1, 1) ∧ 55 + 1 = 56 := by decide +kernel
theorem dX7_callOf_56 : decode bX7_callOf 56 = .ok (.iload 4, 2) ∧ 56 + 2 = 58 := by decide +kernel
theorem dX7_callOf_58 : decode bX7_callOf 58 = .ok (.istore_n 2, 1) ∧ 58 + 1 = 59 := by decide +kernel
theorem dX7_callOf_59 : decode bX7_callOf 59 = .ok (.iinc 3 1, 3) ∧ 59 + 3 = 62 := by decide +kernel
theorem dX7_callOf_62 : decode bX7_callOf 62 = .ok (.goto (-52), 3) ∧ ((62 : Nat) : Int) + (-52) = ((10 : Nat) : Int) := by decide +kernel
theorem dX7_callOf_65 : decode bX7_callOf 65 = .ok (.iload_n 1, 1) ∧ 65 + 1 = 66 := by decide +kernel
theorem dX7_callOf_66 : decode bX7_callOf 66 = .ok (.ireturn, 1) := by decide +kernel
theorem dX7_aheadOf_0 : decode bX7_aheadOf 0 = .ok (.bipush (-5), 2) ∧ 0 + 2 = 2 := by decide +kernel
theorem dX7_aheadOf_2 : decode bX7_aheadOf 2 = .ok (.istore_n 1, 1) ∧ 2 + 1 = 3 := by decide +kernel
theorem dX7_aheadOf_3 : decode bX7_aheadOf 3 = .ok (.aload_n 0, 1) ∧ 3 + 1 = 4 := by decide +kernel
theorem dX7_aheadOf_4 : decode bX7_aheadOf 4 = .ok (.invokevirtual 400, 3) ∧ 4 + 3 = 7 := by decide +kernel
theorem dX7_aheadOf_7 : decode bX7_aheadOf 7 = .ok (.istore_n 2, 1) ∧ 7 + 1 = 8 := by decide +kernel
theorem dX7_aheadOf_8 : decode bX7_aheadOf 8 = .ok (.iconst 0, 1) ∧ 8 + 1 = 9 := by decide +kernel
theorem dX7_aheadOf_9 : decode bX7_aheadOf 9 = .ok (.istore_n 3, 1) ∧ 9 + 1 = 10 := by decide +kernel
theorem dX7_aheadOf_10 : decode bX7_aheadOf 10 = .ok (.iload_n 3, 1) ∧ 10 + 1 = 11 := by decide +kernel
theorem dX7_aheadOf_11 : decode bX7_aheadOf 11 = .ok (.aload_n 0, 1) ∧ 11 + 1 = 12 := by decide +kernel
theorem dX7_aheadOf_12 : decode bX7_aheadOf 12 = .ok (.getfield 13, 3) ∧ 12 + 3 = 15 := by decide +kernel
theorem dX7_aheadOf_15 : decode bX7_aheadOf 15 = .ok (.if_icmp .ge 66, 3) ∧ 15 + 3 = 18 ∧ ((15 : Nat) : Int) + (66) = ((81 : Nat) : Int) := by decide +kernel
theorem dX7_aheadOf_18 : decode bX7_aheadOf 18 = .ok (.iload_n 3, 1) ∧ 18 + 1 = 19 := by decide +kernel
theorem dX7_aheadOf_19 : decode bX7_aheadOf 19 = .ok (.iconst 1, 1) ∧ 19 + 1 = 20 := by decide +kernel
theorem dX7_aheadOf_20 : decode bX7_aheadOf 20 = .ok (.iadd, 1) ∧ 20 + 1 = 21 := by decide +kernel
theorem dX7_aheadOf_21 : decode bX7_aheadOf 21 = .ok (.istore 4, 2) ∧ 21 + 2 = 23 := by decide +kernel
theorem dX7_aheadOf_23 : decode bX7_aheadOf 23 = .ok (.iload 4, 2) ∧ 23 + 2 = 25 := by decide +kernel
theorem dX7_aheadOf_25 : decode bX7_aheadOf 25 = .ok (.aload_n 0, 1) ∧ 25 + 1 = 26 := by decide +kernel
theorem dX7_aheadOf_26 : decode bX7_aheadOf 26 = .ok (.getfield 13, 3) ∧ 26 + 3 = 29 := by decide +kernel
theorem dX7_aheadOf_29 : decode bX7_aheadOf 29 = .ok (.if_icmp .ge 46, 3) ∧ 29 + 3 = 32 ∧ ((29 : Nat) : Int) + (46) = ((75 : Nat) : Int) := by decide +kernel
theorem dX7_aheadOf_32 : decode bX7_aheadOf 32 = .ok (.aload_n 0, 1) ∧ 32 + 1 = 33 := by decide +kernel
theorem dX7_aheadOf_33 : decode bX7_aheadOf 33 = .ok (.invokevirtual 391, 3) ∧ 33 + 3 = 36 := by decide +kernel
theorem dX7_aheadOf_36 : decode bX7_aheadOf 36 = .ok (.aload_n 0, 1) ∧ 36 + 1 = 37 := by decide +kernel
theorem dX7_aheadOf_37 : decode bX7_aheadOf 37 = .ok (.iload_n 3, 1) ∧ 37 + 1 = 38 := by decide +kernel
theorem dX7_aheadOf_38 : decode bX7_aheadOf 38 = .ok (.iload 4, 2) ∧ 38 + 2 = 40 := by decide +kernel
theorem dX7_aheadOf_40 : decode bX7_aheadOf 40 = .ok (.invokevirtual 280, 3) ∧ 40 + 3 = 43 := by decide +kernel
theorem dX7_aheadOf_43 : decode bX7_aheadOf 43 = .ok (.aload_n 0, 1) ∧ 43 + 1 = 44 := by decide +kernel
theorem dX7_aheadOf_44 : decode bX7_aheadOf 44 = .ok (.invokevirtual 397, 3) ∧ 44 + 3 = 47 := by decide +kernel
theorem dX7_aheadOf_47 : decode bX7_aheadOf 47 = .ok (.istore 5, 2) ∧ 47 + 2 = 49 := by decide +kernel
theorem dX7_aheadOf_49 : decode bX7_aheadOf 49 = .ok (.iload 5, 2) ∧ 49 + 2 = 51 := by decide +kernel
theorem dX7_aheadOf_51 : decode bX7_aheadOf 51 = .ok (.iload_n 2, 1) ∧ 51 + 1 = 52 := by decide +kernel
theorem dX7_aheadOf_52 : decode bX7_aheadOf 52 = .ok (.if_icmp .lt 6, 3) ∧ 52 + 3 = 55 ∧ ((52 : Nat) : Int) + (6) = ((58 : Nat) : Int) := by decide +kernel
theorem dX7_aheadOf_55 : decode bX7_aheadOf 55 = .ok (.goto 14, 3) ∧ ((55 : Nat) : Int) + (14) = ((69 : Nat) : Int) := by decide +kernel
theorem dX7_aheadOf_58 : decode bX7_aheadOf 58 = .ok (.bipush 10, 2) ∧ 58 + 2 = 60 := by decide +kernel
theorem dX7_aheadOf_60 : decode bX7_aheadOf 60 = .ok (.iload_n 3, 1) ∧ 60 + 1 = 61 := by decide +kernel
theorem dX7_aheadOf_61 : decode bX7_aheadOf 61 = .ok (.imul, 1) ∧ 61 + 1 = 62 := by decide +kernel
theorem dX7_aheadOf_62 : decode bX7_aheadOf 62 = .ok (.iload 4, 2) ∧ 62 + 2 = 64 := by decide +kernel
theorem dX7_aheadOf_64 : decode bX7_aheadOf 64 = .ok (.iadd, 1) ∧ 64 + 1 = 65 := by decide +kernel
theorem dX7_aheadOf_65 : decode bX7_aheadOf 65 = .ok (.istore_n 1, 1) ∧ 65 + 1 = 66 := by decide +kernel
theorem dX7_aheadOf_66 : decode bX7_aheadOf 66 = .ok (.iload 5, 2) ∧ 66 + 2 = 68 := by decide +kernel
theorem dX7_aheadOf_68 : decode bX7_aheadOf 68 = .ok (.istore_n 2, 1) ∧ 68 + 1 = 69 := by decide +kernel
theorem dX7_aheadOf_69 : decode bX7_aheadOf 69 = .ok (.iinc 4 1, 3) ∧ 69 + 3 = 72 := by decide +kernel
theorem dX7_aheadOf_72 : decode bX7_aheadOf 72 = .ok (.goto (-49), 3) ∧ ((72 : Nat) : Int) + (-49) = ((23 : Nat) : Int) := by decide +kernel
theorem dX7_aheadOf_75 : decode bX7_aheadOf 75 = .ok (.iinc 3 1, 3) ∧ 75 + 3 = 78 := by decide +kernel
theorem dX7_aheadOf_78 : decode bX7_aheadOf 78 = .ok (.goto (-68), 3) ∧ ((78 : Nat) : Int) + (-68) = ((10 : Nat) : Int) := by decide +kernel
theorem dX7_aheadOf_81 : decode bX7_aheadOf 81 = .ok (.iload_n 1, 1) ∧ 81 + 1 = 82 := by decide +kernel
theorem dX7_aheadOf_82 : decode bX7_aheadOf 82 = .ok (.ireturn, 1) := by decide +kernel
theorem dX7_markOf_0 : decode bX7_markOf 0 = .ok (.iconst 0, 1) ∧ 0 + 1 = 1 := by decide +kernel
theorem dX7_markOf_1 : decode bX7_markOf 1 = .ok (.istore_n 1, 1) ∧ 1 + 1 = 2 := by decide +kernel
theorem dX7_markOf_2 : decode bX7_markOf 2 = .ok (.iconst (-1), 1) ∧ 2 + 1 = 3 := by decide +kernel
theorem dX7_markOf_3 : decode bX7_markOf 3 = .ok (.istore_n 2, 1) ∧ 3 + 1 = 4 := by decide +kernel
theorem dX7_markOf_4 : decode bX7_markOf 4 = .ok (.bipush 95, 2) ∧ 4 + 2 = 6 := by decide +kernel
theorem dX7_markOf_6 : decode bX7_markOf 6 = .ok (.istore_n 3, 1) ∧ 6 + 1 = 7 := by decide +kernel
theorem dX7_markOf_7 : decode bX7_markOf 7 = .ok (.iload_n 3, 1) ∧ 7 + 1 = 8 := by decide +kernel
theorem dX7_markOf_8 : decode bX7_markOf 8 = .ok (.ifCond .lt 42, 3) ∧ 8 + 3 = 11 ∧ ((8 : Nat) : Int) + (42) = ((50 : Nat) : Int) := by decide +kernel
theorem dX7_markOf_11 : decode bX7_markOf 11 = .ok (.aload_n 0, 1) ∧ 11 + 1 = 12 := by decide +kernel
theorem dX7_markOf_12 : decode bX7_markOf 12 = .ok (.invokevirtual 391, 3) ∧ 12 + 3 = 15 := by decide +kernel
theorem dX7_markOf_15 : decode bX7_markOf 15 = .ok (.aload_n 0, 1) ∧ 15 + 1 = 16 := by decide +kernel
theorem dX7_markOf_16 : decode bX7_markOf 16 = .ok (.iload_n 3, 1) ∧ 16 + 1 = 17 := by decide +kernel
theorem dX7_markOf_17 : decode bX7_markOf 17 = .ok (.putfield 101, 3) ∧ 17 + 3 = 20 := by decide +kernel
theorem dX7_markOf_20 : decode bX7_markOf 20 = .ok (.aload_n 0, 1) ∧ 20 + 1 = 21 := by decide +kernel
theorem dX7_markOf_21 : decode bX7_markOf 21 = .ok (.invokevirtual 397, 3) ∧ 21 + 3 = 24 := by decide +kernel
theorem dX7_markOf_24 : decode bX7_markOf 24 = .ok (.istore 4, 2) ∧ 24 + 2 = 26 := by decide +kernel
theorem dX7_markOf_26 : decode bX7_markOf 26 = .ok (.iload_n 2, 1) ∧ 26 + 1 = 27 := by decide +kernel
theorem dX7_markOf_27 : decode bX7_markOf 27 = .ok (.ifCond .lt 12, 3) ∧ 27 + 3 = 30 ∧ ((27 : Nat) : Int) + (12) = ((39 : Nat) : Int) := by decide +kernel
theorem dX7_markOf_30 : decode bX7_markOf 30 = .ok (.iload 4, 2) ∧ 30 + 2 = 32 := by decide +kernel
theorem dX7_markOf_32 : decode bX7_markOf 32 = .ok (.iload_n 2, 1) ∧ 32 + 1 = 33 := by decide +kernel
theorem dX7_markOf_33 : decode bX7_markOf 33 = .ok (.if_icmp .lt 6, 3) ∧ 33 + 3 = 36 ∧ ((33 : Nat) : Int) + (6) = ((39 : Nat) : Int) := by decide +kernel
theorem dX7_markOf_36 : decode bX7_markOf 36 = .ok (.goto 8, 3) ∧ ((36 : Nat) : Int) + (8) = ((44 : Nat) : Int) := by decide +kernel
theorem dX7_markOf_39 : decode bX7_markOf 39 = .ok (.iload_n 3, 1) ∧ 39 + 1 = 40 := by decide +kernel
theorem dX7_markOf_40 : decode bX7_markOf 40 = .ok (.istore_n 1, 1) ∧ 40 + 1 = 41 := by decide +kernel
theorem dX7_markOf_41 : decode bX7_markOf 41 = .ok (.iload 4, 2) ∧ 41 + 2 = 43 := by decide +kernel
theorem dX7_markOf_43 : decode bX7_markOf 43 = .ok (.istore_n 2, 1) ∧ 43 + 1 = 44 := by decide +kernel
theorem dX7_markOf_44 : decode bX7_markOf 44 = .ok (.iinc 3 (-5), 3) ∧ 44 + 3 = 47 := by decide +kernel
theorem dX7_markOf_47 : decode bX7_markOf 47 = .ok (.goto (-40), 3) ∧ ((47 : Nat) : Int) + (-40) = ((7 : Nat) : Int) := by decide +kernel
theorem dX7_markOf_50 : decode bX7_markOf 50 = .ok (.iload_n 1, 1) ∧ 50 + 1 = 51 := by decide +kernel
theorem dX7_markOf_51 : decode bX7_markOf 51 = .ok (.ireturn, 1) := by decide +kernel
theorem dX7_best_0 : decode bX7_best 0 = .ok (.iload_n 1, 1) ∧ 0 + 1 = 1 := by decide +kernel
theorem dX7_best_1 : decode bX7_best 1 = .ok (.tableswitch 51 0 3 #[31, 36, 41, 46], 31) := by decide +kernel
theorem dX7_best_32 : decode bX7_best 32 = .ok (.aload_n 0, 1) ∧ 32 + 1 = 33 := by decide +kernel
theorem dX7_best_33 : decode bX7_best 33 = .ok (.invokevirtual 403, 3) ∧ 33 + 3 = 36 := by decide +kernel
theorem dX7_best_36 : decode bX7_best 36 = .ok (.ireturn, 1) := by decide +kernel
theorem dX7_best_37 : decode bX7_best 37 = .ok (.aload_n 0, 1) ∧ 37 + 1 = 38 := by decide +kernel
theorem dX7_best_38 : decode bX7_best 38 = .ok (.invokevirtual 406, 3) ∧ 38 + 3 = 41 := by decide +kernel
theorem dX7_best_41 : decode bX7_best 41 = .ok (.ireturn, 1) := by decide +kernel
theorem dX7_best_42 : decode bX7_best 42 = .ok (.aload_n 0, 1) ∧ 42 + 1 = 43 := by decide +kernel
theorem dX7_best_43 : decode bX7_best 43 = .ok (.invokevirtual 409, 3) ∧ 43 + 3 = 46 := by decide +kernel
theorem dX7_best_46 : decode bX7_best 46 = .ok (.ireturn, 1) := by decide +kernel
theorem dX7_best_47 : decode bX7_best 47 = .ok (.aload_n 0, 1) ∧ 47 + 1 = 48 := by decide +kernel
theorem dX7_best_48 : decode bX7_best 48 = .ok (.invokevirtual 400, 3) ∧ 48 + 3 = 51 := by decide +kernel
theorem dX7_best_51 : decode bX7_best 51 = .ok (.ireturn, 1) := by decide +kernel
theorem dX7_best_52 : decode bX7_best 52 = .ok (.iconst (-1), 1) ∧ 52 + 1 = 53 := by decide +kernel
theorem dX7_best_53 : decode bX7_best 53 = .ok (.ireturn, 1) := by decide +kernel
theorem dX7_seldom_0 : decode bX7_seldom 0 = .ok (.aload_n 0, 1) ∧ 0 + 1 = 1 := by decide +kernel
theorem dX7_seldom_1 : decode bX7_seldom 1 = .ok (.iload_n 1, 1) ∧ 1 + 1 = 2 := by decide +kernel
theorem dX7_seldom_2 : decode bX7_seldom 2 = .ok (.invokevirtual 274, 3) ∧ 2 + 3 = 5 := by decide +kernel
theorem dX7_seldom_5 : decode bX7_seldom 5 = .ok (.ifCond .ne 5, 3) ∧ 5 + 3 = 8 ∧ ((5 : Nat) : Int) + (5) = ((10 : Nat) : Int) := by decide +kernel
theorem dX7_seldom_8 : decode bX7_seldom 8 = .ok (.iconst (-1), 1) ∧ 8 + 1 = 9 := by decide +kernel
theorem dX7_seldom_9 : decode bX7_seldom 9 = .ok (.ireturn, 1) := by decide +kernel
theorem dX7_seldom_10 : decode bX7_seldom 10 = .ok (.iconst 0, 1) ∧ 10 + 1 = 11 := by decide +kernel
theorem dX7_seldom_11 : decode bX7_seldom 11 = .ok (.istore_n 2, 1) ∧ 11 + 1 = 12 := by decide +kernel
theorem dX7_seldom_12 : decode bX7_seldom 12 = .ok (.iconst (-1), 1) ∧ 12 + 1 = 13 := by decide +kernel
theorem dX7_seldom_13 : decode bX7_seldom 13 = .ok (.istore_n 3, 1) ∧ 13 + 1 = 14 := by decide +kernel
theorem dX7_seldom_14 : decode bX7_seldom 14 = .ok (.iconst 1, 1) ∧ 14 + 1 = 15 := by decide +kernel
theorem dX7_seldom_15 : decode bX7_seldom 15 = .ok (.istore 4, 2) ∧ 15 + 2 = 17 := by decide +kernel
theorem dX7_seldom_17 : decode bX7_seldom 17 = .ok (.iload 4, 2) ∧ 17 + 2 = 19 := by decide +kernel
theorem dX7_seldom_19 : decode bX7_seldom 19 = .ok (.bipush 21, 2) ∧ 19 + 2 = 21 := by decide +kernel
theorem dX7_seldom_21 : decode bX7_seldom 21 = .ok (.if_icmp .ge 46, 3) ∧ 21 + 3 = 24 ∧ ((21 : Nat) : Int) + (46) = ((67 : Nat) : Int) := by decide +kernel
theorem dX7_seldom_24 : decode bX7_seldom 24 = .ok (.aload_n 0, 1) ∧ 24 + 1 = 25 := by decide +kernel
theorem dX7_seldom_25 : decode bX7_seldom 25 = .ok (.invokevirtual 391, 3) ∧ 25 + 3 = 28 := by decide +kernel
theorem dX7_seldom_28 : decode bX7_seldom 28 = .ok (.aload_n 0, 1) ∧ 28 + 1 = 29 := by decide +kernel
theorem dX7_seldom_29 : decode bX7_seldom 29 = .ok (.getfield 29, 3) ∧ 29 + 3 = 32 := by decide +kernel
theorem dX7_seldom_32 : decode bX7_seldom 32 = .ok (.iload_n 1, 1) ∧ 32 + 1 = 33 := by decide +kernel
theorem dX7_seldom_33 : decode bX7_seldom 33 = .ok (.iload 4, 2) ∧ 33 + 2 = 35 := by decide +kernel
theorem dX7_seldom_35 : decode bX7_seldom 35 = .ok (.iastore, 1) ∧ 35 + 1 = 36 := by decide +kernel
theorem dX7_seldom_36 : decode bX7_seldom 36 = .ok (.aload_n 0, 1) ∧ 36 + 1 = 37 := by decide +kernel
theorem dX7_seldom_37 : decode bX7_seldom 37 = .ok (.invokevirtual 397, 3) ∧ 37 + 3 = 40 := by decide +kernel
theorem dX7_seldom_40 : decode bX7_seldom 40 = .ok (.istore 5, 2) ∧ 40 + 2 = 42 := by decide +kernel
theorem dX7_seldom_42 : decode bX7_seldom 42 = .ok (.iload_n 3, 1) ∧ 42 + 1 = 43 := by decide +kernel
theorem dX7_seldom_43 : decode bX7_seldom 43 = .ok (.ifCond .lt 12, 3) ∧ 43 + 3 = 46 ∧ ((43 : Nat) : Int) + (12) = ((55 : Nat) : Int) := by decide +kernel
theorem dX7_seldom_46 : decode bX7_seldom 46 = .ok (.iload 5, 2) ∧ 46 + 2 = 48 := by decide +kernel
theorem dX7_seldom_48 : decode bX7_seldom 48 = .ok (.iload_n 3, 1) ∧ 48 + 1 = 49 := by decide +kernel
theorem dX7_seldom_49 : decode bX7_seldom 49 = .ok (.if_icmp .lt 6, 3) ∧ 49 + 3 = 52 ∧ ((49 : Nat) : Int) + (6) = ((55 : Nat) : Int) := by decide +kernel
theorem dX7_seldom_52 : decode bX7_seldom 52 = .ok (.goto 9, 3) ∧ ((52 : Nat) : Int) + (9) = ((61 : Nat) : Int) := by decide +kernel
theorem dX7_seldom_55 : decode bX7_seldom 55 = .ok (.iload 4, 2) ∧ 55 + 2 = 57 := by decide +kernel
theorem dX7_seldom_57 : decode bX7_seldom 57 = .ok (.istore_n 2, 1) ∧ 57 + 1 = 58 := by decide +kernel
theorem dX7_seldom_58 : decode bX7_seldom 58 = .ok (.iload 5, 2) ∧ 58 + 2 = 60 := by decide +kernel
theorem dX7_seldom_60 : decode bX7_seldom 60 = .ok (.istore_n 3, 1) ∧ 60 + 1 = 61 := by decide +kernel
theorem dX7_seldom_61 : decode bX7_seldom 61 = .ok (.iinc 4 1, 3) ∧ 61 + 3 = 64 := by decide +kernel
theorem dX7_seldom_64 : decode bX7_seldom 64 = .ok (.goto (-47), 3) ∧ ((64 : Nat) : Int) + (-47) = ((17 : Nat) : Int) := by decide +kernel
theorem dX7_seldom_67 : decode bX7_seldom 67 = .ok (.iload_n 2, 1) ∧ 67 + 1 = 68 := by decide +kernel
theorem dX7_seldom_68 : decode bX7_seldom 68 = .ok (.ireturn, 1) := by decide +kernel
theorem dX7_more_0 : decode bX7_more 0 = .ok (.aload_n 0, 1) ∧ 0 + 1 = 1 := by decide +kernel
theorem dX7_more_1 : decode bX7_more 1 = .ok (.iload_n 1, 1) ∧ 1 + 1 = 2 := by decide +kernel
theorem dX7_more_2 : decode bX7_more 2 = .ok (.iconst 1, 1) ∧ 2 + 1 = 3 := by decide +kernel
theorem dX7_more_3 : decode bX7_more 3 = .ok (.bipush 12, 2) ∧ 3 + 2 = 5 := by decide +kernel
theorem dX7_more_5 : decode bX7_more 5 = .ok (.invokevirtual 263, 3) ∧ 5 + 3 = 8 := by decide +kernel
theorem dX7_more_8 : decode bX7_more 8 = .ok (.ifCond .ne 6, 3) ∧ 8 + 3 = 11 ∧ ((8 : Nat) : Int) + (6) = ((14 : Nat) : Int) := by decide +kernel
theorem dX7_more_11 : decode bX7_more 11 = .ok (.bipush (-2), 2) ∧ 11 + 2 = 13 := by decide +kernel
theorem dX7_more_13 : decode bX7_more 13 = .ok (.ireturn, 1) := by decide +kernel
theorem dX7_more_14 : decode bX7_more 14 = .ok (.bipush (-5), 2) ∧ 14 + 2 = 16 := by decide +kernel
theorem dX7_more_16 : decode bX7_more 16 = .ok (.istore_n 2, 1) ∧ 16 + 1 = 17 := by decide +kernel
theorem dX7_more_17 : decode bX7_more 17 = .ok (.iconst 0, 1) ∧ 17 + 1 = 18 := by decide +kernel
theorem dX7_more_18 : decode bX7_more 18 = .ok (.istore_n 3, 1) ∧ 18 + 1 = 19 := by decide +kernel
theorem dX7_more_19 : decode bX7_more 19 = .ok (.iload_n 3, 1) ∧ 19 + 1 = 20 := by decide +kernel
theorem dX7_more_20 : decode bX7_more 20 = .ok (.sipush 991, 3) ∧ 20 + 3 = 23 := by decide +kernel
theorem dX7_more_23 : decode bX7_more 23 = .ok (.if_icmp .ge 57, 3) ∧ 23 + 3 = 26 ∧ ((23 : Nat) : Int) + (57) = ((80 : Nat) : Int) := by decide +kernel
theorem dX7_more_26 : decode bX7_more 26 = .ok (.iload_n 2, 1) ∧ 26 + 1 = 27 := by decide +kernel
theorem dX7_more_27 : decode bX7_more 27 = .ok (.ifCond .ge 53, 3) ∧ 27 + 3 = 30 ∧ ((27 : Nat) : Int) + (53) = ((80 : Nat) : Int) := by decide +kernel
theorem dX7_more_30 : decode bX7_more 30 = .ok (.aload_n 0, 1) ∧ 30 + 1 = 31 := by decide +kernel
theorem dX7_more_31 : decode bX7_more 31 = .ok (.invokevirtual 391, 3) ∧ 31 + 3 = 34 := by decide +kernel
theorem dX7_more_34 : decode bX7_more 34 = .ok (.aload_n 0, 1) ∧ 34 + 1 = 35 := by decide +kernel
theorem dX7_more_35 : decode bX7_more 35 = .ok (.aload_n 0, 1) ∧ 35 + 1 = 36 := by decide +kernel
theorem dX7_more_36 : decode bX7_more 36 = .ok (.aload_n 0, 1) ∧ 36 + 1 = 37 := by decide +kernel
theorem dX7_more_37 : decode bX7_more 37 = .ok (.getfield 7, 3) ∧ 37 + 3 = 40 := by decide +kernel
theorem dX7_more_40 : decode bX7_more 40 = .ok (.iload_n 3, 1) ∧ 40 + 1 = 41 := by decide +kernel
theorem dX7_more_41 : decode bX7_more 41 = .ok (.iadd, 1) ∧ 41 + 1 = 42 := by decide +kernel
theorem dX7_more_42 : decode bX7_more 42 = .ok (.sipush 9999, 3) ∧ 42 + 3 = 45 := by decide +kernel
theorem dX7_more_45 : decode bX7_more 45 = .ok (.invokevirtual 284, 3) ∧ 45 + 3 = 48 := by decide +kernel
theorem dX7_more_48 : decode bX7_more 48 = .ok (.putfield 7, 3) ∧ 48 + 3 = 51 := by decide +kernel
theorem dX7_more_51 : decode bX7_more 51 = .ok (.aload_n 0, 1) ∧ 51 + 1 = 52 := by decide +kernel
theorem dX7_more_52 : decode bX7_more 52 = .ok (.iload_n 1, 1) ∧ 52 + 1 = 53 := by decide +kernel
theorem dX7_more_53 : decode bX7_more 53 = .ok (.invokevirtual 387, 3) ∧ 53 + 3 = 56 := by decide +kernel
theorem dX7_more_56 : decode bX7_more 56 = .ok (.aload_n 0, 1) ∧ 56 + 1 = 57 := by decide +kernel
theorem dX7_more_57 : decode bX7_more 57 = .ok (.getfield 114, 3) ∧ 57 + 3 = 60 := by decide +kernel
theorem dX7_more_60 : decode bX7_more 60 = .ok (.ifCond .ne 7, 3) ∧ 60 + 3 = 63 ∧ ((60 : Nat) : Int) + (7) = ((67 : Nat) : Int) := by decide +kernel
theorem dX7_more_63 : decode bX7_more 63 = .ok (.iload_n 3, 1) ∧ 63 + 1 = 64 := by decide +kernel
theorem dX7_more_64 : decode bX7_more 64 = .ok (.goto 5, 3) ∧ ((64 : Nat) : Int) + (5) = ((69 : Nat) : Int) := by decide +kernel
theorem dX7_more_67 : decode bX7_more 67 = .ok (.bipush (-5), 2) ∧ 67 + 2 = 69 := by decide +kernel
theorem dX7_more_69 : decode bX7_more 69 = .ok (.istore_n 2, 1) ∧ 69 + 1 = 70 := by decide +kernel
theorem dX7_more_70 : decode bX7_more 70 = .ok (.aload_n 0, 1) ∧ 70 + 1 = 71 := by decide +kernel
theorem dX7_more_71 : decode bX7_more 71 = .ok (.invokevirtual 394, 3) ∧ 71 + 3 = 74 := by decide +kernel
theorem dX7_more_74 : decode bX7_more 74 = .ok (.iinc 3 10, 3) ∧ 74 + 3 = 77 := by decide +kernel
theorem dX7_more_77 : decode bX7_more 77 = .ok (.goto (-58), 3) ∧ ((77 : Nat) : Int) + (-58) = ((19 : Nat) : Int) := by decide +kernel
theorem dX7_more_80 : decode bX7_more 80 = .ok (.iload_n 2, 1) ∧ 80 + 1 = 81 := by decide +kernel
theorem dX7_more_81 : decode bX7_more 81 = .ok (.ireturn, 1) := by decide +kernel
theorem dX7_see_0 : decode bX7_see 0 = .ok (.iload_n 1, 1) ∧ 0 + 1 = 1 := by decide +kernel
theorem dX7_see_1 : decode bX7_see 1 = .ok (.iconst (-1), 1) ∧ 1 + 1 = 2 := by decide +kernel
theorem dX7_see_2 : decode bX7_see 2 = .ok (.if_icmp .ne 10, 3) ∧ 2 + 3 = 5 ∧ ((2 : Nat) : Int) + (10) = ((12 : Nat) : Int) := by decide +kernel
theorem dX7_see_5 : decode bX7_see 5 = .ok (.aload_n 0, 1) ∧ 5 + 1 = 6 := by decide +kernel
theorem dX7_see_6 : decode bX7_see 6 = .ok (.iconst 0, 1) ∧ 6 + 1 = 7 := by decide +kernel
theorem dX7_see_7 : decode bX7_see 7 = .ok (.putfield 144, 3) ∧ 7 + 3 = 10 := by decide +kernel
theorem dX7_see_10 : decode bX7_see 10 = .ok (.iconst 0, 1) ∧ 10 + 1 = 11 := by decide +kernel
theorem dX7_see_11 : decode bX7_see 11 = .ok (.ireturn, 1) := by decide +kernel
theorem dX7_see_12 : decode bX7_see 12 = .ok (.aload_n 0, 1) ∧ 12 + 1 = 13 := by decide +kernel
theorem dX7_see_13 : decode bX7_see 13 = .ok (.iload_n 1, 1) ∧ 13 + 1 = 14 := by decide +kernel
theorem dX7_see_14 : decode bX7_see 14 = .ok (.invokevirtual 277, 3) ∧ 14 + 3 = 17 := by decide +kernel
theorem dX7_see_17 : decode bX7_see 17 = .ok (.ifCond .eq 14, 3) ∧ 17 + 3 = 20 ∧ ((17 : Nat) : Int) + (14) = ((31 : Nat) : Int) := by decide +kernel
theorem dX7_see_20 : decode bX7_see 20 = .ok (.aload_n 0, 1) ∧ 20 + 1 = 21 := by decide +kernel
theorem dX7_see_21 : decode bX7_see 21 = .ok (.iload_n 2, 1) ∧ 21 + 1 = 22 := by decide +kernel
theorem dX7_see_22 : decode bX7_see 22 = .ok (.iconst 0, 1) ∧ 22 + 1 = 23 := by decide +kernel
theorem dX7_see_23 : decode bX7_see 23 = .ok (.bipush 10, 2) ∧ 23 + 2 = 25 := by decide +kernel
theorem dX7_see_25 : decode bX7_see 25 = .ok (.invokevirtual 263, 3) ∧ 25 + 3 = 28 := by decide +kernel
theorem dX7_see_28 : decode bX7_see 28 = .ok (.ifCond .ne 6, 3) ∧ 28 + 3 = 31 ∧ ((28 : Nat) : Int) + (6) = ((34 : Nat) : Int) := by decide +kernel
theorem dX7_see_31 : decode bX7_see 31 = .ok (.bipush (-2), 2) ∧ 31 + 2 = 33 := by decide +kernel
theorem dX7_see_33 : decode bX7_see 33 = .ok (.ireturn, 1) := by decide +kernel
theorem dX7_see_34 : decode bX7_see 34 = .ok (.aload_n 0, 1) ∧ 34 + 1 = 35 := by decide +kernel
theorem dX7_see_35 : decode bX7_see 35 = .ok (.getfield 144, 3) ∧ 35 + 3 = 38 := by decide +kernel
theorem dX7_see_38 : decode bX7_see 38 = .ok (.iconst 5, 1) ∧ 38 + 1 = 39 := by decide +kernel
theorem dX7_see_39 : decode bX7_see 39 = .ok (.if_icmp .ne 6, 3) ∧ 39 + 3 = 42 ∧ ((39 : Nat) : Int) + (6) = ((45 : Nat) : Int) := by decide +kernel
theorem dX7_see_42 : decode bX7_see 42 = .ok (.bipush (-4), 2) ∧ 42 + 2 = 44 := by decide +kernel
theorem dX7_see_44 : decode bX7_see 44 = .ok (.ireturn, 1) := by decide +kernel
theorem dX7_see_45 : decode bX7_see 45 = .ok (.aload_n 0, 1) ∧ 45 + 1 = 46 := by decide +kernel
theorem dX7_see_46 : decode bX7_see 46 = .ok (.getfield 147, 3) ∧ 46 + 3 = 49 := by decide +kernel
theorem dX7_see_49 : decode bX7_see 49 = .ok (.aload_n 0, 1) ∧ 49 + 1 = 50 := by decide +kernel
theorem dX7_see_50 : decode bX7_see 50 = .ok (.getfield 144, 3) ∧ 50 + 3 = 53 := by decide +kernel
theorem dX7_see_53 : decode bX7_see 53 = .ok (.iload_n 1, 1) ∧ 53 + 1 = 54 := by decide +kernel
theorem dX7_see_54 : decode bX7_see 54 = .ok (.iastore, 1) ∧ 54 + 1 = 55 := by decide +kernel
theorem dX7_see_55 : decode bX7_see 55 = .ok (.aload_n 0, 1) ∧ 55 + 1 = 56 := by decide +kernel
theorem dX7_see_56 : decode bX7_see 56 = .ok (.getfield 150, 3) ∧ 56 + 3 = 59 := by decide +kernel
theorem dX7_see_59 : decode bX7_see 59 = .ok (.aload_n 0, 1) ∧ 59 + 1 = 60 := by decide +kernel
theorem dX7_see_60 : decode bX7_see 60 = .ok (.getfield 144, 3) ∧ 60 + 3 = 63 := by decide +kernel
theorem dX7_see_63 : decode bX7_see 63 = .ok (.iload_n 2, 1) ∧ 63 + 1 = 64 := by decide +kernel
theorem dX7_see_64 : decode bX7_see 64 = .ok (.iastore, 1) ∧ 64 + 1 = 65 := by decide +kernel
theorem dX7_see_65 : decode bX7_see 65 = .ok (.aload_n 0, 1) ∧ 65 + 1 = 66 := by decide +kernel
theorem dX7_see_66 : decode bX7_see 66 = .ok (.dup, 1) ∧ 66 + 1 = 67 := by decide +kernel
theorem dX7_see_67 : decode bX7_see 67 = .ok (.getfield 144, 3) ∧ 67 + 3 = 70 := by decide +kernel
theorem dX7_see_70 : decode bX7_see 70 = .ok (.iconst 1, 1) ∧ 70 + 1 = 71 := by decide +kernel
theorem dX7_see_71 : decode bX7_see 71 = .ok (.iadd, 1) ∧ 71 + 1 = 72 := by decide +kernel
theorem dX7_see_72 : decode bX7_see 72 = .ok (.putfield 144, 3) ∧ 72 + 3 = 75 := by decide +kernel
theorem dX7_see_75 : decode bX7_see 75 = .ok (.aload_n 0, 1) ∧ 75 + 1 = 76 := by decide +kernel
theorem dX7_see_76 : decode bX7_see 76 = .ok (.getfield 144, 3) ∧ 76 + 3 = 79 := by decide +kernel
theorem dX7_see_79 : decode bX7_see 79 = .ok (.ireturn, 1) := by decide +kernel
theorem dX7_isSeen_0 : decode bX7_isSeen 0 = .ok (.iconst 1, 1) ∧ 0 + 1 = 1 := by decide +kernel
theorem dX7_isSeen_1 : decode bX7_isSeen 1 = .ok (.istore_n 1, 1) ∧ 1 + 1 = 2 := by decide +kernel
theorem dX7_isSeen_2 : decode bX7_isSeen 2 = .ok (.iconst 0, 1) ∧ 2 + 1 = 3 := by decide +kernel
theorem dX7_isSeen_3 : decode bX7_isSeen 3 = .ok (.istore_n 2, 1) ∧ 3 + 1 = 4 := by decide +kernel
theorem dX7_isSeen_4 : decode bX7_isSeen 4 = .ok (.iload_n 2, 1) ∧ 4 + 1 = 5 := by decide +kernel
theorem dX7_isSeen_5 : decode bX7_isSeen 5 = .ok (.aload_n 0, 1) ∧ 5 + 1 = 6 := by decide +kernel
theorem dX7_isSeen_6 : decode bX7_isSeen 6 = .ok (.getfield 144, 3) ∧ 6 + 3 = 9 := by decide +kernel
theorem dX7_isSeen_9 : decode bX7_isSeen 9 = .ok (.if_icmp .ge 50, 3) ∧ 9 + 3 = 12 ∧ ((9 : Nat) : Int) + (50) = ((59 : Nat) : Int) := by decide +kernel
theorem dX7_isSeen_12 : decode bX7_isSeen 12 = .ok (.iload_n 1, 1) ∧ 12 + 1 = 13 := by decide +kernel
theorem dX7_isSeen_13 : decode bX7_isSeen 13 = .ok (.ifCond .eq 46, 3) ∧ 13 + 3 = 16 ∧ ((13 : Nat) : Int) + (46) = ((59 : Nat) : Int) := by decide +kernel
theorem dX7_isSeen_16 : decode bX7_isSeen 16 = .ok (.aload_n 0, 1) ∧ 16 + 1 = 17 := by decide +kernel
theorem dX7_isSeen_17 : decode bX7_isSeen 17 = .ok (.invokevirtual 391, 3) ∧ 17 + 3 = 20 := by decide +kernel
theorem dX7_isSeen_20 : decode bX7_isSeen 20 = .ok (.aload_n 0, 1) ∧ 20 + 1 = 21 := by decide +kernel
theorem dX7_isSeen_21 : decode bX7_isSeen 21 = .ok (.aload_n 0, 1) ∧ 21 + 1 = 22 := by decide +kernel
theorem dX7_isSeen_22 : decode bX7_isSeen 22 = .ok (.getfield 150, 3) ∧ 22 + 3 = 25 := by decide +kernel
theorem dX7_isSeen_25 : decode bX7_isSeen 25 = .ok (.iload_n 2, 1) ∧ 25 + 1 = 26 := by decide +kernel
theorem dX7_isSeen_26 : decode bX7_isSeen 26 = .ok (.iaload, 1) ∧ 26 + 1 = 27 := by decide +kernel
theorem dX7_isSeen_27 : decode bX7_isSeen 27 = .ok (.invokevirtual 387, 3) ∧ 27 + 3 = 30 := by decide +kernel
theorem dX7_isSeen_30 : decode bX7_isSeen 30 = .ok (.aload_n 0, 1) ∧ 30 + 1 = 31 := by decide +kernel
theorem dX7_isSeen_31 : decode bX7_isSeen 31 = .ok (.getfield 7, 3) ∧ 31 + 3 = 34 := by decide +kernel
theorem dX7_isSeen_34 : decode bX7_isSeen 34 = .ok (.aload_n 0, 1) ∧ 34 + 1 = 35 := by decide +kernel
theorem dX7_isSeen_35 : decode bX7_isSeen 35 = .ok (.getfield 147, 3) ∧ 35 + 3 = 38 := by decide +kernel
theorem dX7_isSeen_38 : decode bX7_isSeen 38 = .ok (.iload_n 2, 1) ∧ 38 + 1 = 39 := by decide +kernel
theorem dX7_isSeen_39 : decode bX7_isSeen 39 = .ok (.iaload, 1) ∧ 39 + 1 = 40 := by decide +kernel
theorem dX7_isSeen_40 : decode bX7_isSeen 40 = .ok (.if_icmp .ne 7, 3) ∧ 40 + 3 = 43 ∧ ((40 : Nat) : Int) + (7) = ((47 : Nat) : Int) := by decide +kernel
theorem dX7_isSeen_43 : decode bX7_isSeen 43 = .ok (.iconst 1, 1) ∧ 43 + 1 = 44 := by decide +kernel
theorem dX7_isSeen_44 : decode bX7_isSeen 44 = .ok (.goto 4, 3) ∧ ((44 : Nat) : Int) + (4) = ((48 : Nat) : Int) := by decide +kernel
theorem dX7_isSeen_47 : decode bX7_isSeen 47 = .ok (.iconst 0, 1) ∧ 47 + 1 = 48 := by decide +kernel
theorem dX7_isSeen_48 : decode bX7_isSeen 48 = .ok (.istore_n 1, 1) ∧ 48 + 1 = 49 := by decide +kernel
theorem dX7_isSeen_49 : decode bX7_isSeen 49 = .ok (.aload_n 0, 1) ∧ 49 + 1 = 50 := by decide +kernel
theorem dX7_isSeen_50 : decode bX7_isSeen 50 = .ok (.invokevirtual 394, 3) ∧ 50 + 3 = 53 := by decide +kernel
theorem dX7_isSeen_53 : decode bX7_isSeen 53 = .ok (.iinc 2 1, 3) ∧ 53 + 3 = 56 := by decide +kernel
theorem dX7_isSeen_56 : decode bX7_isSeen 56 = .ok (.goto (-52), 3) ∧ ((56 : Nat) : Int) + (-52) = ((4 : Nat) : Int) := by decide +kernel
theorem dX7_isSeen_59 : decode bX7_isSeen 59 = .ok (.iload_n 1, 1) ∧ 59 + 1 = 60 := by decide +kernel
theorem dX7_isSeen_60 : decode bX7_isSeen 60 = .ok (.ireturn, 1) := by decide +kernel
theorem dX7_wanted_0 : decode bX7_wanted 0 = .ok (.aload_n 0, 1) ∧ 0 + 1 = 1 := by decide +kernel
theorem dX7_wanted_1 : decode bX7_wanted 1 = .ok (.iload_n 1, 1) ∧ 1 + 1 = 2 := by decide +kernel
theorem dX7_wanted_2 : decode bX7_wanted 2 = .ok (.invokevirtual 274, 3) ∧ 2 + 3 = 5 := by decide +kernel
theorem dX7_wanted_5 : decode bX7_wanted 5 = .ok (.ifCond .eq 13, 3) ∧ 5 + 3 = 8 ∧ ((5 : Nat) : Int) + (13) = ((18 : Nat) : Int) := by decide +kernel
theorem dX7_wanted_8 : decode bX7_wanted 8 = .ok (.aload_n 0, 1) ∧ 8 + 1 = 9 := by decide +kernel
theorem dX7_wanted_9 : decode bX7_wanted 9 = .ok (.iload_n 2, 1) ∧ 9 + 1 = 10 := by decide +kernel
theorem dX7_wanted_10 : decode bX7_wanted 10 = .ok (.iconst 0, 1) ∧ 10 + 1 = 11 := by decide +kernel
theorem dX7_wanted_11 : decode bX7_wanted 11 = .ok (.iconst 1, 1) ∧ 11 + 1 = 12 := by decide +kernel
theorem dX7_wanted_12 : decode bX7_wanted 12 = .ok (.invokevirtual 263, 3) ∧ 12 + 3 = 15 := by decide +kernel
theorem dX7_wanted_15 : decode bX7_wanted 15 = .ok (.ifCond .ne 5, 3) ∧ 15 + 3 = 18 ∧ ((15 : Nat) : Int) + (5) = ((20 : Nat) : Int) := by decide +kernel
theorem dX7_wanted_18 : decode bX7_wanted 18 = .ok (.iconst (-1), 1) ∧ 18 + 1 = 19 := by decide +kernel
theorem dX7_wanted_19 : decode bX7_wanted 19 = .ok (.ireturn, 1) := by decide +kernel
theorem dX7_wanted_20 : decode bX7_wanted 20 = .ok (.aload_n 0, 1) ∧ 20 + 1 = 21 := by decide +kernel
theorem dX7_wanted_21 : decode bX7_wanted 21 = .ok (.getfield 26, 3) ∧ 21 + 3 = 24 := by decide +kernel
theorem dX7_wanted_24 : decode bX7_wanted 24 = .ok (.iload_n 1, 1) ∧ 24 + 1 = 25 := by decide +kernel
theorem dX7_wanted_25 : decode bX7_wanted 25 = .ok (.iaload, 1) ∧ 25 + 1 = 26 := by decide +kernel
theorem dX7_wanted_26 : decode bX7_wanted 26 = .ok (.istore_n 3, 1) ∧ 26 + 1 = 27 := by decide +kernel
theorem dX7_wanted_27 : decode bX7_wanted 27 = .ok (.iconst 0, 1) ∧ 27 + 1 = 28 := by decide +kernel
theorem dX7_wanted_28 : decode bX7_wanted 28 = .ok (.istore 4, 2) ∧ 28 + 2 = 30 := by decide +kernel
theorem dX7_wanted_30 : decode bX7_wanted 30 = .ok (.bipush (-5), 2) ∧ 30 + 2 = 32 := by decide +kernel
theorem dX7_wanted_32 : decode bX7_wanted 32 = .ok (.istore 5, 2) ∧ 32 + 2 = 34 := by decide +kernel
theorem dX7_wanted_34 : decode bX7_wanted 34 = .ok (.bipush 99, 2) ∧ 34 + 2 = 36 := by decide +kernel
theorem dX7_wanted_36 : decode bX7_wanted 36 = .ok (.istore 6, 2) ∧ 36 + 2 = 38 := by decide +kernel
theorem dX7_wanted_38 : decode bX7_wanted 38 = .ok (.iload 6, 2) ∧ 38 + 2 = 40 := by decide +kernel
theorem dX7_wanted_40 : decode bX7_wanted 40 = .ok (.ifCond .le 34, 3) ∧ 40 + 3 = 43 ∧ ((40 : Nat) : Int) + (34) = ((74 : Nat) : Int) := by decide +kernel
theorem dX7_wanted_43 : decode bX7_wanted 43 = .ok (.aload_n 0, 1) ∧ 43 + 1 = 44 := by decide +kernel
theorem dX7_wanted_44 : decode bX7_wanted 44 = .ok (.getfield 26, 3) ∧ 44 + 3 = 47 := by decide +kernel
theorem dX7_wanted_47 : decode bX7_wanted 47 = .ok (.iload_n 1, 1) ∧ 47 + 1 = 48 := by decide +kernel
theorem dX7_wanted_48 : decode bX7_wanted 48 = .ok (.iload 6, 2) ∧ 48 + 2 = 50 := by decide +kernel
theorem dX7_wanted_50 : decode bX7_wanted 50 = .ok (.iastore, 1) ∧ 50 + 1 = 51 := by decide +kernel
theorem dX7_wanted_51 : decode bX7_wanted 51 = .ok (.aload_n 0, 1) ∧ 51 + 1 = 52 := by decide +kernel
theorem dX7_wanted_52 : decode bX7_wanted 52 = .ok (.invokevirtual 412, 3) ∧ 52 + 3 = 55 := by decide +kernel
theorem dX7_wanted_55 : decode bX7_wanted 55 = .ok (.ifCond .ne 6, 3) ∧ 55 + 3 = 58 ∧ ((55 : Nat) : Int) + (6) = ((61 : Nat) : Int) := by decide +kernel
theorem dX7_wanted_58 : decode bX7_wanted 58 = .ok (.goto 10, 3) ∧ ((58 : Nat) : Int) + (10) = ((68 : Nat) : Int) := by decide +kernel
theorem dX7_wanted_61 : decode bX7_wanted 61 = .ok (.iinc 4 1, 3) ∧ 61 + 3 = 64 := by decide +kernel
theorem dX7_wanted_64 : decode bX7_wanted 64 = .ok (.iload 6, 2) ∧ 64 + 2 = 66 := by decide +kernel
theorem dX7_wanted_66 : decode bX7_wanted 66 = .ok (.istore 5, 2) ∧ 66 + 2 = 68 := by decide +kernel
theorem dX7_wanted_68 : decode bX7_wanted 68 = .ok (.iinc 6 (-1), 3) ∧ 68 + 3 = 71 := by decide +kernel
theorem dX7_wanted_71 : decode bX7_wanted 71 = .ok (.goto (-33), 3) ∧ ((71 : Nat) : Int) + (-33) = ((38 : Nat) : Int) := by decide +kernel
theorem dX7_wanted_74 : decode bX7_wanted 74 = .ok (.aload_n 0, 1) ∧ 74 + 1 = 75 := by decide +kernel
theorem dX7_wanted_75 : decode bX7_wanted 75 = .ok (.getfield 26, 3) ∧ 75 + 3 = 78 := by decide +kernel
theorem dX7_wanted_78 : decode bX7_wanted 78 = .ok (.iload_n 1, 1) ∧ 78 + 1 = 79 := by decide +kernel
theorem dX7_wanted_79 : decode bX7_wanted 79 = .ok (.iload_n 3, 1) ∧ 79 + 1 = 80 := by decide +kernel
theorem dX7_wanted_80 : decode bX7_wanted 80 = .ok (.iastore, 1) ∧ 80 + 1 = 81 := by decide +kernel
theorem dX7_wanted_81 : decode bX7_wanted 81 = .ok (.iload_n 2, 1) ∧ 81 + 1 = 82 := by decide +kernel
theorem dX7_wanted_82 : decode bX7_wanted 82 = .ok (.ifCond .ne 8, 3) ∧ 82 + 3 = 85 ∧ ((82 : Nat) : Int) + (8) = ((90 : Nat) : Int) := by decide +kernel
theorem dX7_wanted_85 : decode bX7_wanted 85 = .ok (.iload 4, 2) ∧ 85 + 2 = 87 := by decide +kernel
theorem dX7_wanted_87 : decode bX7_wanted 87 = .ok (.goto 5, 3) ∧ ((87 : Nat) : Int) + (5) = ((92 : Nat) : Int) := by decide +kernel
theorem dX7_wanted_90 : decode bX7_wanted 90 = .ok (.iload 5, 2) ∧ 90 + 2 = 92 := by decide +kernel
theorem dX7_wanted_92 : decode bX7_wanted 92 = .ok (.ireturn, 1) := by decide +kernel
theorem dX7_can_0 : decode bX7_can 0 = .ok (.aload_n 0, 1) ∧ 0 + 1 = 1 := by decide +kernel
theorem dX7_can_1 : decode bX7_can 1 = .ok (.iload_n 1, 1) ∧ 1 + 1 = 2 := by decide +kernel
theorem dX7_can_2 : decode bX7_can 2 = .ok (.invokevirtual 274, 3) ∧ 2 + 3 = 5 := by decide +kernel
theorem dX7_can_5 : decode bX7_can 5 = .ok (.ifCond .eq 13, 3) ∧ 5 + 3 = 8 ∧ ((5 : Nat) : Int) + (13) = ((18 : Nat) : Int) := by decide +kernel
theorem dX7_can_8 : decode bX7_can 8 = .ok (.aload_n 0, 1) ∧ 8 + 1 = 9 := by decide +kernel
theorem dX7_can_9 : decode bX7_can 9 = .ok (.iload_n 2, 1) ∧ 9 + 1 = 10 := by decide +kernel
theorem dX7_can_10 : decode bX7_can 10 = .ok (.iconst 0, 1) ∧ 10 + 1 = 11 := by decide +kernel
theorem dX7_can_11 : decode bX7_can 11 = .ok (.iconst 1, 1) ∧ 11 + 1 = 12 := by decide +kernel
theorem dX7_can_12 : decode bX7_can 12 = .ok (.invokevirtual 263, 3) ∧ 12 + 3 = 15 := by decide +kernel
theorem dX7_can_15 : decode bX7_can 15 = .ok (.ifCond .ne 5, 3) ∧ 15 + 3 = 18 ∧ ((15 : Nat) : Int) + (5) = ((20 : Nat) : Int) := by decide +kernel
theorem dX7_can_18 : decode bX7_can 18 = .ok (.iconst (-1), 1) ∧ 18 + 1 = 19 := by decide +kernel
theorem dX7_can_19 : decode bX7_can 19 = .ok (.ireturn, 1) := by decide +kernel
theorem dX7_can_20 : decode bX7_can 20 = .ok (.aload_n 0, 1) ∧ 20 + 1 = 21 := by decide +kernel
theorem dX7_can_21 : decode bX7_can 21 = .ok (.getfield 23, 3) ∧ 21 + 3 = 24 := by decide +kernel
theorem dX7_can_24 : decode bX7_can 24 = .ok (.iload_n 1, 1) ∧ 24 + 1 = 25 := by decide +kernel
theorem dX7_can_25 : decode bX7_can 25 = .ok (.iaload, 1) ∧ 25 + 1 = 26 := by decide +kernel
theorem dX7_can_26 : decode bX7_can 26 = .ok (.istore_n 3, 1) ∧ 26 + 1 = 27 := by decide +kernel
theorem dX7_can_27 : decode bX7_can 27 = .ok (.iconst 0, 1) ∧ 27 + 1 = 28 := by decide +kernel
theorem dX7_can_28 : decode bX7_can 28 = .ok (.istore 4, 2) ∧ 28 + 2 = 30 := by decide +kernel
theorem dX7_can_30 : decode bX7_can 30 = .ok (.bipush (-5), 2) ∧ 30 + 2 = 32 := by decide +kernel
theorem dX7_can_32 : decode bX7_can 32 = .ok (.istore 5, 2) ∧ 32 + 2 = 34 := by decide +kernel
theorem dX7_can_34 : decode bX7_can 34 = .ok (.bipush 9, 2) ∧ 34 + 2 = 36 := by decide +kernel
theorem dX7_can_36 : decode bX7_can 36 = .ok (.istore 6, 2) ∧ 36 + 2 = 38 := by decide +kernel
theorem dX7_can_38 : decode bX7_can 38 = .ok (.iload 6, 2) ∧ 38 + 2 = 40 := by decide +kernel
theorem dX7_can_40 : decode bX7_can 40 = .ok (.ifCond .lt 34, 3) ∧ 40 + 3 = 43 ∧ ((40 : Nat) : Int) + (34) = ((74 : Nat) : Int) := by decide +kernel
theorem dX7_can_43 : decode bX7_can 43 = .ok (.aload_n 0, 1) ∧ 43 + 1 = 44 := by decide +kernel
theorem dX7_can_44 : decode bX7_can 44 = .ok (.getfield 23, 3) ∧ 44 + 3 = 47 := by decide +kernel
theorem dX7_can_47 : decode bX7_can 47 = .ok (.iload_n 1, 1) ∧ 47 + 1 = 48 := by decide +kernel
theorem dX7_can_48 : decode bX7_can 48 = .ok (.iload 6, 2) ∧ 48 + 2 = 50 := by decide +kernel
theorem dX7_can_50 : decode bX7_can 50 = .ok (.iastore, 1) ∧ 50 + 1 = 51 := by decide +kernel
theorem dX7_can_51 : decode bX7_can 51 = .ok (.aload_n 0, 1) ∧ 51 + 1 = 52 := by decide +kernel
theorem dX7_can_52 : decode bX7_can 52 = .ok (.invokevirtual 412, 3) ∧ 52 + 3 = 55 := by decide +kernel
theorem dX7_can_55 : decode bX7_can 55 = .ok (.ifCond .ne 6, 3) ∧ 55 + 3 = 58 ∧ ((55 : Nat) : Int) + (6) = ((61 : Nat) : Int) := by decide +kernel
theorem dX7_can_58 : decode bX7_can 58 = .ok (.goto 10, 3) ∧ ((58 : Nat) : Int) + (10) = ((68 : Nat) : Int) := by decide +kernel
theorem dX7_can_61 : decode bX7_can 61 = .ok (.iinc 4 1, 3) ∧ 61 + 3 = 64 := by decide +kernel
theorem dX7_can_64 : decode bX7_can 64 = .ok (.iload 6, 2) ∧ 64 + 2 = 66 := by decide +kernel
theorem dX7_can_66 : decode bX7_can 66 = .ok (.istore 5, 2) ∧ 66 + 2 = 68 := by decide +kernel
theorem dX7_can_68 : decode bX7_can 68 = .ok (.iinc 6 (-1), 3) ∧ 68 + 3 = 71 := by decide +kernel
theorem dX7_can_71 : decode bX7_can 71 = .ok (.goto (-33), 3) ∧ ((71 : Nat) : Int) + (-33) = ((38 : Nat) : Int) := by decide +kernel
theorem dX7_can_74 : decode bX7_can 74 = .ok (.aload_n 0, 1) ∧ 74 + 1 = 75 := by decide +kernel
theorem dX7_can_75 : decode bX7_can 75 = .ok (.getfield 23, 3) ∧ 75 + 3 = 78 := by decide +kernel
theorem dX7_can_78 : decode bX7_can 78 = .ok (.iload_n 1, 1) ∧ 78 + 1 = 79 := by decide +kernel
theorem dX7_can_79 : decode bX7_can 79 = .ok (.iload_n 3, 1) ∧ 79 + 1 = 80 := by decide +kernel
theorem dX7_can_80 : decode bX7_can 80 = .ok (.iastore, 1) ∧ 80 + 1 = 81 := by decide +kernel
theorem dX7_can_81 : decode bX7_can 81 = .ok (.iload_n 2, 1) ∧ 81 + 1 = 82 := by decide +kernel
theorem dX7_can_82 : decode bX7_can 82 = .ok (.ifCond .ne 8, 3) ∧ 82 + 3 = 85 ∧ ((82 : Nat) : Int) + (8) = ((90 : Nat) : Int) := by decide +kernel
theorem dX7_can_85 : decode bX7_can 85 = .ok (.iload 4, 2) ∧ 85 + 2 = 87 := by decide +kernel
theorem dX7_can_87 : decode bX7_can 87 = .ok (.goto 5, 3) ∧ ((87 : Nat) : Int) + (5) = ((92 : Nat) : Int) := by decide +kernel
theorem dX7_can_90 : decode bX7_can 90 = .ok (.iload 5, 2) ∧ 90 + 2 = 92 := by decide +kernel
theorem dX7_can_92 : decode bX7_can 92 = .ok (.ireturn, 1) := by decide +kernel
theorem dX7_divisor_0 : decode bX7_divisor 0 = .ok (.iload_n 1, 1) ∧ 0 + 1 = 1 := by decide +kernel
theorem dX7_divisor_1 : decode bX7_divisor 1 = .ok (.istore_n 3, 1) ∧ 1 + 1 = 2 := by decide +kernel
theorem dX7_divisor_2 : decode bX7_divisor 2 = .ok (.iload_n 2, 1) ∧ 2 + 1 = 3 := by decide +kernel
theorem dX7_divisor_3 : decode bX7_divisor 3 = .ok (.istore 4, 2) ∧ 3 + 2 = 5 := by decide +kernel
theorem dX7_divisor_5 : decode bX7_divisor 5 = .ok (.iload 4, 2) ∧ 5 + 2 = 7 := by decide +kernel
theorem dX7_divisor_7 : decode bX7_divisor 7 = .ok (.ifCond .eq 19, 3) ∧ 7 + 3 = 10 ∧ ((7 : Nat) : Int) + (19) = ((26 : Nat) : Int) := by decide +kernel
theorem dX7_divisor_10 : decode bX7_divisor 10 = .ok (.iload_n 3, 1) ∧ 10 + 1 = 11 := by decide +kernel
theorem dX7_divisor_11 : decode bX7_divisor 11 = .ok (.iload 4, 2) ∧ 11 + 2 = 13 := by decide +kernel
theorem dX7_divisor_13 : decode bX7_divisor 13 = .ok (.irem, 1) ∧ 13 + 1 = 14 := by decide +kernel
theorem dX7_divisor_14 : decode bX7_divisor 14 = .ok (.istore 5, 2) ∧ 14 + 2 = 16 := by decide +kernel
theorem dX7_divisor_16 : decode bX7_divisor 16 = .ok (.iload 4, 2) ∧ 16 + 2 = 18 := by decide +kernel
theorem dX7_divisor_18 : decode bX7_divisor 18 = .ok (.istore_n 3, 1) ∧ 18 + 1 = 19 := by decide +kernel
theorem dX7_divisor_19 : decode bX7_divisor 19 = .ok (.iload 5, 2) ∧ 19 + 2 = 21 := by decide +kernel
theorem dX7_divisor_21 : decode bX7_divisor 21 = .ok (.istore 4, 2) ∧ 21 + 2 = 23 := by decide +kernel
theorem dX7_divisor_23 : decode bX7_divisor 23 = .ok (.goto (-18), 3) ∧ ((23 : Nat) : Int) + (-18) = ((5 : Nat) : Int) := by decide +kernel
theorem dX7_divisor_26 : decode bX7_divisor 26 = .ok (.iload_n 3, 1) ∧ 26 + 1 = 27 := by decide +kernel
theorem dX7_divisor_27 : decode bX7_divisor 27 = .ok (.ireturn, 1) := by decide +kernel
theorem dX7_lowest__0 : decode bX7_lowest_ 0 = .ok (.aload_n 0, 1) ∧ 0 + 1 = 1 := by decide +kernel
theorem dX7_lowest__1 : decode bX7_lowest_ 1 = .ok (.iload_n 1, 1) ∧ 1 + 1 = 2 := by decide +kernel
theorem dX7_lowest__2 : decode bX7_lowest_ 2 = .ok (.iload_n 2, 1) ∧ 2 + 1 = 3 := by decide +kernel
theorem dX7_lowest__3 : decode bX7_lowest_ 3 = .ok (.invokevirtual 415, 3) ∧ 3 + 3 = 6 := by decide +kernel
theorem dX7_lowest__6 : decode bX7_lowest_ 6 = .ok (.istore 4, 2) ∧ 6 + 2 = 8 := by decide +kernel
theorem dX7_lowest__8 : decode bX7_lowest_ 8 = .ok (.iload_n 3, 1) ∧ 8 + 1 = 9 := by decide +kernel
theorem dX7_lowest__9 : decode bX7_lowest_ 9 = .ok (.ifCond .ne 11, 3) ∧ 9 + 3 = 12 ∧ ((9 : Nat) : Int) + (11) = ((20 : Nat) : Int) := by decide +kernel
theorem dX7_lowest__12 : decode bX7_lowest_ 12 = .ok (.iload_n 1, 1) ∧ 12 + 1 = 13 := by decide +kernel
theorem dX7_lowest__13 : decode bX7_lowest_ 13 = .ok (.iload 4, 2) ∧ 13 + 2 = 15 := by decide +kernel
theorem dX7_lowest__15 : decode bX7_lowest_ 15 = .ok (.idiv, 1) ∧ 15 + 1 = 16 := by decide +kernel
theorem dX7_lowest__16 : decode bX7_lowest_ 16 = .ok (.i2l, 1) ∧ 16 + 1 = 17 := by decide +kernel
theorem dX7_lowest__17 : decode bX7_lowest_ 17 = .ok (.goto 8, 3) ∧ ((17 : Nat) : Int) + (8) = ((25 : Nat) : Int) := by decide +kernel
theorem dX7_lowest__20 : decode bX7_lowest_ 20 = .ok (.iload_n 2, 1) ∧ 20 + 1 = 21 := by decide +kernel
theorem dX7_lowest__21 : decode bX7_lowest_ 21 = .ok (.iload 4, 2) ∧ 21 + 2 = 23 := by decide +kernel
theorem dX7_lowest__23 : decode bX7_lowest_ 23 = .ok (.idiv, 1) ∧ 23 + 1 = 24 := by decide +kernel
theorem dX7_lowest__24 : decode bX7_lowest_ 24 = .ok (.i2l, 1) ∧ 24 + 1 = 25 := by decide +kernel
theorem dX7_lowest__25 : decode bX7_lowest_ 25 = .ok (.lreturn, 1) := by decide +kernel
theorem dX7_odds_0 : decode bX7_odds 0 = .ok (.aload_n 0, 1) ∧ 0 + 1 = 1 := by decide +kernel
theorem dX7_odds_1 : decode bX7_odds 1 = .ok (.iload_n 1, 1) ∧ 1 + 1 = 2 := by decide +kernel
theorem dX7_odds_2 : decode bX7_odds 2 = .ok (.invokevirtual 384, 3) ∧ 2 + 3 = 5 := by decide +kernel
theorem dX7_odds_5 : decode bX7_odds 5 = .ok (.ifCond .eq 20, 3) ∧ 5 + 3 = 8 ∧ ((5 : Nat) : Int) + (20) = ((25 : Nat) : Int) := by decide +kernel
theorem dX7_odds_8 : decode bX7_odds 8 = .ok (.aload_n 0, 1) ∧ 8 + 1 = 9 := by decide +kernel
theorem dX7_odds_9 : decode bX7_odds 9 = .ok (.iload_n 2, 1) ∧ 9 + 1 = 10 := by decide +kernel
theorem dX7_odds_10 : decode bX7_odds 10 = .ok (.iconst 0, 1) ∧ 10 + 1 = 11 := by decide +kernel
theorem dX7_odds_11 : decode bX7_odds 11 = .ok (.iconst 1, 1) ∧ 11 + 1 = 12 := by decide +kernel
theorem dX7_odds_12 : decode bX7_odds 12 = .ok (.invokevirtual 263, 3) ∧ 12 + 3 = 15 := by decide +kernel
theorem dX7_odds_15 : decode bX7_odds 15 = .ok (.ifCond .eq 10, 3) ∧ 15 + 3 = 18 ∧ ((15 : Nat) : Int) + (10) = ((25 : Nat) : Int) := by decide +kernel
theorem dX7_odds_18 : decode bX7_odds 18 = .ok (.aload_n 0, 1) ∧ 18 + 1 = 19 := by decide +kernel
theorem dX7_odds_19 : decode bX7_odds 19 = .ok (.getfield 13, 3) ∧ 19 + 3 = 22 := by decide +kernel
theorem dX7_odds_22 : decode bX7_odds 22 = .ok (.ifCond .ne 7, 3) ∧ 22 + 3 = 25 ∧ ((22 : Nat) : Int) + (7) = ((29 : Nat) : Int) := by decide +kernel
theorem dX7_odds_25 : decode bX7_odds 25 = .ok (.ldc2_w 418, 3) ∧ 25 + 3 = 28 := by decide +kernel
theorem dX7_odds_28 : decode bX7_odds 28 = .ok (.lreturn, 1) := by decide +kernel
theorem dX7_odds_29 : decode bX7_odds 29 = .ok (.iconst 0, 1) ∧ 29 + 1 = 30 := by decide +kernel
theorem dX7_odds_30 : decode bX7_odds 30 = .ok (.istore_n 3, 1) ∧ 30 + 1 = 31 := by decide +kernel
theorem dX7_odds_31 : decode bX7_odds 31 = .ok (.iconst 0, 1) ∧ 31 + 1 = 32 := by decide +kernel
theorem dX7_odds_32 : decode bX7_odds 32 = .ok (.istore 4, 2) ∧ 32 + 2 = 34 := by decide +kernel
theorem dX7_odds_34 : decode bX7_odds 34 = .ok (.iload 4, 2) ∧ 34 + 2 = 36 := by decide +kernel
theorem dX7_odds_36 : decode bX7_odds 36 = .ok (.aload_n 0, 1) ∧ 36 + 1 = 37 := by decide +kernel
theorem dX7_odds_37 : decode bX7_odds 37 = .ok (.getfield 13, 3) ∧ 37 + 3 = 40 := by decide +kernel
theorem dX7_odds_40 : decode bX7_odds 40 = .ok (.if_icmp .ge 43, 3) ∧ 40 + 3 = 43 ∧ ((40 : Nat) : Int) + (43) = ((83 : Nat) : Int) := by decide +kernel
theorem dX7_odds_43 : decode bX7_odds 43 = .ok (.aload_n 0, 1) ∧ 43 + 1 = 44 := by decide +kernel
theorem dX7_odds_44 : decode bX7_odds 44 = .ok (.invokevirtual 391, 3) ∧ 44 + 3 = 47 := by decide +kernel
theorem dX7_odds_47 : decode bX7_odds 47 = .ok (.aload_n 0, 1) ∧ 47 + 1 = 48 := by decide +kernel
theorem dX7_odds_48 : decode bX7_odds 48 = .ok (.iload 4, 2) ∧ 48 + 2 = 50 := by decide +kernel
theorem dX7_odds_50 : decode bX7_odds 50 = .ok (.putfield 104, 3) ∧ 50 + 3 = 53 := by decide +kernel
theorem dX7_odds_53 : decode bX7_odds 53 = .ok (.aload_n 0, 1) ∧ 53 + 1 = 54 := by decide +kernel
theorem dX7_odds_54 : decode bX7_odds 54 = .ok (.iload_n 1, 1) ∧ 54 + 1 = 55 := by decide +kernel
theorem dX7_odds_55 : decode bX7_odds 55 = .ok (.invokevirtual 387, 3) ∧ 55 + 3 = 58 := by decide +kernel
theorem dX7_odds_58 : decode bX7_odds 58 = .ok (.iload_n 3, 1) ∧ 58 + 1 = 59 := by decide +kernel
theorem dX7_odds_59 : decode bX7_odds 59 = .ok (.aload_n 0, 1) ∧ 59 + 1 = 60 := by decide +kernel
theorem dX7_odds_60 : decode bX7_odds 60 = .ok (.getfield 114, 3) ∧ 60 + 3 = 63 := by decide +kernel
theorem dX7_odds_63 : decode bX7_odds 63 = .ok (.ifCond .ne 7, 3) ∧ 63 + 3 = 66 ∧ ((63 : Nat) : Int) + (7) = ((70 : Nat) : Int) := by decide +kernel
theorem dX7_odds_66 : decode bX7_odds 66 = .ok (.iconst 1, 1) ∧ 66 + 1 = 67 := by decide +kernel
theorem dX7_odds_67 : decode bX7_odds 67 = .ok (.goto 4, 3) ∧ ((67 : Nat) : Int) + (4) = ((71 : Nat) : Int) := by decide +kernel
theorem dX7_odds_70 : decode bX7_odds 70 = .ok (.iconst 0, 1) ∧ 70 + 1 = 71 := by decide +kernel
theorem dX7_odds_71 : decode bX7_odds 71 = .ok (.iadd, 1) ∧ 71 + 1 = 72 := by decide +kernel
theorem dX7_odds_72 : decode bX7_odds 72 = .ok (.istore_n 3, 1) ∧ 72 + 1 = 73 := by decide +kernel
theorem dX7_odds_73 : decode bX7_odds 73 = .ok (.aload_n 0, 1) ∧ 73 + 1 = 74 := by decide +kernel
theorem dX7_odds_74 : decode bX7_odds 74 = .ok (.invokevirtual 394, 3) ∧ 74 + 3 = 77 := by decide +kernel
theorem dX7_odds_77 : decode bX7_odds 77 = .ok (.iinc 4 1, 3) ∧ 77 + 3 = 80 := by decide +kernel
theorem dX7_odds_80 : decode bX7_odds 80 = .ok (.goto (-46), 3) ∧ ((80 : Nat) : Int) + (-46) = ((34 : Nat) : Int) := by decide +kernel
theorem dX7_odds_83 : decode bX7_odds 83 = .ok (.aload_n 0, 1) ∧ 83 + 1 = 84 := by decide +kernel
theorem dX7_odds_84 : decode bX7_odds 84 = .ok (.iload_n 3, 1) ∧ 84 + 1 = 85 := by decide +kernel
theorem dX7_odds_85 : decode bX7_odds 85 = .ok (.aload_n 0, 1) ∧ 85 + 1 = 86 := by decide +kernel
theorem dX7_odds_86 : decode bX7_odds 86 = .ok (.getfield 13, 3) ∧ 86 + 3 = 89 := by decide +kernel
theorem dX7_odds_89 : decode bX7_odds 89 = .ok (.iload_n 2, 1) ∧ 89 + 1 = 90 := by decide +kernel
theorem dX7_odds_90 : decode bX7_odds 90 = .ok (.invokevirtual 420, 3) ∧ 90 + 3 = 93 := by decide +kernel
theorem dX7_odds_93 : decode bX7_odds 93 = .ok (.lreturn, 1) := by decide +kernel
theorem dX7_mean_0 : decode bX7_mean 0 = .ok (.aload_n 0, 1) ∧ 0 + 1 = 1 := by decide +kernel
theorem dX7_mean_1 : decode bX7_mean 1 = .ok (.iload_n 1, 1) ∧ 1 + 1 = 2 := by decide +kernel
theorem dX7_mean_2 : decode bX7_mean 2 = .ok (.invokevirtual 384, 3) ∧ 2 + 3 = 5 := by decide +kernel
theorem dX7_mean_5 : decode bX7_mean 5 = .ok (.ifCond .eq 20, 3) ∧ 5 + 3 = 8 ∧ ((5 : Nat) : Int) + (20) = ((25 : Nat) : Int) := by decide +kernel
theorem dX7_mean_8 : decode bX7_mean 8 = .ok (.aload_n 0, 1) ∧ 8 + 1 = 9 := by decide +kernel
theorem dX7_mean_9 : decode bX7_mean 9 = .ok (.iload_n 2, 1) ∧ 9 + 1 = 10 := by decide +kernel
theorem dX7_mean_10 : decode bX7_mean 10 = .ok (.iconst 0, 1) ∧ 10 + 1 = 11 := by decide +kernel
theorem dX7_mean_11 : decode bX7_mean 11 = .ok (.iconst 1, 1) ∧ 11 + 1 = 12 := by decide +kernel
theorem dX7_mean_12 : decode bX7_mean 12 = .ok (.invokevirtual 263, 3) ∧ 12 + 3 = 15 := by decide +kernel
theorem dX7_mean_15 : decode bX7_mean 15 = .ok (.ifCond .eq 10, 3) ∧ 15 + 3 = 18 ∧ ((15 : Nat) : Int) + (10) = ((25 : Nat) : Int) := by decide +kernel
theorem dX7_mean_18 : decode bX7_mean 18 = .ok (.aload_n 0, 1) ∧ 18 + 1 = 19 := by decide +kernel
theorem dX7_mean_19 : decode bX7_mean 19 = .ok (.getfield 13, 3) ∧ 19 + 3 = 22 := by decide +kernel
theorem dX7_mean_22 : decode bX7_mean 22 = .ok (.ifCond .ne 7, 3) ∧ 22 + 3 = 25 ∧ ((22 : Nat) : Int) + (7) = ((29 : Nat) : Int) := by decide +kernel
theorem dX7_mean_25 : decode bX7_mean 25 = .ok (.ldc2_w 418, 3) ∧ 25 + 3 = 28 := by decide +kernel
theorem dX7_mean_28 : decode bX7_mean 28 = .ok (.lreturn, 1) := by decide +kernel
theorem dX7_mean_29 : decode bX7_mean 29 = .ok (.aload_n 0, 1) ∧ 29 + 1 = 30 := by decide +kernel
theorem dX7_mean_30 : decode bX7_mean 30 = .ok (.invokevirtual 391, 3) ∧ 30 + 3 = 33 := by decide +kernel
theorem dX7_mean_33 : decode bX7_mean 33 = .ok (.aload_n 0, 1) ∧ 33 + 1 = 34 := by decide +kernel
theorem dX7_mean_34 : decode bX7_mean 34 = .ok (.iload_n 1, 1) ∧ 34 + 1 = 35 := by decide +kernel
theorem dX7_mean_35 : decode bX7_mean 35 = .ok (.invokevirtual 387, 3) ∧ 35 + 3 = 38 := by decide +kernel
theorem dX7_mean_38 : decode bX7_mean 38 = .ok (.aload_n 0, 1) ∧ 38 + 1 = 39 := by decide +kernel
theorem dX7_mean_39 : decode bX7_mean 39 = .ok (.invokevirtual 371, 3) ∧ 39 + 3 = 42 := by decide +kernel
theorem dX7_mean_42 : decode bX7_mean 42 = .ok (.istore_n 3, 1) ∧ 42 + 1 = 43 := by decide +kernel
theorem dX7_mean_43 : decode bX7_mean 43 = .ok (.aload_n 0, 1) ∧ 43 + 1 = 44 := by decide +kernel
theorem dX7_mean_44 : decode bX7_mean 44 = .ok (.invokevirtual 394, 3) ∧ 44 + 3 = 47 := by decide +kernel
theorem dX7_mean_47 : decode bX7_mean 47 = .ok (.aload_n 0, 1) ∧ 47 + 1 = 48 := by decide +kernel
theorem dX7_mean_48 : decode bX7_mean 48 = .ok (.iload_n 3, 1) ∧ 48 + 1 = 49 := by decide +kernel
theorem dX7_mean_49 : decode bX7_mean 49 = .ok (.aload_n 0, 1) ∧ 49 + 1 = 50 := by decide +kernel
theorem dX7_mean_50 : decode bX7_mean 50 = .ok (.getfield 13, 3) ∧ 50 + 3 = 53 := by decide +kernel
theorem dX7_mean_53 : decode bX7_mean 53 = .ok (.iload_n 2, 1) ∧ 53 + 1 = 54 := by decide +kernel
theorem dX7_mean_54 : decode bX7_mean 54 = .ok (.invokevirtual 420, 3) ∧ 54 + 3 = 57 := by decide +kernel
theorem dX7_mean_57 : decode bX7_mean 57 = .ok (.lreturn, 1) := by decide +kernel
theorem dX7_year_0 : decode bX7_year 0 = .ok (.iload_n 1, 1) ∧ 0 + 1 = 1 := by decide +kernel
theorem dX7_year_1 : decode bX7_year 1 = .ok (.iconst (-1), 1) ∧ 1 + 1 = 2 := by decide +kernel
theorem dX7_year_2 : decode bX7_year 2 = .ok (.if_icmp .ne 10, 3) ∧ 2 + 3 = 5 ∧ ((2 : Nat) : Int) + (10) = ((12 : Nat) : Int) := by decide +kernel
theorem dX7_year_5 : decode bX7_year 5 = .ok (.aload_n 0, 1) ∧ 5 + 1 = 6 := by decide +kernel
theorem dX7_year_6 : decode bX7_year 6 = .ok (.iconst 0, 1) ∧ 6 + 1 = 7 := by decide +kernel
theorem dX7_year_7 : decode bX7_year 7 = .ok (.putfield 153, 3) ∧ 7 + 3 = 10 := by decide +kernel
theorem dX7_year_10 : decode bX7_year 10 = .ok (.iconst 0, 1) ∧ 10 + 1 = 11 := by decide +kernel
theorem dX7_year_11 : decode bX7_year 11 = .ok (.ireturn, 1) := by decide +kernel
theorem dX7_year_12 : decode bX7_year 12 = .ok (.aload_n 0, 1) ∧ 12 + 1 = 13 := by decide +kernel
theorem dX7_year_13 : decode bX7_year 13 = .ok (.iload_n 1, 1) ∧ 13 + 1 = 14 := by decide +kernel
theorem dX7_year_14 : decode bX7_year 14 = .ok (.iconst 0, 1) ∧ 14 + 1 = 15 := by decide +kernel
theorem dX7_year_15 : decode bX7_year 15 = .ok (.iconst 2, 1) ∧ 15 + 1 = 16 := by decide +kernel
theorem dX7_year_16 : decode bX7_year 16 = .ok (.invokevirtual 263, 3) ∧ 16 + 3 = 19 := by decide +kernel
theorem dX7_year_19 : decode bX7_year 19 = .ok (.ifCond .eq 16, 3) ∧ 19 + 3 = 22 ∧ ((19 : Nat) : Int) + (16) = ((35 : Nat) : Int) := by decide +kernel
theorem dX7_year_22 : decode bX7_year 22 = .ok (.iload_n 1, 1) ∧ 22 + 1 = 23 := by decide +kernel
theorem dX7_year_23 : decode bX7_year 23 = .ok (.iconst 1, 1) ∧ 23 + 1 = 24 := by decide +kernel
theorem dX7_year_24 : decode bX7_year 24 = .ok (.if_icmp .ne 13, 3) ∧ 24 + 3 = 27 ∧ ((24 : Nat) : Int) + (13) = ((37 : Nat) : Int) := by decide +kernel
theorem dX7_year_27 : decode bX7_year 27 = .ok (.aload_n 0, 1) ∧ 27 + 1 = 28 := by decide +kernel
theorem dX7_year_28 : decode bX7_year 28 = .ok (.iload_n 2, 1) ∧ 28 + 1 = 29 := by decide +kernel
theorem dX7_year_29 : decode bX7_year 29 = .ok (.invokevirtual 274, 3) ∧ 29 + 3 = 32 := by decide +kernel
theorem dX7_year_32 : decode bX7_year 32 = .ok (.ifCond .ne 5, 3) ∧ 32 + 3 = 35 ∧ ((32 : Nat) : Int) + (5) = ((37 : Nat) : Int) := by decide +kernel
theorem dX7_year_35 : decode bX7_year 35 = .ok (.iconst (-1), 1) ∧ 35 + 1 = 36 := by decide +kernel
theorem dX7_year_36 : decode bX7_year 36 = .ok (.ireturn, 1) := by decide +kernel
theorem dX7_year_37 : decode bX7_year 37 = .ok (.aload_n 0, 1) ∧ 37 + 1 = 38 := by decide +kernel
theorem dX7_year_38 : decode bX7_year 38 = .ok (.getfield 153, 3) ∧ 38 + 3 = 41 := by decide +kernel
theorem dX7_year_41 : decode bX7_year 41 = .ok (.bipush 10, 2) ∧ 41 + 2 = 43 := by decide +kernel
theorem dX7_year_43 : decode bX7_year 43 = .ok (.if_icmp .ne 6, 3) ∧ 43 + 3 = 46 ∧ ((43 : Nat) : Int) + (6) = ((49 : Nat) : Int) := by decide +kernel
theorem dX7_year_46 : decode bX7_year 46 = .ok (.bipush (-4), 2) ∧ 46 + 2 = 48 := by decide +kernel
theorem dX7_year_48 : decode bX7_year 48 = .ok (.ireturn, 1) := by decide +kernel
theorem dX7_year_49 : decode bX7_year 49 = .ok (.aload_n 0, 1) ∧ 49 + 1 = 50 := by decide +kernel
theorem dX7_year_50 : decode bX7_year 50 = .ok (.getfield 159, 3) ∧ 50 + 3 = 53 := by decide +kernel
theorem dX7_year_53 : decode bX7_year 53 = .ok (.aload_n 0, 1) ∧ 53 + 1 = 54 := by decide +kernel
theorem dX7_year_54 : decode bX7_year 54 = .ok (.getfield 153, 3) ∧ 54 + 3 = 57 := by decide +kernel
theorem dX7_year_57 : decode bX7_year 57 = .ok (.iload_n 1, 1) ∧ 57 + 1 = 58 := by decide +kernel
theorem dX7_year_58 : decode bX7_year 58 = .ok (.iastore, 1) ∧ 58 + 1 = 59 := by decide +kernel
theorem dX7_year_59 : decode bX7_year 59 = .ok (.aload_n 0, 1) ∧ 59 + 1 = 60 := by decide +kernel
theorem dX7_year_60 : decode bX7_year 60 = .ok (.getfield 162, 3) ∧ 60 + 3 = 63 := by decide +kernel
theorem dX7_year_63 : decode bX7_year 63 = .ok (.aload_n 0, 1) ∧ 63 + 1 = 64 := by decide +kernel
theorem dX7_year_64 : decode bX7_year 64 = .ok (.getfield 153, 3) ∧ 64 + 3 = 67 := by decide +kernel
theorem dX7_year_67 : decode bX7_year 67 = .ok (.iload_n 1, 1) ∧ 67 + 1 = 68 := by decide +kernel
theorem dX7_year_68 : decode bX7_year 68 = .ok (.iconst 1, 1) ∧ 68 + 1 = 69 := by decide +kernel
theorem dX7_year_69 : decode bX7_year 69 = .ok (.if_icmp .ne 7, 3) ∧ 69 + 3 = 72 ∧ ((69 : Nat) : Int) + (7) = ((76 : Nat) : Int) := by decide +kernel
theorem dX7_year_72 : decode bX7_year 72 = .ok (.iload_n 2, 1) ∧ 72 + 1 = 73 := by decide +kernel
theorem dX7_year_73 : decode bX7_year 73 = .ok (.goto 4, 3) ∧ ((73 : Nat) : Int) + (4) = ((77 : Nat) : Int) := by decide +kernel
theorem dX7_year_76 : decode bX7_year 76 = .ok (.iconst 0, 1) ∧ 76 + 1 = 77 := by decide +kernel
theorem dX7_year_77 : decode bX7_year 77 = .ok (.iastore, 1) ∧ 77 + 1 = 78 := by decide +kernel
theorem dX7_year_78 : decode bX7_year 78 = .ok (.aload_n 0, 1) ∧ 78 + 1 = 79 := by decide +kernel
theorem dX7_year_79 : decode bX7_year 79 = .ok (.dup, 1) ∧ 79 + 1 = 80 := by decide +kernel
theorem dX7_year_80 : decode bX7_year 80 = .ok (.getfield 153, 3) ∧ 80 + 3 = 83 := by decide +kernel
theorem dX7_year_83 : decode bX7_year 83 = .ok (.iconst 1, 1) ∧ 83 + 1 = 84 := by decide +kernel
theorem dX7_year_84 : decode bX7_year 84 = .ok (.iadd, 1) ∧ 84 + 1 = 85 := by decide +kernel
theorem dX7_year_85 : decode bX7_year 85 = .ok (.putfield 153, 3) ∧ 85 + 3 = 88 := by decide +kernel
theorem dX7_year_88 : decode bX7_year 88 = .ok (.aload_n 0, 1) ∧ 88 + 1 = 89 := by decide +kernel
theorem dX7_year_89 : decode bX7_year 89 = .ok (.getfield 153, 3) ∧ 89 + 3 = 92 := by decide +kernel
theorem dX7_year_92 : decode bX7_year 92 = .ok (.ireturn, 1) := by decide +kernel
theorem dX7_gone_0 : decode bX7_gone 0 = .ok (.aload_n 0, 1) ∧ 0 + 1 = 1 := by decide +kernel
theorem dX7_gone_1 : decode bX7_gone 1 = .ok (.iload_n 1, 1) ∧ 1 + 1 = 2 := by decide +kernel
theorem dX7_gone_2 : decode bX7_gone 2 = .ok (.iconst 0, 1) ∧ 2 + 1 = 3 := by decide +kernel
theorem dX7_gone_3 : decode bX7_gone 3 = .ok (.iconst 1, 1) ∧ 3 + 1 = 4 := by decide +kernel
theorem dX7_gone_4 : decode bX7_gone 4 = .ok (.invokevirtual 263, 3) ∧ 4 + 3 = 7 := by decide +kernel
theorem dX7_gone_7 : decode bX7_gone 7 = .ok (.ifCond .ne 5, 3) ∧ 7 + 3 = 10 ∧ ((7 : Nat) : Int) + (5) = ((12 : Nat) : Int) := by decide +kernel
theorem dX7_gone_10 : decode bX7_gone 10 = .ok (.iconst (-1), 1) ∧ 10 + 1 = 11 := by decide +kernel
theorem dX7_gone_11 : decode bX7_gone 11 = .ok (.ireturn, 1) := by decide +kernel
theorem dX7_gone_12 : decode bX7_gone 12 = .ok (.aload_n 0, 1) ∧ 12 + 1 = 13 := by decide +kernel
theorem dX7_gone_13 : decode bX7_gone 13 = .ok (.invokevirtual 391, 3) ∧ 13 + 3 = 16 := by decide +kernel
theorem dX7_gone_16 : decode bX7_gone 16 = .ok (.iconst 0, 1) ∧ 16 + 1 = 17 := by decide +kernel
theorem dX7_gone_17 : decode bX7_gone 17 = .ok (.istore_n 2, 1) ∧ 17 + 1 = 18 := by decide +kernel
theorem dX7_gone_18 : decode bX7_gone 18 = .ok (.iload_n 2, 1) ∧ 18 + 1 = 19 := by decide +kernel
theorem dX7_gone_19 : decode bX7_gone 19 = .ok (.aload_n 0, 1) ∧ 19 + 1 = 20 := by decide +kernel
theorem dX7_gone_20 : decode bX7_gone 20 = .ok (.getfield 153, 3) ∧ 20 + 3 = 23 := by decide +kernel
theorem dX7_gone_23 : decode bX7_gone 23 = .ok (.if_icmp .ge 70, 3) ∧ 23 + 3 = 26 ∧ ((23 : Nat) : Int) + (70) = ((93 : Nat) : Int) := by decide +kernel
theorem dX7_gone_26 : decode bX7_gone 26 = .ok (.aload_n 0, 1) ∧ 26 + 1 = 27 := by decide +kernel
theorem dX7_gone_27 : decode bX7_gone 27 = .ok (.getfield 159, 3) ∧ 27 + 3 = 30 := by decide +kernel
theorem dX7_gone_30 : decode bX7_gone 30 = .ok (.iload_n 2, 1) ∧ 30 + 1 = 31 := by decide +kernel
theorem dX7_gone_31 : decode bX7_gone 31 = .ok (.iaload, 1) ∧ 31 + 1 = 32 := by decide +kernel
theorem dX7_gone_32 : decode bX7_gone 32 = .ok (.ifCond .ne 7, 3) ∧ 32 + 3 = 35 ∧ ((32 : Nat) : Int) + (7) = ((39 : Nat) : Int) := by decide +kernel
theorem dX7_gone_35 : decode bX7_gone 35 = .ok (.aload_n 0, 1) ∧ 35 + 1 = 36 := by decide +kernel
theorem dX7_gone_36 : decode bX7_gone 36 = .ok (.invokevirtual 381, 3) ∧ 36 + 3 = 39 := by decide +kernel
theorem dX7_gone_39 : decode bX7_gone 39 = .ok (.aload_n 0, 1) ∧ 39 + 1 = 40 := by decide +kernel
theorem dX7_gone_40 : decode bX7_gone 40 = .ok (.getfield 159, 3) ∧ 40 + 3 = 43 := by decide +kernel
theorem dX7_gone_43 : decode bX7_gone 43 = .ok (.iload_n 2, 1) ∧ 43 + 1 = 44 := by decide +kernel
theorem dX7_gone_44 : decode bX7_gone 44 = .ok (.iaload, 1) ∧ 44 + 1 = 45 := by decide +kernel
theorem dX7_gone_45 : decode bX7_gone 45 = .ok (.iconst 1, 1) ∧ 45 + 1 = 46 := by decide +kernel
theorem dX7_gone_46 : decode bX7_gone 46 = .ok (.if_icmp .ne 13, 3) ∧ 46 + 3 = 49 ∧ ((46 : Nat) : Int) + (13) = ((59 : Nat) : Int) := by decide +kernel
theorem dX7_gone_49 : decode bX7_gone 49 = .ok (.aload_n 0, 1) ∧ 49 + 1 = 50 := by decide +kernel
theorem dX7_gone_50 : decode bX7_gone 50 = .ok (.aload_n 0, 1) ∧ 50 + 1 = 51 := by decide +kernel
theorem dX7_gone_51 : decode bX7_gone 51 = .ok (.getfield 162, 3) ∧ 51 + 3 = 54 := by decide +kernel
theorem dX7_gone_54 : decode bX7_gone 54 = .ok (.iload_n 2, 1) ∧ 54 + 1 = 55 := by decide +kernel
theorem dX7_gone_55 : decode bX7_gone 55 = .ok (.iaload, 1) ∧ 55 + 1 = 56 := by decide +kernel
theorem dX7_gone_56 : decode bX7_gone 56 = .ok (.invokevirtual 288, 3) ∧ 56 + 3 = 59 := by decide +kernel
theorem dX7_gone_59 : decode bX7_gone 59 = .ok (.aload_n 0, 1) ∧ 59 + 1 = 60 := by decide +kernel
theorem dX7_gone_60 : decode bX7_gone 60 = .ok (.getfield 159, 3) ∧ 60 + 3 = 63 := by decide +kernel
theorem dX7_gone_63 : decode bX7_gone 63 = .ok (.iload_n 2, 1) ∧ 63 + 1 = 64 := by decide +kernel
theorem dX7_gone_64 : decode bX7_gone 64 = .ok (.iaload, 1) ∧ 64 + 1 = 65 := by decide +kernel
theorem dX7_gone_65 : decode bX7_gone 65 = .ok (.iconst 2, 1) ∧ 65 + 1 = 66 := by decide +kernel
theorem dX7_gone_66 : decode bX7_gone 66 = .ok (.if_icmp .ne 21, 3) ∧ 66 + 3 = 69 ∧ ((66 : Nat) : Int) + (21) = ((87 : Nat) : Int) := by decide +kernel
theorem dX7_gone_69 : decode bX7_gone 69 = .ok (.aload_n 0, 1) ∧ 69 + 1 = 70 := by decide +kernel
theorem dX7_gone_70 : decode bX7_gone 70 = .ok (.aload_n 0, 1) ∧ 70 + 1 = 71 := by decide +kernel
theorem dX7_gone_71 : decode bX7_gone 71 = .ok (.aload_n 0, 1) ∧ 71 + 1 = 72 := by decide +kernel
theorem dX7_gone_72 : decode bX7_gone 72 = .ok (.getfield 7, 3) ∧ 72 + 3 = 75 := by decide +kernel
theorem dX7_gone_75 : decode bX7_gone 75 = .ok (.bipush 10, 2) ∧ 75 + 2 = 77 := by decide +kernel
theorem dX7_gone_77 : decode bX7_gone 77 = .ok (.iadd, 1) ∧ 77 + 1 = 78 := by decide +kernel
theorem dX7_gone_78 : decode bX7_gone 78 = .ok (.sipush 9999, 3) ∧ 78 + 3 = 81 := by decide +kernel
theorem dX7_gone_81 : decode bX7_gone 81 = .ok (.invokevirtual 284, 3) ∧ 81 + 3 = 84 := by decide +kernel
theorem dX7_gone_84 : decode bX7_gone 84 = .ok (.putfield 7, 3) ∧ 84 + 3 = 87 := by decide +kernel
theorem dX7_gone_87 : decode bX7_gone 87 = .ok (.iinc 2 1, 3) ∧ 87 + 3 = 90 := by decide +kernel
theorem dX7_gone_90 : decode bX7_gone 90 = .ok (.goto (-72), 3) ∧ ((90 : Nat) : Int) + (-72) = ((18 : Nat) : Int) := by decide +kernel
theorem dX7_gone_93 : decode bX7_gone 93 = .ok (.iload_n 1, 1) ∧ 93 + 1 = 94 := by decide +kernel
theorem dX7_gone_94 : decode bX7_gone 94 = .ok (.ifCond .ne 10, 3) ∧ 94 + 3 = 97 ∧ ((94 : Nat) : Int) + (10) = ((104 : Nat) : Int) := by decide +kernel
theorem dX7_gone_97 : decode bX7_gone 97 = .ok (.aload_n 0, 1) ∧ 97 + 1 = 98 := by decide +kernel
theorem dX7_gone_98 : decode bX7_gone 98 = .ok (.getfield 7, 3) ∧ 98 + 3 = 101 := by decide +kernel
theorem dX7_gone_101 : decode bX7_gone 101 = .ok (.goto 7, 3) ∧ ((101 : Nat) : Int) + (7) = ((108 : Nat) : Int) := by decide +kernel
theorem dX7_gone_104 : decode bX7_gone 104 = .ok (.aload_n 0, 1) ∧ 104 + 1 = 105 := by decide +kernel
theorem dX7_gone_105 : decode bX7_gone 105 = .ok (.getfield 114, 3) ∧ 105 + 3 = 108 := by decide +kernel
theorem dX7_gone_108 : decode bX7_gone 108 = .ok (.istore_n 2, 1) ∧ 108 + 1 = 109 := by decide +kernel
theorem dX7_gone_109 : decode bX7_gone 109 = .ok (.aload_n 0, 1) ∧ 109 + 1 = 110 := by decide +kernel
theorem dX7_gone_110 : decode bX7_gone 110 = .ok (.invokevirtual 394, 3) ∧ 110 + 3 = 113 := by decide +kernel
theorem dX7_gone_113 : decode bX7_gone 113 = .ok (.iload_n 2, 1) ∧ 113 + 1 = 114 := by decide +kernel
theorem dX7_gone_114 : decode bX7_gone 114 = .ok (.ireturn, 1) := by decide +kernel
theorem dX7_book_0 : decode bX7_book 0 = .ok (.iload_n 1, 1) ∧ 0 + 1 = 1 := by decide +kernel
theorem dX7_book_1 : decode bX7_book 1 = .ok (.iconst (-1), 1) ∧ 1 + 1 = 2 := by decide +kernel
theorem dX7_book_2 : decode bX7_book 2 = .ok (.if_icmp .ne 10, 3) ∧ 2 + 3 = 5 ∧ ((2 : Nat) : Int) + (10) = ((12 : Nat) : Int) := by decide +kernel
theorem dX7_book_5 : decode bX7_book 5 = .ok (.aload_n 0, 1) ∧ 5 + 1 = 6 := by decide +kernel
theorem dX7_book_6 : decode bX7_book 6 = .ok (.iconst 0, 1) ∧ 6 + 1 = 7 := by decide +kernel
theorem dX7_book_7 : decode bX7_book 7 = .ok (.putfield 156, 3) ∧ 7 + 3 = 10 := by decide +kernel
theorem dX7_book_10 : decode bX7_book 10 = .ok (.iconst 0, 1) ∧ 10 + 1 = 11 := by decide +kernel
theorem dX7_book_11 : decode bX7_book 11 = .ok (.ireturn, 1) := by decide +kernel
theorem dX7_book_12 : decode bX7_book 12 = .ok (.aload_n 0, 1) ∧ 12 + 1 = 13 := by decide +kernel
theorem dX7_book_13 : decode bX7_book 13 = .ok (.iload_n 1, 1) ∧ 13 + 1 = 14 := by decide +kernel
theorem dX7_book_14 : decode bX7_book 14 = .ok (.invokevirtual 274, 3) ∧ 14 + 3 = 17 := by decide +kernel
theorem dX7_book_17 : decode bX7_book 17 = .ok (.ifCond .ne 5, 3) ∧ 17 + 3 = 20 ∧ ((17 : Nat) : Int) + (5) = ((22 : Nat) : Int) := by decide +kernel
theorem dX7_book_20 : decode bX7_book 20 = .ok (.iconst (-1), 1) ∧ 20 + 1 = 21 := by decide +kernel
theorem dX7_book_21 : decode bX7_book 21 = .ok (.ireturn, 1) := by decide +kernel
theorem dX7_book_22 : decode bX7_book 22 = .ok (.aload_n 0, 1) ∧ 22 + 1 = 23 := by decide +kernel
theorem dX7_book_23 : decode bX7_book 23 = .ok (.iload_n 2, 1) ∧ 23 + 1 = 24 := by decide +kernel
theorem dX7_book_24 : decode bX7_book 24 = .ok (.iconst 0, 1) ∧ 24 + 1 = 25 := by decide +kernel
theorem dX7_book_25 : decode bX7_book 25 = .ok (.ldc_w 374, 3) ∧ 25 + 3 = 28 := by decide +kernel
theorem dX7_book_28 : decode bX7_book 28 = .ok (.invokevirtual 263, 3) ∧ 28 + 3 = 31 := by decide +kernel
theorem dX7_book_31 : decode bX7_book 31 = .ok (.ifCond .ne 6, 3) ∧ 31 + 3 = 34 ∧ ((31 : Nat) : Int) + (6) = ((37 : Nat) : Int) := by decide +kernel
theorem dX7_book_34 : decode bX7_book 34 = .ok (.bipush (-2), 2) ∧ 34 + 2 = 36 := by decide +kernel
theorem dX7_book_36 : decode bX7_book 36 = .ok (.ireturn, 1) := by decide +kernel
theorem dX7_book_37 : decode bX7_book 37 = .ok (.aload_n 0, 1) ∧ 37 + 1 = 38 := by decide +kernel
theorem dX7_book_38 : decode bX7_book 38 = .ok (.getfield 156, 3) ∧ 38 + 3 = 41 := by decide +kernel
theorem dX7_book_41 : decode bX7_book 41 = .ok (.bipush 8, 2) ∧ 41 + 2 = 43 := by decide +kernel
theorem dX7_book_43 : decode bX7_book 43 = .ok (.if_icmp .ne 6, 3) ∧ 43 + 3 = 46 ∧ ((43 : Nat) : Int) + (6) = ((49 : Nat) : Int) := by decide +kernel
theorem dX7_book_46 : decode bX7_book 46 = .ok (.bipush (-4), 2) ∧ 46 + 2 = 48 := by decide +kernel
theorem dX7_book_48 : decode bX7_book 48 = .ok (.ireturn, 1) := by decide +kernel
theorem dX7_book_49 : decode bX7_book 49 = .ok (.aload_n 0, 1) ∧ 49 + 1 = 50 := by decide +kernel
theorem dX7_book_50 : decode bX7_book 50 = .ok (.getfield 165, 3) ∧ 50 + 3 = 53 := by decide +kernel
theorem dX7_book_53 : decode bX7_book 53 = .ok (.aload_n 0, 1) ∧ 53 + 1 = 54 := by decide +kernel
theorem dX7_book_54 : decode bX7_book 54 = .ok (.getfield 156, 3) ∧ 54 + 3 = 57 := by decide +kernel
theorem dX7_book_57 : decode bX7_book 57 = .ok (.iload_n 1, 1) ∧ 57 + 1 = 58 := by decide +kernel
theorem dX7_book_58 : decode bX7_book 58 = .ok (.iastore, 1) ∧ 58 + 1 = 59 := by decide +kernel
theorem dX7_book_59 : decode bX7_book 59 = .ok (.aload_n 0, 1) ∧ 59 + 1 = 60 := by decide +kernel
theorem dX7_book_60 : decode bX7_book 60 = .ok (.getfield 168, 3) ∧ 60 + 3 = 63 := by decide +kernel
theorem dX7_book_63 : decode bX7_book 63 = .ok (.aload_n 0, 1) ∧ 63 + 1 = 64 := by decide +kernel
theorem dX7_book_64 : decode bX7_book 64 = .ok (.getfield 156, 3) ∧ 64 + 3 = 67 := by decide +kernel
theorem dX7_book_67 : decode bX7_book 67 = .ok (.iload_n 2, 1) ∧ 67 + 1 = 68 := by decide +kernel
theorem dX7_book_68 : decode bX7_book 68 = .ok (.iastore, 1) ∧ 68 + 1 = 69 := by decide +kernel
theorem dX7_book_69 : decode bX7_book 69 = .ok (.aload_n 0, 1) ∧ 69 + 1 = 70 := by decide +kernel
theorem dX7_book_70 : decode bX7_book 70 = .ok (.dup, 1) ∧ 70 + 1 = 71 := by decide +kernel
theorem dX7_book_71 : decode bX7_book 71 = .ok (.getfield 156, 3) ∧ 71 + 3 = 74 := by decide +kernel
theorem dX7_book_74 : decode bX7_book 74 = .ok (.iconst 1, 1) ∧ 74 + 1 = 75 := by decide +kernel
theorem dX7_book_75 : decode bX7_book 75 = .ok (.iadd, 1) ∧ 75 + 1 = 76 := by decide +kernel
theorem dX7_book_76 : decode bX7_book 76 = .ok (.putfield 156, 3) ∧ 76 + 3 = 79 := by decide +kernel
theorem dX7_book_79 : decode bX7_book 79 = .ok (.aload_n 0, 1) ∧ 79 + 1 = 80 := by decide +kernel
theorem dX7_book_80 : decode bX7_book 80 = .ok (.getfield 156, 3) ∧ 80 + 3 = 83 := by decide +kernel
theorem dX7_book_83 : decode bX7_book 83 = .ok (.ireturn, 1) := by decide +kernel
theorem dX7_looked_0 : decode bX7_looked 0 = .ok (.iconst 0, 1) ∧ 0 + 1 = 1 := by decide +kernel
theorem dX7_looked_1 : decode bX7_looked 1 = .ok (.istore_n 1, 1) ∧ 1 + 1 = 2 := by decide +kernel
theorem dX7_looked_2 : decode bX7_looked 2 = .ok (.iload_n 1, 1) ∧ 2 + 1 = 3 := by decide +kernel
theorem dX7_looked_3 : decode bX7_looked 3 = .ok (.aload_n 0, 1) ∧ 3 + 1 = 4 := by decide +kernel
theorem dX7_looked_4 : decode bX7_looked 4 = .ok (.getfield 156, 3) ∧ 4 + 3 = 7 := by decide +kernel
theorem dX7_looked_7 : decode bX7_looked 7 = .ok (.if_icmp .ge 31, 3) ∧ 7 + 3 = 10 ∧ ((7 : Nat) : Int) + (31) = ((38 : Nat) : Int) := by decide +kernel
theorem dX7_looked_10 : decode bX7_looked 10 = .ok (.aload_n 0, 1) ∧ 10 + 1 = 11 := by decide +kernel
theorem dX7_looked_11 : decode bX7_looked 11 = .ok (.getfield 38, 3) ∧ 11 + 3 = 14 := by decide +kernel
theorem dX7_looked_14 : decode bX7_looked 14 = .ok (.aload_n 0, 1) ∧ 14 + 1 = 15 := by decide +kernel
theorem dX7_looked_15 : decode bX7_looked 15 = .ok (.getfield 165, 3) ∧ 15 + 3 = 18 := by decide +kernel
theorem dX7_looked_18 : decode bX7_looked 18 = .ok (.iload_n 1, 1) ∧ 18 + 1 = 19 := by decide +kernel
theorem dX7_looked_19 : decode bX7_looked 19 = .ok (.iaload, 1) ∧ 19 + 1 = 20 := by decide +kernel
theorem dX7_looked_20 : decode bX7_looked 20 = .ok (.iaload, 1) ∧ 20 + 1 = 21 := by decide +kernel
theorem dX7_looked_21 : decode bX7_looked 21 = .ok (.aload_n 0, 1) ∧ 21 + 1 = 22 := by decide +kernel
theorem dX7_looked_22 : decode bX7_looked 22 = .ok (.getfield 168, 3) ∧ 22 + 3 = 25 := by decide +kernel
theorem dX7_looked_25 : decode bX7_looked 25 = .ok (.iload_n 1, 1) ∧ 25 + 1 = 26 := by decide +kernel
theorem dX7_looked_26 : decode bX7_looked 26 = .ok (.iaload, 1) ∧ 26 + 1 = 27 := by decide +kernel
theorem dX7_looked_27 : decode bX7_looked 27 = .ok (.if_icmp .eq 5, 3) ∧ 27 + 3 = 30 ∧ ((27 : Nat) : Int) + (5) = ((32 : Nat) : Int) := by decide +kernel
theorem dX7_looked_30 : decode bX7_looked 30 = .ok (.iload_n 1, 1) ∧ 30 + 1 = 31 := by decide +kernel
theorem dX7_looked_31 : decode bX7_looked 31 = .ok (.ireturn, 1) := by decide +kernel
theorem dX7_looked_32 : decode bX7_looked 32 = .ok (.iinc 1 1, 3) ∧ 32 + 3 = 35 := by decide +kernel
theorem dX7_looked_35 : decode bX7_looked 35 = .ok (.goto (-33), 3) ∧ ((35 : Nat) : Int) + (-33) = ((2 : Nat) : Int) := by decide +kernel
theorem dX7_looked_38 : decode bX7_looked 38 = .ok (.bipush (-5), 2) ∧ 38 + 2 = 40 := by decide +kernel
theorem dX7_looked_40 : decode bX7_looked 40 = .ok (.ireturn, 1) := by decide +kernel
theorem dX7_judge_0 : decode bX7_judge 0 = .ok (.aload_n 0, 1) ∧ 0 + 1 = 1 := by decide +kernel
theorem dX7_judge_1 : decode bX7_judge 1 = .ok (.iload_n 1, 1) ∧ 1 + 1 = 2 := by decide +kernel
theorem dX7_judge_2 : decode bX7_judge 2 = .ok (.invokevirtual 424, 3) ∧ 2 + 3 = 5 := by decide +kernel
theorem dX7_judge_5 : decode bX7_judge 5 = .ok (.ifCond .ne 5, 3) ∧ 5 + 3 = 8 ∧ ((5 : Nat) : Int) + (5) = ((10 : Nat) : Int) := by decide +kernel
theorem dX7_judge_8 : decode bX7_judge 8 = .ok (.iconst (-1), 1) ∧ 8 + 1 = 9 := by decide +kernel
theorem dX7_judge_9 : decode bX7_judge 9 = .ok (.ireturn, 1) := by decide +kernel
theorem dX7_judge_10 : decode bX7_judge 10 = .ok (.aload_n 0, 1) ∧ 10 + 1 = 11 := by decide +kernel
theorem dX7_judge_11 : decode bX7_judge 11 = .ok (.getfield 250, 3) ∧ 11 + 3 = 14 := by decide +kernel
theorem dX7_judge_14 : decode bX7_judge 14 = .ok (.iload_n 1, 1) ∧ 14 + 1 = 15 := by decide +kernel
theorem dX7_judge_15 : decode bX7_judge 15 = .ok (.iaload, 1) ∧ 15 + 1 = 16 := by decide +kernel
theorem dX7_judge_16 : decode bX7_judge 16 = .ok (.ifCond .lt 16, 3) ∧ 16 + 3 = 19 ∧ ((16 : Nat) : Int) + (16) = ((32 : Nat) : Int) := by decide +kernel
theorem dX7_judge_19 : decode bX7_judge 19 = .ok (.aload_n 0, 1) ∧ 19 + 1 = 20 := by decide +kernel
theorem dX7_judge_20 : decode bX7_judge 20 = .ok (.getfield 250, 3) ∧ 20 + 3 = 23 := by decide +kernel
theorem dX7_judge_23 : decode bX7_judge 23 = .ok (.iload_n 1, 1) ∧ 23 + 1 = 24 := by decide +kernel
theorem dX7_judge_24 : decode bX7_judge 24 = .ok (.iaload, 1) ∧ 24 + 1 = 25 := by decide +kernel
theorem dX7_judge_25 : decode bX7_judge 25 = .ok (.iconst 2, 1) ∧ 25 + 1 = 26 := by decide +kernel
theorem dX7_judge_26 : decode bX7_judge 26 = .ok (.if_icmp .eq 6, 3) ∧ 26 + 3 = 29 ∧ ((26 : Nat) : Int) + (6) = ((32 : Nat) : Int) := by decide +kernel
theorem dX7_judge_29 : decode bX7_judge 29 = .ok (.bipush (-12), 2) ∧ 29 + 2 = 31 := by decide +kernel
theorem dX7_judge_31 : decode bX7_judge 31 = .ok (.ireturn, 1) := by decide +kernel
theorem dX7_judge_32 : decode bX7_judge 32 = .ok (.iconst 0, 1) ∧ 32 + 1 = 33 := by decide +kernel
theorem dX7_judge_33 : decode bX7_judge 33 = .ok (.istore_n 3, 1) ∧ 33 + 1 = 34 := by decide +kernel
theorem dX7_judge_34 : decode bX7_judge 34 = .ok (.iload_n 3, 1) ∧ 34 + 1 = 35 := by decide +kernel
theorem dX7_judge_35 : decode bX7_judge 35 = .ok (.aload_n 0, 1) ∧ 35 + 1 = 36 := by decide +kernel
theorem dX7_judge_36 : decode bX7_judge 36 = .ok (.getfield 13, 3) ∧ 36 + 3 = 39 := by decide +kernel
theorem dX7_judge_39 : decode bX7_judge 39 = .ok (.if_icmp .ge 67, 3) ∧ 39 + 3 = 42 ∧ ((39 : Nat) : Int) + (67) = ((106 : Nat) : Int) := by decide +kernel
theorem dX7_judge_42 : decode bX7_judge 42 = .ok (.aload_n 0, 1) ∧ 42 + 1 = 43 := by decide +kernel
theorem dX7_judge_43 : decode bX7_judge 43 = .ok (.getfield 250, 3) ∧ 43 + 3 = 46 := by decide +kernel
theorem dX7_judge_46 : decode bX7_judge 46 = .ok (.iload_n 1, 1) ∧ 46 + 1 = 47 := by decide +kernel
theorem dX7_judge_47 : decode bX7_judge 47 = .ok (.iaload, 1) ∧ 47 + 1 = 48 := by decide +kernel
theorem dX7_judge_48 : decode bX7_judge 48 = .ok (.ifCond .lt 21, 3) ∧ 48 + 3 = 51 ∧ ((48 : Nat) : Int) + (21) = ((69 : Nat) : Int) := by decide +kernel
theorem dX7_judge_51 : decode bX7_judge 51 = .ok (.iload_n 2, 1) ∧ 51 + 1 = 52 := by decide +kernel
theorem dX7_judge_52 : decode bX7_judge 52 = .ok (.ifCond .lt 17, 3) ∧ 52 + 3 = 55 ∧ ((52 : Nat) : Int) + (17) = ((69 : Nat) : Int) := by decide +kernel
theorem dX7_judge_55 : decode bX7_judge 55 = .ok (.iload_n 2, 1) ∧ 55 + 1 = 56 := by decide +kernel
theorem dX7_judge_56 : decode bX7_judge 56 = .ok (.aload_n 0, 1) ∧ 56 + 1 = 57 := by decide +kernel
theorem dX7_judge_57 : decode bX7_judge 57 = .ok (.getfield 253, 3) ∧ 57 + 3 = 60 := by decide +kernel
theorem dX7_judge_60 : decode bX7_judge 60 = .ok (.iload_n 1, 1) ∧ 60 + 1 = 61 := by decide +kernel
theorem dX7_judge_61 : decode bX7_judge 61 = .ok (.iaload, 1) ∧ 61 + 1 = 62 := by decide +kernel
theorem dX7_judge_62 : decode bX7_judge 62 = .ok (.iload_n 3, 1) ∧ 62 + 1 = 63 := by decide +kernel
theorem dX7_judge_63 : decode bX7_judge 63 = .ok (.isub, 1) ∧ 63 + 1 = 64 := by decide +kernel
theorem dX7_judge_64 : decode bX7_judge 64 = .ok (.iconst 1, 1) ∧ 64 + 1 = 65 := by decide +kernel
theorem dX7_judge_65 : decode bX7_judge 65 = .ok (.isub, 1) ∧ 65 + 1 = 66 := by decide +kernel
theorem dX7_judge_66 : decode bX7_judge 66 = .ok (.if_icmp .le 8, 3) ∧ 66 + 3 = 69 ∧ ((66 : Nat) : Int) + (8) = ((74 : Nat) : Int) := by decide +kernel
theorem dX7_judge_69 : decode bX7_judge 69 = .ok (.bipush 100, 2) ∧ 69 + 2 = 71 := by decide +kernel
theorem dX7_judge_71 : decode bX7_judge 71 = .ok (.iload_n 3, 1) ∧ 71 + 1 = 72 := by decide +kernel
theorem dX7_judge_72 : decode bX7_judge 72 = .ok (.iadd, 1) ∧ 72 + 1 = 73 := by decide +kernel
theorem dX7_judge_73 : decode bX7_judge 73 = .ok (.ireturn, 1) := by decide +kernel
theorem dX7_judge_74 : decode bX7_judge 74 = .ok (.aload_n 0, 1) ∧ 74 + 1 = 75 := by decide +kernel
theorem dX7_judge_75 : decode bX7_judge 75 = .ok (.getfield 256, 3) ∧ 75 + 3 = 78 := by decide +kernel
theorem dX7_judge_78 : decode bX7_judge 78 = .ok (.bipush 60, 2) ∧ 78 + 2 = 80 := by decide +kernel
theorem dX7_judge_80 : decode bX7_judge 80 = .ok (.iload_n 1, 1) ∧ 80 + 1 = 81 := by decide +kernel
theorem dX7_judge_81 : decode bX7_judge 81 = .ok (.imul, 1) ∧ 81 + 1 = 82 := by decide +kernel
theorem dX7_judge_82 : decode bX7_judge 82 = .ok (.iload_n 2, 1) ∧ 82 + 1 = 83 := by decide +kernel
theorem dX7_judge_83 : decode bX7_judge 83 = .ok (.iadd, 1) ∧ 83 + 1 = 84 := by decide +kernel
theorem dX7_judge_84 : decode bX7_judge 84 = .ok (.iload_n 3, 1) ∧ 84 + 1 = 85 := by decide +kernel
theorem dX7_judge_85 : decode bX7_judge 85 = .ok (.iadd, 1) ∧ 85 + 1 = 86 := by decide +kernel
theorem dX7_judge_86 : decode bX7_judge 86 = .ok (.laload, 1) ∧ 86 + 1 = 87 := by decide +kernel
theorem dX7_judge_87 : decode bX7_judge 87 = .ok (.aload_n 0, 1) ∧ 87 + 1 = 88 := by decide +kernel
theorem dX7_judge_88 : decode bX7_judge 88 = .ok (.getfield 32, 3) ∧ 88 + 3 = 91 := by decide +kernel
theorem dX7_judge_91 : decode bX7_judge 91 = .ok (.iload_n 3, 1) ∧ 91 + 1 = 92 := by decide +kernel
theorem dX7_judge_92 : decode bX7_judge 92 = .ok (.iaload, 1) ∧ 92 + 1 = 93 := by decide +kernel
theorem dX7_judge_93 : decode bX7_judge 93 = .ok (.i2l, 1) ∧ 93 + 1 = 94 := by decide +kernel
theorem dX7_judge_94 : decode bX7_judge 94 = .ok (.lcmp, 1) ∧ 94 + 1 = 95 := by decide +kernel
theorem dX7_judge_95 : decode bX7_judge 95 = .ok (.ifCond .eq 5, 3) ∧ 95 + 3 = 98 ∧ ((95 : Nat) : Int) + (5) = ((100 : Nat) : Int) := by decide +kernel
theorem dX7_judge_98 : decode bX7_judge 98 = .ok (.iload_n 3, 1) ∧ 98 + 1 = 99 := by decide +kernel
theorem dX7_judge_99 : decode bX7_judge 99 = .ok (.ireturn, 1) := by decide +kernel
theorem dX7_judge_100 : decode bX7_judge 100 = .ok (.iinc 3 1, 3) ∧ 100 + 3 = 103 := by decide +kernel
theorem dX7_judge_103 : decode bX7_judge 103 = .ok (.goto (-69), 3) ∧ ((103 : Nat) : Int) + (-69) = ((34 : Nat) : Int) := by decide +kernel
theorem dX7_judge_106 : decode bX7_judge 106 = .ok (.bipush (-5), 2) ∧ 106 + 2 = 108 := by decide +kernel
theorem dX7_judge_108 : decode bX7_judge 108 = .ok (.ireturn, 1) := by decide +kernel
theorem dX7_image_0 : decode bX7_image 0 = .ok (.aload_n 0, 1) ∧ 0 + 1 = 1 := by decide +kernel
theorem dX7_image_1 : decode bX7_image 1 = .ok (.iconst 1, 1) ∧ 1 + 1 = 2 := by decide +kernel
theorem dX7_image_2 : decode bX7_image 2 = .ok (.putfield 171, 3) ∧ 2 + 3 = 5 := by decide +kernel
theorem dX7_image_5 : decode bX7_image 5 = .ok (.aload_n 0, 1) ∧ 5 + 1 = 6 := by decide +kernel
theorem dX7_image_6 : decode bX7_image 6 = .ok (.aload_n 0, 1) ∧ 6 + 1 = 7 := by decide +kernel
theorem dX7_image_7 : decode bX7_image 7 = .ok (.getfield 53, 3) ∧ 7 + 3 = 10 := by decide +kernel
theorem dX7_image_10 : decode bX7_image 10 = .ok (.putfield 175, 3) ∧ 10 + 3 = 13 := by decide +kernel
theorem dX7_image_13 : decode bX7_image 13 = .ok (.aload_n 0, 1) ∧ 13 + 1 = 14 := by decide +kernel
theorem dX7_image_14 : decode bX7_image 14 = .ok (.aload_n 0, 1) ∧ 14 + 1 = 15 := by decide +kernel
theorem dX7_image_15 : decode bX7_image 15 = .ok (.getfield 7, 3) ∧ 15 + 3 = 18 := by decide +kernel
theorem dX7_image_18 : decode bX7_image 18 = .ok (.putfield 178, 3) ∧ 18 + 3 = 21 := by decide +kernel
theorem dX7_image_21 : decode bX7_image 21 = .ok (.aload_n 0, 1) ∧ 21 + 1 = 22 := by decide +kernel
theorem dX7_image_22 : decode bX7_image 22 = .ok (.aload_n 0, 1) ∧ 22 + 1 = 23 := by decide +kernel
theorem dX7_image_23 : decode bX7_image 23 = .ok (.getfield 13, 3) ∧ 23 + 3 = 26 := by decide +kernel
theorem dX7_image_26 : decode bX7_image 26 = .ok (.putfield 181, 3) ∧ 26 + 3 = 29 := by decide +kernel
theorem dX7_image_29 : decode bX7_image 29 = .ok (.aload_n 0, 1) ∧ 29 + 1 = 30 := by decide +kernel
theorem dX7_image_30 : decode bX7_image 30 = .ok (.aload_n 0, 1) ∧ 30 + 1 = 31 := by decide +kernel
theorem dX7_image_31 : decode bX7_image 31 = .ok (.getfield 16, 3) ∧ 31 + 3 = 34 := by decide +kernel
theorem dX7_image_34 : decode bX7_image 34 = .ok (.putfield 184, 3) ∧ 34 + 3 = 37 := by decide +kernel
theorem dX7_image_37 : decode bX7_image 37 = .ok (.aload_n 0, 1) ∧ 37 + 1 = 38 := by decide +kernel
theorem dX7_image_38 : decode bX7_image 38 = .ok (.aload_n 0, 1) ∧ 38 + 1 = 39 := by decide +kernel
theorem dX7_image_39 : decode bX7_image 39 = .ok (.getfield 144, 3) ∧ 39 + 3 = 42 := by decide +kernel
theorem dX7_image_42 : decode bX7_image 42 = .ok (.putfield 187, 3) ∧ 42 + 3 = 45 := by decide +kernel
theorem dX7_image_45 : decode bX7_image 45 = .ok (.aload_n 0, 1) ∧ 45 + 1 = 46 := by decide +kernel
theorem dX7_image_46 : decode bX7_image 46 = .ok (.aload_n 0, 1) ∧ 46 + 1 = 47 := by decide +kernel
theorem dX7_image_47 : decode bX7_image 47 = .ok (.getfield 153, 3) ∧ 47 + 3 = 50 := by decide +kernel
theorem dX7_image_50 : decode bX7_image 50 = .ok (.putfield 190, 3) ∧ 50 + 3 = 53 := by decide +kernel
theorem dX7_image_53 : decode bX7_image 53 = .ok (.aload_n 0, 1) ∧ 53 + 1 = 54 := by decide +kernel
theorem dX7_image_54 : decode bX7_image 54 = .ok (.aload_n 0, 1) ∧ 54 + 1 = 55 := by decide +kernel
theorem dX7_image_55 : decode bX7_image 55 = .ok (.getfield 156, 3) ∧ 55 + 3 = 58 := by decide +kernel
theorem dX7_image_58 : decode bX7_image 58 = .ok (.putfield 193, 3) ∧ 58 + 3 = 61 := by decide +kernel
theorem dX7_image_61 : decode bX7_image 61 = .ok (.iconst 0, 1) ∧ 61 + 1 = 62 := by decide +kernel
theorem dX7_image_62 : decode bX7_image 62 = .ok (.istore_n 1, 1) ∧ 62 + 1 = 63 := by decide +kernel
theorem dX7_image_63 : decode bX7_image 63 = .ok (.iload_n 1, 1) ∧ 63 + 1 = 64 := by decide +kernel
theorem dX7_image_64 : decode bX7_image 64 = .ok (.bipush 6, 2) ∧ 64 + 2 = 66 := by decide +kernel
theorem dX7_image_66 : decode bX7_image 66 = .ok (.if_icmp .ge 117, 3) ∧ 66 + 3 = 69 ∧ ((66 : Nat) : Int) + (117) = ((183 : Nat) : Int) := by decide +kernel
theorem dX7_image_69 : decode bX7_image 69 = .ok (.aload_n 0, 1) ∧ 69 + 1 = 70 := by decide +kernel
theorem dX7_image_70 : decode bX7_image 70 = .ok (.getfield 196, 3) ∧ 70 + 3 = 73 := by decide +kernel
theorem dX7_image_73 : decode bX7_image 73 = .ok (.iload_n 1, 1) ∧ 73 + 1 = 74 := by decide +kernel
theorem dX7_image_74 : decode bX7_image 74 = .ok (.aload_n 0, 1) ∧ 74 + 1 = 75 := by decide +kernel
theorem dX7_image_75 : decode bX7_image 75 = .ok (.getfield 19, 3) ∧ 75 + 3 = 78 := by decide +kernel
theorem dX7_image_78 : decode bX7_image 78 = .ok (.iload_n 1, 1) ∧ 78 + 1 = 79 := by decide +kernel
theorem dX7_image_79 : decode bX7_image 79 = .ok (.iaload, 1) ∧ 79 + 1 = 80 := by decide +kernel
theorem dX7_image_80 : decode bX7_image 80 = .ok (.iastore, 1) ∧ 80 + 1 = 81 := by decide +kernel
theorem dX7_image_81 : decode bX7_image 81 = .ok (.aload_n 0, 1) ∧ 81 + 1 = 82 := by decide +kernel
theorem dX7_image_82 : decode bX7_image 82 = .ok (.getfield 199, 3) ∧ 82 + 3 = 85 := by decide +kernel
theorem dX7_image_85 : decode bX7_image 85 = .ok (.iload_n 1, 1) ∧ 85 + 1 = 86 := by decide +kernel
theorem dX7_image_86 : decode bX7_image 86 = .ok (.aload_n 0, 1) ∧ 86 + 1 = 87 := by decide +kernel
theorem dX7_image_87 : decode bX7_image 87 = .ok (.getfield 23, 3) ∧ 87 + 3 = 90 := by decide +kernel
theorem dX7_image_90 : decode bX7_image 90 = .ok (.iload_n 1, 1) ∧ 90 + 1 = 91 := by decide +kernel
theorem dX7_image_91 : decode bX7_image 91 = .ok (.iaload, 1) ∧ 91 + 1 = 92 := by decide +kernel
theorem dX7_image_92 : decode bX7_image 92 = .ok (.iastore, 1) ∧ 92 + 1 = 93 := by decide +kernel
theorem dX7_image_93 : decode bX7_image 93 = .ok (.aload_n 0, 1) ∧ 93 + 1 = 94 := by decide +kernel
theorem dX7_image_94 : decode bX7_image 94 = .ok (.getfield 202, 3) ∧ 94 + 3 = 97 := by decide +kernel
theorem dX7_image_97 : decode bX7_image 97 = .ok (.iload_n 1, 1) ∧ 97 + 1 = 98 := by decide +kernel
theorem dX7_image_98 : decode bX7_image 98 = .ok (.aload_n 0, 1) ∧ 98 + 1 = 99 := by decide +kernel
theorem dX7_image_99 : decode bX7_image 99 = .ok (.getfield 26, 3) ∧ 99 + 3 = 102 := by decide +kernel
theorem dX7_image_102 : decode bX7_image 102 = .ok (.iload_n 1, 1) ∧ 102 + 1 = 103 := by decide +kernel
theorem dX7_image_103 : decode bX7_image 103 = .ok (.iaload, 1) ∧ 103 + 1 = 104 := by decide +kernel
theorem dX7_image_104 : decode bX7_image 104 = .ok (.iastore, 1) ∧ 104 + 1 = 105 := by decide +kernel
theorem dX7_image_105 : decode bX7_image 105 = .ok (.aload_n 0, 1) ∧ 105 + 1 = 106 := by decide +kernel
theorem dX7_image_106 : decode bX7_image 106 = .ok (.getfield 205, 3) ∧ 106 + 3 = 109 := by decide +kernel
theorem dX7_image_109 : decode bX7_image 109 = .ok (.iload_n 1, 1) ∧ 109 + 1 = 110 := by decide +kernel
theorem dX7_image_110 : decode bX7_image 110 = .ok (.aload_n 0, 1) ∧ 110 + 1 = 111 := by decide +kernel
theorem dX7_image_111 : decode bX7_image 111 = .ok (.getfield 29, 3) ∧ 111 + 3 = 114 := by decide +kernel
theorem dX7_image_114 : decode bX7_image 114 = .ok (.iload_n 1, 1) ∧ 114 + 1 = 115 := by decide +kernel
theorem dX7_image_115 : decode bX7_image 115 = .ok (.iaload, 1) ∧ 115 + 1 = 116 := by decide +kernel
theorem dX7_image_116 : decode bX7_image 116 = .ok (.iastore, 1) ∧ 116 + 1 = 117 := by decide +kernel
theorem dX7_image_117 : decode bX7_image 117 = .ok (.aload_n 0, 1) ∧ 117 + 1 = 118 := by decide +kernel
theorem dX7_image_118 : decode bX7_image 118 = .ok (.getfield 208, 3) ∧ 118 + 3 = 121 := by decide +kernel
theorem dX7_image_121 : decode bX7_image 121 = .ok (.iload_n 1, 1) ∧ 121 + 1 = 122 := by decide +kernel
theorem dX7_image_122 : decode bX7_image 122 = .ok (.aload_n 0, 1) ∧ 122 + 1 = 123 := by decide +kernel
theorem dX7_image_123 : decode bX7_image 123 = .ok (.getfield 32, 3) ∧ 123 + 3 = 126 := by decide +kernel
theorem dX7_image_126 : decode bX7_image 126 = .ok (.iload_n 1, 1) ∧ 126 + 1 = 127 := by decide +kernel
theorem dX7_image_127 : decode bX7_image 127 = .ok (.iaload, 1) ∧ 127 + 1 = 128 := by decide +kernel
theorem dX7_image_128 : decode bX7_image 128 = .ok (.iastore, 1) ∧ 128 + 1 = 129 := by decide +kernel
theorem dX7_image_129 : decode bX7_image 129 = .ok (.aload_n 0, 1) ∧ 129 + 1 = 130 := by decide +kernel
theorem dX7_image_130 : decode bX7_image 130 = .ok (.getfield 211, 3) ∧ 130 + 3 = 133 := by decide +kernel
theorem dX7_image_133 : decode bX7_image 133 = .ok (.iload_n 1, 1) ∧ 133 + 1 = 134 := by decide +kernel
theorem dX7_image_134 : decode bX7_image 134 = .ok (.aload_n 0, 1) ∧ 134 + 1 = 135 := by decide +kernel
theorem dX7_image_135 : decode bX7_image 135 = .ok (.getfield 35, 3) ∧ 135 + 3 = 138 := by decide +kernel
theorem dX7_image_138 : decode bX7_image 138 = .ok (.iload_n 1, 1) ∧ 138 + 1 = 139 := by decide +kernel
theorem dX7_image_139 : decode bX7_image 139 = .ok (.iaload, 1) ∧ 139 + 1 = 140 := by decide +kernel
theorem dX7_image_140 : decode bX7_image 140 = .ok (.iastore, 1) ∧ 140 + 1 = 141 := by decide +kernel
theorem dX7_image_141 : decode bX7_image 141 = .ok (.aload_n 0, 1) ∧ 141 + 1 = 142 := by decide +kernel
theorem dX7_image_142 : decode bX7_image 142 = .ok (.getfield 214, 3) ∧ 142 + 3 = 145 := by decide +kernel
theorem dX7_image_145 : decode bX7_image 145 = .ok (.iload_n 1, 1) ∧ 145 + 1 = 146 := by decide +kernel
theorem dX7_image_146 : decode bX7_image 146 = .ok (.aload_n 0, 1) ∧ 146 + 1 = 147 := by decide +kernel
theorem dX7_image_147 : decode bX7_image 147 = .ok (.getfield 38, 3) ∧ 147 + 3 = 150 := by decide +kernel
theorem dX7_image_150 : decode bX7_image 150 = .ok (.iload_n 1, 1) ∧ 150 + 1 = 151 := by decide +kernel
theorem dX7_image_151 : decode bX7_image 151 = .ok (.iaload, 1) ∧ 151 + 1 = 152 := by decide +kernel
theorem dX7_image_152 : decode bX7_image 152 = .ok (.iastore, 1) ∧ 152 + 1 = 153 := by decide +kernel
theorem dX7_image_153 : decode bX7_image 153 = .ok (.aload_n 0, 1) ∧ 153 + 1 = 154 := by decide +kernel
theorem dX7_image_154 : decode bX7_image 154 = .ok (.getfield 217, 3) ∧ 154 + 3 = 157 := by decide +kernel
theorem dX7_image_157 : decode bX7_image 157 = .ok (.iload_n 1, 1) ∧ 157 + 1 = 158 := by decide +kernel
theorem dX7_image_158 : decode bX7_image 158 = .ok (.aload_n 0, 1) ∧ 158 + 1 = 159 := by decide +kernel
theorem dX7_image_159 : decode bX7_image 159 = .ok (.getfield 41, 3) ∧ 159 + 3 = 162 := by decide +kernel
theorem dX7_image_162 : decode bX7_image 162 = .ok (.iload_n 1, 1) ∧ 162 + 1 = 163 := by decide +kernel
theorem dX7_image_163 : decode bX7_image 163 = .ok (.iaload, 1) ∧ 163 + 1 = 164 := by decide +kernel
theorem dX7_image_164 : decode bX7_image 164 = .ok (.iastore, 1) ∧ 164 + 1 = 165 := by decide +kernel
theorem dX7_image_165 : decode bX7_image 165 = .ok (.aload_n 0, 1) ∧ 165 + 1 = 166 := by decide +kernel
theorem dX7_image_166 : decode bX7_image 166 = .ok (.getfield 220, 3) ∧ 166 + 3 = 169 := by decide +kernel
theorem dX7_image_169 : decode bX7_image 169 = .ok (.iload_n 1, 1) ∧ 169 + 1 = 170 := by decide +kernel
theorem dX7_image_170 : decode bX7_image 170 = .ok (.aload_n 0, 1) ∧ 170 + 1 = 171 := by decide +kernel
theorem dX7_image_171 : decode bX7_image 171 = .ok (.getfield 47, 3) ∧ 171 + 3 = 174 := by decide +kernel
theorem dX7_image_174 : decode bX7_image 174 = .ok (.iload_n 1, 1) ∧ 174 + 1 = 175 := by decide +kernel
theorem dX7_image_175 : decode bX7_image 175 = .ok (.iaload, 1) ∧ 175 + 1 = 176 := by decide +kernel
theorem dX7_image_176 : decode bX7_image 176 = .ok (.iastore, 1) ∧ 176 + 1 = 177 := by decide +kernel
theorem dX7_image_177 : decode bX7_image 177 = .ok (.iinc 1 1, 3) ∧ 177 + 3 = 180 := by decide +kernel
theorem dX7_image_180 : decode bX7_image 180 = .ok (.goto (-117), 3) ∧ ((180 : Nat) : Int) + (-117) = ((63 : Nat) : Int) := by decide +kernel
theorem dX7_image_183 : decode bX7_image 183 = .ok (.iconst 0, 1) ∧ 183 + 1 = 184 := by decide +kernel
theorem dX7_image_184 : decode bX7_image 184 = .ok (.istore_n 1, 1) ∧ 184 + 1 = 185 := by decide +kernel
theorem dX7_image_185 : decode bX7_image 185 = .ok (.iload_n 1, 1) ∧ 185 + 1 = 186 := by decide +kernel
theorem dX7_image_186 : decode bX7_image 186 = .ok (.bipush 24, 2) ∧ 186 + 2 = 188 := by decide +kernel
theorem dX7_image_188 : decode bX7_image 188 = .ok (.if_icmp .ge 21, 3) ∧ 188 + 3 = 191 ∧ ((188 : Nat) : Int) + (21) = ((209 : Nat) : Int) := by decide +kernel
theorem dX7_image_191 : decode bX7_image 191 = .ok (.aload_n 0, 1) ∧ 191 + 1 = 192 := by decide +kernel
theorem dX7_image_192 : decode bX7_image 192 = .ok (.getfield 223, 3) ∧ 192 + 3 = 195 := by decide +kernel
theorem dX7_image_195 : decode bX7_image 195 = .ok (.iload_n 1, 1) ∧ 195 + 1 = 196 := by decide +kernel
theorem dX7_image_196 : decode bX7_image 196 = .ok (.aload_n 0, 1) ∧ 196 + 1 = 197 := by decide +kernel
theorem dX7_image_197 : decode bX7_image 197 = .ok (.getfield 44, 3) ∧ 197 + 3 = 200 := by decide +kernel
theorem dX7_image_200 : decode bX7_image 200 = .ok (.iload_n 1, 1) ∧ 200 + 1 = 201 := by decide +kernel
theorem dX7_image_201 : decode bX7_image 201 = .ok (.iaload, 1) ∧ 201 + 1 = 202 := by decide +kernel
theorem dX7_image_202 : decode bX7_image 202 = .ok (.iastore, 1) ∧ 202 + 1 = 203 := by decide +kernel
theorem dX7_image_203 : decode bX7_image 203 = .ok (.iinc 1 1, 3) ∧ 203 + 3 = 206 := by decide +kernel
theorem dX7_image_206 : decode bX7_image 206 = .ok (.goto (-21), 3) ∧ ((206 : Nat) : Int) + (-21) = ((185 : Nat) : Int) := by decide +kernel
theorem dX7_image_209 : decode bX7_image 209 = .ok (.iconst 0, 1) ∧ 209 + 1 = 210 := by decide +kernel
theorem dX7_image_210 : decode bX7_image 210 = .ok (.istore_n 1, 1) ∧ 210 + 1 = 211 := by decide +kernel
theorem dX7_image_211 : decode bX7_image 211 = .ok (.iload_n 1, 1) ∧ 211 + 1 = 212 := by decide +kernel
theorem dX7_image_212 : decode bX7_image 212 = .ok (.iconst 5, 1) ∧ 212 + 1 = 213 := by decide +kernel
theorem dX7_image_213 : decode bX7_image 213 = .ok (.if_icmp .ge 33, 3) ∧ 213 + 3 = 216 ∧ ((213 : Nat) : Int) + (33) = ((246 : Nat) : Int) := by decide +kernel
theorem dX7_image_216 : decode bX7_image 216 = .ok (.aload_n 0, 1) ∧ 216 + 1 = 217 := by decide +kernel
theorem dX7_image_217 : decode bX7_image 217 = .ok (.getfield 226, 3) ∧ 217 + 3 = 220 := by decide +kernel
theorem dX7_image_220 : decode bX7_image 220 = .ok (.iload_n 1, 1) ∧ 220 + 1 = 221 := by decide +kernel
theorem dX7_image_221 : decode bX7_image 221 = .ok (.aload_n 0, 1) ∧ 221 + 1 = 222 := by decide +kernel
theorem dX7_image_222 : decode bX7_image 222 = .ok (.getfield 147, 3) ∧ 222 + 3 = 225 := by decide +kernel
theorem dX7_image_225 : decode bX7_image 225 = .ok (.iload_n 1, 1) ∧ 225 + 1 = 226 := by decide +kernel
theorem dX7_image_226 : decode bX7_image 226 = .ok (.iaload, 1) ∧ 226 + 1 = 227 := by decide +kernel
theorem dX7_image_227 : decode bX7_image 227 = .ok (.iastore, 1) ∧ 227 + 1 = 228 := by decide +kernel
theorem dX7_image_228 : decode bX7_image 228 = .ok (.aload_n 0, 1) ∧ 228 + 1 = 229 := by decide +kernel
theorem dX7_image_229 : decode bX7_image 229 = .ok (.getfield 229, 3) ∧ 229 + 3 = 232 := by decide +kernel
theorem dX7_image_232 : decode bX7_image 232 = .ok (.iload_n 1, 1) ∧ 232 + 1 = 233 := by decide +kernel
theorem dX7_image_233 : decode bX7_image 233 = .ok (.aload_n 0, 1) ∧ 233 + 1 = 234 := by decide +kernel
theorem dX7_image_234 : decode bX7_image 234 = .ok (.getfield 150, 3) ∧ 234 + 3 = 237 := by decide +kernel
theorem dX7_image_237 : decode bX7_image 237 = .ok (.iload_n 1, 1) ∧ 237 + 1 = 238 := by decide +kernel
theorem dX7_image_238 : decode bX7_image 238 = .ok (.iaload, 1) ∧ 238 + 1 = 239 := by decide +kernel
theorem dX7_image_239 : decode bX7_image 239 = .ok (.iastore, 1) ∧ 239 + 1 = 240 := by decide +kernel
theorem dX7_image_240 : decode bX7_image 240 = .ok (.iinc 1 1, 3) ∧ 240 + 3 = 243 := by decide +kernel
theorem dX7_image_243 : decode bX7_image 243 = .ok (.goto (-32), 3) ∧ ((243 : Nat) : Int) + (-32) = ((211 : Nat) : Int) := by decide +kernel
theorem dX7_image_246 : decode bX7_image 246 = .ok (.iconst 0, 1) ∧ 246 + 1 = 247 := by decide +kernel
theorem dX7_image_247 : decode bX7_image 247 = .ok (.istore_n 1, 1) ∧ 247 + 1 = 248 := by decide +kernel
theorem dX7_image_248 : decode bX7_image 248 = .ok (.iload_n 1, 1) ∧ 248 + 1 = 249 := by decide +kernel
theorem dX7_image_249 : decode bX7_image 249 = .ok (.bipush 10, 2) ∧ 249 + 2 = 251 := by decide +kernel
theorem dX7_image_251 : decode bX7_image 251 = .ok (.if_icmp .ge 33, 3) ∧ 251 + 3 = 254 ∧ ((251 : Nat) : Int) + (33) = ((284 : Nat) : Int) := by decide +kernel
theorem dX7_image_254 : decode bX7_image 254 = .ok (.aload_n 0, 1) ∧ 254 + 1 = 255 := by decide +kernel
theorem dX7_image_255 : decode bX7_image 255 = .ok (.getfield 232, 3) ∧ 255 + 3 = 258 := by decide +kernel
theorem dX7_image_258 : decode bX7_image 258 = .ok (.iload_n 1, 1) ∧ 258 + 1 = 259 := by decide +kernel
theorem dX7_image_259 : decode bX7_image 259 = .ok (.aload_n 0, 1) ∧ 259 + 1 = 260 := by decide +kernel
theorem dX7_image_260 : decode bX7_image 260 = .ok (.getfield 159, 3) ∧ 260 + 3 = 263 := by decide +kernel
theorem dX7_image_263 : decode bX7_image 263 = .ok (.iload_n 1, 1) ∧ 263 + 1 = 264 := by decide +kernel
theorem dX7_image_264 : decode bX7_image 264 = .ok (.iaload, 1) ∧ 264 + 1 = 265 := by decide +kernel
theorem dX7_image_265 : decode bX7_image 265 = .ok (.iastore, 1) ∧ 265 + 1 = 266 := by decide +kernel
theorem dX7_image_266 : decode bX7_image 266 = .ok (.aload_n 0, 1) ∧ 266 + 1 = 267 := by decide +kernel
theorem dX7_image_267 : decode bX7_image 267 = .ok (.getfield 235, 3) ∧ 267 + 3 = 270 := by decide +kernel
theorem dX7_image_270 : decode bX7_image 270 = .ok (.iload_n 1, 1) ∧ 270 + 1 = 271 := by decide +kernel
theorem dX7_image_271 : decode bX7_image 271 = .ok (.aload_n 0, 1) ∧ 271 + 1 = 272 := by decide +kernel
theorem dX7_image_272 : decode bX7_image 272 = .ok (.getfield 162, 3) ∧ 272 + 3 = 275 := by decide +kernel
theorem dX7_image_275 : decode bX7_image 275 = .ok (.iload_n 1, 1) ∧ 275 + 1 = 276 := by decide +kernel
theorem dX7_image_276 : decode bX7_image 276 = .ok (.iaload, 1) ∧ 276 + 1 = 277 := by decide +kernel
theorem dX7_image_277 : decode bX7_image 277 = .ok (.iastore, 1) ∧ 277 + 1 = 278 := by decide +kernel
theorem dX7_image_278 : decode bX7_image 278 = .ok (.iinc 1 1, 3) ∧ 278 + 3 = 281 := by decide +kernel
theorem dX7_image_281 : decode bX7_image 281 = .ok (.goto (-33), 3) ∧ ((281 : Nat) : Int) + (-33) = ((248 : Nat) : Int) := by decide +kernel
theorem dX7_image_284 : decode bX7_image 284 = .ok (.iconst 0, 1) ∧ 284 + 1 = 285 := by decide +kernel
theorem dX7_image_285 : decode bX7_image 285 = .ok (.istore_n 1, 1) ∧ 285 + 1 = 286 := by decide +kernel
theorem dX7_image_286 : decode bX7_image 286 = .ok (.iload_n 1, 1) ∧ 286 + 1 = 287 := by decide +kernel
theorem dX7_image_287 : decode bX7_image 287 = .ok (.bipush 8, 2) ∧ 287 + 2 = 289 := by decide +kernel
theorem dX7_image_289 : decode bX7_image 289 = .ok (.if_icmp .ge 33, 3) ∧ 289 + 3 = 292 ∧ ((289 : Nat) : Int) + (33) = ((322 : Nat) : Int) := by decide +kernel
theorem dX7_image_292 : decode bX7_image 292 = .ok (.aload_n 0, 1) ∧ 292 + 1 = 293 := by decide +kernel
theorem dX7_image_293 : decode bX7_image 293 = .ok (.getfield 238, 3) ∧ 293 + 3 = 296 := by decide +kernel
theorem dX7_image_296 : decode bX7_image 296 = .ok (.iload_n 1, 1) ∧ 296 + 1 = 297 := by decide +kernel
theorem dX7_image_297 : decode bX7_image 297 = .ok (.aload_n 0, 1) ∧ 297 + 1 = 298 := by decide +kernel
theorem dX7_image_298 : decode bX7_image 298 = .ok (.getfield 165, 3) ∧ 298 + 3 = 301 := by decide +kernel
theorem dX7_image_301 : decode bX7_image 301 = .ok (.iload_n 1, 1) ∧ 301 + 1 = 302 := by decide +kernel
theorem dX7_image_302 : decode bX7_image 302 = .ok (.iaload, 1) ∧ 302 + 1 = 303 := by decide +kernel
theorem dX7_image_303 : decode bX7_image 303 = .ok (.iastore, 1) ∧ 303 + 1 = 304 := by decide +kernel
theorem dX7_image_304 : decode bX7_image 304 = .ok (.aload_n 0, 1) ∧ 304 + 1 = 305 := by decide +kernel
theorem dX7_image_305 : decode bX7_image 305 = .ok (.getfield 241, 3) ∧ 305 + 3 = 308 := by decide +kernel
theorem dX7_image_308 : decode bX7_image 308 = .ok (.iload_n 1, 1) ∧ 308 + 1 = 309 := by decide +kernel
theorem dX7_image_309 : decode bX7_image 309 = .ok (.aload_n 0, 1) ∧ 309 + 1 = 310 := by decide +kernel
theorem dX7_image_310 : decode bX7_image 310 = .ok (.getfield 168, 3) ∧ 310 + 3 = 313 := by decide +kernel
theorem dX7_image_313 : decode bX7_image 313 = .ok (.iload_n 1, 1) ∧ 313 + 1 = 314 := by decide +kernel
theorem dX7_image_314 : decode bX7_image 314 = .ok (.iaload, 1) ∧ 314 + 1 = 315 := by decide +kernel
theorem dX7_image_315 : decode bX7_image 315 = .ok (.iastore, 1) ∧ 315 + 1 = 316 := by decide +kernel
theorem dX7_image_316 : decode bX7_image 316 = .ok (.iinc 1 1, 3) ∧ 316 + 3 = 319 := by decide +kernel
theorem dX7_image_319 : decode bX7_image 319 = .ok (.goto (-33), 3) ∧ ((319 : Nat) : Int) + (-33) = ((286 : Nat) : Int) := by decide +kernel
theorem dX7_image_322 : decode bX7_image 322 = .ok (.aload_n 0, 1) ∧ 322 + 1 = 323 := by decide +kernel
theorem dX7_image_323 : decode bX7_image 323 = .ok (.getfield 13, 3) ∧ 323 + 3 = 326 := by decide +kernel
theorem dX7_image_326 : decode bX7_image 326 = .ok (.ireturn, 1) := by decide +kernel
theorem dX7_undo_0 : decode bX7_undo 0 = .ok (.aload_n 0, 1) ∧ 0 + 1 = 1 := by decide +kernel
theorem dX7_undo_1 : decode bX7_undo 1 = .ok (.getfield 171, 3) ∧ 1 + 3 = 4 := by decide +kernel
theorem dX7_undo_4 : decode bX7_undo 4 = .ok (.ifCond .ne 6, 3) ∧ 4 + 3 = 7 ∧ ((4 : Nat) : Int) + (6) = ((10 : Nat) : Int) := by decide +kernel
theorem dX7_undo_7 : decode bX7_undo 7 = .ok (.bipush (-3), 2) ∧ 7 + 2 = 9 := by decide +kernel
theorem dX7_undo_9 : decode bX7_undo 9 = .ok (.ireturn, 1) := by decide +kernel
theorem dX7_undo_10 : decode bX7_undo 10 = .ok (.aload_n 0, 1) ∧ 10 + 1 = 11 := by decide +kernel
theorem dX7_undo_11 : decode bX7_undo 11 = .ok (.aload_n 0, 1) ∧ 11 + 1 = 12 := by decide +kernel
theorem dX7_undo_12 : decode bX7_undo 12 = .ok (.getfield 175, 3) ∧ 12 + 3 = 15 := by decide +kernel
theorem dX7_undo_15 : decode bX7_undo 15 = .ok (.putfield 53, 3) ∧ 15 + 3 = 18 := by decide +kernel
theorem dX7_undo_18 : decode bX7_undo 18 = .ok (.aload_n 0, 1) ∧ 18 + 1 = 19 := by decide +kernel
theorem dX7_undo_19 : decode bX7_undo 19 = .ok (.aload_n 0, 1) ∧ 19 + 1 = 20 := by decide +kernel
theorem dX7_undo_20 : decode bX7_undo 20 = .ok (.getfield 178, 3) ∧ 20 + 3 = 23 := by decide +kernel
theorem dX7_undo_23 : decode bX7_undo 23 = .ok (.putfield 7, 3) ∧ 23 + 3 = 26 := by decide +kernel
theorem dX7_undo_26 : decode bX7_undo 26 = .ok (.aload_n 0, 1) ∧ 26 + 1 = 27 := by decide +kernel
theorem dX7_undo_27 : decode bX7_undo 27 = .ok (.aload_n 0, 1) ∧ 27 + 1 = 28 := by decide +kernel
theorem dX7_undo_28 : decode bX7_undo 28 = .ok (.getfield 181, 3) ∧ 28 + 3 = 31 := by decide +kernel
theorem dX7_undo_31 : decode bX7_undo 31 = .ok (.putfield 13, 3) ∧ 31 + 3 = 34 := by decide +kernel
theorem dX7_undo_34 : decode bX7_undo 34 = .ok (.aload_n 0, 1) ∧ 34 + 1 = 35 := by decide +kernel
theorem dX7_undo_35 : decode bX7_undo 35 = .ok (.aload_n 0, 1) ∧ 35 + 1 = 36 := by decide +kernel
theorem dX7_undo_36 : decode bX7_undo 36 = .ok (.getfield 184, 3) ∧ 36 + 3 = 39 := by decide +kernel
theorem dX7_undo_39 : decode bX7_undo 39 = .ok (.putfield 16, 3) ∧ 39 + 3 = 42 := by decide +kernel
theorem dX7_undo_42 : decode bX7_undo 42 = .ok (.aload_n 0, 1) ∧ 42 + 1 = 43 := by decide +kernel
theorem dX7_undo_43 : decode bX7_undo 43 = .ok (.aload_n 0, 1) ∧ 43 + 1 = 44 := by decide +kernel
theorem dX7_undo_44 : decode bX7_undo 44 = .ok (.getfield 187, 3) ∧ 44 + 3 = 47 := by decide +kernel
theorem dX7_undo_47 : decode bX7_undo 47 = .ok (.putfield 144, 3) ∧ 47 + 3 = 50 := by decide +kernel
theorem dX7_undo_50 : decode bX7_undo 50 = .ok (.aload_n 0, 1) ∧ 50 + 1 = 51 := by decide +kernel
theorem dX7_undo_51 : decode bX7_undo 51 = .ok (.aload_n 0, 1) ∧ 51 + 1 = 52 := by decide +kernel
theorem dX7_undo_52 : decode bX7_undo 52 = .ok (.getfield 190, 3) ∧ 52 + 3 = 55 := by decide +kernel
theorem dX7_undo_55 : decode bX7_undo 55 = .ok (.putfield 153, 3) ∧ 55 + 3 = 58 := by decide +kernel
theorem dX7_undo_58 : decode bX7_undo 58 = .ok (.aload_n 0, 1) ∧ 58 + 1 = 59 := by decide +kernel
theorem dX7_undo_59 : decode bX7_undo 59 = .ok (.aload_n 0, 1) ∧ 59 + 1 = 60 := by decide +kernel
theorem dX7_undo_60 : decode bX7_undo 60 = .ok (.getfield 193, 3) ∧ 60 + 3 = 63 := by decide +kernel
theorem dX7_undo_63 : decode bX7_undo 63 = .ok (.putfield 156, 3) ∧ 63 + 3 = 66 := by decide +kernel
theorem dX7_undo_66 : decode bX7_undo 66 = .ok (.iconst 0, 1) ∧ 66 + 1 = 67 := by decide +kernel
theorem dX7_undo_67 : decode bX7_undo 67 = .ok (.istore_n 1, 1) ∧ 67 + 1 = 68 := by decide +kernel
theorem dX7_undo_68 : decode bX7_undo 68 = .ok (.iload_n 1, 1) ∧ 68 + 1 = 69 := by decide +kernel
theorem dX7_undo_69 : decode bX7_undo 69 = .ok (.bipush 6, 2) ∧ 69 + 2 = 71 := by decide +kernel
theorem dX7_undo_71 : decode bX7_undo 71 = .ok (.if_icmp .ge 117, 3) ∧ 71 + 3 = 74 ∧ ((71 : Nat) : Int) + (117) = ((188 : Nat) : Int) := by decide +kernel
theorem dX7_undo_74 : decode bX7_undo 74 = .ok (.aload_n 0, 1) ∧ 74 + 1 = 75 := by decide +kernel
theorem dX7_undo_75 : decode bX7_undo 75 = .ok (.getfield 19, 3) ∧ 75 + 3 = 78 := by decide +kernel
theorem dX7_undo_78 : decode bX7_undo 78 = .ok (.iload_n 1, 1) ∧ 78 + 1 = 79 := by decide +kernel
theorem dX7_undo_79 : decode bX7_undo 79 = .ok (.aload_n 0, 1) ∧ 79 + 1 = 80 := by decide +kernel
theorem dX7_undo_80 : decode bX7_undo 80 = .ok (.getfield 196, 3) ∧ 80 + 3 = 83 := by decide +kernel
theorem dX7_undo_83 : decode bX7_undo 83 = .ok (.iload_n 1, 1) ∧ 83 + 1 = 84 := by decide +kernel
theorem dX7_undo_84 : decode bX7_undo 84 = .ok (.iaload, 1) ∧ 84 + 1 = 85 := by decide +kernel
theorem dX7_undo_85 : decode bX7_undo 85 = .ok (.iastore, 1) ∧ 85 + 1 = 86 := by decide +kernel
theorem dX7_undo_86 : decode bX7_undo 86 = .ok (.aload_n 0, 1) ∧ 86 + 1 = 87 := by decide +kernel
theorem dX7_undo_87 : decode bX7_undo 87 = .ok (.getfield 23, 3) ∧ 87 + 3 = 90 := by decide +kernel
theorem dX7_undo_90 : decode bX7_undo 90 = .ok (.iload_n 1, 1) ∧ 90 + 1 = 91 := by decide +kernel
theorem dX7_undo_91 : decode bX7_undo 91 = .ok (.aload_n 0, 1) ∧ 91 + 1 = 92 := by decide +kernel
theorem dX7_undo_92 : decode bX7_undo 92 = .ok (.getfield 199, 3) ∧ 92 + 3 = 95 := by decide +kernel
theorem dX7_undo_95 : decode bX7_undo 95 = .ok (.iload_n 1, 1) ∧ 95 + 1 = 96 := by decide +kernel
theorem dX7_undo_96 : decode bX7_undo 96 = .ok (.iaload, 1) ∧ 96 + 1 = 97 := by decide +kernel
theorem dX7_undo_97 : decode bX7_undo 97 = .ok (.iastore, 1) ∧ 97 + 1 = 98 := by decide +kernel
theorem dX7_undo_98 : decode bX7_undo 98 = .ok (.aload_n 0, 1) ∧ 98 + 1 = 99 := by decide +kernel
theorem dX7_undo_99 : decode bX7_undo 99 = .ok (.getfield 26, 3) ∧ 99 + 3 = 102 := by decide +kernel
theorem dX7_undo_102 : decode bX7_undo 102 = .ok (.iload_n 1, 1) ∧ 102 + 1 = 103 := by decide +kernel
theorem dX7_undo_103 : decode bX7_undo 103 = .ok (.aload_n 0, 1) ∧ 103 + 1 = 104 := by decide +kernel
theorem dX7_undo_104 : decode bX7_undo 104 = .ok (.getfield 202, 3) ∧ 104 + 3 = 107 := by decide +kernel
theorem dX7_undo_107 : decode bX7_undo 107 = .ok (.iload_n 1, 1) ∧ 107 + 1 = 108 := by decide +kernel
theorem dX7_undo_108 : decode bX7_undo 108 = .ok (.iaload, 1) ∧ 108 + 1 = 109 := by decide +kernel
theorem dX7_undo_109 : decode bX7_undo 109 = .ok (.iastore, 1) ∧ 109 + 1 = 110 := by decide +kernel
theorem dX7_undo_110 : decode bX7_undo 110 = .ok (.aload_n 0, 1) ∧ 110 + 1 = 111 := by decide +kernel
theorem dX7_undo_111 : decode bX7_undo 111 = .ok (.getfield 29, 3) ∧ 111 + 3 = 114 := by decide +kernel
theorem dX7_undo_114 : decode bX7_undo 114 = .ok (.iload_n 1, 1) ∧ 114 + 1 = 115 := by decide +kernel
theorem dX7_undo_115 : decode bX7_undo 115 = .ok (.aload_n 0, 1) ∧ 115 + 1 = 116 := by decide +kernel
theorem dX7_undo_116 : decode bX7_undo 116 = .ok (.getfield 205, 3) ∧ 116 + 3 = 119 := by decide +kernel
theorem dX7_undo_119 : decode bX7_undo 119 = .ok (.iload_n 1, 1) ∧ 119 + 1 = 120 := by decide +kernel
theorem dX7_undo_120 : decode bX7_undo 120 = .ok (.iaload, 1) ∧ 120 + 1 = 121 := by decide +kernel
theorem dX7_undo_121 : decode bX7_undo 121 = .ok (.iastore, 1) ∧ 121 + 1 = 122 := by decide +kernel
theorem dX7_undo_122 : decode bX7_undo 122 = .ok (.aload_n 0, 1) ∧ 122 + 1 = 123 := by decide +kernel
theorem dX7_undo_123 : decode bX7_undo 123 = .ok (.getfield 32, 3) ∧ 123 + 3 = 126 := by decide +kernel
theorem dX7_undo_126 : decode bX7_undo 126 = .ok (.iload_n 1, 1) ∧ 126 + 1 = 127 := by decide +kernel
theorem dX7_undo_127 : decode bX7_undo 127 = .ok (.aload_n 0, 1) ∧ 127 + 1 = 128 := by decide +kernel
theorem dX7_undo_128 : decode bX7_undo 128 = .ok (.getfield 208, 3) ∧ 128 + 3 = 131 := by decide +kernel
theorem dX7_undo_131 : decode bX7_undo 131 = .ok (.iload_n 1, 1) ∧ 131 + 1 = 132 := by decide +kernel
theorem dX7_undo_132 : decode bX7_undo 132 = .ok (.iaload, 1) ∧ 132 + 1 = 133 := by decide +kernel
theorem dX7_undo_133 : decode bX7_undo 133 = .ok (.iastore, 1) ∧ 133 + 1 = 134 := by decide +kernel
theorem dX7_undo_134 : decode bX7_undo 134 = .ok (.aload_n 0, 1) ∧ 134 + 1 = 135 := by decide +kernel
theorem dX7_undo_135 : decode bX7_undo 135 = .ok (.getfield 35, 3) ∧ 135 + 3 = 138 := by decide +kernel
theorem dX7_undo_138 : decode bX7_undo 138 = .ok (.iload_n 1, 1) ∧ 138 + 1 = 139 := by decide +kernel
theorem dX7_undo_139 : decode bX7_undo 139 = .ok (.aload_n 0, 1) ∧ 139 + 1 = 140 := by decide +kernel
theorem dX7_undo_140 : decode bX7_undo 140 = .ok (.getfield 211, 3) ∧ 140 + 3 = 143 := by decide +kernel
theorem dX7_undo_143 : decode bX7_undo 143 = .ok (.iload_n 1, 1) ∧ 143 + 1 = 144 := by decide +kernel
theorem dX7_undo_144 : decode bX7_undo 144 = .ok (.iaload, 1) ∧ 144 + 1 = 145 := by decide +kernel
theorem dX7_undo_145 : decode bX7_undo 145 = .ok (.iastore, 1) ∧ 145 + 1 = 146 := by decide +kernel
theorem dX7_undo_146 : decode bX7_undo 146 = .ok (.aload_n 0, 1) ∧ 146 + 1 = 147 := by decide +kernel
theorem dX7_undo_147 : decode bX7_undo 147 = .ok (.getfield 38, 3) ∧ 147 + 3 = 150 := by decide +kernel
theorem dX7_undo_150 : decode bX7_undo 150 = .ok (.iload_n 1, 1) ∧ 150 + 1 = 151 := by decide +kernel
theorem dX7_undo_151 : decode bX7_undo 151 = .ok (.aload_n 0, 1) ∧ 151 + 1 = 152 := by decide +kernel
theorem dX7_undo_152 : decode bX7_undo 152 = .ok (.getfield 214, 3) ∧ 152 + 3 = 155 := by decide +kernel
theorem dX7_undo_155 : decode bX7_undo 155 = .ok (.iload_n 1, 1) ∧ 155 + 1 = 156 := by decide +kernel
theorem dX7_undo_156 : decode bX7_undo 156 = .ok (.iaload, 1) ∧ 156 + 1 = 157 := by decide +kernel
theorem dX7_undo_157 : decode bX7_undo 157 = .ok (.iastore, 1) ∧ 157 + 1 = 158 := by decide +kernel
theorem dX7_undo_158 : decode bX7_undo 158 = .ok (.aload_n 0, 1) ∧ 158 + 1 = 159 := by decide +kernel
theorem dX7_undo_159 : decode bX7_undo 159 = .ok (.getfield 41, 3) ∧ 159 + 3 = 162 := by decide +kernel
theorem dX7_undo_162 : decode bX7_undo 162 = .ok (.iload_n 1, 1) ∧ 162 + 1 = 163 := by decide +kernel
theorem dX7_undo_163 : decode bX7_undo 163 = .ok (.aload_n 0, 1) ∧ 163 + 1 = 164 := by decide +kernel
theorem dX7_undo_164 : decode bX7_undo 164 = .ok (.getfield 217, 3) ∧ 164 + 3 = 167 := by decide +kernel
theorem dX7_undo_167 : decode bX7_undo 167 = .ok (.iload_n 1, 1) ∧ 167 + 1 = 168 := by decide +kernel
theorem dX7_undo_168 : decode bX7_undo 168 = .ok (.iaload, 1) ∧ 168 + 1 = 169 := by decide +kernel
theorem dX7_undo_169 : decode bX7_undo 169 = .ok (.iastore, 1) ∧ 169 + 1 = 170 := by decide +kernel
theorem dX7_undo_170 : decode bX7_undo 170 = .ok (.aload_n 0, 1) ∧ 170 + 1 = 171 := by decide +kernel
theorem dX7_undo_171 : decode bX7_undo 171 = .ok (.getfield 47, 3) ∧ 171 + 3 = 174 := by decide +kernel
theorem dX7_undo_174 : decode bX7_undo 174 = .ok (.iload_n 1, 1) ∧ 174 + 1 = 175 := by decide +kernel
theorem dX7_undo_175 : decode bX7_undo 175 = .ok (.aload_n 0, 1) ∧ 175 + 1 = 176 := by decide +kernel
theorem dX7_undo_176 : decode bX7_undo 176 = .ok (.getfield 220, 3) ∧ 176 + 3 = 179 := by decide +kernel
theorem dX7_undo_179 : decode bX7_undo 179 = .ok (.iload_n 1, 1) ∧ 179 + 1 = 180 := by decide +kernel
theorem dX7_undo_180 : decode bX7_undo 180 = .ok (.iaload, 1) ∧ 180 + 1 = 181 := by decide +kernel
theorem dX7_undo_181 : decode bX7_undo 181 = .ok (.iastore, 1) ∧ 181 + 1 = 182 := by decide +kernel
theorem dX7_undo_182 : decode bX7_undo 182 = .ok (.iinc 1 1, 3) ∧ 182 + 3 = 185 := by decide +kernel
theorem dX7_undo_185 : decode bX7_undo 185 = .ok (.goto (-117), 3) ∧ ((185 : Nat) : Int) + (-117) = ((68 : Nat) : Int) := by decide +kernel
theorem dX7_undo_188 : decode bX7_undo 188 = .ok (.iconst 0, 1) ∧ 188 + 1 = 189 := by decide +kernel
theorem dX7_undo_189 : decode bX7_undo 189 = .ok (.istore_n 1, 1) ∧ 189 + 1 = 190 := by decide +kernel
theorem dX7_undo_190 : decode bX7_undo 190 = .ok (.iload_n 1, 1) ∧ 190 + 1 = 191 := by decide +kernel
theorem dX7_undo_191 : decode bX7_undo 191 = .ok (.bipush 24, 2) ∧ 191 + 2 = 193 := by decide +kernel
theorem dX7_undo_193 : decode bX7_undo 193 = .ok (.if_icmp .ge 21, 3) ∧ 193 + 3 = 196 ∧ ((193 : Nat) : Int) + (21) = ((214 : Nat) : Int) := by decide +kernel
theorem dX7_undo_196 : decode bX7_undo 196 = .ok (.aload_n 0, 1) ∧ 196 + 1 = 197 := by decide +kernel
theorem dX7_undo_197 : decode bX7_undo 197 = .ok (.getfield 44, 3) ∧ 197 + 3 = 200 := by decide +kernel
theorem dX7_undo_200 : decode bX7_undo 200 = .ok (.iload_n 1, 1) ∧ 200 + 1 = 201 := by decide +kernel
theorem dX7_undo_201 : decode bX7_undo 201 = .ok (.aload_n 0, 1) ∧ 201 + 1 = 202 := by decide +kernel
theorem dX7_undo_202 : decode bX7_undo 202 = .ok (.getfield 223, 3) ∧ 202 + 3 = 205 := by decide +kernel
theorem dX7_undo_205 : decode bX7_undo 205 = .ok (.iload_n 1, 1) ∧ 205 + 1 = 206 := by decide +kernel
theorem dX7_undo_206 : decode bX7_undo 206 = .ok (.iaload, 1) ∧ 206 + 1 = 207 := by decide +kernel
theorem dX7_undo_207 : decode bX7_undo 207 = .ok (.iastore, 1) ∧ 207 + 1 = 208 := by decide +kernel
theorem dX7_undo_208 : decode bX7_undo 208 = .ok (.iinc 1 1, 3) ∧ 208 + 3 = 211 := by decide +kernel
theorem dX7_undo_211 : decode bX7_undo 211 = .ok (.goto (-21), 3) ∧ ((211 : Nat) : Int) + (-21) = ((190 : Nat) : Int) := by decide +kernel
theorem dX7_undo_214 : decode bX7_undo 214 = .ok (.iconst 0, 1) ∧ 214 + 1 = 215 := by decide +kernel
theorem dX7_undo_215 : decode bX7_undo 215 = .ok (.istore_n 1, 1) ∧ 215 + 1 = 216 := by decide +kernel
theorem dX7_undo_216 : decode bX7_undo 216 = .ok (.iload_n 1, 1) ∧ 216 + 1 = 217 := by decide +kernel
theorem dX7_undo_217 : decode bX7_undo 217 = .ok (.iconst 5, 1) ∧ 217 + 1 = 218 := by decide +kernel
theorem dX7_undo_218 : decode bX7_undo 218 = .ok (.if_icmp .ge 33, 3) ∧ 218 + 3 = 221 ∧ ((218 : Nat) : Int) + (33) = ((251 : Nat) : Int) := by decide +kernel
theorem dX7_undo_221 : decode bX7_undo 221 = .ok (.aload_n 0, 1) ∧ 221 + 1 = 222 := by decide +kernel
theorem dX7_undo_222 : decode bX7_undo 222 = .ok (.getfield 147, 3) ∧ 222 + 3 = 225 := by decide +kernel
theorem dX7_undo_225 : decode bX7_undo 225 = .ok (.iload_n 1, 1) ∧ 225 + 1 = 226 := by decide +kernel
theorem dX7_undo_226 : decode bX7_undo 226 = .ok (.aload_n 0, 1) ∧ 226 + 1 = 227 := by decide +kernel
theorem dX7_undo_227 : decode bX7_undo 227 = .ok (.getfield 226, 3) ∧ 227 + 3 = 230 := by decide +kernel
theorem dX7_undo_230 : decode bX7_undo 230 = .ok (.iload_n 1, 1) ∧ 230 + 1 = 231 := by decide +kernel
theorem dX7_undo_231 : decode bX7_undo 231 = .ok (.iaload, 1) ∧ 231 + 1 = 232 := by decide +kernel
theorem dX7_undo_232 : decode bX7_undo 232 = .ok (.iastore, 1) ∧ 232 + 1 = 233 := by decide +kernel
theorem dX7_undo_233 : decode bX7_undo 233 = .ok (.aload_n 0, 1) ∧ 233 + 1 = 234 := by decide +kernel
theorem dX7_undo_234 : decode bX7_undo 234 = .ok (.getfield 150, 3) ∧ 234 + 3 = 237 := by decide +kernel
theorem dX7_undo_237 : decode bX7_undo 237 = .ok (.iload_n 1, 1) ∧ 237 + 1 = 238 := by decide +kernel
theorem dX7_undo_238 : decode bX7_undo 238 = .ok (.aload_n 0, 1) ∧ 238 + 1 = 239 := by decide +kernel
theorem dX7_undo_239 : decode bX7_undo 239 = .ok (.getfield 229, 3) ∧ 239 + 3 = 242 := by decide +kernel
theorem dX7_undo_242 : decode bX7_undo 242 = .ok (.iload_n 1, 1) ∧ 242 + 1 = 243 := by decide +kernel
theorem dX7_undo_243 : decode bX7_undo 243 = .ok (.iaload, 1) ∧ 243 + 1 = 244 := by decide +kernel
theorem dX7_undo_244 : decode bX7_undo 244 = .ok (.iastore, 1) ∧ 244 + 1 = 245 := by decide +kernel
theorem dX7_undo_245 : decode bX7_undo 245 = .ok (.iinc 1 1, 3) ∧ 245 + 3 = 248 := by decide +kernel
theorem dX7_undo_248 : decode bX7_undo 248 = .ok (.goto (-32), 3) ∧ ((248 : Nat) : Int) + (-32) = ((216 : Nat) : Int) := by decide +kernel
theorem dX7_undo_251 : decode bX7_undo 251 = .ok (.iconst 0, 1) ∧ 251 + 1 = 252 := by decide +kernel
theorem dX7_undo_252 : decode bX7_undo 252 = .ok (.istore_n 1, 1) ∧ 252 + 1 = 253 := by decide +kernel
theorem dX7_undo_253 : decode bX7_undo 253 = .ok (.iload_n 1, 1) ∧ 253 + 1 = 254 := by decide +kernel
theorem dX7_undo_254 : decode bX7_undo 254 = .ok (.bipush 10, 2) ∧ 254 + 2 = 256 := by decide +kernel
theorem dX7_undo_256 : decode bX7_undo 256 = .ok (.if_icmp .ge 33, 3) ∧ 256 + 3 = 259 ∧ ((256 : Nat) : Int) + (33) = ((289 : Nat) : Int) := by decide +kernel
theorem dX7_undo_259 : decode bX7_undo 259 = .ok (.aload_n 0, 1) ∧ 259 + 1 = 260 := by decide +kernel
theorem dX7_undo_260 : decode bX7_undo 260 = .ok (.getfield 159, 3) ∧ 260 + 3 = 263 := by decide +kernel
theorem dX7_undo_263 : decode bX7_undo 263 = .ok (.iload_n 1, 1) ∧ 263 + 1 = 264 := by decide +kernel
theorem dX7_undo_264 : decode bX7_undo 264 = .ok (.aload_n 0, 1) ∧ 264 + 1 = 265 := by decide +kernel
theorem dX7_undo_265 : decode bX7_undo 265 = .ok (.getfield 232, 3) ∧ 265 + 3 = 268 := by decide +kernel
theorem dX7_undo_268 : decode bX7_undo 268 = .ok (.iload_n 1, 1) ∧ 268 + 1 = 269 := by decide +kernel
theorem dX7_undo_269 : decode bX7_undo 269 = .ok (.iaload, 1) ∧ 269 + 1 = 270 := by decide +kernel
theorem dX7_undo_270 : decode bX7_undo 270 = .ok (.iastore, 1) ∧ 270 + 1 = 271 := by decide +kernel
theorem dX7_undo_271 : decode bX7_undo 271 = .ok (.aload_n 0, 1) ∧ 271 + 1 = 272 := by decide +kernel
theorem dX7_undo_272 : decode bX7_undo 272 = .ok (.getfield 162, 3) ∧ 272 + 3 = 275 := by decide +kernel
theorem dX7_undo_275 : decode bX7_undo 275 = .ok (.iload_n 1, 1) ∧ 275 + 1 = 276 := by decide +kernel
theorem dX7_undo_276 : decode bX7_undo 276 = .ok (.aload_n 0, 1) ∧ 276 + 1 = 277 := by decide +kernel
theorem dX7_undo_277 : decode bX7_undo 277 = .ok (.getfield 235, 3) ∧ 277 + 3 = 280 := by decide +kernel
theorem dX7_undo_280 : decode bX7_undo 280 = .ok (.iload_n 1, 1) ∧ 280 + 1 = 281 := by decide +kernel
theorem dX7_undo_281 : decode bX7_undo 281 = .ok (.iaload, 1) ∧ 281 + 1 = 282 := by decide +kernel
theorem dX7_undo_282 : decode bX7_undo 282 = .ok (.iastore, 1) ∧ 282 + 1 = 283 := by decide +kernel
theorem dX7_undo_283 : decode bX7_undo 283 = .ok (.iinc 1 1, 3) ∧ 283 + 3 = 286 := by decide +kernel
theorem dX7_undo_286 : decode bX7_undo 286 = .ok (.goto (-33), 3) ∧ ((286 : Nat) : Int) + (-33) = ((253 : Nat) : Int) := by decide +kernel
theorem dX7_undo_289 : decode bX7_undo 289 = .ok (.iconst 0, 1) ∧ 289 + 1 = 290 := by decide +kernel
theorem dX7_undo_290 : decode bX7_undo 290 = .ok (.istore_n 1, 1) ∧ 290 + 1 = 291 := by decide +kernel
theorem dX7_undo_291 : decode bX7_undo 291 = .ok (.iload_n 1, 1) ∧ 291 + 1 = 292 := by decide +kernel
theorem dX7_undo_292 : decode bX7_undo 292 = .ok (.bipush 8, 2) ∧ 292 + 2 = 294 := by decide +kernel
theorem dX7_undo_294 : decode bX7_undo 294 = .ok (.if_icmp .ge 33, 3) ∧ 294 + 3 = 297 ∧ ((294 : Nat) : Int) + (33) = ((327 : Nat) : Int) := by decide +kernel
theorem dX7_undo_297 : decode bX7_undo 297 = .ok (.aload_n 0, 1) ∧ 297 + 1 = 298 := by decide +kernel
theorem dX7_undo_298 : decode bX7_undo 298 = .ok (.getfield 165, 3) ∧ 298 + 3 = 301 := by decide +kernel
theorem dX7_undo_301 : decode bX7_undo 301 = .ok (.iload_n 1, 1) ∧ 301 + 1 = 302 := by decide +kernel
theorem dX7_undo_302 : decode bX7_undo 302 = .ok (.aload_n 0, 1) ∧ 302 + 1 = 303 := by decide +kernel
theorem dX7_undo_303 : decode bX7_undo 303 = .ok (.getfield 238, 3) ∧ 303 + 3 = 306 := by decide +kernel
theorem dX7_undo_306 : decode bX7_undo 306 = .ok (.iload_n 1, 1) ∧ 306 + 1 = 307 := by decide +kernel
theorem dX7_undo_307 : decode bX7_undo 307 = .ok (.iaload, 1) ∧ 307 + 1 = 308 := by decide +kernel
theorem dX7_undo_308 : decode bX7_undo 308 = .ok (.iastore, 1) ∧ 308 + 1 = 309 := by decide +kernel
theorem dX7_undo_309 : decode bX7_undo 309 = .ok (.aload_n 0, 1) ∧ 309 + 1 = 310 := by decide +kernel
theorem dX7_undo_310 : decode bX7_undo 310 = .ok (.getfield 168, 3) ∧ 310 + 3 = 313 := by decide +kernel
theorem dX7_undo_313 : decode bX7_undo 313 = .ok (.iload_n 1, 1) ∧ 313 + 1 = 314 := by decide +kernel
theorem dX7_undo_314 : decode bX7_undo 314 = .ok (.aload_n 0, 1) ∧ 314 + 1 = 315 := by decide +kernel
theorem dX7_undo_315 : decode bX7_undo 315 = .ok (.getfield 241, 3) ∧ 315 + 3 = 318 := by decide +kernel
theorem dX7_undo_318 : decode bX7_undo 318 = .ok (.iload_n 1, 1) ∧ 318 + 1 = 319 := by decide +kernel
theorem dX7_undo_319 : decode bX7_undo 319 = .ok (.iaload, 1) ∧ 319 + 1 = 320 := by decide +kernel
theorem dX7_undo_320 : decode bX7_undo 320 = .ok (.iastore, 1) ∧ 320 + 1 = 321 := by decide +kernel
theorem dX7_undo_321 : decode bX7_undo 321 = .ok (.iinc 1 1, 3) ∧ 321 + 3 = 324 := by decide +kernel
theorem dX7_undo_324 : decode bX7_undo 324 = .ok (.goto (-33), 3) ∧ ((324 : Nat) : Int) + (-33) = ((291 : Nat) : Int) := by decide +kernel
theorem dX7_undo_327 : decode bX7_undo 327 = .ok (.aload_n 0, 1) ∧ 327 + 1 = 328 := by decide +kernel
theorem dX7_undo_328 : decode bX7_undo 328 = .ok (.getfield 13, 3) ∧ 328 + 3 = 331 := by decide +kernel
theorem dX7_undo_331 : decode bX7_undo 331 = .ok (.ireturn, 1) := by decide +kernel
theorem dX7_body_0 : decode bX7_body 0 = .ok (.aload_n 0, 1) ∧ 0 + 1 = 1 := by decide +kernel
theorem dX7_body_1 : decode bX7_body 1 = .ok (.getfield 244, 3) ∧ 1 + 3 = 4 := by decide +kernel
theorem dX7_body_4 : decode bX7_body 4 = .ok (.bipush 20, 2) ∧ 4 + 2 = 6 := by decide +kernel
theorem dX7_body_6 : decode bX7_body 6 = .ok (.if_icmp .ge 13, 3) ∧ 6 + 3 = 9 ∧ ((6 : Nat) : Int) + (13) = ((19 : Nat) : Int) := by decide +kernel
theorem dX7_body_9 : decode bX7_body 9 = .ok (.aload_n 0, 1) ∧ 9 + 1 = 10 := by decide +kernel
theorem dX7_body_10 : decode bX7_body 10 = .ok (.getfield 247, 3) ∧ 10 + 3 = 13 := by decide +kernel
theorem dX7_body_13 : decode bX7_body 13 = .ok (.aload_n 0, 1) ∧ 13 + 1 = 14 := by decide +kernel
theorem dX7_body_14 : decode bX7_body 14 = .ok (.getfield 244, 3) ∧ 14 + 3 = 17 := by decide +kernel
theorem dX7_body_17 : decode bX7_body 17 = .ok (.iload_n 1, 1) ∧ 17 + 1 = 18 := by decide +kernel
theorem dX7_body_18 : decode bX7_body 18 = .ok (.iastore, 1) ∧ 18 + 1 = 19 := by decide +kernel
theorem dX7_body_19 : decode bX7_body 19 = .ok (.aload_n 0, 1) ∧ 19 + 1 = 20 := by decide +kernel
theorem dX7_body_20 : decode bX7_body 20 = .ok (.dup, 1) ∧ 20 + 1 = 21 := by decide +kernel
theorem dX7_body_21 : decode bX7_body 21 = .ok (.getfield 244, 3) ∧ 21 + 3 = 24 := by decide +kernel
theorem dX7_body_24 : decode bX7_body 24 = .ok (.iconst 1, 1) ∧ 24 + 1 = 25 := by decide +kernel
theorem dX7_body_25 : decode bX7_body 25 = .ok (.iadd, 1) ∧ 25 + 1 = 26 := by decide +kernel
theorem dX7_body_26 : decode bX7_body 26 = .ok (.putfield 244, 3) ∧ 26 + 3 = 29 := by decide +kernel
theorem dX7_body_29 : decode bX7_body 29 = .ok (.return_, 1) := by decide +kernel
theorem dX7_borrowerSinks_0 : decode bX7_borrowerSinks 0 = .ok (.aload_n 0, 1) ∧ 0 + 1 = 1 := by decide +kernel
theorem dX7_borrowerSinks_1 : decode bX7_borrowerSinks 1 = .ok (.bipush 10, 2) ∧ 1 + 2 = 3 := by decide +kernel
theorem dX7_borrowerSinks_3 : decode bX7_borrowerSinks 3 = .ok (.invokevirtual 427, 3) ∧ 3 + 3 = 6 := by decide +kernel
theorem dX7_borrowerSinks_6 : decode bX7_borrowerSinks 6 = .ok (.iload_n 2, 1) ∧ 6 + 1 = 7 := by decide +kernel
theorem dX7_borrowerSinks_7 : decode bX7_borrowerSinks 7 = .ok (.iload_n 1, 1) ∧ 7 + 1 = 8 := by decide +kernel
theorem dX7_borrowerSinks_8 : decode bX7_borrowerSinks 8 = .ok (.iadd, 1) ∧ 8 + 1 = 9 := by decide +kernel
theorem dX7_borrowerSinks_9 : decode bX7_borrowerSinks 9 = .ok (.ireturn, 1) := by decide +kernel
theorem dX7_sinksAct_0 : decode bX7_sinksAct 0 = .ok (.aload_n 0, 1) ∧ 0 + 1 = 1 := by decide +kernel
theorem dX7_sinksAct_1 : decode bX7_sinksAct 1 = .ok (.getfield 19, 3) ∧ 1 + 3 = 4 := by decide +kernel
theorem dX7_sinksAct_4 : decode bX7_sinksAct 4 = .ok (.iload_n 1, 1) ∧ 4 + 1 = 5 := by decide +kernel
theorem dX7_sinksAct_5 : decode bX7_sinksAct 5 = .ok (.iaload, 1) ∧ 5 + 1 = 6 := by decide +kernel
theorem dX7_sinksAct_6 : decode bX7_sinksAct 6 = .ok (.tableswitch 83 2 6 #[34, 83, 49, 34, 63], 34) := by decide +kernel
theorem dX7_sinksAct_40 : decode bX7_sinksAct 40 = .ok (.aload_n 0, 1) ∧ 40 + 1 = 41 := by decide +kernel
theorem dX7_sinksAct_41 : decode bX7_sinksAct 41 = .ok (.bipush 30, 2) ∧ 41 + 2 = 43 := by decide +kernel
theorem dX7_sinksAct_43 : decode bX7_sinksAct 43 = .ok (.invokevirtual 427, 3) ∧ 43 + 3 = 46 := by decide +kernel
theorem dX7_sinksAct_46 : decode bX7_sinksAct 46 = .ok (.aload_n 0, 1) ∧ 46 + 1 = 47 := by decide +kernel
theorem dX7_sinksAct_47 : decode bX7_sinksAct 47 = .ok (.iload_n 1, 1) ∧ 47 + 1 = 48 := by decide +kernel
theorem dX7_sinksAct_48 : decode bX7_sinksAct 48 = .ok (.iload_n 2, 1) ∧ 48 + 1 = 49 := by decide +kernel
theorem dX7_sinksAct_49 : decode bX7_sinksAct 49 = .ok (.iconst 3, 1) ∧ 49 + 1 = 50 := by decide +kernel
theorem dX7_sinksAct_50 : decode bX7_sinksAct 50 = .ok (.imul, 1) ∧ 50 + 1 = 51 := by decide +kernel
theorem dX7_sinksAct_51 : decode bX7_sinksAct 51 = .ok (.invokevirtual 430, 3) ∧ 51 + 3 = 54 := by decide +kernel
theorem dX7_sinksAct_54 : decode bX7_sinksAct 54 = .ok (.ireturn, 1) := by decide +kernel
theorem dX7_sinksAct_55 : decode bX7_sinksAct 55 = .ok (.aload_n 0, 1) ∧ 55 + 1 = 56 := by decide +kernel
theorem dX7_sinksAct_56 : decode bX7_sinksAct 56 = .ok (.bipush 50, 2) ∧ 56 + 2 = 58 := by decide +kernel
theorem dX7_sinksAct_58 : decode bX7_sinksAct 58 = .ok (.invokevirtual 427, 3) ∧ 58 + 3 = 61 := by decide +kernel
theorem dX7_sinksAct_61 : decode bX7_sinksAct 61 = .ok (.aload_n 0, 1) ∧ 61 + 1 = 62 := by decide +kernel
theorem dX7_sinksAct_62 : decode bX7_sinksAct 62 = .ok (.iload_n 1, 1) ∧ 62 + 1 = 63 := by decide +kernel
theorem dX7_sinksAct_63 : decode bX7_sinksAct 63 = .ok (.iload_n 2, 1) ∧ 63 + 1 = 64 := by decide +kernel
theorem dX7_sinksAct_64 : decode bX7_sinksAct 64 = .ok (.invokevirtual 430, 3) ∧ 64 + 3 = 67 := by decide +kernel
theorem dX7_sinksAct_67 : decode bX7_sinksAct 67 = .ok (.ineg, 1) ∧ 67 + 1 = 68 := by decide +kernel
theorem dX7_sinksAct_68 : decode bX7_sinksAct 68 = .ok (.ireturn, 1) := by decide +kernel
theorem dX7_sinksAct_69 : decode bX7_sinksAct 69 = .ok (.aload_n 0, 1) ∧ 69 + 1 = 70 := by decide +kernel
theorem dX7_sinksAct_70 : decode bX7_sinksAct 70 = .ok (.bipush 71, 2) ∧ 70 + 2 = 72 := by decide +kernel
theorem dX7_sinksAct_72 : decode bX7_sinksAct 72 = .ok (.invokevirtual 427, 3) ∧ 72 + 3 = 75 := by decide +kernel
theorem dX7_sinksAct_75 : decode bX7_sinksAct 75 = .ok (.aload_n 0, 1) ∧ 75 + 1 = 76 := by decide +kernel
theorem dX7_sinksAct_76 : decode bX7_sinksAct 76 = .ok (.iload_n 1, 1) ∧ 76 + 1 = 77 := by decide +kernel
theorem dX7_sinksAct_77 : decode bX7_sinksAct 77 = .ok (.iload_n 2, 1) ∧ 77 + 1 = 78 := by decide +kernel
theorem dX7_sinksAct_78 : decode bX7_sinksAct 78 = .ok (.invokevirtual 430, 3) ∧ 78 + 3 = 81 := by decide +kernel
theorem dX7_sinksAct_81 : decode bX7_sinksAct 81 = .ok (.aload_n 0, 1) ∧ 81 + 1 = 82 := by decide +kernel
theorem dX7_sinksAct_82 : decode bX7_sinksAct 82 = .ok (.getfield 23, 3) ∧ 82 + 3 = 85 := by decide +kernel
theorem dX7_sinksAct_85 : decode bX7_sinksAct 85 = .ok (.iload_n 1, 1) ∧ 85 + 1 = 86 := by decide +kernel
theorem dX7_sinksAct_86 : decode bX7_sinksAct 86 = .ok (.iaload, 1) ∧ 86 + 1 = 87 := by decide +kernel
theorem dX7_sinksAct_87 : decode bX7_sinksAct 87 = .ok (.ixor, 1) ∧ 87 + 1 = 88 := by decide +kernel
theorem dX7_sinksAct_88 : decode bX7_sinksAct 88 = .ok (.ireturn, 1) := by decide +kernel
theorem dX7_sinksAct_89 : decode bX7_sinksAct 89 = .ok (.aload_n 0, 1) ∧ 89 + 1 = 90 := by decide +kernel
theorem dX7_sinksAct_90 : decode bX7_sinksAct 90 = .ok (.iload_n 1, 1) ∧ 90 + 1 = 91 := by decide +kernel
theorem dX7_sinksAct_91 : decode bX7_sinksAct 91 = .ok (.iload_n 2, 1) ∧ 91 + 1 = 92 := by decide +kernel
theorem dX7_sinksAct_92 : decode bX7_sinksAct 92 = .ok (.invokevirtual 430, 3) ∧ 92 + 3 = 95 := by decide +kernel
theorem dX7_sinksAct_95 : decode bX7_sinksAct 95 = .ok (.ireturn, 1) := by decide +kernel
theorem dX7_borrowerBorrows_0 : decode bX7_borrowerBorrows 0 = .ok (.aload_n 0, 1) ∧ 0 + 1 = 1 := by decide +kernel
theorem dX7_borrowerBorrows_1 : decode bX7_borrowerBorrows 1 = .ok (.bipush 11, 2) ∧ 1 + 2 = 3 := by decide +kernel
theorem dX7_borrowerBorrows_3 : decode bX7_borrowerBorrows 3 = .ok (.invokevirtual 427, 3) ∧ 3 + 3 = 6 := by decide +kernel
theorem dX7_borrowerBorrows_6 : decode bX7_borrowerBorrows 6 = .ok (.aload_n 0, 1) ∧ 6 + 1 = 7 := by decide +kernel
theorem dX7_borrowerBorrows_7 : decode bX7_borrowerBorrows 7 = .ok (.iload_n 1, 1) ∧ 7 + 1 = 8 := by decide +kernel
theorem dX7_borrowerBorrows_8 : decode bX7_borrowerBorrows 8 = .ok (.iload_n 2, 1) ∧ 8 + 1 = 9 := by decide +kernel
theorem dX7_borrowerBorrows_9 : decode bX7_borrowerBorrows 9 = .ok (.invokevirtual 433, 3) ∧ 9 + 3 = 12 := by decide +kernel
theorem dX7_borrowerBorrows_12 : decode bX7_borrowerBorrows 12 = .ok (.aload_n 0, 1) ∧ 12 + 1 = 13 := by decide +kernel
theorem dX7_borrowerBorrows_13 : decode bX7_borrowerBorrows 13 = .ok (.getfield 23, 3) ∧ 13 + 3 = 16 := by decide +kernel
theorem dX7_borrowerBorrows_16 : decode bX7_borrowerBorrows 16 = .ok (.iload_n 1, 1) ∧ 16 + 1 = 17 := by decide +kernel
theorem dX7_borrowerBorrows_17 : decode bX7_borrowerBorrows 17 = .ok (.iaload, 1) ∧ 17 + 1 = 18 := by decide +kernel
theorem dX7_borrowerBorrows_18 : decode bX7_borrowerBorrows 18 = .ok (.isub, 1) ∧ 18 + 1 = 19 := by decide +kernel
theorem dX7_borrowerBorrows_19 : decode bX7_borrowerBorrows 19 = .ok (.ireturn, 1) := by decide +kernel
theorem dX7_lateBorrows_0 : decode bX7_lateBorrows 0 = .ok (.aload_n 0, 1) ∧ 0 + 1 = 1 := by decide +kernel
theorem dX7_lateBorrows_1 : decode bX7_lateBorrows 1 = .ok (.bipush 20, 2) ∧ 1 + 2 = 3 := by decide +kernel
theorem dX7_lateBorrows_3 : decode bX7_lateBorrows 3 = .ok (.invokevirtual 427, 3) ∧ 3 + 3 = 6 := by decide +kernel
theorem dX7_lateBorrows_6 : decode bX7_lateBorrows 6 = .ok (.aload_n 0, 1) ∧ 6 + 1 = 7 := by decide +kernel
theorem dX7_lateBorrows_7 : decode bX7_lateBorrows 7 = .ok (.iload_n 1, 1) ∧ 7 + 1 = 8 := by decide +kernel
theorem dX7_lateBorrows_8 : decode bX7_lateBorrows 8 = .ok (.iload_n 2, 1) ∧ 8 + 1 = 9 := by decide +kernel
theorem dX7_lateBorrows_9 : decode bX7_lateBorrows 9 = .ok (.invokevirtual 436, 3) ∧ 9 + 3 = 12 := by decide +kernel
theorem dX7_lateBorrows_12 : decode bX7_lateBorrows 12 = .ok (.bipush 6, 2) ∧ 12 + 2 = 14 := by decide +kernel
theorem dX7_lateBorrows_14 : decode bX7_lateBorrows 14 = .ok (.ixor, 1) ∧ 14 + 1 = 15 := by decide +kernel
theorem dX7_lateBorrows_15 : decode bX7_lateBorrows 15 = .ok (.ireturn, 1) := by decide +kernel
theorem dX7_borrowsAct_0 : decode bX7_borrowsAct 0 = .ok (.aload_n 0, 1) ∧ 0 + 1 = 1 := by decide +kernel
theorem dX7_borrowsAct_1 : decode bX7_borrowsAct 1 = .ok (.getfield 19, 3) ∧ 1 + 3 = 4 := by decide +kernel
theorem dX7_borrowsAct_4 : decode bX7_borrowsAct 4 = .ok (.iload_n 1, 1) ∧ 4 + 1 = 5 := by decide +kernel
theorem dX7_borrowsAct_5 : decode bX7_borrowsAct 5 = .ok (.iaload, 1) ∧ 5 + 1 = 6 := by decide +kernel
theorem dX7_borrowsAct_6 : decode bX7_borrowsAct 6 = .ok (.lookupswitch 78 #[(1, 34), (4, 41), (6, 56)], 34) := by decide +kernel
theorem dX7_borrowsAct_40 : decode bX7_borrowsAct 40 = .ok (.aload_n 0, 1) ∧ 40 + 1 = 41 := by decide +kernel
theorem dX7_borrowsAct_41 : decode bX7_borrowsAct 41 = .ok (.iload_n 1, 1) ∧ 41 + 1 = 42 := by decide +kernel
theorem dX7_borrowsAct_42 : decode bX7_borrowsAct 42 = .ok (.iload_n 2, 1) ∧ 42 + 1 = 43 := by decide +kernel
theorem dX7_borrowsAct_43 : decode bX7_borrowsAct 43 = .ok (.invokevirtual 439, 3) ∧ 43 + 3 = 46 := by decide +kernel
theorem dX7_borrowsAct_46 : decode bX7_borrowsAct 46 = .ok (.ireturn, 1) := by decide +kernel
theorem dX7_borrowsAct_47 : decode bX7_borrowsAct 47 = .ok (.aload_n 0, 1) ∧ 47 + 1 = 48 := by decide +kernel
theorem dX7_borrowsAct_48 : decode bX7_borrowsAct 48 = .ok (.bipush 51, 2) ∧ 48 + 2 = 50 := by decide +kernel
theorem dX7_borrowsAct_50 : decode bX7_borrowsAct 50 = .ok (.invokevirtual 427, 3) ∧ 50 + 3 = 53 := by decide +kernel
theorem dX7_borrowsAct_53 : decode bX7_borrowsAct 53 = .ok (.aload_n 0, 1) ∧ 53 + 1 = 54 := by decide +kernel
theorem dX7_borrowsAct_54 : decode bX7_borrowsAct 54 = .ok (.iload_n 1, 1) ∧ 54 + 1 = 55 := by decide +kernel
theorem dX7_borrowsAct_55 : decode bX7_borrowsAct 55 = .ok (.iload_n 2, 1) ∧ 55 + 1 = 56 := by decide +kernel
theorem dX7_borrowsAct_56 : decode bX7_borrowsAct 56 = .ok (.iconst 1, 1) ∧ 56 + 1 = 57 := by decide +kernel
theorem dX7_borrowsAct_57 : decode bX7_borrowsAct 57 = .ok (.iadd, 1) ∧ 57 + 1 = 58 := by decide +kernel
theorem dX7_borrowsAct_58 : decode bX7_borrowsAct 58 = .ok (.invokevirtual 439, 3) ∧ 58 + 3 = 61 := by decide +kernel
theorem dX7_borrowsAct_61 : decode bX7_borrowsAct 61 = .ok (.ireturn, 1) := by decide +kernel
theorem dX7_borrowsAct_62 : decode bX7_borrowsAct 62 = .ok (.aload_n 0, 1) ∧ 62 + 1 = 63 := by decide +kernel
theorem dX7_borrowsAct_63 : decode bX7_borrowsAct 63 = .ok (.bipush 70, 2) ∧ 63 + 2 = 65 := by decide +kernel
theorem dX7_borrowsAct_65 : decode bX7_borrowsAct 65 = .ok (.invokevirtual 427, 3) ∧ 65 + 3 = 68 := by decide +kernel
theorem dX7_borrowsAct_68 : decode bX7_borrowsAct 68 = .ok (.aload_n 0, 1) ∧ 68 + 1 = 69 := by decide +kernel
theorem dX7_borrowsAct_69 : decode bX7_borrowsAct 69 = .ok (.iload_n 1, 1) ∧ 69 + 1 = 70 := by decide +kernel
theorem dX7_borrowsAct_70 : decode bX7_borrowsAct 70 = .ok (.iload_n 2, 1) ∧ 70 + 1 = 71 := by decide +kernel
theorem dX7_borrowsAct_71 : decode bX7_borrowsAct 71 = .ok (.invokevirtual 436, 3) ∧ 71 + 3 = 74 := by decide +kernel
theorem dX7_borrowsAct_74 : decode bX7_borrowsAct 74 = .ok (.istore_n 3, 1) ∧ 74 + 1 = 75 := by decide +kernel
theorem dX7_borrowsAct_75 : decode bX7_borrowsAct 75 = .ok (.iload_n 3, 1) ∧ 75 + 1 = 76 := by decide +kernel
theorem dX7_borrowsAct_76 : decode bX7_borrowsAct 76 = .ok (.aload_n 0, 1) ∧ 76 + 1 = 77 := by decide +kernel
theorem dX7_borrowsAct_77 : decode bX7_borrowsAct 77 = .ok (.iload_n 1, 1) ∧ 77 + 1 = 78 := by decide +kernel
theorem dX7_borrowsAct_78 : decode bX7_borrowsAct 78 = .ok (.iconst 2, 1) ∧ 78 + 1 = 79 := by decide +kernel
theorem dX7_borrowsAct_79 : decode bX7_borrowsAct 79 = .ok (.invokevirtual 430, 3) ∧ 79 + 3 = 82 := by decide +kernel
theorem dX7_borrowsAct_82 : decode bX7_borrowsAct 82 = .ok (.iadd, 1) ∧ 82 + 1 = 83 := by decide +kernel
theorem dX7_borrowsAct_83 : decode bX7_borrowsAct 83 = .ok (.ireturn, 1) := by decide +kernel
theorem dX7_borrowsAct_84 : decode bX7_borrowsAct 84 = .ok (.aload_n 0, 1) ∧ 84 + 1 = 85 := by decide +kernel
theorem dX7_borrowsAct_85 : decode bX7_borrowsAct 85 = .ok (.iload_n 1, 1) ∧ 85 + 1 = 86 := by decide +kernel
theorem dX7_borrowsAct_86 : decode bX7_borrowsAct 86 = .ok (.iload_n 2, 1) ∧ 86 + 1 = 87 := by decide +kernel
theorem dX7_borrowsAct_87 : decode bX7_borrowsAct 87 = .ok (.invokevirtual 436, 3) ∧ 87 + 3 = 90 := by decide +kernel
theorem dX7_borrowsAct_90 : decode bX7_borrowsAct 90 = .ok (.ireturn, 1) := by decide +kernel
theorem dX7_borrowerTells_0 : decode bX7_borrowerTells 0 = .ok (.aload_n 0, 1) ∧ 0 + 1 = 1 := by decide +kernel
theorem dX7_borrowerTells_1 : decode bX7_borrowerTells 1 = .ok (.bipush 12, 2) ∧ 1 + 2 = 3 := by decide +kernel
theorem dX7_borrowerTells_3 : decode bX7_borrowerTells 3 = .ok (.invokevirtual 427, 3) ∧ 3 + 3 = 6 := by decide +kernel
theorem dX7_borrowerTells_6 : decode bX7_borrowerTells 6 = .ok (.aload_n 0, 1) ∧ 6 + 1 = 7 := by decide +kernel
theorem dX7_borrowerTells_7 : decode bX7_borrowerTells 7 = .ok (.iload_n 1, 1) ∧ 7 + 1 = 8 := by decide +kernel
theorem dX7_borrowerTells_8 : decode bX7_borrowerTells 8 = .ok (.iload_n 2, 1) ∧ 8 + 1 = 9 := by decide +kernel
theorem dX7_borrowerTells_9 : decode bX7_borrowerTells 9 = .ok (.invokevirtual 442, 3) ∧ 9 + 3 = 12 := by decide +kernel
theorem dX7_borrowerTells_12 : decode bX7_borrowerTells 12 = .ok (.iconst 2, 1) ∧ 12 + 1 = 13 := by decide +kernel
theorem dX7_borrowerTells_13 : decode bX7_borrowerTells 13 = .ok (.imul, 1) ∧ 13 + 1 = 14 := by decide +kernel
theorem dX7_borrowerTells_14 : decode bX7_borrowerTells 14 = .ok (.ireturn, 1) := by decide +kernel
theorem dX7_tellsAct_0 : decode bX7_tellsAct 0 = .ok (.aload_n 0, 1) ∧ 0 + 1 = 1 := by decide +kernel
theorem dX7_tellsAct_1 : decode bX7_tellsAct 1 = .ok (.getfield 19, 3) ∧ 1 + 3 = 4 := by decide +kernel
theorem dX7_tellsAct_4 : decode bX7_tellsAct 4 = .ok (.iload_n 1, 1) ∧ 4 + 1 = 5 := by decide +kernel
theorem dX7_tellsAct_5 : decode bX7_tellsAct 5 = .ok (.iaload, 1) ∧ 5 + 1 = 6 := by decide +kernel
theorem dX7_tellsAct_6 : decode bX7_tellsAct 6 = .ok (.tableswitch 67 3 6 #[30, 67, 52, 30], 30) := by decide +kernel
theorem dX7_tellsAct_36 : decode bX7_tellsAct 36 = .ok (.aload_n 0, 1) ∧ 36 + 1 = 37 := by decide +kernel
theorem dX7_tellsAct_37 : decode bX7_tellsAct 37 = .ok (.bipush 40, 2) ∧ 37 + 2 = 39 := by decide +kernel
theorem dX7_tellsAct_39 : decode bX7_tellsAct 39 = .ok (.invokevirtual 427, 3) ∧ 39 + 3 = 42 := by decide +kernel
theorem dX7_tellsAct_42 : decode bX7_tellsAct 42 = .ok (.aload_n 0, 1) ∧ 42 + 1 = 43 := by decide +kernel
theorem dX7_tellsAct_43 : decode bX7_tellsAct 43 = .ok (.iload_n 1, 1) ∧ 43 + 1 = 44 := by decide +kernel
theorem dX7_tellsAct_44 : decode bX7_tellsAct 44 = .ok (.iload_n 2, 1) ∧ 44 + 1 = 45 := by decide +kernel
theorem dX7_tellsAct_45 : decode bX7_tellsAct 45 = .ok (.invokevirtual 445, 3) ∧ 45 + 3 = 48 := by decide +kernel
theorem dX7_tellsAct_48 : decode bX7_tellsAct 48 = .ok (.istore_n 3, 1) ∧ 48 + 1 = 49 := by decide +kernel
theorem dX7_tellsAct_49 : decode bX7_tellsAct 49 = .ok (.iload_n 3, 1) ∧ 49 + 1 = 50 := by decide +kernel
theorem dX7_tellsAct_50 : decode bX7_tellsAct 50 = .ok (.aload_n 0, 1) ∧ 50 + 1 = 51 := by decide +kernel
theorem dX7_tellsAct_51 : decode bX7_tellsAct 51 = .ok (.iload_n 1, 1) ∧ 51 + 1 = 52 := by decide +kernel
theorem dX7_tellsAct_52 : decode bX7_tellsAct 52 = .ok (.iconst 1, 1) ∧ 52 + 1 = 53 := by decide +kernel
theorem dX7_tellsAct_53 : decode bX7_tellsAct 53 = .ok (.invokevirtual 442, 3) ∧ 53 + 3 = 56 := by decide +kernel
theorem dX7_tellsAct_56 : decode bX7_tellsAct 56 = .ok (.iadd, 1) ∧ 56 + 1 = 57 := by decide +kernel
theorem dX7_tellsAct_57 : decode bX7_tellsAct 57 = .ok (.ireturn, 1) := by decide +kernel
theorem dX7_tellsAct_58 : decode bX7_tellsAct 58 = .ok (.aload_n 0, 1) ∧ 58 + 1 = 59 := by decide +kernel
theorem dX7_tellsAct_59 : decode bX7_tellsAct 59 = .ok (.bipush 60, 2) ∧ 59 + 2 = 61 := by decide +kernel
theorem dX7_tellsAct_61 : decode bX7_tellsAct 61 = .ok (.invokevirtual 427, 3) ∧ 61 + 3 = 64 := by decide +kernel
theorem dX7_tellsAct_64 : decode bX7_tellsAct 64 = .ok (.aload_n 0, 1) ∧ 64 + 1 = 65 := by decide +kernel
theorem dX7_tellsAct_65 : decode bX7_tellsAct 65 = .ok (.iload_n 1, 1) ∧ 65 + 1 = 66 := by decide +kernel
theorem dX7_tellsAct_66 : decode bX7_tellsAct 66 = .ok (.iload_n 2, 1) ∧ 66 + 1 = 67 := by decide +kernel
theorem dX7_tellsAct_67 : decode bX7_tellsAct 67 = .ok (.iload_n 1, 1) ∧ 67 + 1 = 68 := by decide +kernel
theorem dX7_tellsAct_68 : decode bX7_tellsAct 68 = .ok (.isub, 1) ∧ 68 + 1 = 69 := by decide +kernel
theorem dX7_tellsAct_69 : decode bX7_tellsAct 69 = .ok (.invokevirtual 445, 3) ∧ 69 + 3 = 72 := by decide +kernel
theorem dX7_tellsAct_72 : decode bX7_tellsAct 72 = .ok (.ireturn, 1) := by decide +kernel
theorem dX7_tellsAct_73 : decode bX7_tellsAct 73 = .ok (.aload_n 0, 1) ∧ 73 + 1 = 74 := by decide +kernel
theorem dX7_tellsAct_74 : decode bX7_tellsAct 74 = .ok (.iload_n 1, 1) ∧ 74 + 1 = 75 := by decide +kernel
theorem dX7_tellsAct_75 : decode bX7_tellsAct 75 = .ok (.iload_n 2, 1) ∧ 75 + 1 = 76 := by decide +kernel
theorem dX7_tellsAct_76 : decode bX7_tellsAct 76 = .ok (.invokevirtual 445, 3) ∧ 76 + 3 = 79 := by decide +kernel
theorem dX7_tellsAct_79 : decode bX7_tellsAct 79 = .ok (.ireturn, 1) := by decide +kernel
theorem dX7_act_0 : decode bX7_act 0 = .ok (.aload_n 0, 1) ∧ 0 + 1 = 1 := by decide +kernel
theorem dX7_act_1 : decode bX7_act 1 = .ok (.iconst 0, 1) ∧ 1 + 1 = 2 := by decide +kernel
theorem dX7_act_2 : decode bX7_act 2 = .ok (.putfield 244, 3) ∧ 2 + 3 = 5 := by decide +kernel
theorem dX7_act_5 : decode bX7_act 5 = .ok (.aload_n 0, 1) ∧ 5 + 1 = 6 := by decide +kernel
theorem dX7_act_6 : decode bX7_act 6 = .ok (.iload_n 1, 1) ∧ 6 + 1 = 7 := by decide +kernel
theorem dX7_act_7 : decode bX7_act 7 = .ok (.invokevirtual 274, 3) ∧ 7 + 3 = 10 := by decide +kernel
theorem dX7_act_10 : decode bX7_act 10 = .ok (.ifCond .eq 13, 3) ∧ 10 + 3 = 13 ∧ ((10 : Nat) : Int) + (13) = ((23 : Nat) : Int) := by decide +kernel
theorem dX7_act_13 : decode bX7_act 13 = .ok (.aload_n 0, 1) ∧ 13 + 1 = 14 := by decide +kernel
theorem dX7_act_14 : decode bX7_act 14 = .ok (.iload_n 2, 1) ∧ 14 + 1 = 15 := by decide +kernel
theorem dX7_act_15 : decode bX7_act 15 = .ok (.iconst 0, 1) ∧ 15 + 1 = 16 := by decide +kernel
theorem dX7_act_16 : decode bX7_act 16 = .ok (.iconst 2, 1) ∧ 16 + 1 = 17 := by decide +kernel
theorem dX7_act_17 : decode bX7_act 17 = .ok (.invokevirtual 263, 3) ∧ 17 + 3 = 20 := by decide +kernel
theorem dX7_act_20 : decode bX7_act 20 = .ok (.ifCond .ne 5, 3) ∧ 20 + 3 = 23 ∧ ((20 : Nat) : Int) + (5) = ((25 : Nat) : Int) := by decide +kernel
theorem dX7_act_23 : decode bX7_act 23 = .ok (.iconst 0, 1) ∧ 23 + 1 = 24 := by decide +kernel
theorem dX7_act_24 : decode bX7_act 24 = .ok (.ireturn, 1) := by decide +kernel
theorem dX7_act_25 : decode bX7_act 25 = .ok (.iload_n 2, 1) ∧ 25 + 1 = 26 := by decide +kernel
theorem dX7_act_26 : decode bX7_act 26 = .ok (.ifCond .ne 12, 3) ∧ 26 + 3 = 29 ∧ ((26 : Nat) : Int) + (12) = ((38 : Nat) : Int) := by decide +kernel
theorem dX7_act_29 : decode bX7_act 29 = .ok (.aload_n 0, 1) ∧ 29 + 1 = 30 := by decide +kernel
theorem dX7_act_30 : decode bX7_act 30 = .ok (.iload_n 1, 1) ∧ 30 + 1 = 31 := by decide +kernel
theorem dX7_act_31 : decode bX7_act 31 = .ok (.iload_n 3, 1) ∧ 31 + 1 = 32 := by decide +kernel
theorem dX7_act_32 : decode bX7_act 32 = .ok (.invokevirtual 433, 3) ∧ 32 + 3 = 35 := by decide +kernel
theorem dX7_act_35 : decode bX7_act 35 = .ok (.goto 23, 3) ∧ ((35 : Nat) : Int) + (23) = ((58 : Nat) : Int) := by decide +kernel
theorem dX7_act_38 : decode bX7_act 38 = .ok (.iload_n 2, 1) ∧ 38 + 1 = 39 := by decide +kernel
theorem dX7_act_39 : decode bX7_act 39 = .ok (.iconst 1, 1) ∧ 39 + 1 = 40 := by decide +kernel
theorem dX7_act_40 : decode bX7_act 40 = .ok (.if_icmp .ne 12, 3) ∧ 40 + 3 = 43 ∧ ((40 : Nat) : Int) + (12) = ((52 : Nat) : Int) := by decide +kernel
theorem dX7_act_43 : decode bX7_act 43 = .ok (.aload_n 0, 1) ∧ 43 + 1 = 44 := by decide +kernel
theorem dX7_act_44 : decode bX7_act 44 = .ok (.iload_n 1, 1) ∧ 44 + 1 = 45 := by decide +kernel
theorem dX7_act_45 : decode bX7_act 45 = .ok (.iload_n 3, 1) ∧ 45 + 1 = 46 := by decide +kernel
theorem dX7_act_46 : decode bX7_act 46 = .ok (.invokevirtual 442, 3) ∧ 46 + 3 = 49 := by decide +kernel
theorem dX7_act_49 : decode bX7_act 49 = .ok (.goto 9, 3) ∧ ((49 : Nat) : Int) + (9) = ((58 : Nat) : Int) := by decide +kernel
theorem dX7_act_52 : decode bX7_act 52 = .ok (.aload_n 0, 1) ∧ 52 + 1 = 53 := by decide +kernel
theorem dX7_act_53 : decode bX7_act 53 = .ok (.iload_n 1, 1) ∧ 53 + 1 = 54 := by decide +kernel
theorem dX7_act_54 : decode bX7_act 54 = .ok (.iload_n 3, 1) ∧ 54 + 1 = 55 := by decide +kernel
theorem dX7_act_55 : decode bX7_act 55 = .ok (.invokevirtual 448, 3) ∧ 55 + 3 = 58 := by decide +kernel
theorem dX7_act_58 : decode bX7_act 58 = .ok (.ireturn, 1) := by decide +kernel
theorem dX7_trace_0 : decode bX7_trace 0 = .ok (.aload_n 0, 1) ∧ 0 + 1 = 1 := by decide +kernel
theorem dX7_trace_1 : decode bX7_trace 1 = .ok (.iload_n 1, 1) ∧ 1 + 1 = 2 := by decide +kernel
theorem dX7_trace_2 : decode bX7_trace 2 = .ok (.iconst 0, 1) ∧ 2 + 1 = 3 := by decide +kernel
theorem dX7_trace_3 : decode bX7_trace 3 = .ok (.bipush 19, 2) ∧ 3 + 2 = 5 := by decide +kernel
theorem dX7_trace_5 : decode bX7_trace 5 = .ok (.invokevirtual 263, 3) ∧ 5 + 3 = 8 := by decide +kernel
theorem dX7_trace_8 : decode bX7_trace 8 = .ok (.ifCond .eq 20, 3) ∧ 8 + 3 = 11 ∧ ((8 : Nat) : Int) + (20) = ((28 : Nat) : Int) := by decide +kernel
theorem dX7_trace_11 : decode bX7_trace 11 = .ok (.iload_n 1, 1) ∧ 11 + 1 = 12 := by decide +kernel
theorem dX7_trace_12 : decode bX7_trace 12 = .ok (.aload_n 0, 1) ∧ 12 + 1 = 13 := by decide +kernel
theorem dX7_trace_13 : decode bX7_trace 13 = .ok (.getfield 244, 3) ∧ 13 + 3 = 16 := by decide +kernel
theorem dX7_trace_16 : decode bX7_trace 16 = .ok (.if_icmp .ge 12, 3) ∧ 16 + 3 = 19 ∧ ((16 : Nat) : Int) + (12) = ((28 : Nat) : Int) := by decide +kernel
theorem dX7_trace_19 : decode bX7_trace 19 = .ok (.aload_n 0, 1) ∧ 19 + 1 = 20 := by decide +kernel
theorem dX7_trace_20 : decode bX7_trace 20 = .ok (.getfield 247, 3) ∧ 20 + 3 = 23 := by decide +kernel
theorem dX7_trace_23 : decode bX7_trace 23 = .ok (.iload_n 1, 1) ∧ 23 + 1 = 24 := by decide +kernel
theorem dX7_trace_24 : decode bX7_trace 24 = .ok (.iaload, 1) ∧ 24 + 1 = 25 := by decide +kernel
theorem dX7_trace_25 : decode bX7_trace 25 = .ok (.goto 4, 3) ∧ ((25 : Nat) : Int) + (4) = ((29 : Nat) : Int) := by decide +kernel
theorem dX7_trace_28 : decode bX7_trace 28 = .ok (.iconst (-1), 1) ∧ 28 + 1 = 29 := by decide +kernel
theorem dX7_trace_29 : decode bX7_trace 29 = .ok (.ireturn, 1) := by decide +kernel
theorem dX7_taken_0 : decode bX7_taken 0 = .ok (.aload_n 0, 1) ∧ 0 + 1 = 1 := by decide +kernel
theorem dX7_taken_1 : decode bX7_taken 1 = .ok (.iload_n 2, 1) ∧ 1 + 1 = 2 := by decide +kernel
theorem dX7_taken_2 : decode bX7_taken 2 = .ok (.iconst 0, 1) ∧ 2 + 1 = 3 := by decide +kernel
theorem dX7_taken_3 : decode bX7_taken 3 = .ok (.bipush 6, 2) ∧ 3 + 2 = 5 := by decide +kernel
theorem dX7_taken_5 : decode bX7_taken 5 = .ok (.invokevirtual 263, 3) ∧ 5 + 3 = 8 := by decide +kernel
theorem dX7_taken_8 : decode bX7_taken 8 = .ok (.ifCond .ne 6, 3) ∧ 8 + 3 = 11 ∧ ((8 : Nat) : Int) + (6) = ((14 : Nat) : Int) := by decide +kernel
theorem dX7_taken_11 : decode bX7_taken 11 = .ok (.bipush (-2), 2) ∧ 11 + 2 = 13 := by decide +kernel
theorem dX7_taken_13 : decode bX7_taken 13 = .ok (.ireturn, 1) := by decide +kernel
theorem dX7_taken_14 : decode bX7_taken 14 = .ok (.aload_n 0, 1) ∧ 14 + 1 = 15 := by decide +kernel
theorem dX7_taken_15 : decode bX7_taken 15 = .ok (.iload_n 1, 1) ∧ 15 + 1 = 16 := by decide +kernel
theorem dX7_taken_16 : decode bX7_taken 16 = .ok (.invokevirtual 274, 3) ∧ 16 + 3 = 19 := by decide +kernel
theorem dX7_taken_19 : decode bX7_taken 19 = .ok (.ifCond .ne 6, 3) ∧ 19 + 3 = 22 ∧ ((19 : Nat) : Int) + (6) = ((25 : Nat) : Int) := by decide +kernel
theorem dX7_taken_22 : decode bX7_taken 22 = .ok (.bipush (-11), 2) ∧ 22 + 2 = 24 := by decide +kernel
theorem dX7_taken_24 : decode bX7_taken 24 = .ok (.ireturn, 1) := by decide +kernel
theorem dX7_taken_25 : decode bX7_taken 25 = .ok (.aload_n 0, 1) ∧ 25 + 1 = 26 := by decide +kernel
theorem dX7_taken_26 : decode bX7_taken 26 = .ok (.getfield 19, 3) ∧ 26 + 3 = 29 := by decide +kernel
theorem dX7_taken_29 : decode bX7_taken 29 = .ok (.iload_n 1, 1) ∧ 29 + 1 = 30 := by decide +kernel
theorem dX7_taken_30 : decode bX7_taken 30 = .ok (.iaload, 1) ∧ 30 + 1 = 31 := by decide +kernel
theorem dX7_taken_31 : decode bX7_taken 31 = .ok (.istore_n 3, 1) ∧ 31 + 1 = 32 := by decide +kernel
theorem dX7_taken_32 : decode bX7_taken 32 = .ok (.iload_n 2, 1) ∧ 32 + 1 = 33 := by decide +kernel
theorem dX7_taken_33 : decode bX7_taken 33 = .ok (.ifCond .eq 39, 3) ∧ 33 + 3 = 36 ∧ ((33 : Nat) : Int) + (39) = ((72 : Nat) : Int) := by decide +kernel
theorem dX7_taken_36 : decode bX7_taken 36 = .ok (.iload_n 3, 1) ∧ 36 + 1 = 37 := by decide +kernel
theorem dX7_taken_37 : decode bX7_taken 37 = .ok (.iload_n 2, 1) ∧ 37 + 1 = 38 := by decide +kernel
theorem dX7_taken_38 : decode bX7_taken 38 = .ok (.if_icmp .eq 34, 3) ∧ 38 + 3 = 41 ∧ ((38 : Nat) : Int) + (34) = ((72 : Nat) : Int) := by decide +kernel
theorem dX7_taken_41 : decode bX7_taken 41 = .ok (.iload_n 2, 1) ∧ 41 + 1 = 42 := by decide +kernel
theorem dX7_taken_42 : decode bX7_taken 42 = .ok (.iconst 1, 1) ∧ 42 + 1 = 43 := by decide +kernel
theorem dX7_taken_43 : decode bX7_taken 43 = .ok (.if_icmp .ne 8, 3) ∧ 43 + 3 = 46 ∧ ((43 : Nat) : Int) + (8) = ((51 : Nat) : Int) := by decide +kernel
theorem dX7_taken_46 : decode bX7_taken 46 = .ok (.iload_n 3, 1) ∧ 46 + 1 = 47 := by decide +kernel
theorem dX7_taken_47 : decode bX7_taken 47 = .ok (.iconst 4, 1) ∧ 47 + 1 = 48 := by decide +kernel
theorem dX7_taken_48 : decode bX7_taken 48 = .ok (.if_icmp .eq 24, 3) ∧ 48 + 3 = 51 ∧ ((48 : Nat) : Int) + (24) = ((72 : Nat) : Int) := by decide +kernel
theorem dX7_taken_51 : decode bX7_taken 51 = .ok (.iload_n 2, 1) ∧ 51 + 1 = 52 := by decide +kernel
theorem dX7_taken_52 : decode bX7_taken 52 = .ok (.iconst 2, 1) ∧ 52 + 1 = 53 := by decide +kernel
theorem dX7_taken_53 : decode bX7_taken 53 = .ok (.if_icmp .ne 8, 3) ∧ 53 + 3 = 56 ∧ ((53 : Nat) : Int) + (8) = ((61 : Nat) : Int) := by decide +kernel
theorem dX7_taken_56 : decode bX7_taken 56 = .ok (.iload_n 3, 1) ∧ 56 + 1 = 57 := by decide +kernel
theorem dX7_taken_57 : decode bX7_taken 57 = .ok (.iconst 5, 1) ∧ 57 + 1 = 58 := by decide +kernel
theorem dX7_taken_58 : decode bX7_taken 58 = .ok (.if_icmp .eq 14, 3) ∧ 58 + 3 = 61 ∧ ((58 : Nat) : Int) + (14) = ((72 : Nat) : Int) := by decide +kernel
theorem dX7_taken_61 : decode bX7_taken 61 = .ok (.iload_n 2, 1) ∧ 61 + 1 = 62 := by decide +kernel
theorem dX7_taken_62 : decode bX7_taken 62 = .ok (.iconst 3, 1) ∧ 62 + 1 = 63 := by decide +kernel
theorem dX7_taken_63 : decode bX7_taken 63 = .ok (.if_icmp .ne 13, 3) ∧ 63 + 3 = 66 ∧ ((63 : Nat) : Int) + (13) = ((76 : Nat) : Int) := by decide +kernel
theorem dX7_taken_66 : decode bX7_taken 66 = .ok (.iload_n 3, 1) ∧ 66 + 1 = 67 := by decide +kernel
theorem dX7_taken_67 : decode bX7_taken 67 = .ok (.bipush 6, 2) ∧ 67 + 2 = 69 := by decide +kernel
theorem dX7_taken_69 : decode bX7_taken 69 = .ok (.if_icmp .ne 7, 3) ∧ 69 + 3 = 72 ∧ ((69 : Nat) : Int) + (7) = ((76 : Nat) : Int) := by decide +kernel
theorem dX7_taken_72 : decode bX7_taken 72 = .ok (.iload_n 3, 1) ∧ 72 + 1 = 73 := by decide +kernel
theorem dX7_taken_73 : decode bX7_taken 73 = .ok (.goto 5, 3) ∧ ((73 : Nat) : Int) + (5) = ((78 : Nat) : Int) := by decide +kernel
theorem dX7_taken_76 : decode bX7_taken 76 = .ok (.bipush (-12), 2) ∧ 76 + 2 = 78 := by decide +kernel
theorem dX7_taken_78 : decode bX7_taken 78 = .ok (.ireturn, 1) := by decide +kernel
theorem dX7_count_0 : decode bX7_count 0 = .ok (.iload_n 1, 1) ∧ 0 + 1 = 1 := by decide +kernel
theorem dX7_count_1 : decode bX7_count 1 = .ok (.tableswitch 78 0 6 #[43, 48, 53, 58, 63, 68, 73], 43) := by decide +kernel
theorem dX7_count_44 : decode bX7_count 44 = .ok (.aload_n 0, 1) ∧ 44 + 1 = 45 := by decide +kernel
theorem dX7_count_45 : decode bX7_count 45 = .ok (.getfield 13, 3) ∧ 45 + 3 = 48 := by decide +kernel
theorem dX7_count_48 : decode bX7_count 48 = .ok (.ireturn, 1) := by decide +kernel
theorem dX7_count_49 : decode bX7_count 49 = .ok (.aload_n 0, 1) ∧ 49 + 1 = 50 := by decide +kernel
theorem dX7_count_50 : decode bX7_count 50 = .ok (.getfield 50, 3) ∧ 50 + 3 = 53 := by decide +kernel
theorem dX7_count_53 : decode bX7_count 53 = .ok (.ireturn, 1) := by decide +kernel
theorem dX7_count_54 : decode bX7_count 54 = .ok (.aload_n 0, 1) ∧ 54 + 1 = 55 := by decide +kernel
theorem dX7_count_55 : decode bX7_count 55 = .ok (.getfield 144, 3) ∧ 55 + 3 = 58 := by decide +kernel
theorem dX7_count_58 : decode bX7_count 58 = .ok (.ireturn, 1) := by decide +kernel
theorem dX7_count_59 : decode bX7_count 59 = .ok (.aload_n 0, 1) ∧ 59 + 1 = 60 := by decide +kernel
theorem dX7_count_60 : decode bX7_count 60 = .ok (.getfield 153, 3) ∧ 60 + 3 = 63 := by decide +kernel
theorem dX7_count_63 : decode bX7_count 63 = .ok (.ireturn, 1) := by decide +kernel
theorem dX7_count_64 : decode bX7_count 64 = .ok (.aload_n 0, 1) ∧ 64 + 1 = 65 := by decide +kernel
theorem dX7_count_65 : decode bX7_count 65 = .ok (.getfield 156, 3) ∧ 65 + 3 = 68 := by decide +kernel
theorem dX7_count_68 : decode bX7_count 68 = .ok (.ireturn, 1) := by decide +kernel
theorem dX7_count_69 : decode bX7_count 69 = .ok (.aload_n 0, 1) ∧ 69 + 1 = 70 := by decide +kernel
theorem dX7_count_70 : decode bX7_count 70 = .ok (.getfield 56, 3) ∧ 70 + 3 = 73 := by decide +kernel
theorem dX7_count_73 : decode bX7_count 73 = .ok (.ireturn, 1) := by decide +kernel
theorem dX7_count_74 : decode bX7_count 74 = .ok (.aload_n 0, 1) ∧ 74 + 1 = 75 := by decide +kernel
theorem dX7_count_75 : decode bX7_count 75 = .ok (.getfield 244, 3) ∧ 75 + 3 = 78 := by decide +kernel
theorem dX7_count_78 : decode bX7_count 78 = .ok (.ireturn, 1) := by decide +kernel
theorem dX7_count_79 : decode bX7_count 79 = .ok (.bipush (-2), 2) ∧ 79 + 2 = 81 := by decide +kernel
theorem dX7_count_81 : decode bX7_count 81 = .ok (.ireturn, 1) := by decide +kernel
theorem dX7_isTape_0 : decode bX7_isTape 0 = .ok (.aload_n 0, 1) ∧ 0 + 1 = 1 := by decide +kernel
theorem dX7_isTape_1 : decode bX7_isTape 1 = .ok (.iload_n 1, 1) ∧ 1 + 1 = 2 := by decide +kernel
theorem dX7_isTape_2 : decode bX7_isTape 2 = .ok (.iconst 0, 1) ∧ 2 + 1 = 3 := by decide +kernel
theorem dX7_isTape_3 : decode bX7_isTape 3 = .ok (.iconst 5, 1) ∧ 3 + 1 = 4 := by decide +kernel
theorem dX7_isTape_4 : decode bX7_isTape 4 = .ok (.invokevirtual 263, 3) ∧ 4 + 3 = 7 := by decide +kernel
theorem dX7_isTape_7 : decode bX7_isTape 7 = .ok (.ireturn, 1) := by decide +kernel
theorem dX7_tape_0 : decode bX7_tape 0 = .ok (.aload_n 0, 1) ∧ 0 + 1 = 1 := by decide +kernel
theorem dX7_tape_1 : decode bX7_tape 1 = .ok (.iload_n 1, 1) ∧ 1 + 1 = 2 := by decide +kernel
theorem dX7_tape_2 : decode bX7_tape 2 = .ok (.invokevirtual 424, 3) ∧ 2 + 3 = 5 := by decide +kernel
theorem dX7_tape_5 : decode bX7_tape 5 = .ok (.ifCond .ne 5, 3) ∧ 5 + 3 = 8 ∧ ((5 : Nat) : Int) + (5) = ((10 : Nat) : Int) := by decide +kernel
theorem dX7_tape_8 : decode bX7_tape 8 = .ok (.iconst (-1), 1) ∧ 8 + 1 = 9 := by decide +kernel
theorem dX7_tape_9 : decode bX7_tape 9 = .ok (.ireturn, 1) := by decide +kernel
theorem dX7_tape_10 : decode bX7_tape 10 = .ok (.aload_n 0, 1) ∧ 10 + 1 = 11 := by decide +kernel
theorem dX7_tape_11 : decode bX7_tape 11 = .ok (.iload_n 2, 1) ∧ 11 + 1 = 12 := by decide +kernel
theorem dX7_tape_12 : decode bX7_tape 12 = .ok (.iconst (-1), 1) ∧ 12 + 1 = 13 := by decide +kernel
theorem dX7_tape_13 : decode bX7_tape 13 = .ok (.iconst 4, 1) ∧ 13 + 1 = 14 := by decide +kernel
theorem dX7_tape_14 : decode bX7_tape 14 = .ok (.invokevirtual 263, 3) ∧ 14 + 3 = 17 := by decide +kernel
theorem dX7_tape_17 : decode bX7_tape 17 = .ok (.ifCond .eq 13, 3) ∧ 17 + 3 = 20 ∧ ((17 : Nat) : Int) + (13) = ((30 : Nat) : Int) := by decide +kernel
theorem dX7_tape_20 : decode bX7_tape 20 = .ok (.iload_n 2, 1) ∧ 20 + 1 = 21 := by decide +kernel
theorem dX7_tape_21 : decode bX7_tape 21 = .ok (.ifCond .lt 12, 3) ∧ 21 + 3 = 24 ∧ ((21 : Nat) : Int) + (12) = ((33 : Nat) : Int) := by decide +kernel
theorem dX7_tape_24 : decode bX7_tape 24 = .ok (.iload_n 3, 1) ∧ 24 + 1 = 25 := by decide +kernel
theorem dX7_tape_25 : decode bX7_tape 25 = .ok (.bipush 60, 2) ∧ 25 + 2 = 27 := by decide +kernel
theorem dX7_tape_27 : decode bX7_tape 27 = .ok (.if_icmp .le 6, 3) ∧ 27 + 3 = 30 ∧ ((27 : Nat) : Int) + (6) = ((33 : Nat) : Int) := by decide +kernel
theorem dX7_tape_30 : decode bX7_tape 30 = .ok (.bipush (-2), 2) ∧ 30 + 2 = 32 := by decide +kernel
theorem dX7_tape_32 : decode bX7_tape 32 = .ok (.ireturn, 1) := by decide +kernel
theorem dX7_tape_33 : decode bX7_tape 33 = .ok (.iload_n 2, 1) ∧ 33 + 1 = 34 := by decide +kernel
theorem dX7_tape_34 : decode bX7_tape 34 = .ok (.ifCond .lt 10, 3) ∧ 34 + 3 = 37 ∧ ((34 : Nat) : Int) + (10) = ((44 : Nat) : Int) := by decide +kernel
theorem dX7_tape_37 : decode bX7_tape 37 = .ok (.iload_n 3, 1) ∧ 37 + 1 = 38 := by decide +kernel
theorem dX7_tape_38 : decode bX7_tape 38 = .ok (.ifCond .ge 6, 3) ∧ 38 + 3 = 41 ∧ ((38 : Nat) : Int) + (6) = ((44 : Nat) : Int) := by decide +kernel
theorem dX7_tape_41 : decode bX7_tape 41 = .ok (.bipush (-14), 2) ∧ 41 + 2 = 43 := by decide +kernel
theorem dX7_tape_43 : decode bX7_tape 43 = .ok (.ireturn, 1) := by decide +kernel
theorem dX7_tape_44 : decode bX7_tape 44 = .ok (.aload_n 0, 1) ∧ 44 + 1 = 45 := by decide +kernel
theorem dX7_tape_45 : decode bX7_tape 45 = .ok (.getfield 250, 3) ∧ 45 + 3 = 48 := by decide +kernel
theorem dX7_tape_48 : decode bX7_tape 48 = .ok (.iload_n 1, 1) ∧ 48 + 1 = 49 := by decide +kernel
theorem dX7_tape_49 : decode bX7_tape 49 = .ok (.iload_n 2, 1) ∧ 49 + 1 = 50 := by decide +kernel
theorem dX7_tape_50 : decode bX7_tape 50 = .ok (.iastore, 1) ∧ 50 + 1 = 51 := by decide +kernel
theorem dX7_tape_51 : decode bX7_tape 51 = .ok (.aload_n 0, 1) ∧ 51 + 1 = 52 := by decide +kernel
theorem dX7_tape_52 : decode bX7_tape 52 = .ok (.getfield 253, 3) ∧ 52 + 3 = 55 := by decide +kernel
theorem dX7_tape_55 : decode bX7_tape 55 = .ok (.iload_n 1, 1) ∧ 55 + 1 = 56 := by decide +kernel
theorem dX7_tape_56 : decode bX7_tape 56 = .ok (.iload_n 2, 1) ∧ 56 + 1 = 57 := by decide +kernel
theorem dX7_tape_57 : decode bX7_tape 57 = .ok (.ifCond .ge 7, 3) ∧ 57 + 3 = 60 ∧ ((57 : Nat) : Int) + (7) = ((64 : Nat) : Int) := by decide +kernel
theorem dX7_tape_60 : decode bX7_tape 60 = .ok (.iconst 0, 1) ∧ 60 + 1 = 61 := by decide +kernel
theorem dX7_tape_61 : decode bX7_tape 61 = .ok (.goto 4, 3) ∧ ((61 : Nat) : Int) + (4) = ((65 : Nat) : Int) := by decide +kernel
theorem dX7_tape_64 : decode bX7_tape 64 = .ok (.iload_n 3, 1) ∧ 64 + 1 = 65 := by decide +kernel
theorem dX7_tape_65 : decode bX7_tape 65 = .ok (.iastore, 1) ∧ 65 + 1 = 66 := by decide +kernel
theorem dX7_tape_66 : decode bX7_tape 66 = .ok (.iconst 0, 1) ∧ 66 + 1 = 67 := by decide +kernel
theorem dX7_tape_67 : decode bX7_tape 67 = .ok (.istore 4, 2) ∧ 67 + 2 = 69 := by decide +kernel
theorem dX7_tape_69 : decode bX7_tape 69 = .ok (.iload 4, 2) ∧ 69 + 2 = 71 := by decide +kernel
theorem dX7_tape_71 : decode bX7_tape 71 = .ok (.bipush 60, 2) ∧ 71 + 2 = 73 := by decide +kernel
theorem dX7_tape_73 : decode bX7_tape 73 = .ok (.if_icmp .ge 22, 3) ∧ 73 + 3 = 76 ∧ ((73 : Nat) : Int) + (22) = ((95 : Nat) : Int) := by decide +kernel
theorem dX7_tape_76 : decode bX7_tape 76 = .ok (.aload_n 0, 1) ∧ 76 + 1 = 77 := by decide +kernel
theorem dX7_tape_77 : decode bX7_tape 77 = .ok (.getfield 256, 3) ∧ 77 + 3 = 80 := by decide +kernel
theorem dX7_tape_80 : decode bX7_tape 80 = .ok (.bipush 60, 2) ∧ 80 + 2 = 82 := by decide +kernel
theorem dX7_tape_82 : decode bX7_tape 82 = .ok (.iload_n 1, 1) ∧ 82 + 1 = 83 := by decide +kernel
theorem dX7_tape_83 : decode bX7_tape 83 = .ok (.imul, 1) ∧ 83 + 1 = 84 := by decide +kernel
theorem dX7_tape_84 : decode bX7_tape 84 = .ok (.iload 4, 2) ∧ 84 + 2 = 86 := by decide +kernel
theorem dX7_tape_86 : decode bX7_tape 86 = .ok (.iadd, 1) ∧ 86 + 1 = 87 := by decide +kernel
theorem dX7_tape_87 : decode bX7_tape 87 = .ok (.lconst 0, 1) ∧ 87 + 1 = 88 := by decide +kernel
theorem dX7_tape_88 : decode bX7_tape 88 = .ok (.lastore, 1) ∧ 88 + 1 = 89 := by decide +kernel
theorem dX7_tape_89 : decode bX7_tape 89 = .ok (.iinc 4 1, 3) ∧ 89 + 3 = 92 := by decide +kernel
theorem dX7_tape_92 : decode bX7_tape 92 = .ok (.goto (-23), 3) ∧ ((92 : Nat) : Int) + (-23) = ((69 : Nat) : Int) := by decide +kernel
theorem dX7_tape_95 : decode bX7_tape 95 = .ok (.iconst 1, 1) ∧ 95 + 1 = 96 := by decide +kernel
theorem dX7_tape_96 : decode bX7_tape 96 = .ok (.ireturn, 1) := by decide +kernel
theorem dX7_narrow_0 : decode bX7_narrow 0 = .ok (.iload_n 1, 1) ∧ 0 + 1 = 1 := by decide +kernel
theorem dX7_narrow_1 : decode bX7_narrow 1 = .ok (.ifCond .ne 10, 3) ∧ 1 + 3 = 4 ∧ ((1 : Nat) : Int) + (10) = ((11 : Nat) : Int) := by decide +kernel
theorem dX7_narrow_4 : decode bX7_narrow 4 = .ok (.lload_n 2, 1) ∧ 4 + 1 = 5 := by decide +kernel
theorem dX7_narrow_5 : decode bX7_narrow 5 = .ok (.l2i, 1) ∧ 5 + 1 = 6 := by decide +kernel
theorem dX7_narrow_6 : decode bX7_narrow 6 = .ok (.i2b, 1) ∧ 6 + 1 = 7 := by decide +kernel
theorem dX7_narrow_7 : decode bX7_narrow 7 = .ok (.i2l, 1) ∧ 7 + 1 = 8 := by decide +kernel
theorem dX7_narrow_8 : decode bX7_narrow 8 = .ok (.goto 46, 3) ∧ ((8 : Nat) : Int) + (46) = ((54 : Nat) : Int) := by decide +kernel
theorem dX7_narrow_11 : decode bX7_narrow 11 = .ok (.iload_n 1, 1) ∧ 11 + 1 = 12 := by decide +kernel
theorem dX7_narrow_12 : decode bX7_narrow 12 = .ok (.iconst 1, 1) ∧ 12 + 1 = 13 := by decide +kernel
theorem dX7_narrow_13 : decode bX7_narrow 13 = .ok (.if_icmp .ne 10, 3) ∧ 13 + 3 = 16 ∧ ((13 : Nat) : Int) + (10) = ((23 : Nat) : Int) := by decide +kernel
theorem dX7_narrow_16 : decode bX7_narrow 16 = .ok (.lload_n 2, 1) ∧ 16 + 1 = 17 := by decide +kernel
theorem dX7_narrow_17 : decode bX7_narrow 17 = .ok (.l2i, 1) ∧ 17 + 1 = 18 := by decide +kernel
theorem dX7_narrow_18 : decode bX7_narrow 18 = .ok (.i2s, 1) ∧ 18 + 1 = 19 := by decide +kernel
theorem dX7_narrow_19 : decode bX7_narrow 19 = .ok (.i2l, 1) ∧ 19 + 1 = 20 := by decide +kernel
theorem dX7_narrow_20 : decode bX7_narrow 20 = .ok (.goto 34, 3) ∧ ((20 : Nat) : Int) + (34) = ((54 : Nat) : Int) := by decide +kernel
theorem dX7_narrow_23 : decode bX7_narrow 23 = .ok (.iload_n 1, 1) ∧ 23 + 1 = 24 := by decide +kernel
theorem dX7_narrow_24 : decode bX7_narrow 24 = .ok (.iconst 2, 1) ∧ 24 + 1 = 25 := by decide +kernel
theorem dX7_narrow_25 : decode bX7_narrow 25 = .ok (.if_icmp .ne 9, 3) ∧ 25 + 3 = 28 ∧ ((25 : Nat) : Int) + (9) = ((34 : Nat) : Int) := by decide +kernel
theorem dX7_narrow_28 : decode bX7_narrow 28 = .ok (.lload_n 2, 1) ∧ 28 + 1 = 29 := by decide +kernel
theorem dX7_narrow_29 : decode bX7_narrow 29 = .ok (.l2i, 1) ∧ 29 + 1 = 30 := by decide +kernel
theorem dX7_narrow_30 : decode bX7_narrow 30 = .ok (.i2l, 1) ∧ 30 + 1 = 31 := by decide +kernel
theorem dX7_narrow_31 : decode bX7_narrow 31 = .ok (.goto 23, 3) ∧ ((31 : Nat) : Int) + (23) = ((54 : Nat) : Int) := by decide +kernel
theorem dX7_narrow_34 : decode bX7_narrow 34 = .ok (.iload_n 1, 1) ∧ 34 + 1 = 35 := by decide +kernel
theorem dX7_narrow_35 : decode bX7_narrow 35 = .ok (.iconst 4, 1) ∧ 35 + 1 = 36 := by decide +kernel
theorem dX7_narrow_36 : decode bX7_narrow 36 = .ok (.if_icmp .ne 17, 3) ∧ 36 + 3 = 39 ∧ ((36 : Nat) : Int) + (17) = ((53 : Nat) : Int) := by decide +kernel
theorem dX7_narrow_39 : decode bX7_narrow 39 = .ok (.lload_n 2, 1) ∧ 39 + 1 = 40 := by decide +kernel
theorem dX7_narrow_40 : decode bX7_narrow 40 = .ok (.lconst 0, 1) ∧ 40 + 1 = 41 := by decide +kernel
theorem dX7_narrow_41 : decode bX7_narrow 41 = .ok (.lcmp, 1) ∧ 41 + 1 = 42 := by decide +kernel
theorem dX7_narrow_42 : decode bX7_narrow 42 = .ok (.ifCond .eq 7, 3) ∧ 42 + 3 = 45 ∧ ((42 : Nat) : Int) + (7) = ((49 : Nat) : Int) := by decide +kernel
theorem dX7_narrow_45 : decode bX7_narrow 45 = .ok (.lconst 1, 1) ∧ 45 + 1 = 46 := by decide +kernel
theorem dX7_narrow_46 : decode bX7_narrow 46 = .ok (.goto 8, 3) ∧ ((46 : Nat) : Int) + (8) = ((54 : Nat) : Int) := by decide +kernel
theorem dX7_narrow_49 : decode bX7_narrow 49 = .ok (.lconst 0, 1) ∧ 49 + 1 = 50 := by decide +kernel
theorem dX7_narrow_50 : decode bX7_narrow 50 = .ok (.goto 4, 3) ∧ ((50 : Nat) : Int) + (4) = ((54 : Nat) : Int) := by decide +kernel
theorem dX7_narrow_53 : decode bX7_narrow 53 = .ok (.lload_n 2, 1) ∧ 53 + 1 = 54 := by decide +kernel
theorem dX7_narrow_54 : decode bX7_narrow 54 = .ok (.lreturn, 1) := by decide +kernel
theorem dX7_item_0 : decode bX7_item 0 = .ok (.aload_n 0, 1) ∧ 0 + 1 = 1 := by decide +kernel
theorem dX7_item_1 : decode bX7_item 1 = .ok (.iload_n 1, 1) ∧ 1 + 1 = 2 := by decide +kernel
theorem dX7_item_2 : decode bX7_item 2 = .ok (.invokevirtual 424, 3) ∧ 2 + 3 = 5 := by decide +kernel
theorem dX7_item_5 : decode bX7_item 5 = .ok (.ifCond .ne 5, 3) ∧ 5 + 3 = 8 ∧ ((5 : Nat) : Int) + (5) = ((10 : Nat) : Int) := by decide +kernel
theorem dX7_item_8 : decode bX7_item 8 = .ok (.iconst (-1), 1) ∧ 8 + 1 = 9 := by decide +kernel
theorem dX7_item_9 : decode bX7_item 9 = .ok (.ireturn, 1) := by decide +kernel
theorem dX7_item_10 : decode bX7_item 10 = .ok (.aload_n 0, 1) ∧ 10 + 1 = 11 := by decide +kernel
theorem dX7_item_11 : decode bX7_item 11 = .ok (.getfield 250, 3) ∧ 11 + 3 = 14 := by decide +kernel
theorem dX7_item_14 : decode bX7_item 14 = .ok (.iload_n 1, 1) ∧ 14 + 1 = 15 := by decide +kernel
theorem dX7_item_15 : decode bX7_item 15 = .ok (.iaload, 1) ∧ 15 + 1 = 16 := by decide +kernel
theorem dX7_item_16 : decode bX7_item 16 = .ok (.ifCond .ge 6, 3) ∧ 16 + 3 = 19 ∧ ((16 : Nat) : Int) + (6) = ((22 : Nat) : Int) := by decide +kernel
theorem dX7_item_19 : decode bX7_item 19 = .ok (.bipush (-11), 2) ∧ 19 + 2 = 21 := by decide +kernel
theorem dX7_item_21 : decode bX7_item 21 = .ok (.ireturn, 1) := by decide +kernel
theorem dX7_item_22 : decode bX7_item 22 = .ok (.aload_n 0, 1) ∧ 22 + 1 = 23 := by decide +kernel
theorem dX7_item_23 : decode bX7_item 23 = .ok (.iload_n 2, 1) ∧ 23 + 1 = 24 := by decide +kernel
theorem dX7_item_24 : decode bX7_item 24 = .ok (.iconst 0, 1) ∧ 24 + 1 = 25 := by decide +kernel
theorem dX7_item_25 : decode bX7_item 25 = .ok (.aload_n 0, 1) ∧ 25 + 1 = 26 := by decide +kernel
theorem dX7_item_26 : decode bX7_item 26 = .ok (.getfield 253, 3) ∧ 26 + 3 = 29 := by decide +kernel
theorem dX7_item_29 : decode bX7_item 29 = .ok (.iload_n 1, 1) ∧ 29 + 1 = 30 := by decide +kernel
theorem dX7_item_30 : decode bX7_item 30 = .ok (.iaload, 1) ∧ 30 + 1 = 31 := by decide +kernel
theorem dX7_item_31 : decode bX7_item 31 = .ok (.iconst 1, 1) ∧ 31 + 1 = 32 := by decide +kernel
theorem dX7_item_32 : decode bX7_item 32 = .ok (.isub, 1) ∧ 32 + 1 = 33 := by decide +kernel
theorem dX7_item_33 : decode bX7_item 33 = .ok (.invokevirtual 263, 3) ∧ 33 + 3 = 36 := by decide +kernel
theorem dX7_item_36 : decode bX7_item 36 = .ok (.ifCond .ne 6, 3) ∧ 36 + 3 = 39 ∧ ((36 : Nat) : Int) + (6) = ((42 : Nat) : Int) := by decide +kernel
theorem dX7_item_39 : decode bX7_item 39 = .ok (.bipush (-13), 2) ∧ 39 + 2 = 41 := by decide +kernel
theorem dX7_item_41 : decode bX7_item 41 = .ok (.ireturn, 1) := by decide +kernel
theorem dX7_item_42 : decode bX7_item 42 = .ok (.aload_n 0, 1) ∧ 42 + 1 = 43 := by decide +kernel
theorem dX7_item_43 : decode bX7_item 43 = .ok (.getfield 256, 3) ∧ 43 + 3 = 46 := by decide +kernel
theorem dX7_item_46 : decode bX7_item 46 = .ok (.bipush 60, 2) ∧ 46 + 2 = 48 := by decide +kernel
theorem dX7_item_48 : decode bX7_item 48 = .ok (.iload_n 1, 1) ∧ 48 + 1 = 49 := by decide +kernel
theorem dX7_item_49 : decode bX7_item 49 = .ok (.imul, 1) ∧ 49 + 1 = 50 := by decide +kernel
theorem dX7_item_50 : decode bX7_item 50 = .ok (.iload_n 2, 1) ∧ 50 + 1 = 51 := by decide +kernel
theorem dX7_item_51 : decode bX7_item 51 = .ok (.iadd, 1) ∧ 51 + 1 = 52 := by decide +kernel
theorem dX7_item_52 : decode bX7_item 52 = .ok (.aload_n 0, 1) ∧ 52 + 1 = 53 := by decide +kernel
theorem dX7_item_53 : decode bX7_item 53 = .ok (.aload_n 0, 1) ∧ 53 + 1 = 54 := by decide +kernel
theorem dX7_item_54 : decode bX7_item 54 = .ok (.getfield 250, 3) ∧ 54 + 3 = 57 := by decide +kernel
theorem dX7_item_57 : decode bX7_item 57 = .ok (.iload_n 1, 1) ∧ 57 + 1 = 58 := by decide +kernel
theorem dX7_item_58 : decode bX7_item 58 = .ok (.iaload, 1) ∧ 58 + 1 = 59 := by decide +kernel
theorem dX7_item_59 : decode bX7_item 59 = .ok (.lload_n 3, 1) ∧ 59 + 1 = 60 := by decide +kernel
theorem dX7_item_60 : decode bX7_item 60 = .ok (.invokevirtual 451, 3) ∧ 60 + 3 = 63 := by decide +kernel
theorem dX7_item_63 : decode bX7_item 63 = .ok (.lastore, 1) ∧ 63 + 1 = 64 := by decide +kernel
theorem dX7_item_64 : decode bX7_item 64 = .ok (.iconst 1, 1) ∧ 64 + 1 = 65 := by decide +kernel
theorem dX7_item_65 : decode bX7_item 65 = .ok (.ireturn, 1) := by decide +kernel
theorem dX7_read_0 : decode bX7_read 0 = .ok (.aload_n 0, 1) ∧ 0 + 1 = 1 := by decide +kernel
theorem dX7_read_1 : decode bX7_read 1 = .ok (.iload_n 1, 1) ∧ 1 + 1 = 2 := by decide +kernel
theorem dX7_read_2 : decode bX7_read 2 = .ok (.invokevirtual 424, 3) ∧ 2 + 3 = 5 := by decide +kernel
theorem dX7_read_5 : decode bX7_read 5 = .ok (.ifCond .eq 29, 3) ∧ 5 + 3 = 8 ∧ ((5 : Nat) : Int) + (29) = ((34 : Nat) : Int) := by decide +kernel
theorem dX7_read_8 : decode bX7_read 8 = .ok (.aload_n 0, 1) ∧ 8 + 1 = 9 := by decide +kernel
theorem dX7_read_9 : decode bX7_read 9 = .ok (.getfield 250, 3) ∧ 9 + 3 = 12 := by decide +kernel
theorem dX7_read_12 : decode bX7_read 12 = .ok (.iload_n 1, 1) ∧ 12 + 1 = 13 := by decide +kernel
theorem dX7_read_13 : decode bX7_read 13 = .ok (.iaload, 1) ∧ 13 + 1 = 14 := by decide +kernel
theorem dX7_read_14 : decode bX7_read 14 = .ok (.ifCond .lt 20, 3) ∧ 14 + 3 = 17 ∧ ((14 : Nat) : Int) + (20) = ((34 : Nat) : Int) := by decide +kernel
theorem dX7_read_17 : decode bX7_read 17 = .ok (.aload_n 0, 1) ∧ 17 + 1 = 18 := by decide +kernel
theorem dX7_read_18 : decode bX7_read 18 = .ok (.iload_n 2, 1) ∧ 18 + 1 = 19 := by decide +kernel
theorem dX7_read_19 : decode bX7_read 19 = .ok (.iconst 0, 1) ∧ 19 + 1 = 20 := by decide +kernel
theorem dX7_read_20 : decode bX7_read 20 = .ok (.aload_n 0, 1) ∧ 20 + 1 = 21 := by decide +kernel
theorem dX7_read_21 : decode bX7_read 21 = .ok (.getfield 253, 3) ∧ 21 + 3 = 24 := by decide +kernel
theorem dX7_read_24 : decode bX7_read 24 = .ok (.iload_n 1, 1) ∧ 24 + 1 = 25 := by decide +kernel
theorem dX7_read_25 : decode bX7_read 25 = .ok (.iaload, 1) ∧ 25 + 1 = 26 := by decide +kernel
theorem dX7_read_26 : decode bX7_read 26 = .ok (.iconst 1, 1) ∧ 26 + 1 = 27 := by decide +kernel
theorem dX7_read_27 : decode bX7_read 27 = .ok (.isub, 1) ∧ 27 + 1 = 28 := by decide +kernel
theorem dX7_read_28 : decode bX7_read 28 = .ok (.invokevirtual 263, 3) ∧ 28 + 3 = 31 := by decide +kernel
theorem dX7_read_31 : decode bX7_read 31 = .ok (.ifCond .ne 9, 3) ∧ 31 + 3 = 34 ∧ ((31 : Nat) : Int) + (9) = ((40 : Nat) : Int) := by decide +kernel
theorem dX7_read_34 : decode bX7_read 34 = .ok (.ldc2_w 418, 3) ∧ 34 + 3 = 37 := by decide +kernel
theorem dX7_read_37 : decode bX7_read 37 = .ok (.goto 14, 3) ∧ ((37 : Nat) : Int) + (14) = ((51 : Nat) : Int) := by decide +kernel
theorem dX7_read_40 : decode bX7_read 40 = .ok (.aload_n 0, 1) ∧ 40 + 1 = 41 := by decide +kernel
theorem dX7_read_41 : decode bX7_read 41 = .ok (.getfield 256, 3) ∧ 41 + 3 = 44 := by decide +kernel
theorem dX7_read_44 : decode bX7_read 44 = .ok (.bipush 60, 2) ∧ 44 + 2 = 46 := by decide +kernel
theorem dX7_read_46 : decode bX7_read 46 = .ok (.iload_n 1, 1) ∧ 46 + 1 = 47 := by decide +kernel
theorem dX7_read_47 : decode bX7_read 47 = .ok (.imul, 1) ∧ 47 + 1 = 48 := by decide +kernel
theorem dX7_read_48 : decode bX7_read 48 = .ok (.iload_n 2, 1) ∧ 48 + 1 = 49 := by decide +kernel
theorem dX7_read_49 : decode bX7_read 49 = .ok (.iadd, 1) ∧ 49 + 1 = 50 := by decide +kernel
theorem dX7_read_50 : decode bX7_read 50 = .ok (.laload, 1) ∧ 50 + 1 = 51 := by decide +kernel
theorem dX7_read_51 : decode bX7_read 51 = .ok (.lreturn, 1) := by decide +kernel
theorem dX7_shift_0 : decode bX7_shift 0 = .ok (.aload_n 0, 1) ∧ 0 + 1 = 1 := by decide +kernel
theorem dX7_shift_1 : decode bX7_shift 1 = .ok (.iload_n 1, 1) ∧ 1 + 1 = 2 := by decide +kernel
theorem dX7_shift_2 : decode bX7_shift 2 = .ok (.invokevirtual 424, 3) ∧ 2 + 3 = 5 := by decide +kernel
theorem dX7_shift_5 : decode bX7_shift 5 = .ok (.ifCond .eq 11, 3) ∧ 5 + 3 = 8 ∧ ((5 : Nat) : Int) + (11) = ((16 : Nat) : Int) := by decide +kernel
theorem dX7_shift_8 : decode bX7_shift 8 = .ok (.aload_n 0, 1) ∧ 8 + 1 = 9 := by decide +kernel
theorem dX7_shift_9 : decode bX7_shift 9 = .ok (.iload_n 3, 1) ∧ 9 + 1 = 10 := by decide +kernel
theorem dX7_shift_10 : decode bX7_shift 10 = .ok (.invokevirtual 424, 3) ∧ 10 + 3 = 13 := by decide +kernel
theorem dX7_shift_13 : decode bX7_shift 13 = .ok (.ifCond .ne 5, 3) ∧ 13 + 3 = 16 ∧ ((13 : Nat) : Int) + (5) = ((18 : Nat) : Int) := by decide +kernel
theorem dX7_shift_16 : decode bX7_shift 16 = .ok (.iconst (-1), 1) ∧ 16 + 1 = 17 := by decide +kernel
theorem dX7_shift_17 : decode bX7_shift 17 = .ok (.ireturn, 1) := by decide +kernel
theorem dX7_shift_18 : decode bX7_shift 18 = .ok (.aload_n 0, 1) ∧ 18 + 1 = 19 := by decide +kernel
theorem dX7_shift_19 : decode bX7_shift 19 = .ok (.getfield 250, 3) ∧ 19 + 3 = 22 := by decide +kernel
theorem dX7_shift_22 : decode bX7_shift 22 = .ok (.iload_n 1, 1) ∧ 22 + 1 = 23 := by decide +kernel
theorem dX7_shift_23 : decode bX7_shift 23 = .ok (.iaload, 1) ∧ 23 + 1 = 24 := by decide +kernel
theorem dX7_shift_24 : decode bX7_shift 24 = .ok (.ifCond .lt 12, 3) ∧ 24 + 3 = 27 ∧ ((24 : Nat) : Int) + (12) = ((36 : Nat) : Int) := by decide +kernel
theorem dX7_shift_27 : decode bX7_shift 27 = .ok (.aload_n 0, 1) ∧ 27 + 1 = 28 := by decide +kernel
theorem dX7_shift_28 : decode bX7_shift 28 = .ok (.getfield 250, 3) ∧ 28 + 3 = 31 := by decide +kernel
theorem dX7_shift_31 : decode bX7_shift 31 = .ok (.iload_n 3, 1) ∧ 31 + 1 = 32 := by decide +kernel
theorem dX7_shift_32 : decode bX7_shift 32 = .ok (.iaload, 1) ∧ 32 + 1 = 33 := by decide +kernel
theorem dX7_shift_33 : decode bX7_shift 33 = .ok (.ifCond .ge 6, 3) ∧ 33 + 3 = 36 ∧ ((33 : Nat) : Int) + (6) = ((39 : Nat) : Int) := by decide +kernel
theorem dX7_shift_36 : decode bX7_shift 36 = .ok (.bipush (-11), 2) ∧ 36 + 2 = 38 := by decide +kernel
theorem dX7_shift_38 : decode bX7_shift 38 = .ok (.ireturn, 1) := by decide +kernel
theorem dX7_shift_39 : decode bX7_shift 39 = .ok (.aload_n 0, 1) ∧ 39 + 1 = 40 := by decide +kernel
theorem dX7_shift_40 : decode bX7_shift 40 = .ok (.getfield 250, 3) ∧ 40 + 3 = 43 := by decide +kernel
theorem dX7_shift_43 : decode bX7_shift 43 = .ok (.iload_n 1, 1) ∧ 43 + 1 = 44 := by decide +kernel
theorem dX7_shift_44 : decode bX7_shift 44 = .ok (.iaload, 1) ∧ 44 + 1 = 45 := by decide +kernel
theorem dX7_shift_45 : decode bX7_shift 45 = .ok (.aload_n 0, 1) ∧ 45 + 1 = 46 := by decide +kernel
theorem dX7_shift_46 : decode bX7_shift 46 = .ok (.getfield 250, 3) ∧ 46 + 3 = 49 := by decide +kernel
theorem dX7_shift_49 : decode bX7_shift 49 = .ok (.iload_n 3, 1) ∧ 49 + 1 = 50 := by decide +kernel
theorem dX7_shift_50 : decode bX7_shift 50 = .ok (.iaload, 1) ∧ 50 + 1 = 51 := by decide +kernel
theorem dX7_shift_51 : decode bX7_shift 51 = .ok (.if_icmp .eq 6, 3) ∧ 51 + 3 = 54 ∧ ((51 : Nat) : Int) + (6) = ((57 : Nat) : Int) := by decide +kernel
theorem dX7_shift_54 : decode bX7_shift 54 = .ok (.bipush (-12), 2) ∧ 54 + 2 = 56 := by decide +kernel
theorem dX7_shift_56 : decode bX7_shift 56 = .ok (.ireturn, 1) := by decide +kernel
theorem dX7_shift_57 : decode bX7_shift 57 = .ok (.iload 5, 2) ∧ 57 + 2 = 59 := by decide +kernel
theorem dX7_shift_59 : decode bX7_shift 59 = .ok (.ifCond .lt 39, 3) ∧ 59 + 3 = 62 ∧ ((59 : Nat) : Int) + (39) = ((98 : Nat) : Int) := by decide +kernel
theorem dX7_shift_62 : decode bX7_shift 62 = .ok (.iload_n 2, 1) ∧ 62 + 1 = 63 := by decide +kernel
theorem dX7_shift_63 : decode bX7_shift 63 = .ok (.ifCond .lt 35, 3) ∧ 63 + 3 = 66 ∧ ((63 : Nat) : Int) + (35) = ((98 : Nat) : Int) := by decide +kernel
theorem dX7_shift_66 : decode bX7_shift 66 = .ok (.iload 4, 2) ∧ 66 + 2 = 68 := by decide +kernel
theorem dX7_shift_68 : decode bX7_shift 68 = .ok (.ifCond .lt 30, 3) ∧ 68 + 3 = 71 ∧ ((68 : Nat) : Int) + (30) = ((98 : Nat) : Int) := by decide +kernel
theorem dX7_shift_71 : decode bX7_shift 71 = .ok (.iload_n 2, 1) ∧ 71 + 1 = 72 := by decide +kernel
theorem dX7_shift_72 : decode bX7_shift 72 = .ok (.aload_n 0, 1) ∧ 72 + 1 = 73 := by decide +kernel
theorem dX7_shift_73 : decode bX7_shift 73 = .ok (.getfield 253, 3) ∧ 73 + 3 = 76 := by decide +kernel
theorem dX7_shift_76 : decode bX7_shift 76 = .ok (.iload_n 1, 1) ∧ 76 + 1 = 77 := by decide +kernel
theorem dX7_shift_77 : decode bX7_shift 77 = .ok (.iaload, 1) ∧ 77 + 1 = 78 := by decide +kernel
theorem dX7_shift_78 : decode bX7_shift 78 = .ok (.iload 5, 2) ∧ 78 + 2 = 80 := by decide +kernel
theorem dX7_shift_80 : decode bX7_shift 80 = .ok (.isub, 1) ∧ 80 + 1 = 81 := by decide +kernel
theorem dX7_shift_81 : decode bX7_shift 81 = .ok (.if_icmp .gt 17, 3) ∧ 81 + 3 = 84 ∧ ((81 : Nat) : Int) + (17) = ((98 : Nat) : Int) := by decide +kernel
theorem dX7_shift_84 : decode bX7_shift 84 = .ok (.iload 4, 2) ∧ 84 + 2 = 86 := by decide +kernel
theorem dX7_shift_86 : decode bX7_shift 86 = .ok (.aload_n 0, 1) ∧ 86 + 1 = 87 := by decide +kernel
theorem dX7_shift_87 : decode bX7_shift 87 = .ok (.getfield 253, 3) ∧ 87 + 3 = 90 := by decide +kernel
theorem dX7_shift_90 : decode bX7_shift 90 = .ok (.iload_n 3, 1) ∧ 90 + 1 = 91 := by decide +kernel
theorem dX7_shift_91 : decode bX7_shift 91 = .ok (.iaload, 1) ∧ 91 + 1 = 92 := by decide +kernel
theorem dX7_shift_92 : decode bX7_shift 92 = .ok (.iload 5, 2) ∧ 92 + 2 = 94 := by decide +kernel
theorem dX7_shift_94 : decode bX7_shift 94 = .ok (.isub, 1) ∧ 94 + 1 = 95 := by decide +kernel
theorem dX7_shift_95 : decode bX7_shift 95 = .ok (.if_icmp .le 6, 3) ∧ 95 + 3 = 98 ∧ ((95 : Nat) : Int) + (6) = ((101 : Nat) : Int) := by decide +kernel
theorem dX7_shift_98 : decode bX7_shift 98 = .ok (.bipush (-13), 2) ∧ 98 + 2 = 100 := by decide +kernel
theorem dX7_shift_100 : decode bX7_shift 100 = .ok (.ireturn, 1) := by decide +kernel
theorem dX7_shift_101 : decode bX7_shift 101 = .ok (.iconst 0, 1) ∧ 101 + 1 = 102 := by decide +kernel
theorem dX7_shift_102 : decode bX7_shift 102 = .ok (.istore 6, 2) ∧ 102 + 2 = 104 := by decide +kernel
theorem dX7_shift_104 : decode bX7_shift 104 = .ok (.iload 6, 2) ∧ 104 + 2 = 106 := by decide +kernel
theorem dX7_shift_106 : decode bX7_shift 106 = .ok (.iload 5, 2) ∧ 106 + 2 = 108 := by decide +kernel
theorem dX7_shift_108 : decode bX7_shift 108 = .ok (.if_icmp .ge 30, 3) ∧ 108 + 3 = 111 ∧ ((108 : Nat) : Int) + (30) = ((138 : Nat) : Int) := by decide +kernel
theorem dX7_shift_111 : decode bX7_shift 111 = .ok (.aload_n 0, 1) ∧ 111 + 1 = 112 := by decide +kernel
theorem dX7_shift_112 : decode bX7_shift 112 = .ok (.getfield 260, 3) ∧ 112 + 3 = 115 := by decide +kernel
theorem dX7_shift_115 : decode bX7_shift 115 = .ok (.iload 6, 2) ∧ 115 + 2 = 117 := by decide +kernel
theorem dX7_shift_117 : decode bX7_shift 117 = .ok (.aload_n 0, 1) ∧ 117 + 1 = 118 := by decide +kernel
theorem dX7_shift_118 : decode bX7_shift 118 = .ok (.getfield 256, 3) ∧ 118 + 3 = 121 := by decide +kernel
theorem dX7_shift_121 : decode bX7_shift 121 = .ok (.bipush 60, 2) ∧ 121 + 2 = 123 := by decide +kernel
theorem dX7_shift_123 : decode bX7_shift 123 = .ok (.iload_n 1, 1) ∧ 123 + 1 = 124 := by decide +kernel
theorem dX7_shift_124 : decode bX7_shift 124 = .ok (.imul, 1) ∧ 124 + 1 = 125 := by decide +kernel
theorem dX7_shift_125 : decode bX7_shift 125 = .ok (.iload_n 2, 1) ∧ 125 + 1 = 126 := by decide +kernel
theorem dX7_shift_126 : decode bX7_shift 126 = .ok (.iadd, 1) ∧ 126 + 1 = 127 := by decide +kernel
theorem dX7_shift_127 : decode bX7_shift 127 = .ok (.iload 6, 2) ∧ 127 + 2 = 129 := by decide +kernel
theorem dX7_shift_129 : decode bX7_shift 129 = .ok (.iadd, 1) ∧ 129 + 1 = 130 := by decide +kernel
theorem dX7_shift_130 : decode bX7_shift 130 = .ok (.laload, 1) ∧ 130 + 1 = 131 := by decide +kernel
theorem dX7_shift_131 : decode bX7_shift 131 = .ok (.lastore, 1) ∧ 131 + 1 = 132 := by decide +kernel
theorem dX7_shift_132 : decode bX7_shift 132 = .ok (.iinc 6 1, 3) ∧ 132 + 3 = 135 := by decide +kernel
theorem dX7_shift_135 : decode bX7_shift 135 = .ok (.goto (-31), 3) ∧ ((135 : Nat) : Int) + (-31) = ((104 : Nat) : Int) := by decide +kernel
theorem dX7_shift_138 : decode bX7_shift 138 = .ok (.iconst 0, 1) ∧ 138 + 1 = 139 := by decide +kernel
theorem dX7_shift_139 : decode bX7_shift 139 = .ok (.istore 6, 2) ∧ 139 + 2 = 141 := by decide +kernel
theorem dX7_shift_141 : decode bX7_shift 141 = .ok (.iload 6, 2) ∧ 141 + 2 = 143 := by decide +kernel
theorem dX7_shift_143 : decode bX7_shift 143 = .ok (.iload 5, 2) ∧ 143 + 2 = 145 := by decide +kernel
theorem dX7_shift_145 : decode bX7_shift 145 = .ok (.if_icmp .ge 31, 3) ∧ 145 + 3 = 148 ∧ ((145 : Nat) : Int) + (31) = ((176 : Nat) : Int) := by decide +kernel
theorem dX7_shift_148 : decode bX7_shift 148 = .ok (.aload_n 0, 1) ∧ 148 + 1 = 149 := by decide +kernel
theorem dX7_shift_149 : decode bX7_shift 149 = .ok (.getfield 256, 3) ∧ 149 + 3 = 152 := by decide +kernel
theorem dX7_shift_152 : decode bX7_shift 152 = .ok (.bipush 60, 2) ∧ 152 + 2 = 154 := by decide +kernel
theorem dX7_shift_154 : decode bX7_shift 154 = .ok (.iload_n 3, 1) ∧ 154 + 1 = 155 := by decide +kernel
theorem dX7_shift_155 : decode bX7_shift 155 = .ok (.imul, 1) ∧ 155 + 1 = 156 := by decide +kernel
theorem dX7_shift_156 : decode bX7_shift 156 = .ok (.iload 4, 2) ∧ 156 + 2 = 158 := by decide +kernel
theorem dX7_shift_158 : decode bX7_shift 158 = .ok (.iadd, 1) ∧ 158 + 1 = 159 := by decide +kernel
theorem dX7_shift_159 : decode bX7_shift 159 = .ok (.iload 6, 2) ∧ 159 + 2 = 161 := by decide +kernel
theorem dX7_shift_161 : decode bX7_shift 161 = .ok (.iadd, 1) ∧ 161 + 1 = 162 := by decide +kernel
theorem dX7_shift_162 : decode bX7_shift 162 = .ok (.aload_n 0, 1) ∧ 162 + 1 = 163 := by decide +kernel
theorem dX7_shift_163 : decode bX7_shift 163 = .ok (.getfield 260, 3) ∧ 163 + 3 = 166 := by decide +kernel
theorem dX7_shift_166 : decode bX7_shift 166 = .ok (.iload 6, 2) ∧ 166 + 2 = 168 := by decide +kernel
theorem dX7_shift_168 : decode bX7_shift 168 = .ok (.laload, 1) ∧ 168 + 1 = 169 := by decide +kernel
theorem dX7_shift_169 : decode bX7_shift 169 = .ok (.lastore, 1) ∧ 169 + 1 = 170 := by decide +kernel
theorem dX7_shift_170 : decode bX7_shift 170 = .ok (.iinc 6 1, 3) ∧ 170 + 3 = 173 := by decide +kernel
theorem dX7_shift_173 : decode bX7_shift 173 = .ok (.goto (-32), 3) ∧ ((173 : Nat) : Int) + (-32) = ((141 : Nat) : Int) := by decide +kernel
theorem dX7_shift_176 : decode bX7_shift 176 = .ok (.iload 5, 2) ∧ 176 + 2 = 178 := by decide +kernel
theorem dX7_shift_178 : decode bX7_shift 178 = .ok (.ireturn, 1) := by decide +kernel
