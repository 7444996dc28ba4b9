/-! the instructions as they are decoded; written by wip/whole/gen_code.py -/
theorem dX0_init_0 : decode bX0_init 0 = .ok (.aload_n 0, 1) ∧ 0 + 1 = 1 := by decide +kernel
theorem dX0_init_1 : decode bX0_init 1 = .ok (.invokespecial 3, 3) ∧ 1 + 3 = 4 := by decide +kernel
theorem dX0_init_4 : decode bX0_init 4 = .ok (.aload_n 0, 1) ∧ 4 + 1 = 5 := by decide +kernel
theorem dX0_init_5 : decode bX0_init 5 = .ok (.iconst 0, 1) ∧ 5 + 1 = 6 := by decide +kernel
theorem dX0_init_6 : decode bX0_init 6 = .ok (.putfield 9, 3) ∧ 6 + 3 = 9 := by decide +kernel
theorem dX0_init_9 : decode bX0_init 9 = .ok (.aload_n 0, 1) ∧ 9 + 1 = 10 := by decide +kernel
theorem dX0_init_10 : decode bX0_init 10 = .ok (.bipush 20, 2) ∧ 10 + 2 = 12 := by decide +kernel
theorem dX0_init_12 : decode bX0_init 12 = .ok (.newarray .int, 2) ∧ 12 + 2 = 14 := by decide +kernel
theorem dX0_init_14 : decode bX0_init 14 = .ok (.putfield 15, 3) ∧ 14 + 3 = 17 := by decide +kernel
theorem dX0_init_17 : decode bX0_init 17 = .ok (.aload_n 0, 1) ∧ 17 + 1 = 18 := by decide +kernel
theorem dX0_init_18 : decode bX0_init 18 = .ok (.iconst 0, 1) ∧ 18 + 1 = 19 := by decide +kernel
theorem dX0_init_19 : decode bX0_init 19 = .ok (.putfield 19, 3) ∧ 19 + 3 = 22 := by decide +kernel
theorem dX0_init_22 : decode bX0_init 22 = .ok (.aload_n 0, 1) ∧ 22 + 1 = 23 := by decide +kernel
theorem dX0_init_23 : decode bX0_init 23 = .ok (.iconst 0, 1) ∧ 23 + 1 = 24 := by decide +kernel
theorem dX0_init_24 : decode bX0_init 24 = .ok (.putfield 22, 3) ∧ 24 + 3 = 27 := by decide +kernel
theorem dX0_init_27 : decode bX0_init 27 = .ok (.aload_n 0, 1) ∧ 27 + 1 = 28 := by decide +kernel
theorem dX0_init_28 : decode bX0_init 28 = .ok (.iconst 0, 1) ∧ 28 + 1 = 29 := by decide +kernel
theorem dX0_init_29 : decode bX0_init 29 = .ok (.putfield 25, 3) ∧ 29 + 3 = 32 := by decide +kernel
theorem dX0_init_32 : decode bX0_init 32 = .ok (.return_, 1) := by decide +kernel
theorem dX1_init_0 : decode bX1_init 0 = .ok (.aload_n 0, 1) ∧ 0 + 1 = 1 := by decide +kernel
theorem dX1_init_1 : decode bX1_init 1 = .ok (.invokespecial 1, 3) ∧ 1 + 3 = 4 := by decide +kernel
theorem dX1_init_4 : decode bX1_init 4 = .ok (.aload_n 0, 1) ∧ 4 + 1 = 5 := by decide +kernel
theorem dX1_init_5 : decode bX1_init 5 = .ok (.bipush 10, 2) ∧ 5 + 2 = 7 := by decide +kernel
theorem dX1_init_7 : decode bX1_init 7 = .ok (.putfield 9, 3) ∧ 7 + 3 = 10 := by decide +kernel
theorem dX1_init_10 : decode bX1_init 10 = .ok (.aload_n 0, 1) ∧ 10 + 1 = 11 := by decide +kernel
theorem dX1_init_11 : decode bX1_init 11 = .ok (.iconst 0, 1) ∧ 11 + 1 = 12 := by decide +kernel
theorem dX1_init_12 : decode bX1_init 12 = .ok (.putfield 13, 3) ∧ 12 + 3 = 15 := by decide +kernel
theorem dX1_init_15 : decode bX1_init 15 = .ok (.aload_n 0, 1) ∧ 15 + 1 = 16 := by decide +kernel
theorem dX1_init_16 : decode bX1_init 16 = .ok (.iconst 0, 1) ∧ 16 + 1 = 17 := by decide +kernel
theorem dX1_init_17 : decode bX1_init 17 = .ok (.putfield 16, 3) ∧ 17 + 3 = 20 := by decide +kernel
theorem dX1_init_20 : decode bX1_init 20 = .ok (.aload_n 0, 1) ∧ 20 + 1 = 21 := by decide +kernel
theorem dX1_init_21 : decode bX1_init 21 = .ok (.iconst 0, 1) ∧ 21 + 1 = 22 := by decide +kernel
theorem dX1_init_22 : decode bX1_init 22 = .ok (.putfield 19, 3) ∧ 22 + 3 = 25 := by decide +kernel
theorem dX1_init_25 : decode bX1_init 25 = .ok (.aload_n 0, 1) ∧ 25 + 1 = 26 := by decide +kernel
theorem dX1_init_26 : decode bX1_init 26 = .ok (.iconst 0, 1) ∧ 26 + 1 = 27 := by decide +kernel
theorem dX1_init_27 : decode bX1_init 27 = .ok (.putfield 22, 3) ∧ 27 + 3 = 30 := by decide +kernel
theorem dX1_init_30 : decode bX1_init 30 = .ok (.aload_n 0, 1) ∧ 30 + 1 = 31 := by decide +kernel
theorem dX1_init_31 : decode bX1_init 31 = .ok (.bipush 10, 2) ∧ 31 + 2 = 33 := by decide +kernel
theorem dX1_init_33 : decode bX1_init 33 = .ok (.newarray .int, 2) ∧ 33 + 2 = 35 := by decide +kernel
theorem dX1_init_35 : decode bX1_init 35 = .ok (.putfield 25, 3) ∧ 35 + 3 = 38 := by decide +kernel
theorem dX1_init_38 : decode bX1_init 38 = .ok (.aload_n 0, 1) ∧ 38 + 1 = 39 := by decide +kernel
theorem dX1_init_39 : decode bX1_init 39 = .ok (.bipush 10, 2) ∧ 39 + 2 = 41 := by decide +kernel
theorem dX1_init_41 : decode bX1_init 41 = .ok (.newarray .int, 2) ∧ 41 + 2 = 43 := by decide +kernel
theorem dX1_init_43 : decode bX1_init 43 = .ok (.putfield 29, 3) ∧ 43 + 3 = 46 := by decide +kernel
theorem dX1_init_46 : decode bX1_init 46 = .ok (.aload_n 0, 1) ∧ 46 + 1 = 47 := by decide +kernel
theorem dX1_init_47 : decode bX1_init 47 = .ok (.bipush 100, 2) ∧ 47 + 2 = 49 := by decide +kernel
theorem dX1_init_49 : decode bX1_init 49 = .ok (.newarray .int, 2) ∧ 49 + 2 = 51 := by decide +kernel
theorem dX1_init_51 : decode bX1_init 51 = .ok (.putfield 34, 3) ∧ 51 + 3 = 54 := by decide +kernel
theorem dX1_init_54 : decode bX1_init 54 = .ok (.aload_n 0, 1) ∧ 54 + 1 = 55 := by decide +kernel
theorem dX1_init_55 : decode bX1_init 55 = .ok (.bipush 100, 2) ∧ 55 + 2 = 57 := by decide +kernel
theorem dX1_init_57 : decode bX1_init 57 = .ok (.newarray .int, 2) ∧ 57 + 2 = 59 := by decide +kernel
theorem dX1_init_59 : decode bX1_init 59 = .ok (.putfield 37, 3) ∧ 59 + 3 = 62 := by decide +kernel
theorem dX1_init_62 : decode bX1_init 62 = .ok (.aload_n 0, 1) ∧ 62 + 1 = 63 := by decide +kernel
theorem dX1_init_63 : decode bX1_init 63 = .ok (.bipush 100, 2) ∧ 63 + 2 = 65 := by decide +kernel
theorem dX1_init_65 : decode bX1_init 65 = .ok (.newarray .int, 2) ∧ 65 + 2 = 67 := by decide +kernel
theorem dX1_init_67 : decode bX1_init 67 = .ok (.putfield 40, 3) ∧ 67 + 3 = 70 := by decide +kernel
theorem dX1_init_70 : decode bX1_init 70 = .ok (.aload_n 0, 1) ∧ 70 + 1 = 71 := by decide +kernel
theorem dX1_init_71 : decode bX1_init 71 = .ok (.bipush 6, 2) ∧ 71 + 2 = 73 := by decide +kernel
theorem dX1_init_73 : decode bX1_init 73 = .ok (.newarray .int, 2) ∧ 73 + 2 = 75 := by decide +kernel
theorem dX1_init_75 : decode bX1_init 75 = .ok (.putfield 43, 3) ∧ 75 + 3 = 78 := by decide +kernel
theorem dX1_init_78 : decode bX1_init 78 = .ok (.return_, 1) := by decide +kernel
theorem dX2_init_0 : decode bX2_init 0 = .ok (.aload_n 0, 1) ∧ 0 + 1 = 1 := by decide +kernel
theorem dX2_init_1 : decode bX2_init 1 = .ok (.invokespecial 1, 3) ∧ 1 + 3 = 4 := by decide +kernel
theorem dX2_init_4 : decode bX2_init 4 = .ok (.aload_n 0, 1) ∧ 4 + 1 = 5 := by decide +kernel
theorem dX2_init_5 : decode bX2_init 5 = .ok (.iconst 0, 1) ∧ 5 + 1 = 6 := by decide +kernel
theorem dX2_init_6 : decode bX2_init 6 = .ok (.putfield 7, 3) ∧ 6 + 3 = 9 := by decide +kernel
theorem dX2_init_9 : decode bX2_init 9 = .ok (.aload_n 0, 1) ∧ 9 + 1 = 10 := by decide +kernel
theorem dX2_init_10 : decode bX2_init 10 = .ok (.iconst 0, 1) ∧ 10 + 1 = 11 := by decide +kernel
theorem dX2_init_11 : decode bX2_init 11 = .ok (.putfield 13, 3) ∧ 11 + 3 = 14 := by decide +kernel
theorem dX2_init_14 : decode bX2_init 14 = .ok (.aload_n 0, 1) ∧ 14 + 1 = 15 := by decide +kernel
theorem dX2_init_15 : decode bX2_init 15 = .ok (.iconst 0, 1) ∧ 15 + 1 = 16 := by decide +kernel
theorem dX2_init_16 : decode bX2_init 16 = .ok (.putfield 16, 3) ∧ 16 + 3 = 19 := by decide +kernel
theorem dX2_init_19 : decode bX2_init 19 = .ok (.aload_n 0, 1) ∧ 19 + 1 = 20 := by decide +kernel
theorem dX2_init_20 : decode bX2_init 20 = .ok (.iconst 5, 1) ∧ 20 + 1 = 21 := by decide +kernel
theorem dX2_init_21 : decode bX2_init 21 = .ok (.newarray .int, 2) ∧ 21 + 2 = 23 := by decide +kernel
theorem dX2_init_23 : decode bX2_init 23 = .ok (.putfield 19, 3) ∧ 23 + 3 = 26 := by decide +kernel
theorem dX2_init_26 : decode bX2_init 26 = .ok (.aload_n 0, 1) ∧ 26 + 1 = 27 := by decide +kernel
theorem dX2_init_27 : decode bX2_init 27 = .ok (.iconst 5, 1) ∧ 27 + 1 = 28 := by decide +kernel
theorem dX2_init_28 : decode bX2_init 28 = .ok (.newarray .int, 2) ∧ 28 + 2 = 30 := by decide +kernel
theorem dX2_init_30 : decode bX2_init 30 = .ok (.putfield 23, 3) ∧ 30 + 3 = 33 := by decide +kernel
theorem dX2_init_33 : decode bX2_init 33 = .ok (.aload_n 0, 1) ∧ 33 + 1 = 34 := by decide +kernel
theorem dX2_init_34 : decode bX2_init 34 = .ok (.bipush 10, 2) ∧ 34 + 2 = 36 := by decide +kernel
theorem dX2_init_36 : decode bX2_init 36 = .ok (.newarray .int, 2) ∧ 36 + 2 = 38 := by decide +kernel
theorem dX2_init_38 : decode bX2_init 38 = .ok (.putfield 26, 3) ∧ 38 + 3 = 41 := by decide +kernel
theorem dX2_init_41 : decode bX2_init 41 = .ok (.aload_n 0, 1) ∧ 41 + 1 = 42 := by decide +kernel
theorem dX2_init_42 : decode bX2_init 42 = .ok (.bipush 10, 2) ∧ 42 + 2 = 44 := by decide +kernel
theorem dX2_init_44 : decode bX2_init 44 = .ok (.newarray .int, 2) ∧ 44 + 2 = 46 := by decide +kernel
theorem dX2_init_46 : decode bX2_init 46 = .ok (.putfield 29, 3) ∧ 46 + 3 = 49 := by decide +kernel
theorem dX2_init_49 : decode bX2_init 49 = .ok (.aload_n 0, 1) ∧ 49 + 1 = 50 := by decide +kernel
theorem dX2_init_50 : decode bX2_init 50 = .ok (.bipush 8, 2) ∧ 50 + 2 = 52 := by decide +kernel
theorem dX2_init_52 : decode bX2_init 52 = .ok (.newarray .int, 2) ∧ 52 + 2 = 54 := by decide +kernel
theorem dX2_init_54 : decode bX2_init 54 = .ok (.putfield 32, 3) ∧ 54 + 3 = 57 := by decide +kernel
theorem dX2_init_57 : decode bX2_init 57 = .ok (.aload_n 0, 1) ∧ 57 + 1 = 58 := by decide +kernel
theorem dX2_init_58 : decode bX2_init 58 = .ok (.bipush 8, 2) ∧ 58 + 2 = 60 := by decide +kernel
theorem dX2_init_60 : decode bX2_init 60 = .ok (.newarray .int, 2) ∧ 60 + 2 = 62 := by decide +kernel
theorem dX2_init_62 : decode bX2_init 62 = .ok (.putfield 35, 3) ∧ 62 + 3 = 65 := by decide +kernel
theorem dX2_init_65 : decode bX2_init 65 = .ok (.return_, 1) := by decide +kernel
theorem dX3_init_0 : decode bX3_init 0 = .ok (.aload_n 0, 1) ∧ 0 + 1 = 1 := by decide +kernel
theorem dX3_init_1 : decode bX3_init 1 = .ok (.invokespecial 1, 3) ∧ 1 + 3 = 4 := by decide +kernel
theorem dX3_init_4 : decode bX3_init 4 = .ok (.aload_n 0, 1) ∧ 4 + 1 = 5 := by decide +kernel
theorem dX3_init_5 : decode bX3_init 5 = .ok (.iconst 0, 1) ∧ 5 + 1 = 6 := by decide +kernel
theorem dX3_init_6 : decode bX3_init 6 = .ok (.putfield 7, 3) ∧ 6 + 3 = 9 := by decide +kernel
theorem dX3_init_9 : decode bX3_init 9 = .ok (.aload_n 0, 1) ∧ 9 + 1 = 10 := by decide +kernel
theorem dX3_init_10 : decode bX3_init 10 = .ok (.iconst 0, 1) ∧ 10 + 1 = 11 := by decide +kernel
theorem dX3_init_11 : decode bX3_init 11 = .ok (.putfield 13, 3) ∧ 11 + 3 = 14 := by decide +kernel
theorem dX3_init_14 : decode bX3_init 14 = .ok (.aload_n 0, 1) ∧ 14 + 1 = 15 := by decide +kernel
theorem dX3_init_15 : decode bX3_init 15 = .ok (.iconst 0, 1) ∧ 15 + 1 = 16 := by decide +kernel
theorem dX3_init_16 : decode bX3_init 16 = .ok (.putfield 16, 3) ∧ 16 + 3 = 19 := by decide +kernel
theorem dX3_init_19 : decode bX3_init 19 = .ok (.aload_n 0, 1) ∧ 19 + 1 = 20 := by decide +kernel
theorem dX3_init_20 : decode bX3_init 20 = .ok (.bipush 100, 2) ∧ 20 + 2 = 22 := by decide +kernel
theorem dX3_init_22 : decode bX3_init 22 = .ok (.newarray .int, 2) ∧ 22 + 2 = 24 := by decide +kernel
theorem dX3_init_24 : decode bX3_init 24 = .ok (.putfield 20, 3) ∧ 24 + 3 = 27 := by decide +kernel
theorem dX3_init_27 : decode bX3_init 27 = .ok (.aload_n 0, 1) ∧ 27 + 1 = 28 := by decide +kernel
theorem dX3_init_28 : decode bX3_init 28 = .ok (.new 24, 3) ∧ 28 + 3 = 31 := by decide +kernel
theorem dX3_init_31 : decode bX3_init 31 = .ok (.dup, 1) ∧ 31 + 1 = 32 := by decide +kernel
theorem dX3_init_32 : decode bX3_init 32 = .ok (.invokespecial 26, 3) ∧ 32 + 3 = 35 := by decide +kernel
theorem dX3_init_35 : decode bX3_init 35 = .ok (.putfield 27, 3) ∧ 35 + 3 = 38 := by decide +kernel
theorem dX3_init_38 : decode bX3_init 38 = .ok (.return_, 1) := by decide +kernel
theorem dX4_init_0 : decode bX4_init 0 = .ok (.aload_n 0, 1) ∧ 0 + 1 = 1 := by decide +kernel
theorem dX4_init_1 : decode bX4_init 1 = .ok (.invokespecial 1, 3) ∧ 1 + 3 = 4 := by decide +kernel
theorem dX4_init_4 : decode bX4_init 4 = .ok (.aload_n 0, 1) ∧ 4 + 1 = 5 := by decide +kernel
theorem dX4_init_5 : decode bX4_init 5 = .ok (.bipush 6, 2) ∧ 5 + 2 = 7 := by decide +kernel
theorem dX4_init_7 : decode bX4_init 7 = .ok (.newarray .int, 2) ∧ 7 + 2 = 9 := by decide +kernel
theorem dX4_init_9 : decode bX4_init 9 = .ok (.putfield 9, 3) ∧ 9 + 3 = 12 := by decide +kernel
theorem dX4_init_12 : decode bX4_init 12 = .ok (.aload_n 0, 1) ∧ 12 + 1 = 13 := by decide +kernel
theorem dX4_init_13 : decode bX4_init 13 = .ok (.bipush 6, 2) ∧ 13 + 2 = 15 := by decide +kernel
theorem dX4_init_15 : decode bX4_init 15 = .ok (.newarray .int, 2) ∧ 15 + 2 = 17 := by decide +kernel
theorem dX4_init_17 : decode bX4_init 17 = .ok (.putfield 13, 3) ∧ 17 + 3 = 20 := by decide +kernel
theorem dX4_init_20 : decode bX4_init 20 = .ok (.aload_n 0, 1) ∧ 20 + 1 = 21 := by decide +kernel
theorem dX4_init_21 : decode bX4_init 21 = .ok (.bipush 6, 2) ∧ 21 + 2 = 23 := by decide +kernel
theorem dX4_init_23 : decode bX4_init 23 = .ok (.bipush 60, 2) ∧ 23 + 2 = 25 := by decide +kernel
theorem dX4_init_25 : decode bX4_init 25 = .ok (.multianewarray 16 2, 4) ∧ 25 + 4 = 29 := by decide +kernel
theorem dX4_init_29 : decode bX4_init 29 = .ok (.putfield 18, 3) ∧ 29 + 3 = 32 := by decide +kernel
theorem dX4_init_32 : decode bX4_init 32 = .ok (.iconst 0, 1) ∧ 32 + 1 = 33 := by decide +kernel
theorem dX4_init_33 : decode bX4_init 33 = .ok (.istore_n 1, 1) ∧ 33 + 1 = 34 := by decide +kernel
theorem dX4_init_34 : decode bX4_init 34 = .ok (.iload_n 1, 1) ∧ 34 + 1 = 35 := by decide +kernel
theorem dX4_init_35 : decode bX4_init 35 = .ok (.bipush 6, 2) ∧ 35 + 2 = 37 := by decide +kernel
theorem dX4_init_37 : decode bX4_init 37 = .ok (.if_icmp .ge 16, 3) ∧ 37 + 3 = 40 ∧ ((37 : Nat) : Int) + (16) = ((53 : Nat) : Int) := by decide +kernel
theorem dX4_init_40 : decode bX4_init 40 = .ok (.aload_n 0, 1) ∧ 40 + 1 = 41 := by decide +kernel
theorem dX4_init_41 : decode bX4_init 41 = .ok (.getfield 9, 3) ∧ 41 + 3 = 44 := by decide +kernel
theorem dX4_init_44 : decode bX4_init 44 = .ok (.iload_n 1, 1) ∧ 44 + 1 = 45 := by decide +kernel
theorem dX4_init_45 : decode bX4_init 45 = .ok (.iconst (-1), 1) ∧ 45 + 1 = 46 := by decide +kernel
theorem dX4_init_46 : decode bX4_init 46 = .ok (.iastore, 1) ∧ 46 + 1 = 47 := by decide +kernel
theorem dX4_init_47 : decode bX4_init 47 = .ok (.iinc 1 1, 3) ∧ 47 + 3 = 50 := by decide +kernel
theorem dX4_init_50 : decode bX4_init 50 = .ok (.goto (-16), 3) ∧ ((50 : Nat) : Int) + (-16) = ((34 : Nat) : Int) := by decide +kernel
theorem dX4_init_53 : decode bX4_init 53 = .ok (.return_, 1) := by decide +kernel
theorem dX5_init_0 : decode bX5_init 0 = .ok (.aload_n 0, 1) ∧ 0 + 1 = 1 := by decide +kernel
theorem dX5_init_1 : decode bX5_init 1 = .ok (.invokespecial 3, 3) ∧ 1 + 3 = 4 := by decide +kernel
theorem dX5_init_4 : decode bX5_init 4 = .ok (.aload_n 0, 1) ∧ 4 + 1 = 5 := by decide +kernel
theorem dX5_init_5 : decode bX5_init 5 = .ok (.bipush 100, 2) ∧ 5 + 2 = 7 := by decide +kernel
theorem dX5_init_7 : decode bX5_init 7 = .ok (.putfield 9, 3) ∧ 7 + 3 = 10 := by decide +kernel
theorem dX5_init_10 : decode bX5_init 10 = .ok (.aload_n 0, 1) ∧ 10 + 1 = 11 := by decide +kernel
theorem dX5_init_11 : decode bX5_init 11 = .ok (.iconst 0, 1) ∧ 11 + 1 = 12 := by decide +kernel
theorem dX5_init_12 : decode bX5_init 12 = .ok (.putfield 15, 3) ∧ 12 + 3 = 15 := by decide +kernel
theorem dX5_init_15 : decode bX5_init 15 = .ok (.aload_n 0, 1) ∧ 15 + 1 = 16 := by decide +kernel
theorem dX5_init_16 : decode bX5_init 16 = .ok (.iconst 0, 1) ∧ 16 + 1 = 17 := by decide +kernel
theorem dX5_init_17 : decode bX5_init 17 = .ok (.putfield 18, 3) ∧ 17 + 3 = 20 := by decide +kernel
theorem dX5_init_20 : decode bX5_init 20 = .ok (.aload_n 0, 1) ∧ 20 + 1 = 21 := by decide +kernel
theorem dX5_init_21 : decode bX5_init 21 = .ok (.iconst 0, 1) ∧ 21 + 1 = 22 := by decide +kernel
theorem dX5_init_22 : decode bX5_init 22 = .ok (.putfield 21, 3) ∧ 22 + 3 = 25 := by decide +kernel
theorem dX5_init_25 : decode bX5_init 25 = .ok (.aload_n 0, 1) ∧ 25 + 1 = 26 := by decide +kernel
theorem dX5_init_26 : decode bX5_init 26 = .ok (.bipush 6, 2) ∧ 26 + 2 = 28 := by decide +kernel
theorem dX5_init_28 : decode bX5_init 28 = .ok (.newarray .int, 2) ∧ 28 + 2 = 30 := by decide +kernel
theorem dX5_init_30 : decode bX5_init 30 = .ok (.putfield 24, 3) ∧ 30 + 3 = 33 := by decide +kernel
theorem dX5_init_33 : decode bX5_init 33 = .ok (.aload_n 0, 1) ∧ 33 + 1 = 34 := by decide +kernel
theorem dX5_init_34 : decode bX5_init 34 = .ok (.bipush 6, 2) ∧ 34 + 2 = 36 := by decide +kernel
theorem dX5_init_36 : decode bX5_init 36 = .ok (.newarray .int, 2) ∧ 36 + 2 = 38 := by decide +kernel
theorem dX5_init_38 : decode bX5_init 38 = .ok (.putfield 28, 3) ∧ 38 + 3 = 41 := by decide +kernel
theorem dX5_init_41 : decode bX5_init 41 = .ok (.aload_n 0, 1) ∧ 41 + 1 = 42 := by decide +kernel
theorem dX5_init_42 : decode bX5_init 42 = .ok (.bipush 6, 2) ∧ 42 + 2 = 44 := by decide +kernel
theorem dX5_init_44 : decode bX5_init 44 = .ok (.newarray .int, 2) ∧ 44 + 2 = 46 := by decide +kernel
theorem dX5_init_46 : decode bX5_init 46 = .ok (.putfield 31, 3) ∧ 46 + 3 = 49 := by decide +kernel
theorem dX5_init_49 : decode bX5_init 49 = .ok (.aload_n 0, 1) ∧ 49 + 1 = 50 := by decide +kernel
theorem dX5_init_50 : decode bX5_init 50 = .ok (.bipush 6, 2) ∧ 50 + 2 = 52 := by decide +kernel
theorem dX5_init_52 : decode bX5_init 52 = .ok (.newarray .int, 2) ∧ 52 + 2 = 54 := by decide +kernel
theorem dX5_init_54 : decode bX5_init 54 = .ok (.putfield 34, 3) ∧ 54 + 3 = 57 := by decide +kernel
theorem dX5_init_57 : decode bX5_init 57 = .ok (.aload_n 0, 1) ∧ 57 + 1 = 58 := by decide +kernel
theorem dX5_init_58 : decode bX5_init 58 = .ok (.bipush 6, 2) ∧ 58 + 2 = 60 := by decide +kernel
theorem dX5_init_60 : decode bX5_init 60 = .ok (.newarray .int, 2) ∧ 60 + 2 = 62 := by decide +kernel
theorem dX5_init_62 : decode bX5_init 62 = .ok (.putfield 37, 3) ∧ 62 + 3 = 65 := by decide +kernel
theorem dX5_init_65 : decode bX5_init 65 = .ok (.aload_n 0, 1) ∧ 65 + 1 = 66 := by decide +kernel
theorem dX5_init_66 : decode bX5_init 66 = .ok (.bipush 6, 2) ∧ 66 + 2 = 68 := by decide +kernel
theorem dX5_init_68 : decode bX5_init 68 = .ok (.newarray .int, 2) ∧ 68 + 2 = 70 := by decide +kernel
theorem dX5_init_70 : decode bX5_init 70 = .ok (.putfield 40, 3) ∧ 70 + 3 = 73 := by decide +kernel
theorem dX5_init_73 : decode bX5_init 73 = .ok (.aload_n 0, 1) ∧ 73 + 1 = 74 := by decide +kernel
theorem dX5_init_74 : decode bX5_init 74 = .ok (.bipush 6, 2) ∧ 74 + 2 = 76 := by decide +kernel
theorem dX5_init_76 : decode bX5_init 76 = .ok (.newarray .int, 2) ∧ 76 + 2 = 78 := by decide +kernel
theorem dX5_init_78 : decode bX5_init 78 = .ok (.putfield 43, 3) ∧ 78 + 3 = 81 := by decide +kernel
theorem dX5_init_81 : decode bX5_init 81 = .ok (.aload_n 0, 1) ∧ 81 + 1 = 82 := by decide +kernel
theorem dX5_init_82 : decode bX5_init 82 = .ok (.bipush 6, 2) ∧ 82 + 2 = 84 := by decide +kernel
theorem dX5_init_84 : decode bX5_init 84 = .ok (.newarray .int, 2) ∧ 84 + 2 = 86 := by decide +kernel
theorem dX5_init_86 : decode bX5_init 86 = .ok (.putfield 46, 3) ∧ 86 + 3 = 89 := by decide +kernel
theorem dX5_init_89 : decode bX5_init 89 = .ok (.aload_n 0, 1) ∧ 89 + 1 = 90 := by decide +kernel
theorem dX5_init_90 : decode bX5_init 90 = .ok (.bipush 6, 2) ∧ 90 + 2 = 92 := by decide +kernel
theorem dX5_init_92 : decode bX5_init 92 = .ok (.newarray .int, 2) ∧ 92 + 2 = 94 := by decide +kernel
theorem dX5_init_94 : decode bX5_init 94 = .ok (.putfield 49, 3) ∧ 94 + 3 = 97 := by decide +kernel
theorem dX5_init_97 : decode bX5_init 97 = .ok (.aload_n 0, 1) ∧ 97 + 1 = 98 := by decide +kernel
theorem dX5_init_98 : decode bX5_init 98 = .ok (.bipush 24, 2) ∧ 98 + 2 = 100 := by decide +kernel
theorem dX5_init_100 : decode bX5_init 100 = .ok (.newarray .int, 2) ∧ 100 + 2 = 102 := by decide +kernel
theorem dX5_init_102 : decode bX5_init 102 = .ok (.putfield 52, 3) ∧ 102 + 3 = 105 := by decide +kernel
theorem dX5_init_105 : decode bX5_init 105 = .ok (.return_, 1) := by decide +kernel
theorem dX6_init_0 : decode bX6_init 0 = .ok (.aload_n 0, 1) ∧ 0 + 1 = 1 := by decide +kernel
theorem dX6_init_1 : decode bX6_init 1 = .ok (.invokespecial 3, 3) ∧ 1 + 3 = 4 := by decide +kernel
theorem dX6_init_4 : decode bX6_init 4 = .ok (.aload_n 0, 1) ∧ 4 + 1 = 5 := by decide +kernel
theorem dX6_init_5 : decode bX6_init 5 = .ok (.new 9, 3) ∧ 5 + 3 = 8 := by decide +kernel
theorem dX6_init_8 : decode bX6_init 8 = .ok (.dup, 1) ∧ 8 + 1 = 9 := by decide +kernel
theorem dX6_init_9 : decode bX6_init 9 = .ok (.invokespecial 11, 3) ∧ 9 + 3 = 12 := by decide +kernel
theorem dX6_init_12 : decode bX6_init 12 = .ok (.putfield 12, 3) ∧ 12 + 3 = 15 := by decide +kernel
theorem dX6_init_15 : decode bX6_init 15 = .ok (.aload_n 0, 1) ∧ 15 + 1 = 16 := by decide +kernel
theorem dX6_init_16 : decode bX6_init 16 = .ok (.new 9, 3) ∧ 16 + 3 = 19 := by decide +kernel
theorem dX6_init_19 : decode bX6_init 19 = .ok (.dup, 1) ∧ 19 + 1 = 20 := by decide +kernel
theorem dX6_init_20 : decode bX6_init 20 = .ok (.invokespecial 11, 3) ∧ 20 + 3 = 23 := by decide +kernel
theorem dX6_init_23 : decode bX6_init 23 = .ok (.putfield 18, 3) ∧ 23 + 3 = 26 := by decide +kernel
theorem dX6_init_26 : decode bX6_init 26 = .ok (.aload_n 0, 1) ∧ 26 + 1 = 27 := by decide +kernel
theorem dX6_init_27 : decode bX6_init 27 = .ok (.new 9, 3) ∧ 27 + 3 = 30 := by decide +kernel
theorem dX6_init_30 : decode bX6_init 30 = .ok (.dup, 1) ∧ 30 + 1 = 31 := by decide +kernel
theorem dX6_init_31 : decode bX6_init 31 = .ok (.invokespecial 11, 3) ∧ 31 + 3 = 34 := by decide +kernel
theorem dX6_init_34 : decode bX6_init 34 = .ok (.putfield 21, 3) ∧ 34 + 3 = 37 := by decide +kernel
theorem dX6_init_37 : decode bX6_init 37 = .ok (.aload_n 0, 1) ∧ 37 + 1 = 38 := by decide +kernel
theorem dX6_init_38 : decode bX6_init 38 = .ok (.new 24, 3) ∧ 38 + 3 = 41 := by decide +kernel
theorem dX6_init_41 : decode bX6_init 41 = .ok (.dup, 1) ∧ 41 + 1 = 42 := by decide +kernel
theorem dX6_init_42 : decode bX6_init 42 = .ok (.invokespecial 26, 3) ∧ 42 + 3 = 45 := by decide +kernel
theorem dX6_init_45 : decode bX6_init 45 = .ok (.putfield 27, 3) ∧ 45 + 3 = 48 := by decide +kernel
theorem dX6_init_48 : decode bX6_init 48 = .ok (.aload_n 0, 1) ∧ 48 + 1 = 49 := by decide +kernel
theorem dX6_init_49 : decode bX6_init 49 = .ok (.new 24, 3) ∧ 49 + 3 = 52 := by decide +kernel
theorem dX6_init_52 : decode bX6_init 52 = .ok (.dup, 1) ∧ 52 + 1 = 53 := by decide +kernel
theorem dX6_init_53 : decode bX6_init 53 = .ok (.invokespecial 26, 3) ∧ 53 + 3 = 56 := by decide +kernel
theorem dX6_init_56 : decode bX6_init 56 = .ok (.putfield 31, 3) ∧ 56 + 3 = 59 := by decide +kernel
theorem dX6_init_59 : decode bX6_init 59 = .ok (.aload_n 0, 1) ∧ 59 + 1 = 60 := by decide +kernel
theorem dX6_init_60 : decode bX6_init 60 = .ok (.new 34, 3) ∧ 60 + 3 = 63 := by decide +kernel
theorem dX6_init_63 : decode bX6_init 63 = .ok (.dup, 1) ∧ 63 + 1 = 64 := by decide +kernel
theorem dX6_init_64 : decode bX6_init 64 = .ok (.invokespecial 36, 3) ∧ 64 + 3 = 67 := by decide +kernel
theorem dX6_init_67 : decode bX6_init 67 = .ok (.putfield 37, 3) ∧ 67 + 3 = 70 := by decide +kernel
theorem dX6_init_70 : decode bX6_init 70 = .ok (.aload_n 0, 1) ∧ 70 + 1 = 71 := by decide +kernel
theorem dX6_init_71 : decode bX6_init 71 = .ok (.new 41, 3) ∧ 71 + 3 = 74 := by decide +kernel
theorem dX6_init_74 : decode bX6_init 74 = .ok (.dup, 1) ∧ 74 + 1 = 75 := by decide +kernel
theorem dX6_init_75 : decode bX6_init 75 = .ok (.invokespecial 43, 3) ∧ 75 + 3 = 78 := by decide +kernel
theorem dX6_init_78 : decode bX6_init 78 = .ok (.putfield 44, 3) ∧ 78 + 3 = 81 := by decide +kernel
theorem dX6_init_81 : decode bX6_init 81 = .ok (.aload_n 0, 1) ∧ 81 + 1 = 82 := by decide +kernel
theorem dX6_init_82 : decode bX6_init 82 = .ok (.bipush 6, 2) ∧ 82 + 2 = 84 := by decide +kernel
theorem dX6_init_84 : decode bX6_init 84 = .ok (.anewarray 41, 3) ∧ 84 + 3 = 87 := by decide +kernel
theorem dX6_init_87 : decode bX6_init 87 = .ok (.putfield 48, 3) ∧ 87 + 3 = 90 := by decide +kernel
theorem dX6_init_90 : decode bX6_init 90 = .ok (.aload_n 0, 1) ∧ 90 + 1 = 91 := by decide +kernel
theorem dX6_init_91 : decode bX6_init 91 = .ok (.new 52, 3) ∧ 91 + 3 = 94 := by decide +kernel
theorem dX6_init_94 : decode bX6_init 94 = .ok (.dup, 1) ∧ 94 + 1 = 95 := by decide +kernel
theorem dX6_init_95 : decode bX6_init 95 = .ok (.invokespecial 54, 3) ∧ 95 + 3 = 98 := by decide +kernel
theorem dX6_init_98 : decode bX6_init 98 = .ok (.putfield 55, 3) ∧ 98 + 3 = 101 := by decide +kernel
theorem dX6_init_101 : decode bX6_init 101 = .ok (.aload_n 0, 1) ∧ 101 + 1 = 102 := by decide +kernel
theorem dX6_init_102 : decode bX6_init 102 = .ok (.new 59, 3) ∧ 102 + 3 = 105 := by decide +kernel
theorem dX6_init_105 : decode bX6_init 105 = .ok (.dup, 1) ∧ 105 + 1 = 106 := by decide +kernel
theorem dX6_init_106 : decode bX6_init 106 = .ok (.invokespecial 61, 3) ∧ 106 + 3 = 109 := by decide +kernel
theorem dX6_init_109 : decode bX6_init 109 = .ok (.putfield 62, 3) ∧ 109 + 3 = 112 := by decide +kernel
theorem dX6_init_112 : decode bX6_init 112 = .ok (.aload_n 0, 1) ∧ 112 + 1 = 113 := by decide +kernel
theorem dX6_init_113 : decode bX6_init 113 = .ok (.iconst 0, 1) ∧ 113 + 1 = 114 := by decide +kernel
theorem dX6_init_114 : decode bX6_init 114 = .ok (.putfield 66, 3) ∧ 114 + 3 = 117 := by decide +kernel
theorem dX6_init_117 : decode bX6_init 117 = .ok (.aload_n 0, 1) ∧ 117 + 1 = 118 := by decide +kernel
theorem dX6_init_118 : decode bX6_init 118 = .ok (.iconst (-1), 1) ∧ 118 + 1 = 119 := by decide +kernel
theorem dX6_init_119 : decode bX6_init 119 = .ok (.putfield 70, 3) ∧ 119 + 3 = 122 := by decide +kernel
theorem dX6_init_122 : decode bX6_init 122 = .ok (.aload_n 0, 1) ∧ 122 + 1 = 123 := by decide +kernel
theorem dX6_init_123 : decode bX6_init 123 = .ok (.iconst (-1), 1) ∧ 123 + 1 = 124 := by decide +kernel
theorem dX6_init_124 : decode bX6_init 124 = .ok (.putfield 73, 3) ∧ 124 + 3 = 127 := by decide +kernel
theorem dX6_init_127 : decode bX6_init 127 = .ok (.aload_n 0, 1) ∧ 127 + 1 = 128 := by decide +kernel
theorem dX6_init_128 : decode bX6_init 128 = .ok (.iconst 0, 1) ∧ 128 + 1 = 129 := by decide +kernel
theorem dX6_init_129 : decode bX6_init 129 = .ok (.putfield 76, 3) ∧ 129 + 3 = 132 := by decide +kernel
theorem dX6_init_132 : decode bX6_init 132 = .ok (.iconst 0, 1) ∧ 132 + 1 = 133 := by decide +kernel
theorem dX6_init_133 : decode bX6_init 133 = .ok (.istore_n 1, 1) ∧ 133 + 1 = 134 := by decide +kernel
theorem dX6_init_134 : decode bX6_init 134 = .ok (.iload_n 1, 1) ∧ 134 + 1 = 135 := by decide +kernel
theorem dX6_init_135 : decode bX6_init 135 = .ok (.bipush 6, 2) ∧ 135 + 2 = 137 := by decide +kernel
theorem dX6_init_137 : decode bX6_init 137 = .ok (.if_icmp .ge 22, 3) ∧ 137 + 3 = 140 ∧ ((137 : Nat) : Int) + (22) = ((159 : Nat) : Int) := by decide +kernel
theorem dX6_init_140 : decode bX6_init 140 = .ok (.aload_n 0, 1) ∧ 140 + 1 = 141 := by decide +kernel
theorem dX6_init_141 : decode bX6_init 141 = .ok (.getfield 48, 3) ∧ 141 + 3 = 144 := by decide +kernel
theorem dX6_init_144 : decode bX6_init 144 = .ok (.iload_n 1, 1) ∧ 144 + 1 = 145 := by decide +kernel
theorem dX6_init_145 : decode bX6_init 145 = .ok (.new 41, 3) ∧ 145 + 3 = 148 := by decide +kernel
theorem dX6_init_148 : decode bX6_init 148 = .ok (.dup, 1) ∧ 148 + 1 = 149 := by decide +kernel
theorem dX6_init_149 : decode bX6_init 149 = .ok (.invokespecial 43, 3) ∧ 149 + 3 = 152 := by decide +kernel
theorem dX6_init_152 : decode bX6_init 152 = .ok (.aastore, 1) ∧ 152 + 1 = 153 := by decide +kernel
theorem dX6_init_153 : decode bX6_init 153 = .ok (.iinc 1 1, 3) ∧ 153 + 3 = 156 := by decide +kernel
theorem dX6_init_156 : decode bX6_init 156 = .ok (.goto (-22), 3) ∧ ((156 : Nat) : Int) + (-22) = ((134 : Nat) : Int) := by decide +kernel
theorem dX6_init_159 : decode bX6_init 159 = .ok (.return_, 1) := by decide +kernel
theorem dX7_init_0 : decode bX7_init 0 = .ok (.aload_n 0, 1) ∧ 0 + 1 = 1 := by decide +kernel
theorem dX7_init_1 : decode bX7_init 1 = .ok (.invokespecial 1, 3) ∧ 1 + 3 = 4 := by decide +kernel
theorem dX7_init_4 : decode bX7_init 4 = .ok (.aload_n 0, 1) ∧ 4 + 1 = 5 := by decide +kernel
theorem dX7_init_5 : decode bX7_init 5 = .ok (.bipush 100, 2) ∧ 5 + 2 = 7 := by decide +kernel
theorem dX7_init_7 : decode bX7_init 7 = .ok (.putfield 7, 3) ∧ 7 + 3 = 10 := by decide +kernel
theorem dX7_init_10 : decode bX7_init 10 = .ok (.aload_n 0, 1) ∧ 10 + 1 = 11 := by decide +kernel
theorem dX7_init_11 : decode bX7_init 11 = .ok (.iconst 0, 1) ∧ 11 + 1 = 12 := by decide +kernel
theorem dX7_init_12 : decode bX7_init 12 = .ok (.putfield 13, 3) ∧ 12 + 3 = 15 := by decide +kernel
theorem dX7_init_15 : decode bX7_init 15 = .ok (.aload_n 0, 1) ∧ 15 + 1 = 16 := by decide +kernel
theorem dX7_init_16 : decode bX7_init 16 = .ok (.iconst 0, 1) ∧ 16 + 1 = 17 := by decide +kernel
theorem dX7_init_17 : decode bX7_init 17 = .ok (.putfield 16, 3) ∧ 17 + 3 = 20 := by decide +kernel
theorem dX7_init_20 : decode bX7_init 20 = .ok (.aload_n 0, 1) ∧ 20 + 1 = 21 := by decide +kernel
theorem dX7_init_21 : decode bX7_init 21 = .ok (.bipush 6, 2) ∧ 21 + 2 = 23 := by decide +kernel
theorem dX7_init_23 : decode bX7_init 23 = .ok (.newarray .int, 2) ∧ 23 + 2 = 25 := by decide +kernel
theorem dX7_init_25 : decode bX7_init 25 = .ok (.putfield 19, 3) ∧ 25 + 3 = 28 := by decide +kernel
theorem dX7_init_28 : decode bX7_init 28 = .ok (.aload_n 0, 1) ∧ 28 + 1 = 29 := by decide +kernel
theorem dX7_init_29 : decode bX7_init 29 = .ok (.bipush 6, 2) ∧ 29 + 2 = 31 := by decide +kernel
theorem dX7_init_31 : decode bX7_init 31 = .ok (.newarray .int, 2) ∧ 31 + 2 = 33 := by decide +kernel
theorem dX7_init_33 : decode bX7_init 33 = .ok (.putfield 23, 3) ∧ 33 + 3 = 36 := by decide +kernel
theorem dX7_init_36 : decode bX7_init 36 = .ok (.aload_n 0, 1) ∧ 36 + 1 = 37 := by decide +kernel
theorem dX7_init_37 : decode bX7_init 37 = .ok (.bipush 6, 2) ∧ 37 + 2 = 39 := by decide +kernel
theorem dX7_init_39 : decode bX7_init 39 = .ok (.newarray .int, 2) ∧ 39 + 2 = 41 := by decide +kernel
theorem dX7_init_41 : decode bX7_init 41 = .ok (.putfield 26, 3) ∧ 41 + 3 = 44 := by decide +kernel
theorem dX7_init_44 : decode bX7_init 44 = .ok (.aload_n 0, 1) ∧ 44 + 1 = 45 := by decide +kernel
theorem dX7_init_45 : decode bX7_init 45 = .ok (.bipush 6, 2) ∧ 45 + 2 = 47 := by decide +kernel
theorem dX7_init_47 : decode bX7_init 47 = .ok (.newarray .int, 2) ∧ 47 + 2 = 49 := by decide +kernel
theorem dX7_init_49 : decode bX7_init 49 = .ok (.putfield 29, 3) ∧ 49 + 3 = 52 := by decide +kernel
theorem dX7_init_52 : decode bX7_init 52 = .ok (.aload_n 0, 1) ∧ 52 + 1 = 53 := by decide +kernel
theorem dX7_init_53 : decode bX7_init 53 = .ok (.bipush 6, 2) ∧ 53 + 2 = 55 := by decide +kernel
theorem dX7_init_55 : decode bX7_init 55 = .ok (.newarray .int, 2) ∧ 55 + 2 = 57 := by decide +kernel
theorem dX7_init_57 : decode bX7_init 57 = .ok (.putfield 32, 3) ∧ 57 + 3 = 60 := by decide +kernel
theorem dX7_init_60 : decode bX7_init 60 = .ok (.aload_n 0, 1) ∧ 60 + 1 = 61 := by decide +kernel
theorem dX7_init_61 : decode bX7_init 61 = .ok (.bipush 6, 2) ∧ 61 + 2 = 63 := by decide +kernel
theorem dX7_init_63 : decode bX7_init 63 = .ok (.newarray .int, 2) ∧ 63 + 2 = 65 := by decide +kernel
theorem dX7_init_65 : decode bX7_init 65 = .ok (.putfield 35, 3) ∧ 65 + 3 = 68 := by decide +kernel
theorem dX7_init_68 : decode bX7_init 68 = .ok (.aload_n 0, 1) ∧ 68 + 1 = 69 := by decide +kernel
theorem dX7_init_69 : decode bX7_init 69 = .ok (.bipush 6, 2) ∧ 69 + 2 = 71 := by decide +kernel
theorem dX7_init_71 : decode bX7_init 71 = .ok (.newarray .int, 2) ∧ 71 + 2 = 73 := by decide +kernel
theorem dX7_init_73 : decode bX7_init 73 = .ok (.putfield 38, 3) ∧ 73 + 3 = 76 := by decide +kernel
theorem dX7_init_76 : decode bX7_init 76 = .ok (.aload_n 0, 1) ∧ 76 + 1 = 77 := by decide +kernel
theorem dX7_init_77 : decode bX7_init 77 = .ok (.bipush 6, 2) ∧ 77 + 2 = 79 := by decide +kernel
theorem dX7_init_79 : decode bX7_init 79 = .ok (.newarray .int, 2) ∧ 79 + 2 = 81 := by decide +kernel
theorem dX7_init_81 : decode bX7_init 81 = .ok (.putfield 41, 3) ∧ 81 + 3 = 84 := by decide +kernel
theorem dX7_init_84 : decode bX7_init 84 = .ok (.aload_n 0, 1) ∧ 84 + 1 = 85 := by decide +kernel
theorem dX7_init_85 : decode bX7_init 85 = .ok (.bipush 24, 2) ∧ 85 + 2 = 87 := by decide +kernel
theorem dX7_init_87 : decode bX7_init 87 = .ok (.newarray .int, 2) ∧ 87 + 2 = 89 := by decide +kernel
theorem dX7_init_89 : decode bX7_init 89 = .ok (.putfield 44, 3) ∧ 89 + 3 = 92 := by decide +kernel
theorem dX7_init_92 : decode bX7_init 92 = .ok (.aload_n 0, 1) ∧ 92 + 1 = 93 := by decide +kernel
theorem dX7_init_93 : decode bX7_init 93 = .ok (.bipush 6, 2) ∧ 93 + 2 = 95 := by decide +kernel
theorem dX7_init_95 : decode bX7_init 95 = .ok (.newarray .int, 2) ∧ 95 + 2 = 97 := by decide +kernel
theorem dX7_init_97 : decode bX7_init 97 = .ok (.putfield 47, 3) ∧ 97 + 3 = 100 := by decide +kernel
theorem dX7_init_100 : decode bX7_init 100 = .ok (.aload_n 0, 1) ∧ 100 + 1 = 101 := by decide +kernel
theorem dX7_init_101 : decode bX7_init 101 = .ok (.iconst 0, 1) ∧ 101 + 1 = 102 := by decide +kernel
theorem dX7_init_102 : decode bX7_init 102 = .ok (.putfield 50, 3) ∧ 102 + 3 = 105 := by decide +kernel
theorem dX7_init_105 : decode bX7_init 105 = .ok (.aload_n 0, 1) ∧ 105 + 1 = 106 := by decide +kernel
theorem dX7_init_106 : decode bX7_init 106 = .ok (.iconst (-1), 1) ∧ 106 + 1 = 107 := by decide +kernel
theorem dX7_init_107 : decode bX7_init 107 = .ok (.putfield 53, 3) ∧ 107 + 3 = 110 := by decide +kernel
theorem dX7_init_110 : decode bX7_init 110 = .ok (.aload_n 0, 1) ∧ 110 + 1 = 111 := by decide +kernel
theorem dX7_init_111 : decode bX7_init 111 = .ok (.iconst 0, 1) ∧ 111 + 1 = 112 := by decide +kernel
theorem dX7_init_112 : decode bX7_init 112 = .ok (.putfield 56, 3) ∧ 112 + 3 = 115 := by decide +kernel
theorem dX7_init_115 : decode bX7_init 115 = .ok (.aload_n 0, 1) ∧ 115 + 1 = 116 := by decide +kernel
theorem dX7_init_116 : decode bX7_init 116 = .ok (.iconst 0, 1) ∧ 116 + 1 = 117 := by decide +kernel
theorem dX7_init_117 : decode bX7_init 117 = .ok (.putfield 59, 3) ∧ 117 + 3 = 120 := by decide +kernel
theorem dX7_init_120 : decode bX7_init 120 = .ok (.aload_n 0, 1) ∧ 120 + 1 = 121 := by decide +kernel
theorem dX7_init_121 : decode bX7_init 121 = .ok (.iconst 0, 1) ∧ 121 + 1 = 122 := by decide +kernel
theorem dX7_init_122 : decode bX7_init 122 = .ok (.putfield 62, 3) ∧ 122 + 3 = 125 := by decide +kernel
theorem dX7_init_125 : decode bX7_init 125 = .ok (.aload_n 0, 1) ∧ 125 + 1 = 126 := by decide +kernel
theorem dX7_init_126 : decode bX7_init 126 = .ok (.bipush 100, 2) ∧ 126 + 2 = 128 := by decide +kernel
theorem dX7_init_128 : decode bX7_init 128 = .ok (.newarray .int, 2) ∧ 128 + 2 = 130 := by decide +kernel
theorem dX7_init_130 : decode bX7_init 130 = .ok (.putfield 65, 3) ∧ 130 + 3 = 133 := by decide +kernel
theorem dX7_init_133 : decode bX7_init 133 = .ok (.aload_n 0, 1) ∧ 133 + 1 = 134 := by decide +kernel
theorem dX7_init_134 : decode bX7_init 134 = .ok (.bipush 6, 2) ∧ 134 + 2 = 136 := by decide +kernel
theorem dX7_init_136 : decode bX7_init 136 = .ok (.newarray .int, 2) ∧ 136 + 2 = 138 := by decide +kernel
theorem dX7_init_138 : decode bX7_init 138 = .ok (.putfield 68, 3) ∧ 138 + 3 = 141 := by decide +kernel
theorem dX7_init_141 : decode bX7_init 141 = .ok (.aload_n 0, 1) ∧ 141 + 1 = 142 := by decide +kernel
theorem dX7_init_142 : decode bX7_init 142 = .ok (.bipush 60, 2) ∧ 142 + 2 = 144 := by decide +kernel
theorem dX7_init_144 : decode bX7_init 144 = .ok (.newarray .int, 2) ∧ 144 + 2 = 146 := by decide +kernel
theorem dX7_init_146 : decode bX7_init 146 = .ok (.putfield 71, 3) ∧ 146 + 3 = 149 := by decide +kernel
theorem dX7_init_149 : decode bX7_init 149 = .ok (.aload_n 0, 1) ∧ 149 + 1 = 150 := by decide +kernel
theorem dX7_init_150 : decode bX7_init 150 = .ok (.bipush 60, 2) ∧ 150 + 2 = 152 := by decide +kernel
theorem dX7_init_152 : decode bX7_init 152 = .ok (.newarray .int, 2) ∧ 152 + 2 = 154 := by decide +kernel
theorem dX7_init_154 : decode bX7_init 154 = .ok (.putfield 74, 3) ∧ 154 + 3 = 157 := by decide +kernel
theorem dX7_init_157 : decode bX7_init 157 = .ok (.aload_n 0, 1) ∧ 157 + 1 = 158 := by decide +kernel
theorem dX7_init_158 : decode bX7_init 158 = .ok (.bipush 60, 2) ∧ 158 + 2 = 160 := by decide +kernel
theorem dX7_init_160 : decode bX7_init 160 = .ok (.newarray .int, 2) ∧ 160 + 2 = 162 := by decide +kernel
theorem dX7_init_162 : decode bX7_init 162 = .ok (.putfield 77, 3) ∧ 162 + 3 = 165 := by decide +kernel
theorem dX7_init_165 : decode bX7_init 165 = .ok (.aload_n 0, 1) ∧ 165 + 1 = 166 := by decide +kernel
theorem dX7_init_166 : decode bX7_init 166 = .ok (.bipush 60, 2) ∧ 166 + 2 = 168 := by decide +kernel
theorem dX7_init_168 : decode bX7_init 168 = .ok (.newarray .int, 2) ∧ 168 + 2 = 170 := by decide +kernel
theorem dX7_init_170 : decode bX7_init 170 = .ok (.putfield 80, 3) ∧ 170 + 3 = 173 := by decide +kernel
theorem dX7_init_173 : decode bX7_init 173 = .ok (.aload_n 0, 1) ∧ 173 + 1 = 174 := by decide +kernel
theorem dX7_init_174 : decode bX7_init 174 = .ok (.sipush 600, 3) ∧ 174 + 3 = 177 := by decide +kernel
theorem dX7_init_177 : decode bX7_init 177 = .ok (.newarray .int, 2) ∧ 177 + 2 = 179 := by decide +kernel
theorem dX7_init_179 : decode bX7_init 179 = .ok (.putfield 83, 3) ∧ 179 + 3 = 182 := by decide +kernel
theorem dX7_init_182 : decode bX7_init 182 = .ok (.aload_n 0, 1) ∧ 182 + 1 = 183 := by decide +kernel
theorem dX7_init_183 : decode bX7_init 183 = .ok (.bipush 101, 2) ∧ 183 + 2 = 185 := by decide +kernel
theorem dX7_init_185 : decode bX7_init 185 = .ok (.newarray .int, 2) ∧ 185 + 2 = 187 := by decide +kernel
theorem dX7_init_187 : decode bX7_init 187 = .ok (.putfield 86, 3) ∧ 187 + 3 = 190 := by decide +kernel
theorem dX7_init_190 : decode bX7_init 190 = .ok (.aload_n 0, 1) ∧ 190 + 1 = 191 := by decide +kernel
theorem dX7_init_191 : decode bX7_init 191 = .ok (.iconst 0, 1) ∧ 191 + 1 = 192 := by decide +kernel
theorem dX7_init_192 : decode bX7_init 192 = .ok (.putfield 89, 3) ∧ 192 + 3 = 195 := by decide +kernel
theorem dX7_init_195 : decode bX7_init 195 = .ok (.aload_n 0, 1) ∧ 195 + 1 = 196 := by decide +kernel
theorem dX7_init_196 : decode bX7_init 196 = .ok (.iconst 0, 1) ∧ 196 + 1 = 197 := by decide +kernel
theorem dX7_init_197 : decode bX7_init 197 = .ok (.putfield 92, 3) ∧ 197 + 3 = 200 := by decide +kernel
theorem dX7_init_200 : decode bX7_init 200 = .ok (.aload_n 0, 1) ∧ 200 + 1 = 201 := by decide +kernel
theorem dX7_init_201 : decode bX7_init 201 = .ok (.iconst 0, 1) ∧ 201 + 1 = 202 := by decide +kernel
theorem dX7_init_202 : decode bX7_init 202 = .ok (.putfield 95, 3) ∧ 202 + 3 = 205 := by decide +kernel
theorem dX7_init_205 : decode bX7_init 205 = .ok (.aload_n 0, 1) ∧ 205 + 1 = 206 := by decide +kernel
theorem dX7_init_206 : decode bX7_init 206 = .ok (.bipush 23, 2) ∧ 206 + 2 = 208 := by decide +kernel
theorem dX7_init_208 : decode bX7_init 208 = .ok (.newarray .int, 2) ∧ 208 + 2 = 210 := by decide +kernel
theorem dX7_init_210 : decode bX7_init 210 = .ok (.dup, 1) ∧ 210 + 1 = 211 := by decide +kernel
theorem dX7_init_211 : decode bX7_init 211 = .ok (.iconst 0, 1) ∧ 211 + 1 = 212 := by decide +kernel
theorem dX7_init_212 : decode bX7_init 212 = .ok (.bipush 100, 2) ∧ 212 + 2 = 214 := by decide +kernel
theorem dX7_init_214 : decode bX7_init 214 = .ok (.iastore, 1) ∧ 214 + 1 = 215 := by decide +kernel
theorem dX7_init_215 : decode bX7_init 215 = .ok (.dup, 1) ∧ 215 + 1 = 216 := by decide +kernel
theorem dX7_init_216 : decode bX7_init 216 = .ok (.iconst 1, 1) ∧ 216 + 1 = 217 := by decide +kernel
theorem dX7_init_217 : decode bX7_init 217 = .ok (.bipush 101, 2) ∧ 217 + 2 = 219 := by decide +kernel
theorem dX7_init_219 : decode bX7_init 219 = .ok (.iastore, 1) ∧ 219 + 1 = 220 := by decide +kernel
theorem dX7_init_220 : decode bX7_init 220 = .ok (.dup, 1) ∧ 220 + 1 = 221 := by decide +kernel
theorem dX7_init_221 : decode bX7_init 221 = .ok (.iconst 2, 1) ∧ 221 + 1 = 222 := by decide +kernel
theorem dX7_init_222 : decode bX7_init 222 = .ok (.bipush 97, 2) ∧ 222 + 2 = 224 := by decide +kernel
theorem dX7_init_224 : decode bX7_init 224 = .ok (.iastore, 1) ∧ 224 + 1 = 225 := by decide +kernel
theorem dX7_init_225 : decode bX7_init 225 = .ok (.dup, 1) ∧ 225 + 1 = 226 := by decide +kernel
theorem dX7_init_226 : decode bX7_init 226 = .ok (.iconst 3, 1) ∧ 226 + 1 = 227 := by decide +kernel
theorem dX7_init_227 : decode bX7_init 227 = .ok (.bipush 114, 2) ∧ 227 + 2 = 229 := by decide +kernel
theorem dX7_init_229 : decode bX7_init 229 = .ok (.iastore, 1) ∧ 229 + 1 = 230 := by decide +kernel
theorem dX7_init_230 : decode bX7_init 230 = .ok (.dup, 1) ∧ 230 + 1 = 231 := by decide +kernel
theorem dX7_init_231 : decode bX7_init 231 = .ok (.iconst 4, 1) ∧ 231 + 1 = 232 := by decide +kernel
theorem dX7_init_232 : decode bX7_init 232 = .ok (.bipush 99, 2) ∧ 232 + 2 = 234 := by decide +kernel
theorem dX7_init_234 : decode bX7_init 234 = .ok (.iastore, 1) ∧ 234 + 1 = 235 := by decide +kernel
theorem dX7_init_235 : decode bX7_init 235 = .ok (.dup, 1) ∧ 235 + 1 = 236 := by decide +kernel
theorem dX7_init_236 : decode bX7_init 236 = .ok (.iconst 5, 1) ∧ 236 + 1 = 237 := by decide +kernel
theorem dX7_init_237 : decode bX7_init 237 = .ok (.bipush 104, 2) ∧ 237 + 2 = 239 := by decide +kernel
theorem dX7_init_239 : decode bX7_init 239 = .ok (.iastore, 1) ∧ 239 + 1 = 240 := by decide +kernel
theorem dX7_init_240 : decode bX7_init 240 = .ok (.dup, 1) ∧ 240 + 1 = 241 := by decide +kernel
theorem dX7_init_241 : decode bX7_init 241 = .ok (.bipush 6, 2) ∧ 241 + 2 = 243 := by decide +kernel
theorem dX7_init_243 : decode bX7_init 243 = .ok (.bipush 101, 2) ∧ 243 + 2 = 245 := by decide +kernel
theorem dX7_init_245 : decode bX7_init 245 = .ok (.iastore, 1) ∧ 245 + 1 = 246 := by decide +kernel
theorem dX7_init_246 : decode bX7_init 246 = .ok (.dup, 1) ∧ 246 + 1 = 247 := by decide +kernel
theorem dX7_init_247 : decode bX7_init 247 = .ok (.bipush 7, 2) ∧ 247 + 2 = 249 := by decide +kernel
theorem dX7_init_249 : decode bX7_init 249 = .ok (.bipush 97, 2) ∧ 249 + 2 = 251 := by decide +kernel
theorem dX7_init_251 : decode bX7_init 251 = .ok (.iastore, 1) ∧ 251 + 1 = 252 := by decide +kernel
theorem dX7_init_252 : decode bX7_init 252 = .ok (.dup, 1) ∧ 252 + 1 = 253 := by decide +kernel
theorem dX7_init_253 : decode bX7_init 253 = .ok (.bipush 8, 2) ∧ 253 + 2 = 255 := by decide +kernel
theorem dX7_init_255 : decode bX7_init 255 = .ok (.bipush 112, 2) ∧ 255 + 2 = 257 := by decide +kernel
theorem dX7_init_257 : decode bX7_init 257 = .ok (.iastore, 1) ∧ 257 + 1 = 258 := by decide +kernel
theorem dX7_init_258 : decode bX7_init 258 = .ok (.dup, 1) ∧ 258 + 1 = 259 := by decide +kernel
theorem dX7_init_259 : decode bX7_init 259 = .ok (.bipush 9, 2) ∧ 259 + 2 = 261 := by decide +kernel
theorem dX7_init_261 : decode bX7_init 261 = .ok (.bipush 109, 2) ∧ 261 + 2 = 263 := by decide +kernel
theorem dX7_init_263 : decode bX7_init 263 = .ok (.iastore, 1) ∧ 263 + 1 = 264 := by decide +kernel
theorem dX7_init_264 : decode bX7_init 264 = .ok (.dup, 1) ∧ 264 + 1 = 265 := by decide +kernel
theorem dX7_init_265 : decode bX7_init 265 = .ok (.bipush 10, 2) ∧ 265 + 2 = 267 := by decide +kernel
theorem dX7_init_267 : decode bX7_init 267 = .ok (.bipush 97, 2) ∧ 267 + 2 = 269 := by decide +kernel
theorem dX7_init_269 : decode bX7_init 269 = .ok (.iastore, 1) ∧ 269 + 1 = 270 := by decide +kernel
theorem dX7_init_270 : decode bX7_init 270 = .ok (.dup, 1) ∧ 270 + 1 = 271 := by decide +kernel
theorem dX7_init_271 : decode bX7_init 271 = .ok (.bipush 11, 2) ∧ 271 + 2 = 273 := by decide +kernel
theorem dX7_init_273 : decode bX7_init 273 = .ok (.bipush 114, 2) ∧ 273 + 2 = 275 := by decide +kernel
theorem dX7_init_275 : decode bX7_init 275 = .ok (.iastore, 1) ∧ 275 + 1 = 276 := by decide +kernel
theorem dX7_init_276 : decode bX7_init 276 = .ok (.dup, 1) ∧ 276 + 1 = 277 := by decide +kernel
theorem dX7_init_277 : decode bX7_init 277 = .ok (.bipush 12, 2) ∧ 277 + 2 = 279 := by decide +kernel
theorem dX7_init_279 : decode bX7_init 279 = .ok (.bipush 107, 2) ∧ 279 + 2 = 281 := by decide +kernel
theorem dX7_init_281 : decode bX7_init 281 = .ok (.iastore, 1) ∧ 281 + 1 = 282 := by decide +kernel
theorem dX7_init_282 : decode bX7_init 282 = .ok (.dup, 1) ∧ 282 + 1 = 283 := by decide +kernel
theorem dX7_init_283 : decode bX7_init 283 = .ok (.bipush 13, 2) ∧ 283 + 2 = 285 := by decide +kernel
theorem dX7_init_285 : decode bX7_init 285 = .ok (.bipush 115, 2) ∧ 285 + 2 = 287 := by decide +kernel
theorem dX7_init_287 : decode bX7_init 287 = .ok (.iastore, 1) ∧ 287 + 1 = 288 := by decide +kernel
theorem dX7_init_288 : decode bX7_init 288 = .ok (.dup, 1) ∧ 288 + 1 = 289 := by decide +kernel
theorem dX7_init_289 : decode bX7_init 289 = .ok (.bipush 14, 2) ∧ 289 + 2 = 291 := by decide +kernel
theorem dX7_init_291 : decode bX7_init 291 = .ok (.bipush 112, 2) ∧ 291 + 2 = 293 := by decide +kernel
theorem dX7_init_293 : decode bX7_init 293 = .ok (.iastore, 1) ∧ 293 + 1 = 294 := by decide +kernel
theorem dX7_init_294 : decode bX7_init 294 = .ok (.dup, 1) ∧ 294 + 1 = 295 := by decide +kernel
theorem dX7_init_295 : decode bX7_init 295 = .ok (.bipush 15, 2) ∧ 295 + 2 = 297 := by decide +kernel
theorem dX7_init_297 : decode bX7_init 297 = .ok (.bipush 114, 2) ∧ 297 + 2 = 299 := by decide +kernel
theorem dX7_init_299 : decode bX7_init 299 = .ok (.iastore, 1) ∧ 299 + 1 = 300 := by decide +kernel
theorem dX7_init_300 : decode bX7_init 300 = .ok (.dup, 1) ∧ 300 + 1 = 301 := by decide +kernel
theorem dX7_init_301 : decode bX7_init 301 = .ok (.bipush 16, 2) ∧ 301 + 2 = 303 := by decide +kernel
theorem dX7_init_303 : decode bX7_init 303 = .ok (.bipush 105, 2) ∧ 303 + 2 = 305 := by decide +kernel
theorem dX7_init_305 : decode bX7_init 305 = .ok (.iastore, 1) ∧ 305 + 1 = 306 := by decide +kernel
theorem dX7_init_306 : decode bX7_init 306 = .ok (.dup, 1) ∧ 306 + 1 = 307 := by decide +kernel
theorem dX7_init_307 : decode bX7_init 307 = .ok (.bipush 17, 2) ∧ 307 + 2 = 309 := by decide +kernel
theorem dX7_init_309 : decode bX7_init 309 = .ok (.bipush 110, 2) ∧ 309 + 2 = 311 := by decide +kernel
theorem dX7_init_311 : decode bX7_init 311 = .ok (.iastore, 1) ∧ 311 + 1 = 312 := by decide +kernel
theorem dX7_init_312 : decode bX7_init 312 = .ok (.dup, 1) ∧ 312 + 1 = 313 := by decide +kernel
theorem dX7_init_313 : decode bX7_init 313 = .ok (.bipush 18, 2) ∧ 313 + 2 = 315 := by decide +kernel
theorem dX7_init_315 : decode bX7_init 315 = .ok (.bipush 103, 2) ∧ 315 + 2 = 317 := by decide +kernel
theorem dX7_init_317 : decode bX7_init 317 = .ok (.iastore, 1) ∧ 317 + 1 = 318 := by decide +kernel
theorem dX7_init_318 : decode bX7_init 318 = .ok (.dup, 1) ∧ 318 + 1 = 319 := by decide +kernel
theorem dX7_init_319 : decode bX7_init 319 = .ok (.bipush 19, 2) ∧ 319 + 2 = 321 := by decide +kernel
theorem dX7_init_321 : decode bX7_init 321 = .ok (.bipush 102, 2) ∧ 321 + 2 = 323 := by decide +kernel
theorem dX7_init_323 : decode bX7_init 323 = .ok (.iastore, 1) ∧ 323 + 1 = 324 := by decide +kernel
theorem dX7_init_324 : decode bX7_init 324 = .ok (.dup, 1) ∧ 324 + 1 = 325 := by decide +kernel
theorem dX7_init_325 : decode bX7_init 325 = .ok (.bipush 20, 2) ∧ 325 + 2 = 327 := by decide +kernel
theorem dX7_init_327 : decode bX7_init 327 = .ok (.bipush 105, 2) ∧ 327 + 2 = 329 := by decide +kernel
theorem dX7_init_329 : decode bX7_init 329 = .ok (.iastore, 1) ∧ 329 + 1 = 330 := by decide +kernel
theorem dX7_init_330 : decode bX7_init 330 = .ok (.dup, 1) ∧ 330 + 1 = 331 := by decide +kernel
theorem dX7_init_331 : decode bX7_init 331 = .ok (.bipush 21, 2) ∧ 331 + 2 = 333 := by decide +kernel
theorem dX7_init_333 : decode bX7_init 333 = .ok (.bipush 110, 2) ∧ 333 + 2 = 335 := by decide +kernel
theorem dX7_init_335 : decode bX7_init 335 = .ok (.iastore, 1) ∧ 335 + 1 = 336 := by decide +kernel
theorem dX7_init_336 : decode bX7_init 336 = .ok (.dup, 1) ∧ 336 + 1 = 337 := by decide +kernel
theorem dX7_init_337 : decode bX7_init 337 = .ok (.bipush 22, 2) ∧ 337 + 2 = 339 := by decide +kernel
theorem dX7_init_339 : decode bX7_init 339 = .ok (.bipush 101, 2) ∧ 339 + 2 = 341 := by decide +kernel
theorem dX7_init_341 : decode bX7_init 341 = .ok (.iastore, 1) ∧ 341 + 1 = 342 := by decide +kernel
theorem dX7_init_342 : decode bX7_init 342 = .ok (.putfield 98, 3) ∧ 342 + 3 = 345 := by decide +kernel
theorem dX7_init_345 : decode bX7_init 345 = .ok (.aload_n 0, 1) ∧ 345 + 1 = 346 := by decide +kernel
theorem dX7_init_346 : decode bX7_init 346 = .ok (.iconst (-1), 1) ∧ 346 + 1 = 347 := by decide +kernel
theorem dX7_init_347 : decode bX7_init 347 = .ok (.putfield 101, 3) ∧ 347 + 3 = 350 := by decide +kernel
theorem dX7_init_350 : decode bX7_init 350 = .ok (.aload_n 0, 1) ∧ 350 + 1 = 351 := by decide +kernel
theorem dX7_init_351 : decode bX7_init 351 = .ok (.iconst (-1), 1) ∧ 351 + 1 = 352 := by decide +kernel
theorem dX7_init_352 : decode bX7_init 352 = .ok (.putfield 104, 3) ∧ 352 + 3 = 355 := by decide +kernel
theorem dX7_init_355 : decode bX7_init 355 = .ok (.aload_n 0, 1) ∧ 355 + 1 = 356 := by decide +kernel
theorem dX7_init_356 : decode bX7_init 356 = .ok (.bipush 100, 2) ∧ 356 + 2 = 358 := by decide +kernel
theorem dX7_init_358 : decode bX7_init 358 = .ok (.newarray .boolean, 2) ∧ 358 + 2 = 360 := by decide +kernel
theorem dX7_init_360 : decode bX7_init 360 = .ok (.putfield 107, 3) ∧ 360 + 3 = 363 := by decide +kernel
theorem dX7_init_363 : decode bX7_init 363 = .ok (.aload_n 0, 1) ∧ 363 + 1 = 364 := by decide +kernel
theorem dX7_init_364 : decode bX7_init 364 = .ok (.sipush 9999, 3) ∧ 364 + 3 = 367 := by decide +kernel
theorem dX7_init_367 : decode bX7_init 367 = .ok (.putfield 111, 3) ∧ 367 + 3 = 370 := by decide +kernel
theorem dX7_init_370 : decode bX7_init 370 = .ok (.aload_n 0, 1) ∧ 370 + 1 = 371 := by decide +kernel
theorem dX7_init_371 : decode bX7_init 371 = .ok (.iconst 0, 1) ∧ 371 + 1 = 372 := by decide +kernel
theorem dX7_init_372 : decode bX7_init 372 = .ok (.putfield 114, 3) ∧ 372 + 3 = 375 := by decide +kernel
theorem dX7_init_375 : decode bX7_init 375 = .ok (.aload_n 0, 1) ∧ 375 + 1 = 376 := by decide +kernel
theorem dX7_init_376 : decode bX7_init 376 = .ok (.iconst 0, 1) ∧ 376 + 1 = 377 := by decide +kernel
theorem dX7_init_377 : decode bX7_init 377 = .ok (.putfield 117, 3) ∧ 377 + 3 = 380 := by decide +kernel
theorem dX7_init_380 : decode bX7_init 380 = .ok (.aload_n 0, 1) ∧ 380 + 1 = 381 := by decide +kernel
theorem dX7_init_381 : decode bX7_init 381 = .ok (.iconst 0, 1) ∧ 381 + 1 = 382 := by decide +kernel
theorem dX7_init_382 : decode bX7_init 382 = .ok (.putfield 120, 3) ∧ 382 + 3 = 385 := by decide +kernel
theorem dX7_init_385 : decode bX7_init 385 = .ok (.aload_n 0, 1) ∧ 385 + 1 = 386 := by decide +kernel
theorem dX7_init_386 : decode bX7_init 386 = .ok (.bipush 6, 2) ∧ 386 + 2 = 388 := by decide +kernel
theorem dX7_init_388 : decode bX7_init 388 = .ok (.newarray .int, 2) ∧ 388 + 2 = 390 := by decide +kernel
theorem dX7_init_390 : decode bX7_init 390 = .ok (.putfield 123, 3) ∧ 390 + 3 = 393 := by decide +kernel
theorem dX7_init_393 : decode bX7_init 393 = .ok (.aload_n 0, 1) ∧ 393 + 1 = 394 := by decide +kernel
theorem dX7_init_394 : decode bX7_init 394 = .ok (.bipush 6, 2) ∧ 394 + 2 = 396 := by decide +kernel
theorem dX7_init_396 : decode bX7_init 396 = .ok (.newarray .int, 2) ∧ 396 + 2 = 398 := by decide +kernel
theorem dX7_init_398 : decode bX7_init 398 = .ok (.putfield 126, 3) ∧ 398 + 3 = 401 := by decide +kernel
theorem dX7_init_401 : decode bX7_init 401 = .ok (.aload_n 0, 1) ∧ 401 + 1 = 402 := by decide +kernel
theorem dX7_init_402 : decode bX7_init 402 = .ok (.bipush 6, 2) ∧ 402 + 2 = 404 := by decide +kernel
theorem dX7_init_404 : decode bX7_init 404 = .ok (.newarray .int, 2) ∧ 404 + 2 = 406 := by decide +kernel
theorem dX7_init_406 : decode bX7_init 406 = .ok (.putfield 129, 3) ∧ 406 + 3 = 409 := by decide +kernel
theorem dX7_init_409 : decode bX7_init 409 = .ok (.aload_n 0, 1) ∧ 409 + 1 = 410 := by decide +kernel
theorem dX7_init_410 : decode bX7_init 410 = .ok (.bipush 6, 2) ∧ 410 + 2 = 412 := by decide +kernel
theorem dX7_init_412 : decode bX7_init 412 = .ok (.newarray .int, 2) ∧ 412 + 2 = 414 := by decide +kernel
theorem dX7_init_414 : decode bX7_init 414 = .ok (.putfield 132, 3) ∧ 414 + 3 = 417 := by decide +kernel
theorem dX7_init_417 : decode bX7_init 417 = .ok (.aload_n 0, 1) ∧ 417 + 1 = 418 := by decide +kernel
theorem dX7_init_418 : decode bX7_init 418 = .ok (.bipush 6, 2) ∧ 418 + 2 = 420 := by decide +kernel
theorem dX7_init_420 : decode bX7_init 420 = .ok (.newarray .int, 2) ∧ 420 + 2 = 422 := by decide +kernel
theorem dX7_init_422 : decode bX7_init 422 = .ok (.putfield 135, 3) ∧ 422 + 3 = 425 := by decide +kernel
theorem dX7_init_425 : decode bX7_init 425 = .ok (.aload_n 0, 1) ∧ 425 + 1 = 426 := by decide +kernel
theorem dX7_init_426 : decode bX7_init 426 = .ok (.bipush 6, 2) ∧ 426 + 2 = 428 := by decide +kernel
theorem dX7_init_428 : decode bX7_init 428 = .ok (.newarray .int, 2) ∧ 428 + 2 = 430 := by decide +kernel
theorem dX7_init_430 : decode bX7_init 430 = .ok (.putfield 138, 3) ∧ 430 + 3 = 433 := by decide +kernel
theorem dX7_init_433 : decode bX7_init 433 = .ok (.aload_n 0, 1) ∧ 433 + 1 = 434 := by decide +kernel
theorem dX7_init_434 : decode bX7_init 434 = .ok (.bipush 6, 2) ∧ 434 + 2 = 436 := by decide +kernel
theorem dX7_init_436 : decode bX7_init 436 = .ok (.newarray .int, 2) ∧ 436 + 2 = 438 := by decide +kernel
theorem dX7_init_438 : decode bX7_init 438 = .ok (.putfield 141, 3) ∧ 438 + 3 = 441 := by decide +kernel
theorem dX7_init_441 : decode bX7_init 441 = .ok (.aload_n 0, 1) ∧ 441 + 1 = 442 := by decide +kernel
theorem dX7_init_442 : decode bX7_init 442 = .ok (.iconst 0, 1) ∧ 442 + 1 = 443 := by decide +kernel
theorem dX7_init_443 : decode bX7_init 443 = .ok (.putfield 144, 3) ∧ 443 + 3 = 446 := by decide +kernel
theorem dX7_init_446 : decode bX7_init 446 = .ok (.aload_n 0, 1) ∧ 446 + 1 = 447 := by decide +kernel
theorem dX7_init_447 : decode bX7_init 447 = .ok (.iconst 5, 1) ∧ 447 + 1 = 448 := by decide +kernel
theorem dX7_init_448 : decode bX7_init 448 = .ok (.newarray .int, 2) ∧ 448 + 2 = 450 := by decide +kernel
theorem dX7_init_450 : decode bX7_init 450 = .ok (.putfield 147, 3) ∧ 450 + 3 = 453 := by decide +kernel
theorem dX7_init_453 : decode bX7_init 453 = .ok (.aload_n 0, 1) ∧ 453 + 1 = 454 := by decide +kernel
theorem dX7_init_454 : decode bX7_init 454 = .ok (.iconst 5, 1) ∧ 454 + 1 = 455 := by decide +kernel
theorem dX7_init_455 : decode bX7_init 455 = .ok (.newarray .int, 2) ∧ 455 + 2 = 457 := by decide +kernel
theorem dX7_init_457 : decode bX7_init 457 = .ok (.putfield 150, 3) ∧ 457 + 3 = 460 := by decide +kernel
theorem dX7_init_460 : decode bX7_init 460 = .ok (.aload_n 0, 1) ∧ 460 + 1 = 461 := by decide +kernel
theorem dX7_init_461 : decode bX7_init 461 = .ok (.iconst 0, 1) ∧ 461 + 1 = 462 := by decide +kernel
theorem dX7_init_462 : decode bX7_init 462 = .ok (.putfield 153, 3) ∧ 462 + 3 = 465 := by decide +kernel
theorem dX7_init_465 : decode bX7_init 465 = .ok (.aload_n 0, 1) ∧ 465 + 1 = 466 := by decide +kernel
theorem dX7_init_466 : decode bX7_init 466 = .ok (.iconst 0, 1) ∧ 466 + 1 = 467 := by decide +kernel
theorem dX7_init_467 : decode bX7_init 467 = .ok (.putfield 156, 3) ∧ 467 + 3 = 470 := by decide +kernel
theorem dX7_init_470 : decode bX7_init 470 = .ok (.aload_n 0, 1) ∧ 470 + 1 = 471 := by decide +kernel
theorem dX7_init_471 : decode bX7_init 471 = .ok (.bipush 10, 2) ∧ 471 + 2 = 473 := by decide +kernel
theorem dX7_init_473 : decode bX7_init 473 = .ok (.newarray .int, 2) ∧ 473 + 2 = 475 := by decide +kernel
theorem dX7_init_475 : decode bX7_init 475 = .ok (.putfield 159, 3) ∧ 475 + 3 = 478 := by decide +kernel
theorem dX7_init_478 : decode bX7_init 478 = .ok (.aload_n 0, 1) ∧ 478 + 1 = 479 := by decide +kernel
theorem dX7_init_479 : decode bX7_init 479 = .ok (.bipush 10, 2) ∧ 479 + 2 = 481 := by decide +kernel
theorem dX7_init_481 : decode bX7_init 481 = .ok (.newarray .int, 2) ∧ 481 + 2 = 483 := by decide +kernel
theorem dX7_init_483 : decode bX7_init 483 = .ok (.putfield 162, 3) ∧ 483 + 3 = 486 := by decide +kernel
theorem dX7_init_486 : decode bX7_init 486 = .ok (.aload_n 0, 1) ∧ 486 + 1 = 487 := by decide +kernel
theorem dX7_init_487 : decode bX7_init 487 = .ok (.bipush 8, 2) ∧ 487 + 2 = 489 := by decide +kernel
theorem dX7_init_489 : decode bX7_init 489 = .ok (.newarray .int, 2) ∧ 489 + 2 = 491 := by decide +kernel
theorem dX7_init_491 : decode bX7_init 491 = .ok (.putfield 165, 3) ∧ 491 + 3 = 494 := by decide +kernel
theorem dX7_init_494 : decode bX7_init 494 = .ok (.aload_n 0, 1) ∧ 494 + 1 = 495 := by decide +kernel
theorem dX7_init_495 : decode bX7_init 495 = .ok (.bipush 8, 2) ∧ 495 + 2 = 497 := by decide +kernel
theorem dX7_init_497 : decode bX7_init 497 = .ok (.newarray .int, 2) ∧ 497 + 2 = 499 := by decide +kernel
theorem dX7_init_499 : decode bX7_init 499 = .ok (.putfield 168, 3) ∧ 499 + 3 = 502 := by decide +kernel
theorem dX7_init_502 : decode bX7_init 502 = .ok (.aload_n 0, 1) ∧ 502 + 1 = 503 := by decide +kernel
theorem dX7_init_503 : decode bX7_init 503 = .ok (.iconst 0, 1) ∧ 503 + 1 = 504 := by decide +kernel
theorem dX7_init_504 : decode bX7_init 504 = .ok (.putfield 171, 3) ∧ 504 + 3 = 507 := by decide +kernel
theorem dX7_init_507 : decode bX7_init 507 = .ok (.aload_n 0, 1) ∧ 507 + 1 = 508 := by decide +kernel
theorem dX7_init_508 : decode bX7_init 508 = .ok (.iconst (-1), 1) ∧ 508 + 1 = 509 := by decide +kernel
theorem dX7_init_509 : decode bX7_init 509 = .ok (.putfield 175, 3) ∧ 509 + 3 = 512 := by decide +kernel
theorem dX7_init_512 : decode bX7_init 512 = .ok (.aload_n 0, 1) ∧ 512 + 1 = 513 := by decide +kernel
theorem dX7_init_513 : decode bX7_init 513 = .ok (.iconst 0, 1) ∧ 513 + 1 = 514 := by decide +kernel
theorem dX7_init_514 : decode bX7_init 514 = .ok (.putfield 178, 3) ∧ 514 + 3 = 517 := by decide +kernel
theorem dX7_init_517 : decode bX7_init 517 = .ok (.aload_n 0, 1) ∧ 517 + 1 = 518 := by decide +kernel
theorem dX7_init_518 : decode bX7_init 518 = .ok (.iconst 0, 1) ∧ 518 + 1 = 519 := by decide +kernel
theorem dX7_init_519 : decode bX7_init 519 = .ok (.putfield 181, 3) ∧ 519 + 3 = 522 := by decide +kernel
theorem dX7_init_522 : decode bX7_init 522 = .ok (.aload_n 0, 1) ∧ 522 + 1 = 523 := by decide +kernel
theorem dX7_init_523 : decode bX7_init 523 = .ok (.iconst 0, 1) ∧ 523 + 1 = 524 := by decide +kernel
theorem dX7_init_524 : decode bX7_init 524 = .ok (.putfield 184, 3) ∧ 524 + 3 = 527 := by decide +kernel
theorem dX7_init_527 : decode bX7_init 527 = .ok (.aload_n 0, 1) ∧ 527 + 1 = 528 := by decide +kernel
theorem dX7_init_528 : decode bX7_init 528 = .ok (.iconst 0, 1) ∧ 528 + 1 = 529 := by decide +kernel
theorem dX7_init_529 : decode bX7_init 529 = .ok (.putfield 187, 3) ∧ 529 + 3 = 532 := by decide +kernel
theorem dX7_init_532 : decode bX7_init 532 = .ok (.aload_n 0, 1) ∧ 532 + 1 = 533 := by decide +kernel
theorem dX7_init_533 : decode bX7_init 533 = .ok (.iconst 0, 1) ∧ 533 + 1 = 534 := by decide +kernel
theorem dX7_init_534 : decode bX7_init 534 = .ok (.putfield 190, 3) ∧ 534 + 3 = 537 := by decide +kernel
theorem dX7_init_537 : decode bX7_init 537 = .ok (.aload_n 0, 1) ∧ 537 + 1 = 538 := by decide +kernel
theorem dX7_init_538 : decode bX7_init 538 = .ok (.iconst 0, 1) ∧ 538 + 1 = 539 := by decide +kernel
theorem dX7_init_539 : decode bX7_init 539 = .ok (.putfield 193, 3) ∧ 539 + 3 = 542 := by decide +kernel
theorem dX7_init_542 : decode bX7_init 542 = .ok (.aload_n 0, 1) ∧ 542 + 1 = 543 := by decide +kernel
theorem dX7_init_543 : decode bX7_init 543 = .ok (.bipush 6, 2) ∧ 543 + 2 = 545 := by decide +kernel
theorem dX7_init_545 : decode bX7_init 545 = .ok (.newarray .int, 2) ∧ 545 + 2 = 547 := by decide +kernel
theorem dX7_init_547 : decode bX7_init 547 = .ok (.putfield 196, 3) ∧ 547 + 3 = 550 := by decide +kernel
theorem dX7_init_550 : decode bX7_init 550 = .ok (.aload_n 0, 1) ∧ 550 + 1 = 551 := by decide +kernel
theorem dX7_init_551 : decode bX7_init 551 = .ok (.bipush 6, 2) ∧ 551 + 2 = 553 := by decide +kernel
theorem dX7_init_553 : decode bX7_init 553 = .ok (.newarray .int, 2) ∧ 553 + 2 = 555 := by decide +kernel
theorem dX7_init_555 : decode bX7_init 555 = .ok (.putfield 199, 3) ∧ 555 + 3 = 558 := by decide +kernel
theorem dX7_init_558 : decode bX7_init 558 = .ok (.aload_n 0, 1) ∧ 558 + 1 = 559 := by decide +kernel
theorem dX7_init_559 : decode bX7_init 559 = .ok (.bipush 6, 2) ∧ 559 + 2 = 561 := by decide +kernel
theorem dX7_init_561 : decode bX7_init 561 = .ok (.newarray .int, 2) ∧ 561 + 2 = 563 := by decide +kernel
theorem dX7_init_563 : decode bX7_init 563 = .ok (.putfield 202, 3) ∧ 563 + 3 = 566 := by decide +kernel
theorem dX7_init_566 : decode bX7_init 566 = .ok (.aload_n 0, 1) ∧ 566 + 1 = 567 := by decide +kernel
theorem dX7_init_567 : decode bX7_init 567 = .ok (.bipush 6, 2) ∧ 567 + 2 = 569 := by decide +kernel
theorem dX7_init_569 : decode bX7_init 569 = .ok (.newarray .int, 2) ∧ 569 + 2 = 571 := by decide +kernel
theorem dX7_init_571 : decode bX7_init 571 = .ok (.putfield 205, 3) ∧ 571 + 3 = 574 := by decide +kernel
theorem dX7_init_574 : decode bX7_init 574 = .ok (.aload_n 0, 1) ∧ 574 + 1 = 575 := by decide +kernel
theorem dX7_init_575 : decode bX7_init 575 = .ok (.bipush 6, 2) ∧ 575 + 2 = 577 := by decide +kernel
theorem dX7_init_577 : decode bX7_init 577 = .ok (.newarray .int, 2) ∧ 577 + 2 = 579 := by decide +kernel
theorem dX7_init_579 : decode bX7_init 579 = .ok (.putfield 208, 3) ∧ 579 + 3 = 582 := by decide +kernel
theorem dX7_init_582 : decode bX7_init 582 = .ok (.aload_n 0, 1) ∧ 582 + 1 = 583 := by decide +kernel
theorem dX7_init_583 : decode bX7_init 583 = .ok (.bipush 6, 2) ∧ 583 + 2 = 585 := by decide +kernel
theorem dX7_init_585 : decode bX7_init 585 = .ok (.newarray .int, 2) ∧ 585 + 2 = 587 := by decide +kernel
theorem dX7_init_587 : decode bX7_init 587 = .ok (.putfield 211, 3) ∧ 587 + 3 = 590 := by decide +kernel
theorem dX7_init_590 : decode bX7_init 590 = .ok (.aload_n 0, 1) ∧ 590 + 1 = 591 := by decide +kernel
theorem dX7_init_591 : decode bX7_init 591 = .ok (.bipush 6, 2) ∧ 591 + 2 = 593 := by decide +kernel
theorem dX7_init_593 : decode bX7_init 593 = .ok (.newarray .int, 2) ∧ 593 + 2 = 595 := by decide +kernel
theorem dX7_init_595 : decode bX7_init 595 = .ok (.putfield 214, 3) ∧ 595 + 3 = 598 := by decide +kernel
theorem dX7_init_598 : decode bX7_init 598 = .ok (.aload_n 0, 1) ∧ 598 + 1 = 599 := by decide +kernel
theorem dX7_init_599 : decode bX7_init 599 = .ok (.bipush 6, 2) ∧ 599 + 2 = 601 := by decide +kernel
theorem dX7_init_601 : decode bX7_init 601 = .ok (.newarray .int, 2) ∧ 601 + 2 = 603 := by decide +kernel
theorem dX7_init_603 : decode bX7_init 603 = .ok (.putfield 217, 3) ∧ 603 + 3 = 606 := by decide +kernel
theorem dX7_init_606 : decode bX7_init 606 = .ok (.aload_n 0, 1) ∧ 606 + 1 = 607 := by decide +kernel
theorem dX7_init_607 : decode bX7_init 607 = .ok (.bipush 6, 2) ∧ 607 + 2 = 609 := by decide +kernel
theorem dX7_init_609 : decode bX7_init 609 = .ok (.newarray .int, 2) ∧ 609 + 2 = 611 := by decide +kernel
theorem dX7_init_611 : decode bX7_init 611 = .ok (.putfield 220, 3) ∧ 611 + 3 = 614 := by decide +kernel
theorem dX7_init_614 : decode bX7_init 614 = .ok (.aload_n 0, 1) ∧ 614 + 1 = 615 := by decide +kernel
theorem dX7_init_615 : decode bX7_init 615 = .ok (.bipush 24, 2) ∧ 615 + 2 = 617 := by decide +kernel
theorem dX7_init_617 : decode bX7_init 617 = .ok (.newarray .int, 2) ∧ 617 + 2 = 619 := by decide +kernel
theorem dX7_init_619 : decode bX7_init 619 = .ok (.putfield 223, 3) ∧ 619 + 3 = 622 := by decide +kernel
theorem dX7_init_622 : decode bX7_init 622 = .ok (.aload_n 0, 1) ∧ 622 + 1 = 623 := by decide +kernel
theorem dX7_init_623 : decode bX7_init 623 = .ok (.iconst 5, 1) ∧ 623 + 1 = 624 := by decide +kernel
theorem dX7_init_624 : decode bX7_init 624 = .ok (.newarray .int, 2) ∧ 624 + 2 = 626 := by decide +kernel
theorem dX7_init_626 : decode bX7_init 626 = .ok (.putfield 226, 3) ∧ 626 + 3 = 629 := by decide +kernel
theorem dX7_init_629 : decode bX7_init 629 = .ok (.aload_n 0, 1) ∧ 629 + 1 = 630 := by decide +kernel
theorem dX7_init_630 : decode bX7_init 630 = .ok (.iconst 5, 1) ∧ 630 + 1 = 631 := by decide +kernel
theorem dX7_init_631 : decode bX7_init 631 = .ok (.newarray .int, 2) ∧ 631 + 2 = 633 := by decide +kernel
theorem dX7_init_633 : decode bX7_init 633 = .ok (.putfield 229, 3) ∧ 633 + 3 = 636 := by decide +kernel
theorem dX7_init_636 : decode bX7_init 636 = .ok (.aload_n 0, 1) ∧ 636 + 1 = 637 := by decide +kernel
theorem dX7_init_637 : decode bX7_init 637 = .ok (.bipush 10, 2) ∧ 637 + 2 = 639 := by decide +kernel
theorem dX7_init_639 : decode bX7_init 639 = .ok (.newarray .int, 2) ∧ 639 + 2 = 641 := by decide +kernel
theorem dX7_init_641 : decode bX7_init 641 = .ok (.putfield 232, 3) ∧ 641 + 3 = 644 := by decide +kernel
theorem dX7_init_644 : decode bX7_init 644 = .ok (.aload_n 0, 1) ∧ 644 + 1 = 645 := by decide +kernel
theorem dX7_init_645 : decode bX7_init 645 = .ok (.bipush 10, 2) ∧ 645 + 2 = 647 := by decide +kernel
theorem dX7_init_647 : decode bX7_init 647 = .ok (.newarray .int, 2) ∧ 647 + 2 = 649 := by decide +kernel
theorem dX7_init_649 : decode bX7_init 649 = .ok (.putfield 235, 3) ∧ 649 + 3 = 652 := by decide +kernel
theorem dX7_init_652 : decode bX7_init 652 = .ok (.aload_n 0, 1) ∧ 652 + 1 = 653 := by decide +kernel
theorem dX7_init_653 : decode bX7_init 653 = .ok (.bipush 8, 2) ∧ 653 + 2 = 655 := by decide +kernel
theorem dX7_init_655 : decode bX7_init 655 = .ok (.newarray .int, 2) ∧ 655 + 2 = 657 := by decide +kernel
theorem dX7_init_657 : decode bX7_init 657 = .ok (.putfield 238, 3) ∧ 657 + 3 = 660 := by decide +kernel
theorem dX7_init_660 : decode bX7_init 660 = .ok (.aload_n 0, 1) ∧ 660 + 1 = 661 := by decide +kernel
theorem dX7_init_661 : decode bX7_init 661 = .ok (.bipush 8, 2) ∧ 661 + 2 = 663 := by decide +kernel
theorem dX7_init_663 : decode bX7_init 663 = .ok (.newarray .int, 2) ∧ 663 + 2 = 665 := by decide +kernel
theorem dX7_init_665 : decode bX7_init 665 = .ok (.putfield 241, 3) ∧ 665 + 3 = 668 := by decide +kernel
theorem dX7_init_668 : decode bX7_init 668 = .ok (.aload_n 0, 1) ∧ 668 + 1 = 669 := by decide +kernel
theorem dX7_init_669 : decode bX7_init 669 = .ok (.iconst 0, 1) ∧ 669 + 1 = 670 := by decide +kernel
theorem dX7_init_670 : decode bX7_init 670 = .ok (.putfield 244, 3) ∧ 670 + 3 = 673 := by decide +kernel
theorem dX7_init_673 : decode bX7_init 673 = .ok (.aload_n 0, 1) ∧ 673 + 1 = 674 := by decide +kernel
theorem dX7_init_674 : decode bX7_init 674 = .ok (.bipush 20, 2) ∧ 674 + 2 = 676 := by decide +kernel
theorem dX7_init_676 : decode bX7_init 676 = .ok (.newarray .int, 2) ∧ 676 + 2 = 678 := by decide +kernel
theorem dX7_init_678 : decode bX7_init 678 = .ok (.putfield 247, 3) ∧ 678 + 3 = 681 := by decide +kernel
theorem dX7_init_681 : decode bX7_init 681 = .ok (.aload_n 0, 1) ∧ 681 + 1 = 682 := by decide +kernel
theorem dX7_init_682 : decode bX7_init 682 = .ok (.bipush 6, 2) ∧ 682 + 2 = 684 := by decide +kernel
theorem dX7_init_684 : decode bX7_init 684 = .ok (.newarray .int, 2) ∧ 684 + 2 = 686 := by decide +kernel
theorem dX7_init_686 : decode bX7_init 686 = .ok (.dup, 1) ∧ 686 + 1 = 687 := by decide +kernel
theorem dX7_init_687 : decode bX7_init 687 = .ok (.iconst 0, 1) ∧ 687 + 1 = 688 := by decide +kernel
theorem dX7_init_688 : decode bX7_init 688 = .ok (.iconst (-1), 1) ∧ 688 + 1 = 689 := by decide +kernel
theorem dX7_init_689 : decode bX7_init 689 = .ok (.iastore, 1) ∧ 689 + 1 = 690 := by decide +kernel
theorem dX7_init_690 : decode bX7_init 690 = .ok (.dup, 1) ∧ 690 + 1 = 691 := by decide +kernel
theorem dX7_init_691 : decode bX7_init 691 = .ok (.iconst 1, 1) ∧ 691 + 1 = 692 := by decide +kernel
theorem dX7_init_692 : decode bX7_init 692 = .ok (.iconst (-1), 1) ∧ 692 + 1 = 693 := by decide +kernel
theorem dX7_init_693 : decode bX7_init 693 = .ok (.iastore, 1) ∧ 693 + 1 = 694 := by decide +kernel
theorem dX7_init_694 : decode bX7_init 694 = .ok (.dup, 1) ∧ 694 + 1 = 695 := by decide +kernel
theorem dX7_init_695 : decode bX7_init 695 = .ok (.iconst 2, 1) ∧ 695 + 1 = 696 := by decide +kernel
theorem dX7_init_696 : decode bX7_init 696 = .ok (.iconst (-1), 1) ∧ 696 + 1 = 697 := by decide +kernel
theorem dX7_init_697 : decode bX7_init 697 = .ok (.iastore, 1) ∧ 697 + 1 = 698 := by decide +kernel
theorem dX7_init_698 : decode bX7_init 698 = .ok (.dup, 1) ∧ 698 + 1 = 699 := by decide +kernel
theorem dX7_init_699 : decode bX7_init 699 = .ok (.iconst 3, 1) ∧ 699 + 1 = 700 := by decide +kernel
theorem dX7_init_700 : decode bX7_init 700 = .ok (.iconst (-1), 1) ∧ 700 + 1 = 701 := by decide +kernel
theorem dX7_init_701 : decode bX7_init 701 = .ok (.iastore, 1) ∧ 701 + 1 = 702 := by decide +kernel
theorem dX7_init_702 : decode bX7_init 702 = .ok (.dup, 1) ∧ 702 + 1 = 703 := by decide +kernel
theorem dX7_init_703 : decode bX7_init 703 = .ok (.iconst 4, 1) ∧ 703 + 1 = 704 := by decide +kernel
theorem dX7_init_704 : decode bX7_init 704 = .ok (.iconst (-1), 1) ∧ 704 + 1 = 705 := by decide +kernel
theorem dX7_init_705 : decode bX7_init 705 = .ok (.iastore, 1) ∧ 705 + 1 = 706 := by decide +kernel
theorem dX7_init_706 : decode bX7_init 706 = .ok (.dup, 1) ∧ 706 + 1 = 707 := by decide +kernel
theorem dX7_init_707 : decode bX7_init 707 = .ok (.iconst 5, 1) ∧ 707 + 1 = 708 := by decide +kernel
theorem dX7_init_708 : decode bX7_init 708 = .ok (.iconst (-1), 1) ∧ 708 + 1 = 709 := by decide +kernel
theorem dX7_init_709 : decode bX7_init 709 = .ok (.iastore, 1) ∧ 709 + 1 = 710 := by decide +kernel
theorem dX7_init_710 : decode bX7_init 710 = .ok (.putfield 250, 3) ∧ 710 + 3 = 713 := by decide +kernel
theorem dX7_init_713 : decode bX7_init 713 = .ok (.aload_n 0, 1) ∧ 713 + 1 = 714 := by decide +kernel
theorem dX7_init_714 : decode bX7_init 714 = .ok (.bipush 6, 2) ∧ 714 + 2 = 716 := by decide +kernel
theorem dX7_init_716 : decode bX7_init 716 = .ok (.newarray .int, 2) ∧ 716 + 2 = 718 := by decide +kernel
theorem dX7_init_718 : decode bX7_init 718 = .ok (.putfield 253, 3) ∧ 718 + 3 = 721 := by decide +kernel
theorem dX7_init_721 : decode bX7_init 721 = .ok (.aload_n 0, 1) ∧ 721 + 1 = 722 := by decide +kernel
theorem dX7_init_722 : decode bX7_init 722 = .ok (.sipush 360, 3) ∧ 722 + 3 = 725 := by decide +kernel
theorem dX7_init_725 : decode bX7_init 725 = .ok (.newarray .long, 2) ∧ 725 + 2 = 727 := by decide +kernel
theorem dX7_init_727 : decode bX7_init 727 = .ok (.putfield 256, 3) ∧ 727 + 3 = 730 := by decide +kernel
theorem dX7_init_730 : decode bX7_init 730 = .ok (.aload_n 0, 1) ∧ 730 + 1 = 731 := by decide +kernel
theorem dX7_init_731 : decode bX7_init 731 = .ok (.bipush 60, 2) ∧ 731 + 2 = 733 := by decide +kernel
theorem dX7_init_733 : decode bX7_init 733 = .ok (.newarray .long, 2) ∧ 733 + 2 = 735 := by decide +kernel
theorem dX7_init_735 : decode bX7_init 735 = .ok (.putfield 260, 3) ∧ 735 + 3 = 738 := by decide +kernel
theorem dX7_init_738 : decode bX7_init 738 = .ok (.return_, 1) := by decide +kernel
theorem dJ0_length_8abf5_0 : decode bJ0_length_8abf5 0 = .ok (.aload_n 0, 1) ∧ 0 + 1 = 1 := by decide +kernel
theorem dJ0_length_8abf5_1 : decode bJ0_length_8abf5 1 = .ok (.getfield 9, 3) ∧ 1 + 3 = 4 := by decide +kernel
theorem dJ0_length_8abf5_4 : decode bJ0_length_8abf5 4 = .ok (.arraylength, 1) ∧ 4 + 1 = 5 := by decide +kernel
theorem dJ0_length_8abf5_5 : decode bJ0_length_8abf5 5 = .ok (.aload_n 0, 1) ∧ 5 + 1 = 6 := by decide +kernel
theorem dJ0_length_8abf5_6 : decode bJ0_length_8abf5 6 = .ok (.invokevirtual 335, 3) ∧ 6 + 3 = 9 := by decide +kernel
theorem dJ0_length_8abf5_9 : decode bJ0_length_8abf5 9 = .ok (.ishr, 1) ∧ 9 + 1 = 10 := by decide +kernel
theorem dJ0_length_8abf5_10 : decode bJ0_length_8abf5 10 = .ok (.ireturn, 1) := by decide +kernel
theorem dJ0_charAt_5068e_0 : decode bJ0_charAt_5068e 0 = .ok (.aload_n 0, 1) ∧ 0 + 1 = 1 := by decide +kernel
theorem dJ0_charAt_5068e_1 : decode bJ0_charAt_5068e 1 = .ok (.invokevirtual 492, 3) ∧ 1 + 3 = 4 := by decide +kernel
theorem dJ0_charAt_5068e_4 : decode bJ0_charAt_5068e 4 = .ok (.ifCond .eq 12, 3) ∧ 4 + 3 = 7 ∧ ((4 : Nat) : Int) + (12) = ((16 : Nat) : Int) := by decide +kernel
theorem dJ0_charAt_5068e_7 : decode bJ0_charAt_5068e 7 = .ok (.aload_n 0, 1) ∧ 7 + 1 = 8 := by decide +kernel
theorem dJ0_charAt_5068e_8 : decode bJ0_charAt_5068e 8 = .ok (.getfield 9, 3) ∧ 8 + 3 = 11 := by decide +kernel
theorem dJ0_charAt_5068e_11 : decode bJ0_charAt_5068e 11 = .ok (.iload_n 1, 1) ∧ 11 + 1 = 12 := by decide +kernel
theorem dJ0_charAt_5068e_12 : decode bJ0_charAt_5068e 12 = .ok (.invokestatic 495, 3) ∧ 12 + 3 = 15 := by decide +kernel
theorem dJ0_charAt_5068e_15 : decode bJ0_charAt_5068e 15 = .ok (.ireturn, 1) := by decide +kernel
theorem dJ0_charAt_5068e_16 : decode bJ0_charAt_5068e 16 = .ok (.aload_n 0, 1) ∧ 16 + 1 = 17 := by decide +kernel
theorem dJ0_charAt_5068e_17 : decode bJ0_charAt_5068e 17 = .ok (.getfield 9, 3) ∧ 17 + 3 = 20 := by decide +kernel
theorem dJ0_charAt_5068e_20 : decode bJ0_charAt_5068e 20 = .ok (.iload_n 1, 1) ∧ 20 + 1 = 21 := by decide +kernel
theorem dJ0_charAt_5068e_21 : decode bJ0_charAt_5068e 21 = .ok (.invokestatic 498, 3) ∧ 21 + 3 = 24 := by decide +kernel
theorem dJ0_charAt_5068e_24 : decode bJ0_charAt_5068e 24 = .ok (.ireturn, 1) := by decide +kernel
theorem dJ0_coder_7d493_0 : decode bJ0_coder_7d493 0 = .ok (.getstatic 38, 3) ∧ 0 + 3 = 3 := by decide +kernel
theorem dJ0_coder_7d493_3 : decode bJ0_coder_7d493 3 = .ok (.ifCond .eq 10, 3) ∧ 3 + 3 = 6 ∧ ((3 : Nat) : Int) + (10) = ((13 : Nat) : Int) := by decide +kernel
theorem dJ0_coder_7d493_6 : decode bJ0_coder_7d493 6 = .ok (.aload_n 0, 1) ∧ 6 + 1 = 7 := by decide +kernel
theorem dJ0_coder_7d493_7 : decode bJ0_coder_7d493 7 = .ok (.getfield 15, 3) ∧ 7 + 3 = 10 := by decide +kernel
theorem dJ0_coder_7d493_10 : decode bJ0_coder_7d493 10 = .ok (.goto 4, 3) ∧ ((10 : Nat) : Int) + (4) = ((14 : Nat) : Int) := by decide +kernel
theorem dJ0_coder_7d493_13 : decode bJ0_coder_7d493 13 = .ok (.iconst 1, 1) ∧ 13 + 1 = 14 := by decide +kernel
theorem dJ0_coder_7d493_14 : decode bJ0_coder_7d493 14 = .ok (.ireturn, 1) := by decide +kernel
theorem dJ0_isLatin1_aae02_0 : decode bJ0_isLatin1_aae02 0 = .ok (.getstatic 38, 3) ∧ 0 + 3 = 3 := by decide +kernel
theorem dJ0_isLatin1_aae02_3 : decode bJ0_isLatin1_aae02 3 = .ok (.ifCond .eq 14, 3) ∧ 3 + 3 = 6 ∧ ((3 : Nat) : Int) + (14) = ((17 : Nat) : Int) := by decide +kernel
theorem dJ0_isLatin1_aae02_6 : decode bJ0_isLatin1_aae02 6 = .ok (.aload_n 0, 1) ∧ 6 + 1 = 7 := by decide +kernel
theorem dJ0_isLatin1_aae02_7 : decode bJ0_isLatin1_aae02 7 = .ok (.getfield 15, 3) ∧ 7 + 3 = 10 := by decide +kernel
theorem dJ0_isLatin1_aae02_10 : decode bJ0_isLatin1_aae02 10 = .ok (.ifCond .ne 7, 3) ∧ 10 + 3 = 13 ∧ ((10 : Nat) : Int) + (7) = ((17 : Nat) : Int) := by decide +kernel
theorem dJ0_isLatin1_aae02_13 : decode bJ0_isLatin1_aae02 13 = .ok (.iconst 1, 1) ∧ 13 + 1 = 14 := by decide +kernel
theorem dJ0_isLatin1_aae02_14 : decode bJ0_isLatin1_aae02 14 = .ok (.goto 4, 3) ∧ ((14 : Nat) : Int) + (4) = ((18 : Nat) : Int) := by decide +kernel
theorem dJ0_isLatin1_aae02_17 : decode bJ0_isLatin1_aae02 17 = .ok (.iconst 0, 1) ∧ 17 + 1 = 18 := by decide +kernel
theorem dJ0_isLatin1_aae02_18 : decode bJ0_isLatin1_aae02 18 = .ok (.ireturn, 1) := by decide +kernel
theorem dJ0_checkIndex_df160_0 : decode bJ0_checkIndex_df160 0 = .ok (.iload_n 0, 1) ∧ 0 + 1 = 1 := by decide +kernel
theorem dJ0_checkIndex_df160_1 : decode bJ0_checkIndex_df160 1 = .ok (.iload_n 1, 1) ∧ 1 + 1 = 2 := by decide +kernel
theorem dJ0_checkIndex_df160_2 : decode bJ0_checkIndex_df160 2 = .ok (.getstatic 1053, 3) ∧ 2 + 3 = 5 := by decide +kernel
theorem dJ0_checkIndex_df160_5 : decode bJ0_checkIndex_df160 5 = .ok (.invokestatic 1059, 3) ∧ 5 + 3 = 8 := by decide +kernel
theorem dJ0_checkIndex_df160_8 : decode bJ0_checkIndex_df160 8 = .ok (.pop, 1) ∧ 8 + 1 = 9 := by decide +kernel
theorem dJ0_checkIndex_df160_9 : decode bJ0_checkIndex_df160 9 = .ok (.return_, 1) := by decide +kernel
theorem dJ1_charAt_3b067_0 : decode bJ1_charAt_3b067 0 = .ok (.iload_n 1, 1) ∧ 0 + 1 = 1 := by decide +kernel
theorem dJ1_charAt_3b067_1 : decode bJ1_charAt_3b067 1 = .ok (.aload_n 0, 1) ∧ 1 + 1 = 2 := by decide +kernel
theorem dJ1_charAt_3b067_2 : decode bJ1_charAt_3b067 2 = .ok (.arraylength, 1) ∧ 2 + 1 = 3 := by decide +kernel
theorem dJ1_charAt_3b067_3 : decode bJ1_charAt_3b067 3 = .ok (.invokestatic 9, 3) ∧ 3 + 3 = 6 := by decide +kernel
theorem dJ1_charAt_3b067_6 : decode bJ1_charAt_3b067 6 = .ok (.aload_n 0, 1) ∧ 6 + 1 = 7 := by decide +kernel
theorem dJ1_charAt_3b067_7 : decode bJ1_charAt_3b067 7 = .ok (.iload_n 1, 1) ∧ 7 + 1 = 8 := by decide +kernel
theorem dJ1_charAt_3b067_8 : decode bJ1_charAt_3b067 8 = .ok (.baload, 1) ∧ 8 + 1 = 9 := by decide +kernel
theorem dJ1_charAt_3b067_9 : decode bJ1_charAt_3b067 9 = .ok (.sipush 255, 3) ∧ 9 + 3 = 12 := by decide +kernel
theorem dJ1_charAt_3b067_12 : decode bJ1_charAt_3b067 12 = .ok (.iand, 1) ∧ 12 + 1 = 13 := by decide +kernel
theorem dJ1_charAt_3b067_13 : decode bJ1_charAt_3b067 13 = .ok (.i2c, 1) ∧ 13 + 1 = 14 := by decide +kernel
theorem dJ1_charAt_3b067_14 : decode bJ1_charAt_3b067 14 = .ok (.ireturn, 1) := by decide +kernel
theorem dJ2_getChar_3b067_0 : decode bJ2_getChar_3b067 0 = .ok (.getstatic 44, 3) ∧ 0 + 3 = 3 := by decide +kernel
theorem dJ2_getChar_3b067_3 : decode bJ2_getChar_3b067 3 = .ok (.ifCond .ne 25, 3) ∧ 3 + 3 = 6 ∧ ((3 : Nat) : Int) + (25) = ((28 : Nat) : Int) := by decide +kernel
theorem dJ2_getChar_3b067_6 : decode bJ2_getChar_3b067 6 = .ok (.iload_n 1, 1) ∧ 6 + 1 = 7 := by decide +kernel
theorem dJ2_getChar_3b067_7 : decode bJ2_getChar_3b067 7 = .ok (.ifCond .lt 11, 3) ∧ 7 + 3 = 10 ∧ ((7 : Nat) : Int) + (11) = ((18 : Nat) : Int) := by decide +kernel
theorem dJ2_getChar_3b067_10 : decode bJ2_getChar_3b067 10 = .ok (.iload_n 1, 1) ∧ 10 + 1 = 11 := by decide +kernel
theorem dJ2_getChar_3b067_11 : decode bJ2_getChar_3b067 11 = .ok (.aload_n 0, 1) ∧ 11 + 1 = 12 := by decide +kernel
theorem dJ2_getChar_3b067_12 : decode bJ2_getChar_3b067 12 = .ok (.invokestatic 48, 3) ∧ 12 + 3 = 15 := by decide +kernel
theorem dJ2_getChar_3b067_15 : decode bJ2_getChar_3b067 15 = .ok (.if_icmp .lt 13, 3) ∧ 15 + 3 = 18 ∧ ((15 : Nat) : Int) + (13) = ((28 : Nat) : Int) := by decide +kernel
theorem dJ2_getChar_3b067_18 : decode bJ2_getChar_3b067 18 = .ok (.new 52, 3) ∧ 18 + 3 = 21 := by decide +kernel
theorem dJ2_getChar_3b067_21 : decode bJ2_getChar_3b067 21 = .ok (.dup, 1) ∧ 21 + 1 = 22 := by decide +kernel
theorem dJ2_getChar_3b067_22 : decode bJ2_getChar_3b067 22 = .ok (.ldc 54, 2) ∧ 22 + 2 = 24 := by decide +kernel
theorem dJ2_getChar_3b067_24 : decode bJ2_getChar_3b067 24 = .ok (.invokespecial 56, 3) ∧ 24 + 3 = 27 := by decide +kernel
theorem dJ2_getChar_3b067_27 : decode bJ2_getChar_3b067 27 = .ok (.athrow, 1) := by decide +kernel
theorem dJ2_getChar_3b067_28 : decode bJ2_getChar_3b067 28 = .ok (.iload_n 1, 1) ∧ 28 + 1 = 29 := by decide +kernel
theorem dJ2_getChar_3b067_29 : decode bJ2_getChar_3b067 29 = .ok (.iconst 1, 1) ∧ 29 + 1 = 30 := by decide +kernel
theorem dJ2_getChar_3b067_30 : decode bJ2_getChar_3b067 30 = .ok (.ishl, 1) ∧ 30 + 1 = 31 := by decide +kernel
theorem dJ2_getChar_3b067_31 : decode bJ2_getChar_3b067 31 = .ok (.istore_n 1, 1) ∧ 31 + 1 = 32 := by decide +kernel
theorem dJ2_getChar_3b067_32 : decode bJ2_getChar_3b067 32 = .ok (.aload_n 0, 1) ∧ 32 + 1 = 33 := by decide +kernel
theorem dJ2_getChar_3b067_33 : decode bJ2_getChar_3b067 33 = .ok (.iload_n 1, 1) ∧ 33 + 1 = 34 := by decide +kernel
theorem dJ2_getChar_3b067_34 : decode bJ2_getChar_3b067 34 = .ok (.iinc 1 1, 3) ∧ 34 + 3 = 37 := by decide +kernel
theorem dJ2_getChar_3b067_37 : decode bJ2_getChar_3b067 37 = .ok (.baload, 1) ∧ 37 + 1 = 38 := by decide +kernel
theorem dJ2_getChar_3b067_38 : decode bJ2_getChar_3b067 38 = .ok (.sipush 255, 3) ∧ 38 + 3 = 41 := by decide +kernel
theorem dJ2_getChar_3b067_41 : decode bJ2_getChar_3b067 41 = .ok (.iand, 1) ∧ 41 + 1 = 42 := by decide +kernel
theorem dJ2_getChar_3b067_42 : decode bJ2_getChar_3b067 42 = .ok (.getstatic 59, 3) ∧ 42 + 3 = 45 := by decide +kernel
theorem dJ2_getChar_3b067_45 : decode bJ2_getChar_3b067 45 = .ok (.ishl, 1) ∧ 45 + 1 = 46 := by decide +kernel
theorem dJ2_getChar_3b067_46 : decode bJ2_getChar_3b067 46 = .ok (.aload_n 0, 1) ∧ 46 + 1 = 47 := by decide +kernel
theorem dJ2_getChar_3b067_47 : decode bJ2_getChar_3b067 47 = .ok (.iload_n 1, 1) ∧ 47 + 1 = 48 := by decide +kernel
theorem dJ2_getChar_3b067_48 : decode bJ2_getChar_3b067 48 = .ok (.baload, 1) ∧ 48 + 1 = 49 := by decide +kernel
theorem dJ2_getChar_3b067_49 : decode bJ2_getChar_3b067 49 = .ok (.sipush 255, 3) ∧ 49 + 3 = 52 := by decide +kernel
theorem dJ2_getChar_3b067_52 : decode bJ2_getChar_3b067 52 = .ok (.iand, 1) ∧ 52 + 1 = 53 := by decide +kernel
theorem dJ2_getChar_3b067_53 : decode bJ2_getChar_3b067 53 = .ok (.getstatic 63, 3) ∧ 53 + 3 = 56 := by decide +kernel
theorem dJ2_getChar_3b067_56 : decode bJ2_getChar_3b067 56 = .ok (.ishl, 1) ∧ 56 + 1 = 57 := by decide +kernel
theorem dJ2_getChar_3b067_57 : decode bJ2_getChar_3b067 57 = .ok (.ior, 1) ∧ 57 + 1 = 58 := by decide +kernel
theorem dJ2_getChar_3b067_58 : decode bJ2_getChar_3b067 58 = .ok (.i2c, 1) ∧ 58 + 1 = 59 := by decide +kernel
theorem dJ2_getChar_3b067_59 : decode bJ2_getChar_3b067 59 = .ok (.ireturn, 1) := by decide +kernel
theorem dJ2_length_9d52b_0 : decode bJ2_length_9d52b 0 = .ok (.aload_n 0, 1) ∧ 0 + 1 = 1 := by decide +kernel
theorem dJ2_length_9d52b_1 : decode bJ2_length_9d52b 1 = .ok (.arraylength, 1) ∧ 1 + 1 = 2 := by decide +kernel
theorem dJ2_length_9d52b_2 : decode bJ2_length_9d52b 2 = .ok (.iconst 1, 1) ∧ 2 + 1 = 3 := by decide +kernel
theorem dJ2_length_9d52b_3 : decode bJ2_length_9d52b 3 = .ok (.ishr, 1) ∧ 3 + 1 = 4 := by decide +kernel
theorem dJ2_length_9d52b_4 : decode bJ2_length_9d52b 4 = .ok (.ireturn, 1) := by decide +kernel
theorem dJ2_charAt_3b067_0 : decode bJ2_charAt_3b067 0 = .ok (.iload_n 1, 1) ∧ 0 + 1 = 1 := by decide +kernel
theorem dJ2_charAt_3b067_1 : decode bJ2_charAt_3b067 1 = .ok (.aload_n 0, 1) ∧ 1 + 1 = 2 := by decide +kernel
theorem dJ2_charAt_3b067_2 : decode bJ2_charAt_3b067 2 = .ok (.invokestatic 67, 3) ∧ 2 + 3 = 5 := by decide +kernel
theorem dJ2_charAt_3b067_5 : decode bJ2_charAt_3b067 5 = .ok (.aload_n 0, 1) ∧ 5 + 1 = 6 := by decide +kernel
theorem dJ2_charAt_3b067_6 : decode bJ2_charAt_3b067 6 = .ok (.iload_n 1, 1) ∧ 6 + 1 = 7 := by decide +kernel
theorem dJ2_charAt_3b067_7 : decode bJ2_charAt_3b067 7 = .ok (.invokestatic 71, 3) ∧ 7 + 3 = 10 := by decide +kernel
theorem dJ2_charAt_3b067_10 : decode bJ2_charAt_3b067 10 = .ok (.ireturn, 1) := by decide +kernel
theorem dJ2_checkIndex_2214a_0 : decode bJ2_checkIndex_2214a 0 = .ok (.iload_n 0, 1) ∧ 0 + 1 = 1 := by decide +kernel
theorem dJ2_checkIndex_2214a_1 : decode bJ2_checkIndex_2214a 1 = .ok (.aload_n 1, 1) ∧ 1 + 1 = 2 := by decide +kernel
theorem dJ2_checkIndex_2214a_2 : decode bJ2_checkIndex_2214a 2 = .ok (.invokestatic 48, 3) ∧ 2 + 3 = 5 := by decide +kernel
theorem dJ2_checkIndex_2214a_5 : decode bJ2_checkIndex_2214a 5 = .ok (.invokestatic 414, 3) ∧ 5 + 3 = 8 := by decide +kernel
theorem dJ2_checkIndex_2214a_8 : decode bJ2_checkIndex_2214a 8 = .ok (.return_, 1) := by decide +kernel
theorem dJ3_checkIndex_8e157_0 : decode bJ3_checkIndex_8e157 0 = .ok (.iload_n 0, 1) ∧ 0 + 1 = 1 := by decide +kernel
theorem dJ3_checkIndex_8e157_1 : decode bJ3_checkIndex_8e157 1 = .ok (.ifCond .lt 8, 3) ∧ 1 + 3 = 4 ∧ ((1 : Nat) : Int) + (8) = ((9 : Nat) : Int) := by decide +kernel
theorem dJ3_checkIndex_8e157_4 : decode bJ3_checkIndex_8e157 4 = .ok (.iload_n 0, 1) ∧ 4 + 1 = 5 := by decide +kernel
theorem dJ3_checkIndex_8e157_5 : decode bJ3_checkIndex_8e157 5 = .ok (.iload_n 1, 1) ∧ 5 + 1 = 6 := by decide +kernel
theorem dJ3_checkIndex_8e157_6 : decode bJ3_checkIndex_8e157 6 = .ok (.if_icmp .lt 10, 3) ∧ 6 + 3 = 9 ∧ ((6 : Nat) : Int) + (10) = ((16 : Nat) : Int) := by decide +kernel
theorem dJ3_checkIndex_8e157_9 : decode bJ3_checkIndex_8e157 9 = .ok (.aload_n 2, 1) ∧ 9 + 1 = 10 := by decide +kernel
theorem dJ3_checkIndex_8e157_10 : decode bJ3_checkIndex_8e157 10 = .ok (.iload_n 0, 1) ∧ 10 + 1 = 11 := by decide +kernel
theorem dJ3_checkIndex_8e157_11 : decode bJ3_checkIndex_8e157 11 = .ok (.iload_n 1, 1) ∧ 11 + 1 = 12 := by decide +kernel
theorem dJ3_checkIndex_8e157_12 : decode bJ3_checkIndex_8e157 12 = .ok (.invokestatic 95, 3) ∧ 12 + 3 = 15 := by decide +kernel
theorem dJ3_checkIndex_8e157_15 : decode bJ3_checkIndex_8e157 15 = .ok (.athrow, 1) := by decide +kernel
theorem dJ3_checkIndex_8e157_16 : decode bJ3_checkIndex_8e157 16 = .ok (.iload_n 0, 1) ∧ 16 + 1 = 17 := by decide +kernel
theorem dJ3_checkIndex_8e157_17 : decode bJ3_checkIndex_8e157 17 = .ok (.ireturn, 1) := by decide +kernel
theorem dL_law_0 : decode code 0 = .ok (.new 7, 3) ∧ 0 + 3 = 3 := by decide +kernel
theorem dL_law_3 : decode code 3 = .ok (.dup, 1) ∧ 3 + 1 = 4 := by decide +kernel
theorem dL_law_4 : decode code 4 = .ok (.invokespecial 9, 3) ∧ 4 + 3 = 7 := by decide +kernel
theorem dL_law_7 : decode code 7 = .ok (.astore_n 1, 1) ∧ 7 + 1 = 8 := by decide +kernel
theorem dL_law_8 : decode code 8 = .ok (.new 10, 3) ∧ 8 + 3 = 11 := by decide +kernel
theorem dL_law_11 : decode code 11 = .ok (.dup, 1) ∧ 11 + 1 = 12 := by decide +kernel
theorem dL_law_12 : decode code 12 = .ok (.invokespecial 12, 3) ∧ 12 + 3 = 15 := by decide +kernel
theorem dL_law_15 : decode code 15 = .ok (.astore_n 2, 1) ∧ 15 + 1 = 16 := by decide +kernel
theorem dL_law_16 : decode code 16 = .ok (.iconst 0, 1) ∧ 16 + 1 = 17 := by decide +kernel
theorem dL_law_17 : decode code 17 = .ok (.istore_n 3, 1) ∧ 17 + 1 = 18 := by decide +kernel
theorem dL_law_18 : decode code 18 = .ok (.iload_n 3, 1) ∧ 18 + 1 = 19 := by decide +kernel
theorem dL_law_19 : decode code 19 = .ok (.aload_n 0, 1) ∧ 19 + 1 = 20 := by decide +kernel
theorem dL_law_20 : decode code 20 = .ok (.arraylength, 1) ∧ 20 + 1 = 21 := by decide +kernel
theorem dL_law_21 : decode code 21 = .ok (.bipush 6, 2) ∧ 21 + 2 = 23 := by decide +kernel
theorem dL_law_23 : decode code 23 = .ok (.isub, 1) ∧ 23 + 1 = 24 := by decide +kernel
theorem dL_law_24 : decode code 24 = .ok (.if_icmp .gt 1322, 3) ∧ 24 + 3 = 27 ∧ ((24 : Nat) : Int) + (1322) = ((1346 : Nat) : Int) := by decide +kernel
theorem dL_law_27 : decode code 27 = .ok (.aload_n 0, 1) ∧ 27 + 1 = 28 := by decide +kernel
theorem dL_law_28 : decode code 28 = .ok (.iload_n 3, 1) ∧ 28 + 1 = 29 := by decide +kernel
theorem dL_law_29 : decode code 29 = .ok (.iaload, 1) ∧ 29 + 1 = 30 := by decide +kernel
theorem dL_law_30 : decode code 30 = .ok (.bipush 63, 2) ∧ 30 + 2 = 32 := by decide +kernel
theorem dL_law_32 : decode code 32 = .ok (.iand, 1) ∧ 32 + 1 = 33 := by decide +kernel
theorem dL_law_33 : decode code 33 = .ok (.tableswitch 1307 0 36 #[163, 216, 249, 292, 335, 358, 391, 414, 437, 450, 473, 496, 529, 562, 575, 598, 621, 644, 677, 710, 743, 777, 811, 844, 867, 900, 913, 946, 959, 972, 1015, 1038, 1071, 1094, 1137, 1210, 1244], 163) := by decide +kernel
theorem dL_law_196 : decode code 196 = .ok (.aload_n 1, 1) ∧ 196 + 1 = 197 := by decide +kernel
theorem dL_law_197 : decode code 197 = .ok (.aload_n 0, 1) ∧ 197 + 1 = 198 := by decide +kernel
theorem dL_law_198 : decode code 198 = .ok (.iload_n 3, 1) ∧ 198 + 1 = 199 := by decide +kernel
theorem dL_law_199 : decode code 199 = .ok (.iconst 1, 1) ∧ 199 + 1 = 200 := by decide +kernel
theorem dL_law_200 : decode code 200 = .ok (.iadd, 1) ∧ 200 + 1 = 201 := by decide +kernel
theorem dL_law_201 : decode code 201 = .ok (.iaload, 1) ∧ 201 + 1 = 202 := by decide +kernel
theorem dL_law_202 : decode code 202 = .ok (.aload_n 0, 1) ∧ 202 + 1 = 203 := by decide +kernel
theorem dL_law_203 : decode code 203 = .ok (.iload_n 3, 1) ∧ 203 + 1 = 204 := by decide +kernel
theorem dL_law_204 : decode code 204 = .ok (.iconst 2, 1) ∧ 204 + 1 = 205 := by decide +kernel
theorem dL_law_205 : decode code 205 = .ok (.iadd, 1) ∧ 205 + 1 = 206 := by decide +kernel
theorem dL_law_206 : decode code 206 = .ok (.iaload, 1) ∧ 206 + 1 = 207 := by decide +kernel
theorem dL_law_207 : decode code 207 = .ok (.aload_n 0, 1) ∧ 207 + 1 = 208 := by decide +kernel
theorem dL_law_208 : decode code 208 = .ok (.iload_n 3, 1) ∧ 208 + 1 = 209 := by decide +kernel
theorem dL_law_209 : decode code 209 = .ok (.iconst 3, 1) ∧ 209 + 1 = 210 := by decide +kernel
theorem dL_law_210 : decode code 210 = .ok (.iadd, 1) ∧ 210 + 1 = 211 := by decide +kernel
theorem dL_law_211 : decode code 211 = .ok (.iaload, 1) ∧ 211 + 1 = 212 := by decide +kernel
theorem dL_law_212 : decode code 212 = .ok (.aload_n 0, 1) ∧ 212 + 1 = 213 := by decide +kernel
theorem dL_law_213 : decode code 213 = .ok (.iload_n 3, 1) ∧ 213 + 1 = 214 := by decide +kernel
theorem dL_law_214 : decode code 214 = .ok (.iconst 4, 1) ∧ 214 + 1 = 215 := by decide +kernel
theorem dL_law_215 : decode code 215 = .ok (.iadd, 1) ∧ 215 + 1 = 216 := by decide +kernel
theorem dL_law_216 : decode code 216 = .ok (.iaload, 1) ∧ 216 + 1 = 217 := by decide +kernel
theorem dL_law_217 : decode code 217 = .ok (.invokevirtual 13, 3) ∧ 217 + 3 = 220 := by decide +kernel
theorem dL_law_220 : decode code 220 = .ok (.aload_n 2, 1) ∧ 220 + 1 = 221 := by decide +kernel
theorem dL_law_221 : decode code 221 = .ok (.aload_n 0, 1) ∧ 221 + 1 = 222 := by decide +kernel
theorem dL_law_222 : decode code 222 = .ok (.iload_n 3, 1) ∧ 222 + 1 = 223 := by decide +kernel
theorem dL_law_223 : decode code 223 = .ok (.iconst 1, 1) ∧ 223 + 1 = 224 := by decide +kernel
theorem dL_law_224 : decode code 224 = .ok (.iadd, 1) ∧ 224 + 1 = 225 := by decide +kernel
theorem dL_law_225 : decode code 225 = .ok (.iaload, 1) ∧ 225 + 1 = 226 := by decide +kernel
theorem dL_law_226 : decode code 226 = .ok (.aload_n 0, 1) ∧ 226 + 1 = 227 := by decide +kernel
theorem dL_law_227 : decode code 227 = .ok (.iload_n 3, 1) ∧ 227 + 1 = 228 := by decide +kernel
theorem dL_law_228 : decode code 228 = .ok (.iconst 2, 1) ∧ 228 + 1 = 229 := by decide +kernel
theorem dL_law_229 : decode code 229 = .ok (.iadd, 1) ∧ 229 + 1 = 230 := by decide +kernel
theorem dL_law_230 : decode code 230 = .ok (.iaload, 1) ∧ 230 + 1 = 231 := by decide +kernel
theorem dL_law_231 : decode code 231 = .ok (.aload_n 0, 1) ∧ 231 + 1 = 232 := by decide +kernel
theorem dL_law_232 : decode code 232 = .ok (.iload_n 3, 1) ∧ 232 + 1 = 233 := by decide +kernel
theorem dL_law_233 : decode code 233 = .ok (.iconst 3, 1) ∧ 233 + 1 = 234 := by decide +kernel
theorem dL_law_234 : decode code 234 = .ok (.iadd, 1) ∧ 234 + 1 = 235 := by decide +kernel
theorem dL_law_235 : decode code 235 = .ok (.iaload, 1) ∧ 235 + 1 = 236 := by decide +kernel
theorem dL_law_236 : decode code 236 = .ok (.aload_n 0, 1) ∧ 236 + 1 = 237 := by decide +kernel
theorem dL_law_237 : decode code 237 = .ok (.iload_n 3, 1) ∧ 237 + 1 = 238 := by decide +kernel
theorem dL_law_238 : decode code 238 = .ok (.iconst 4, 1) ∧ 238 + 1 = 239 := by decide +kernel
theorem dL_law_239 : decode code 239 = .ok (.iadd, 1) ∧ 239 + 1 = 240 := by decide +kernel
theorem dL_law_240 : decode code 240 = .ok (.iaload, 1) ∧ 240 + 1 = 241 := by decide +kernel
theorem dL_law_241 : decode code 241 = .ok (.invokevirtual 17, 3) ∧ 241 + 3 = 244 := by decide +kernel
theorem dL_law_244 : decode code 244 = .ok (.if_icmp .eq 1096, 3) ∧ 244 + 3 = 247 ∧ ((244 : Nat) : Int) + (1096) = ((1340 : Nat) : Int) := by decide +kernel
theorem dL_law_247 : decode code 247 = .ok (.iconst 0, 1) ∧ 247 + 1 = 248 := by decide +kernel
theorem dL_law_248 : decode code 248 = .ok (.ireturn, 1) := by decide +kernel
theorem dL_law_249 : decode code 249 = .ok (.aload_n 1, 1) ∧ 249 + 1 = 250 := by decide +kernel
theorem dL_law_250 : decode code 250 = .ok (.aload_n 0, 1) ∧ 250 + 1 = 251 := by decide +kernel
theorem dL_law_251 : decode code 251 = .ok (.iload_n 3, 1) ∧ 251 + 1 = 252 := by decide +kernel
theorem dL_law_252 : decode code 252 = .ok (.iconst 1, 1) ∧ 252 + 1 = 253 := by decide +kernel
theorem dL_law_253 : decode code 253 = .ok (.iadd, 1) ∧ 253 + 1 = 254 := by decide +kernel
theorem dL_law_254 : decode code 254 = .ok (.iaload, 1) ∧ 254 + 1 = 255 := by decide +kernel
theorem dL_law_255 : decode code 255 = .ok (.aload_n 0, 1) ∧ 255 + 1 = 256 := by decide +kernel
theorem dL_law_256 : decode code 256 = .ok (.iload_n 3, 1) ∧ 256 + 1 = 257 := by decide +kernel
theorem dL_law_257 : decode code 257 = .ok (.iconst 2, 1) ∧ 257 + 1 = 258 := by decide +kernel
theorem dL_law_258 : decode code 258 = .ok (.iadd, 1) ∧ 258 + 1 = 259 := by decide +kernel
theorem dL_law_259 : decode code 259 = .ok (.iaload, 1) ∧ 259 + 1 = 260 := by decide +kernel
theorem dL_law_260 : decode code 260 = .ok (.invokevirtual 18, 3) ∧ 260 + 3 = 263 := by decide +kernel
theorem dL_law_263 : decode code 263 = .ok (.aload_n 2, 1) ∧ 263 + 1 = 264 := by decide +kernel
theorem dL_law_264 : decode code 264 = .ok (.aload_n 0, 1) ∧ 264 + 1 = 265 := by decide +kernel
theorem dL_law_265 : decode code 265 = .ok (.iload_n 3, 1) ∧ 265 + 1 = 266 := by decide +kernel
theorem dL_law_266 : decode code 266 = .ok (.iconst 1, 1) ∧ 266 + 1 = 267 := by decide +kernel
theorem dL_law_267 : decode code 267 = .ok (.iadd, 1) ∧ 267 + 1 = 268 := by decide +kernel
theorem dL_law_268 : decode code 268 = .ok (.iaload, 1) ∧ 268 + 1 = 269 := by decide +kernel
theorem dL_law_269 : decode code 269 = .ok (.aload_n 0, 1) ∧ 269 + 1 = 270 := by decide +kernel
theorem dL_law_270 : decode code 270 = .ok (.iload_n 3, 1) ∧ 270 + 1 = 271 := by decide +kernel
theorem dL_law_271 : decode code 271 = .ok (.iconst 2, 1) ∧ 271 + 1 = 272 := by decide +kernel
theorem dL_law_272 : decode code 272 = .ok (.iadd, 1) ∧ 272 + 1 = 273 := by decide +kernel
theorem dL_law_273 : decode code 273 = .ok (.iaload, 1) ∧ 273 + 1 = 274 := by decide +kernel
theorem dL_law_274 : decode code 274 = .ok (.invokevirtual 22, 3) ∧ 274 + 3 = 277 := by decide +kernel
theorem dL_law_277 : decode code 277 = .ok (.if_icmp .eq 1063, 3) ∧ 277 + 3 = 280 ∧ ((277 : Nat) : Int) + (1063) = ((1340 : Nat) : Int) := by decide +kernel
theorem dL_law_280 : decode code 280 = .ok (.iconst 0, 1) ∧ 280 + 1 = 281 := by decide +kernel
theorem dL_law_281 : decode code 281 = .ok (.ireturn, 1) := by decide +kernel
theorem dL_law_282 : decode code 282 = .ok (.aload_n 1, 1) ∧ 282 + 1 = 283 := by decide +kernel
theorem dL_law_283 : decode code 283 = .ok (.aload_n 0, 1) ∧ 283 + 1 = 284 := by decide +kernel
theorem dL_law_284 : decode code 284 = .ok (.iload_n 3, 1) ∧ 284 + 1 = 285 := by decide +kernel
theorem dL_law_285 : decode code 285 = .ok (.iconst 1, 1) ∧ 285 + 1 = 286 := by decide +kernel
theorem dL_law_286 : decode code 286 = .ok (.iadd, 1) ∧ 286 + 1 = 287 := by decide +kernel
theorem dL_law_287 : decode code 287 = .ok (.iaload, 1) ∧ 287 + 1 = 288 := by decide +kernel
theorem dL_law_288 : decode code 288 = .ok (.aload_n 0, 1) ∧ 288 + 1 = 289 := by decide +kernel
theorem dL_law_289 : decode code 289 = .ok (.iload_n 3, 1) ∧ 289 + 1 = 290 := by decide +kernel
theorem dL_law_290 : decode code 290 = .ok (.iconst 2, 1) ∧ 290 + 1 = 291 := by decide +kernel
theorem dL_law_291 : decode code 291 = .ok (.iadd, 1) ∧ 291 + 1 = 292 := by decide +kernel
theorem dL_law_292 : decode code 292 = .ok (.iaload, 1) ∧ 292 + 1 = 293 := by decide +kernel
theorem dL_law_293 : decode code 293 = .ok (.aload_n 0, 1) ∧ 293 + 1 = 294 := by decide +kernel
theorem dL_law_294 : decode code 294 = .ok (.iload_n 3, 1) ∧ 294 + 1 = 295 := by decide +kernel
theorem dL_law_295 : decode code 295 = .ok (.iconst 3, 1) ∧ 295 + 1 = 296 := by decide +kernel
theorem dL_law_296 : decode code 296 = .ok (.iadd, 1) ∧ 296 + 1 = 297 := by decide +kernel
theorem dL_law_297 : decode code 297 = .ok (.iaload, 1) ∧ 297 + 1 = 298 := by decide +kernel
theorem dL_law_298 : decode code 298 = .ok (.invokevirtual 23, 3) ∧ 298 + 3 = 301 := by decide +kernel
theorem dL_law_301 : decode code 301 = .ok (.aload_n 2, 1) ∧ 301 + 1 = 302 := by decide +kernel
theorem dL_law_302 : decode code 302 = .ok (.aload_n 0, 1) ∧ 302 + 1 = 303 := by decide +kernel
theorem dL_law_303 : decode code 303 = .ok (.iload_n 3, 1) ∧ 303 + 1 = 304 := by decide +kernel
theorem dL_law_304 : decode code 304 = .ok (.iconst 1, 1) ∧ 304 + 1 = 305 := by decide +kernel
theorem dL_law_305 : decode code 305 = .ok (.iadd, 1) ∧ 305 + 1 = 306 := by decide +kernel
theorem dL_law_306 : decode code 306 = .ok (.iaload, 1) ∧ 306 + 1 = 307 := by decide +kernel
theorem dL_law_307 : decode code 307 = .ok (.aload_n 0, 1) ∧ 307 + 1 = 308 := by decide +kernel
theorem dL_law_308 : decode code 308 = .ok (.iload_n 3, 1) ∧ 308 + 1 = 309 := by decide +kernel
theorem dL_law_309 : decode code 309 = .ok (.iconst 2, 1) ∧ 309 + 1 = 310 := by decide +kernel
theorem dL_law_310 : decode code 310 = .ok (.iadd, 1) ∧ 310 + 1 = 311 := by decide +kernel
theorem dL_law_311 : decode code 311 = .ok (.iaload, 1) ∧ 311 + 1 = 312 := by decide +kernel
theorem dL_law_312 : decode code 312 = .ok (.aload_n 0, 1) ∧ 312 + 1 = 313 := by decide +kernel
theorem dL_law_313 : decode code 313 = .ok (.iload_n 3, 1) ∧ 313 + 1 = 314 := by decide +kernel
theorem dL_law_314 : decode code 314 = .ok (.iconst 3, 1) ∧ 314 + 1 = 315 := by decide +kernel
theorem dL_law_315 : decode code 315 = .ok (.iadd, 1) ∧ 315 + 1 = 316 := by decide +kernel
theorem dL_law_316 : decode code 316 = .ok (.iaload, 1) ∧ 316 + 1 = 317 := by decide +kernel
theorem dL_law_317 : decode code 317 = .ok (.invokevirtual 27, 3) ∧ 317 + 3 = 320 := by decide +kernel
theorem dL_law_320 : decode code 320 = .ok (.if_icmp .eq 1020, 3) ∧ 320 + 3 = 323 ∧ ((320 : Nat) : Int) + (1020) = ((1340 : Nat) : Int) := by decide +kernel
theorem dL_law_323 : decode code 323 = .ok (.iconst 0, 1) ∧ 323 + 1 = 324 := by decide +kernel
theorem dL_law_324 : decode code 324 = .ok (.ireturn, 1) := by decide +kernel
theorem dL_law_325 : decode code 325 = .ok (.aload_n 1, 1) ∧ 325 + 1 = 326 := by decide +kernel
theorem dL_law_326 : decode code 326 = .ok (.aload_n 0, 1) ∧ 326 + 1 = 327 := by decide +kernel
theorem dL_law_327 : decode code 327 = .ok (.iload_n 3, 1) ∧ 327 + 1 = 328 := by decide +kernel
theorem dL_law_328 : decode code 328 = .ok (.iconst 1, 1) ∧ 328 + 1 = 329 := by decide +kernel
theorem dL_law_329 : decode code 329 = .ok (.iadd, 1) ∧ 329 + 1 = 330 := by decide +kernel
theorem dL_law_330 : decode code 330 = .ok (.iaload, 1) ∧ 330 + 1 = 331 := by decide +kernel
theorem dL_law_331 : decode code 331 = .ok (.aload_n 0, 1) ∧ 331 + 1 = 332 := by decide +kernel
theorem dL_law_332 : decode code 332 = .ok (.iload_n 3, 1) ∧ 332 + 1 = 333 := by decide +kernel
theorem dL_law_333 : decode code 333 = .ok (.iconst 2, 1) ∧ 333 + 1 = 334 := by decide +kernel
theorem dL_law_334 : decode code 334 = .ok (.iadd, 1) ∧ 334 + 1 = 335 := by decide +kernel
theorem dL_law_335 : decode code 335 = .ok (.iaload, 1) ∧ 335 + 1 = 336 := by decide +kernel
theorem dL_law_336 : decode code 336 = .ok (.aload_n 0, 1) ∧ 336 + 1 = 337 := by decide +kernel
theorem dL_law_337 : decode code 337 = .ok (.iload_n 3, 1) ∧ 337 + 1 = 338 := by decide +kernel
theorem dL_law_338 : decode code 338 = .ok (.iconst 3, 1) ∧ 338 + 1 = 339 := by decide +kernel
theorem dL_law_339 : decode code 339 = .ok (.iadd, 1) ∧ 339 + 1 = 340 := by decide +kernel
theorem dL_law_340 : decode code 340 = .ok (.iaload, 1) ∧ 340 + 1 = 341 := by decide +kernel
theorem dL_law_341 : decode code 341 = .ok (.invokevirtual 28, 3) ∧ 341 + 3 = 344 := by decide +kernel
theorem dL_law_344 : decode code 344 = .ok (.aload_n 2, 1) ∧ 344 + 1 = 345 := by decide +kernel
theorem dL_law_345 : decode code 345 = .ok (.aload_n 0, 1) ∧ 345 + 1 = 346 := by decide +kernel
theorem dL_law_346 : decode code 346 = .ok (.iload_n 3, 1) ∧ 346 + 1 = 347 := by decide +kernel
theorem dL_law_347 : decode code 347 = .ok (.iconst 1, 1) ∧ 347 + 1 = 348 := by decide +kernel
theorem dL_law_348 : decode code 348 = .ok (.iadd, 1) ∧ 348 + 1 = 349 := by decide +kernel
theorem dL_law_349 : decode code 349 = .ok (.iaload, 1) ∧ 349 + 1 = 350 := by decide +kernel
theorem dL_law_350 : decode code 350 = .ok (.aload_n 0, 1) ∧ 350 + 1 = 351 := by decide +kernel
theorem dL_law_351 : decode code 351 = .ok (.iload_n 3, 1) ∧ 351 + 1 = 352 := by decide +kernel
theorem dL_law_352 : decode code 352 = .ok (.iconst 2, 1) ∧ 352 + 1 = 353 := by decide +kernel
theorem dL_law_353 : decode code 353 = .ok (.iadd, 1) ∧ 353 + 1 = 354 := by decide +kernel
theorem dL_law_354 : decode code 354 = .ok (.iaload, 1) ∧ 354 + 1 = 355 := by decide +kernel
theorem dL_law_355 : decode code 355 = .ok (.aload_n 0, 1) ∧ 355 + 1 = 356 := by decide +kernel
theorem dL_law_356 : decode code 356 = .ok (.iload_n 3, 1) ∧ 356 + 1 = 357 := by decide +kernel
theorem dL_law_357 : decode code 357 = .ok (.iconst 3, 1) ∧ 357 + 1 = 358 := by decide +kernel
theorem dL_law_358 : decode code 358 = .ok (.iadd, 1) ∧ 358 + 1 = 359 := by decide +kernel
theorem dL_law_359 : decode code 359 = .ok (.iaload, 1) ∧ 359 + 1 = 360 := by decide +kernel
theorem dL_law_360 : decode code 360 = .ok (.invokevirtual 31, 3) ∧ 360 + 3 = 363 := by decide +kernel
theorem dL_law_363 : decode code 363 = .ok (.if_icmp .eq 977, 3) ∧ 363 + 3 = 366 ∧ ((363 : Nat) : Int) + (977) = ((1340 : Nat) : Int) := by decide +kernel
theorem dL_law_366 : decode code 366 = .ok (.iconst 0, 1) ∧ 366 + 1 = 367 := by decide +kernel
theorem dL_law_367 : decode code 367 = .ok (.ireturn, 1) := by decide +kernel
theorem dL_law_368 : decode code 368 = .ok (.aload_n 1, 1) ∧ 368 + 1 = 369 := by decide +kernel
theorem dL_law_369 : decode code 369 = .ok (.aload_n 0, 1) ∧ 369 + 1 = 370 := by decide +kernel
theorem dL_law_370 : decode code 370 = .ok (.iload_n 3, 1) ∧ 370 + 1 = 371 := by decide +kernel
theorem dL_law_371 : decode code 371 = .ok (.iconst 1, 1) ∧ 371 + 1 = 372 := by decide +kernel
theorem dL_law_372 : decode code 372 = .ok (.iadd, 1) ∧ 372 + 1 = 373 := by decide +kernel
theorem dL_law_373 : decode code 373 = .ok (.iaload, 1) ∧ 373 + 1 = 374 := by decide +kernel
theorem dL_law_374 : decode code 374 = .ok (.invokevirtual 32, 3) ∧ 374 + 3 = 377 := by decide +kernel
theorem dL_law_377 : decode code 377 = .ok (.aload_n 2, 1) ∧ 377 + 1 = 378 := by decide +kernel
theorem dL_law_378 : decode code 378 = .ok (.aload_n 0, 1) ∧ 378 + 1 = 379 := by decide +kernel
theorem dL_law_379 : decode code 379 = .ok (.iload_n 3, 1) ∧ 379 + 1 = 380 := by decide +kernel
theorem dL_law_380 : decode code 380 = .ok (.iconst 1, 1) ∧ 380 + 1 = 381 := by decide +kernel
theorem dL_law_381 : decode code 381 = .ok (.iadd, 1) ∧ 381 + 1 = 382 := by decide +kernel
theorem dL_law_382 : decode code 382 = .ok (.iaload, 1) ∧ 382 + 1 = 383 := by decide +kernel
theorem dL_law_383 : decode code 383 = .ok (.invokevirtual 36, 3) ∧ 383 + 3 = 386 := by decide +kernel
theorem dL_law_386 : decode code 386 = .ok (.if_icmp .eq 954, 3) ∧ 386 + 3 = 389 ∧ ((386 : Nat) : Int) + (954) = ((1340 : Nat) : Int) := by decide +kernel
theorem dL_law_389 : decode code 389 = .ok (.iconst 0, 1) ∧ 389 + 1 = 390 := by decide +kernel
theorem dL_law_390 : decode code 390 = .ok (.ireturn, 1) := by decide +kernel
theorem dL_law_391 : decode code 391 = .ok (.aload_n 1, 1) ∧ 391 + 1 = 392 := by decide +kernel
theorem dL_law_392 : decode code 392 = .ok (.aload_n 0, 1) ∧ 392 + 1 = 393 := by decide +kernel
theorem dL_law_393 : decode code 393 = .ok (.iload_n 3, 1) ∧ 393 + 1 = 394 := by decide +kernel
theorem dL_law_394 : decode code 394 = .ok (.iconst 1, 1) ∧ 394 + 1 = 395 := by decide +kernel
theorem dL_law_395 : decode code 395 = .ok (.iadd, 1) ∧ 395 + 1 = 396 := by decide +kernel
theorem dL_law_396 : decode code 396 = .ok (.iaload, 1) ∧ 396 + 1 = 397 := by decide +kernel
theorem dL_law_397 : decode code 397 = .ok (.aload_n 0, 1) ∧ 397 + 1 = 398 := by decide +kernel
theorem dL_law_398 : decode code 398 = .ok (.iload_n 3, 1) ∧ 398 + 1 = 399 := by decide +kernel
theorem dL_law_399 : decode code 399 = .ok (.iconst 2, 1) ∧ 399 + 1 = 400 := by decide +kernel
theorem dL_law_400 : decode code 400 = .ok (.iadd, 1) ∧ 400 + 1 = 401 := by decide +kernel
theorem dL_law_401 : decode code 401 = .ok (.iaload, 1) ∧ 401 + 1 = 402 := by decide +kernel
theorem dL_law_402 : decode code 402 = .ok (.invokevirtual 37, 3) ∧ 402 + 3 = 405 := by decide +kernel
theorem dL_law_405 : decode code 405 = .ok (.aload_n 2, 1) ∧ 405 + 1 = 406 := by decide +kernel
theorem dL_law_406 : decode code 406 = .ok (.aload_n 0, 1) ∧ 406 + 1 = 407 := by decide +kernel
theorem dL_law_407 : decode code 407 = .ok (.iload_n 3, 1) ∧ 407 + 1 = 408 := by decide +kernel
theorem dL_law_408 : decode code 408 = .ok (.iconst 1, 1) ∧ 408 + 1 = 409 := by decide +kernel
theorem dL_law_409 : decode code 409 = .ok (.iadd, 1) ∧ 409 + 1 = 410 := by decide +kernel
theorem dL_law_410 : decode code 410 = .ok (.iaload, 1) ∧ 410 + 1 = 411 := by decide +kernel
theorem dL_law_411 : decode code 411 = .ok (.aload_n 0, 1) ∧ 411 + 1 = 412 := by decide +kernel
theorem dL_law_412 : decode code 412 = .ok (.iload_n 3, 1) ∧ 412 + 1 = 413 := by decide +kernel
theorem dL_law_413 : decode code 413 = .ok (.iconst 2, 1) ∧ 413 + 1 = 414 := by decide +kernel
theorem dL_law_414 : decode code 414 = .ok (.iadd, 1) ∧ 414 + 1 = 415 := by decide +kernel
theorem dL_law_415 : decode code 415 = .ok (.iaload, 1) ∧ 415 + 1 = 416 := by decide +kernel
theorem dL_law_416 : decode code 416 = .ok (.invokevirtual 40, 3) ∧ 416 + 3 = 419 := by decide +kernel
theorem dL_law_419 : decode code 419 = .ok (.if_icmp .eq 921, 3) ∧ 419 + 3 = 422 ∧ ((419 : Nat) : Int) + (921) = ((1340 : Nat) : Int) := by decide +kernel
theorem dL_law_422 : decode code 422 = .ok (.iconst 0, 1) ∧ 422 + 1 = 423 := by decide +kernel
theorem dL_law_423 : decode code 423 = .ok (.ireturn, 1) := by decide +kernel
theorem dL_law_424 : decode code 424 = .ok (.aload_n 1, 1) ∧ 424 + 1 = 425 := by decide +kernel
theorem dL_law_425 : decode code 425 = .ok (.aload_n 0, 1) ∧ 425 + 1 = 426 := by decide +kernel
theorem dL_law_426 : decode code 426 = .ok (.iload_n 3, 1) ∧ 426 + 1 = 427 := by decide +kernel
theorem dL_law_427 : decode code 427 = .ok (.iconst 1, 1) ∧ 427 + 1 = 428 := by decide +kernel
theorem dL_law_428 : decode code 428 = .ok (.iadd, 1) ∧ 428 + 1 = 429 := by decide +kernel
theorem dL_law_429 : decode code 429 = .ok (.iaload, 1) ∧ 429 + 1 = 430 := by decide +kernel
theorem dL_law_430 : decode code 430 = .ok (.invokevirtual 41, 3) ∧ 430 + 3 = 433 := by decide +kernel
theorem dL_law_433 : decode code 433 = .ok (.aload_n 2, 1) ∧ 433 + 1 = 434 := by decide +kernel
theorem dL_law_434 : decode code 434 = .ok (.aload_n 0, 1) ∧ 434 + 1 = 435 := by decide +kernel
theorem dL_law_435 : decode code 435 = .ok (.iload_n 3, 1) ∧ 435 + 1 = 436 := by decide +kernel
theorem dL_law_436 : decode code 436 = .ok (.iconst 1, 1) ∧ 436 + 1 = 437 := by decide +kernel
theorem dL_law_437 : decode code 437 = .ok (.iadd, 1) ∧ 437 + 1 = 438 := by decide +kernel
theorem dL_law_438 : decode code 438 = .ok (.iaload, 1) ∧ 438 + 1 = 439 := by decide +kernel
theorem dL_law_439 : decode code 439 = .ok (.invokevirtual 44, 3) ∧ 439 + 3 = 442 := by decide +kernel
theorem dL_law_442 : decode code 442 = .ok (.if_icmp .eq 898, 3) ∧ 442 + 3 = 445 ∧ ((442 : Nat) : Int) + (898) = ((1340 : Nat) : Int) := by decide +kernel
theorem dL_law_445 : decode code 445 = .ok (.iconst 0, 1) ∧ 445 + 1 = 446 := by decide +kernel
theorem dL_law_446 : decode code 446 = .ok (.ireturn, 1) := by decide +kernel
theorem dL_law_447 : decode code 447 = .ok (.aload_n 1, 1) ∧ 447 + 1 = 448 := by decide +kernel
theorem dL_law_448 : decode code 448 = .ok (.aload_n 0, 1) ∧ 448 + 1 = 449 := by decide +kernel
theorem dL_law_449 : decode code 449 = .ok (.iload_n 3, 1) ∧ 449 + 1 = 450 := by decide +kernel
theorem dL_law_450 : decode code 450 = .ok (.iconst 1, 1) ∧ 450 + 1 = 451 := by decide +kernel
theorem dL_law_451 : decode code 451 = .ok (.iadd, 1) ∧ 451 + 1 = 452 := by decide +kernel
theorem dL_law_452 : decode code 452 = .ok (.iaload, 1) ∧ 452 + 1 = 453 := by decide +kernel
theorem dL_law_453 : decode code 453 = .ok (.invokevirtual 45, 3) ∧ 453 + 3 = 456 := by decide +kernel
theorem dL_law_456 : decode code 456 = .ok (.aload_n 2, 1) ∧ 456 + 1 = 457 := by decide +kernel
theorem dL_law_457 : decode code 457 = .ok (.aload_n 0, 1) ∧ 457 + 1 = 458 := by decide +kernel
theorem dL_law_458 : decode code 458 = .ok (.iload_n 3, 1) ∧ 458 + 1 = 459 := by decide +kernel
theorem dL_law_459 : decode code 459 = .ok (.iconst 1, 1) ∧ 459 + 1 = 460 := by decide +kernel
theorem dL_law_460 : decode code 460 = .ok (.iadd, 1) ∧ 460 + 1 = 461 := by decide +kernel
theorem dL_law_461 : decode code 461 = .ok (.iaload, 1) ∧ 461 + 1 = 462 := by decide +kernel
theorem dL_law_462 : decode code 462 = .ok (.invokevirtual 48, 3) ∧ 462 + 3 = 465 := by decide +kernel
theorem dL_law_465 : decode code 465 = .ok (.if_icmp .eq 875, 3) ∧ 465 + 3 = 468 ∧ ((465 : Nat) : Int) + (875) = ((1340 : Nat) : Int) := by decide +kernel
theorem dL_law_468 : decode code 468 = .ok (.iconst 0, 1) ∧ 468 + 1 = 469 := by decide +kernel
theorem dL_law_469 : decode code 469 = .ok (.ireturn, 1) := by decide +kernel
theorem dL_law_470 : decode code 470 = .ok (.aload_n 1, 1) ∧ 470 + 1 = 471 := by decide +kernel
theorem dL_law_471 : decode code 471 = .ok (.invokevirtual 49, 3) ∧ 471 + 3 = 474 := by decide +kernel
theorem dL_law_474 : decode code 474 = .ok (.aload_n 2, 1) ∧ 474 + 1 = 475 := by decide +kernel
theorem dL_law_475 : decode code 475 = .ok (.invokevirtual 53, 3) ∧ 475 + 3 = 478 := by decide +kernel
theorem dL_law_478 : decode code 478 = .ok (.if_icmp .eq 862, 3) ∧ 478 + 3 = 481 ∧ ((478 : Nat) : Int) + (862) = ((1340 : Nat) : Int) := by decide +kernel
theorem dL_law_481 : decode code 481 = .ok (.iconst 0, 1) ∧ 481 + 1 = 482 := by decide +kernel
theorem dL_law_482 : decode code 482 = .ok (.ireturn, 1) := by decide +kernel
theorem dL_law_483 : decode code 483 = .ok (.aload_n 1, 1) ∧ 483 + 1 = 484 := by decide +kernel
theorem dL_law_484 : decode code 484 = .ok (.aload_n 0, 1) ∧ 484 + 1 = 485 := by decide +kernel
theorem dL_law_485 : decode code 485 = .ok (.iload_n 3, 1) ∧ 485 + 1 = 486 := by decide +kernel
theorem dL_law_486 : decode code 486 = .ok (.iconst 1, 1) ∧ 486 + 1 = 487 := by decide +kernel
theorem dL_law_487 : decode code 487 = .ok (.iadd, 1) ∧ 487 + 1 = 488 := by decide +kernel
theorem dL_law_488 : decode code 488 = .ok (.iaload, 1) ∧ 488 + 1 = 489 := by decide +kernel
theorem dL_law_489 : decode code 489 = .ok (.invokevirtual 54, 3) ∧ 489 + 3 = 492 := by decide +kernel
theorem dL_law_492 : decode code 492 = .ok (.aload_n 2, 1) ∧ 492 + 1 = 493 := by decide +kernel
theorem dL_law_493 : decode code 493 = .ok (.aload_n 0, 1) ∧ 493 + 1 = 494 := by decide +kernel
theorem dL_law_494 : decode code 494 = .ok (.iload_n 3, 1) ∧ 494 + 1 = 495 := by decide +kernel
theorem dL_law_495 : decode code 495 = .ok (.iconst 1, 1) ∧ 495 + 1 = 496 := by decide +kernel
theorem dL_law_496 : decode code 496 = .ok (.iadd, 1) ∧ 496 + 1 = 497 := by decide +kernel
theorem dL_law_497 : decode code 497 = .ok (.iaload, 1) ∧ 497 + 1 = 498 := by decide +kernel
theorem dL_law_498 : decode code 498 = .ok (.invokevirtual 57, 3) ∧ 498 + 3 = 501 := by decide +kernel
theorem dL_law_501 : decode code 501 = .ok (.if_icmp .eq 839, 3) ∧ 501 + 3 = 504 ∧ ((501 : Nat) : Int) + (839) = ((1340 : Nat) : Int) := by decide +kernel
theorem dL_law_504 : decode code 504 = .ok (.iconst 0, 1) ∧ 504 + 1 = 505 := by decide +kernel
theorem dL_law_505 : decode code 505 = .ok (.ireturn, 1) := by decide +kernel
theorem dL_law_506 : decode code 506 = .ok (.aload_n 1, 1) ∧ 506 + 1 = 507 := by decide +kernel
theorem dL_law_507 : decode code 507 = .ok (.aload_n 0, 1) ∧ 507 + 1 = 508 := by decide +kernel
theorem dL_law_508 : decode code 508 = .ok (.iload_n 3, 1) ∧ 508 + 1 = 509 := by decide +kernel
theorem dL_law_509 : decode code 509 = .ok (.iconst 1, 1) ∧ 509 + 1 = 510 := by decide +kernel
theorem dL_law_510 : decode code 510 = .ok (.iadd, 1) ∧ 510 + 1 = 511 := by decide +kernel
theorem dL_law_511 : decode code 511 = .ok (.iaload, 1) ∧ 511 + 1 = 512 := by decide +kernel
theorem dL_law_512 : decode code 512 = .ok (.invokevirtual 58, 3) ∧ 512 + 3 = 515 := by decide +kernel
theorem dL_law_515 : decode code 515 = .ok (.aload_n 2, 1) ∧ 515 + 1 = 516 := by decide +kernel
theorem dL_law_516 : decode code 516 = .ok (.aload_n 0, 1) ∧ 516 + 1 = 517 := by decide +kernel
theorem dL_law_517 : decode code 517 = .ok (.iload_n 3, 1) ∧ 517 + 1 = 518 := by decide +kernel
theorem dL_law_518 : decode code 518 = .ok (.iconst 1, 1) ∧ 518 + 1 = 519 := by decide +kernel
theorem dL_law_519 : decode code 519 = .ok (.iadd, 1) ∧ 519 + 1 = 520 := by decide +kernel
theorem dL_law_520 : decode code 520 = .ok (.iaload, 1) ∧ 520 + 1 = 521 := by decide +kernel
theorem dL_law_521 : decode code 521 = .ok (.invokevirtual 61, 3) ∧ 521 + 3 = 524 := by decide +kernel
theorem dL_law_524 : decode code 524 = .ok (.if_icmp .eq 816, 3) ∧ 524 + 3 = 527 ∧ ((524 : Nat) : Int) + (816) = ((1340 : Nat) : Int) := by decide +kernel
theorem dL_law_527 : decode code 527 = .ok (.iconst 0, 1) ∧ 527 + 1 = 528 := by decide +kernel
theorem dL_law_528 : decode code 528 = .ok (.ireturn, 1) := by decide +kernel
theorem dL_law_529 : decode code 529 = .ok (.aload_n 1, 1) ∧ 529 + 1 = 530 := by decide +kernel
theorem dL_law_530 : decode code 530 = .ok (.aload_n 0, 1) ∧ 530 + 1 = 531 := by decide +kernel
theorem dL_law_531 : decode code 531 = .ok (.iload_n 3, 1) ∧ 531 + 1 = 532 := by decide +kernel
theorem dL_law_532 : decode code 532 = .ok (.iconst 1, 1) ∧ 532 + 1 = 533 := by decide +kernel
theorem dL_law_533 : decode code 533 = .ok (.iadd, 1) ∧ 533 + 1 = 534 := by decide +kernel
theorem dL_law_534 : decode code 534 = .ok (.iaload, 1) ∧ 534 + 1 = 535 := by decide +kernel
theorem dL_law_535 : decode code 535 = .ok (.aload_n 0, 1) ∧ 535 + 1 = 536 := by decide +kernel
theorem dL_law_536 : decode code 536 = .ok (.iload_n 3, 1) ∧ 536 + 1 = 537 := by decide +kernel
theorem dL_law_537 : decode code 537 = .ok (.iconst 2, 1) ∧ 537 + 1 = 538 := by decide +kernel
theorem dL_law_538 : decode code 538 = .ok (.iadd, 1) ∧ 538 + 1 = 539 := by decide +kernel
theorem dL_law_539 : decode code 539 = .ok (.iaload, 1) ∧ 539 + 1 = 540 := by decide +kernel
theorem dL_law_540 : decode code 540 = .ok (.invokevirtual 62, 3) ∧ 540 + 3 = 543 := by decide +kernel
theorem dL_law_543 : decode code 543 = .ok (.aload_n 2, 1) ∧ 543 + 1 = 544 := by decide +kernel
theorem dL_law_544 : decode code 544 = .ok (.aload_n 0, 1) ∧ 544 + 1 = 545 := by decide +kernel
theorem dL_law_545 : decode code 545 = .ok (.iload_n 3, 1) ∧ 545 + 1 = 546 := by decide +kernel
theorem dL_law_546 : decode code 546 = .ok (.iconst 1, 1) ∧ 546 + 1 = 547 := by decide +kernel
theorem dL_law_547 : decode code 547 = .ok (.iadd, 1) ∧ 547 + 1 = 548 := by decide +kernel
theorem dL_law_548 : decode code 548 = .ok (.iaload, 1) ∧ 548 + 1 = 549 := by decide +kernel
theorem dL_law_549 : decode code 549 = .ok (.aload_n 0, 1) ∧ 549 + 1 = 550 := by decide +kernel
theorem dL_law_550 : decode code 550 = .ok (.iload_n 3, 1) ∧ 550 + 1 = 551 := by decide +kernel
theorem dL_law_551 : decode code 551 = .ok (.iconst 2, 1) ∧ 551 + 1 = 552 := by decide +kernel
theorem dL_law_552 : decode code 552 = .ok (.iadd, 1) ∧ 552 + 1 = 553 := by decide +kernel
theorem dL_law_553 : decode code 553 = .ok (.iaload, 1) ∧ 553 + 1 = 554 := by decide +kernel
theorem dL_law_554 : decode code 554 = .ok (.invokevirtual 65, 3) ∧ 554 + 3 = 557 := by decide +kernel
theorem dL_law_557 : decode code 557 = .ok (.if_icmp .eq 783, 3) ∧ 557 + 3 = 560 ∧ ((557 : Nat) : Int) + (783) = ((1340 : Nat) : Int) := by decide +kernel
theorem dL_law_560 : decode code 560 = .ok (.iconst 0, 1) ∧ 560 + 1 = 561 := by decide +kernel
theorem dL_law_561 : decode code 561 = .ok (.ireturn, 1) := by decide +kernel
theorem dL_law_562 : decode code 562 = .ok (.aload_n 1, 1) ∧ 562 + 1 = 563 := by decide +kernel
theorem dL_law_563 : decode code 563 = .ok (.aload_n 0, 1) ∧ 563 + 1 = 564 := by decide +kernel
theorem dL_law_564 : decode code 564 = .ok (.iload_n 3, 1) ∧ 564 + 1 = 565 := by decide +kernel
theorem dL_law_565 : decode code 565 = .ok (.iconst 1, 1) ∧ 565 + 1 = 566 := by decide +kernel
theorem dL_law_566 : decode code 566 = .ok (.iadd, 1) ∧ 566 + 1 = 567 := by decide +kernel
theorem dL_law_567 : decode code 567 = .ok (.iaload, 1) ∧ 567 + 1 = 568 := by decide +kernel
theorem dL_law_568 : decode code 568 = .ok (.aload_n 0, 1) ∧ 568 + 1 = 569 := by decide +kernel
theorem dL_law_569 : decode code 569 = .ok (.iload_n 3, 1) ∧ 569 + 1 = 570 := by decide +kernel
theorem dL_law_570 : decode code 570 = .ok (.iconst 2, 1) ∧ 570 + 1 = 571 := by decide +kernel
theorem dL_law_571 : decode code 571 = .ok (.iadd, 1) ∧ 571 + 1 = 572 := by decide +kernel
theorem dL_law_572 : decode code 572 = .ok (.iaload, 1) ∧ 572 + 1 = 573 := by decide +kernel
theorem dL_law_573 : decode code 573 = .ok (.invokevirtual 66, 3) ∧ 573 + 3 = 576 := by decide +kernel
theorem dL_law_576 : decode code 576 = .ok (.aload_n 2, 1) ∧ 576 + 1 = 577 := by decide +kernel
theorem dL_law_577 : decode code 577 = .ok (.aload_n 0, 1) ∧ 577 + 1 = 578 := by decide +kernel
theorem dL_law_578 : decode code 578 = .ok (.iload_n 3, 1) ∧ 578 + 1 = 579 := by decide +kernel
theorem dL_law_579 : decode code 579 = .ok (.iconst 1, 1) ∧ 579 + 1 = 580 := by decide +kernel
theorem dL_law_580 : decode code 580 = .ok (.iadd, 1) ∧ 580 + 1 = 581 := by decide +kernel
theorem dL_law_581 : decode code 581 = .ok (.iaload, 1) ∧ 581 + 1 = 582 := by decide +kernel
theorem dL_law_582 : decode code 582 = .ok (.aload_n 0, 1) ∧ 582 + 1 = 583 := by decide +kernel
theorem dL_law_583 : decode code 583 = .ok (.iload_n 3, 1) ∧ 583 + 1 = 584 := by decide +kernel
theorem dL_law_584 : decode code 584 = .ok (.iconst 2, 1) ∧ 584 + 1 = 585 := by decide +kernel
theorem dL_law_585 : decode code 585 = .ok (.iadd, 1) ∧ 585 + 1 = 586 := by decide +kernel
theorem dL_law_586 : decode code 586 = .ok (.iaload, 1) ∧ 586 + 1 = 587 := by decide +kernel
theorem dL_law_587 : decode code 587 = .ok (.invokevirtual 69, 3) ∧ 587 + 3 = 590 := by decide +kernel
theorem dL_law_590 : decode code 590 = .ok (.if_icmp .eq 750, 3) ∧ 590 + 3 = 593 ∧ ((590 : Nat) : Int) + (750) = ((1340 : Nat) : Int) := by decide +kernel
theorem dL_law_593 : decode code 593 = .ok (.iconst 0, 1) ∧ 593 + 1 = 594 := by decide +kernel
theorem dL_law_594 : decode code 594 = .ok (.ireturn, 1) := by decide +kernel
theorem dL_law_595 : decode code 595 = .ok (.aload_n 1, 1) ∧ 595 + 1 = 596 := by decide +kernel
theorem dL_law_596 : decode code 596 = .ok (.invokevirtual 70, 3) ∧ 596 + 3 = 599 := by decide +kernel
theorem dL_law_599 : decode code 599 = .ok (.aload_n 2, 1) ∧ 599 + 1 = 600 := by decide +kernel
theorem dL_law_600 : decode code 600 = .ok (.invokevirtual 73, 3) ∧ 600 + 3 = 603 := by decide +kernel
theorem dL_law_603 : decode code 603 = .ok (.if_icmp .eq 737, 3) ∧ 603 + 3 = 606 ∧ ((603 : Nat) : Int) + (737) = ((1340 : Nat) : Int) := by decide +kernel
theorem dL_law_606 : decode code 606 = .ok (.iconst 0, 1) ∧ 606 + 1 = 607 := by decide +kernel
theorem dL_law_607 : decode code 607 = .ok (.ireturn, 1) := by decide +kernel
theorem dL_law_608 : decode code 608 = .ok (.aload_n 1, 1) ∧ 608 + 1 = 609 := by decide +kernel
theorem dL_law_609 : decode code 609 = .ok (.aload_n 0, 1) ∧ 609 + 1 = 610 := by decide +kernel
theorem dL_law_610 : decode code 610 = .ok (.iload_n 3, 1) ∧ 610 + 1 = 611 := by decide +kernel
theorem dL_law_611 : decode code 611 = .ok (.iconst 1, 1) ∧ 611 + 1 = 612 := by decide +kernel
theorem dL_law_612 : decode code 612 = .ok (.iadd, 1) ∧ 612 + 1 = 613 := by decide +kernel
theorem dL_law_613 : decode code 613 = .ok (.iaload, 1) ∧ 613 + 1 = 614 := by decide +kernel
theorem dL_law_614 : decode code 614 = .ok (.invokevirtual 74, 3) ∧ 614 + 3 = 617 := by decide +kernel
theorem dL_law_617 : decode code 617 = .ok (.aload_n 2, 1) ∧ 617 + 1 = 618 := by decide +kernel
theorem dL_law_618 : decode code 618 = .ok (.aload_n 0, 1) ∧ 618 + 1 = 619 := by decide +kernel
theorem dL_law_619 : decode code 619 = .ok (.iload_n 3, 1) ∧ 619 + 1 = 620 := by decide +kernel
theorem dL_law_620 : decode code 620 = .ok (.iconst 1, 1) ∧ 620 + 1 = 621 := by decide +kernel
theorem dL_law_621 : decode code 621 = .ok (.iadd, 1) ∧ 621 + 1 = 622 := by decide +kernel
theorem dL_law_622 : decode code 622 = .ok (.iaload, 1) ∧ 622 + 1 = 623 := by decide +kernel
theorem dL_law_623 : decode code 623 = .ok (.invokevirtual 77, 3) ∧ 623 + 3 = 626 := by decide +kernel
theorem dL_law_626 : decode code 626 = .ok (.if_icmp .eq 714, 3) ∧ 626 + 3 = 629 ∧ ((626 : Nat) : Int) + (714) = ((1340 : Nat) : Int) := by decide +kernel
theorem dL_law_629 : decode code 629 = .ok (.iconst 0, 1) ∧ 629 + 1 = 630 := by decide +kernel
theorem dL_law_630 : decode code 630 = .ok (.ireturn, 1) := by decide +kernel
theorem dL_law_631 : decode code 631 = .ok (.aload_n 1, 1) ∧ 631 + 1 = 632 := by decide +kernel
theorem dL_law_632 : decode code 632 = .ok (.aload_n 0, 1) ∧ 632 + 1 = 633 := by decide +kernel
theorem dL_law_633 : decode code 633 = .ok (.iload_n 3, 1) ∧ 633 + 1 = 634 := by decide +kernel
theorem dL_law_634 : decode code 634 = .ok (.iconst 1, 1) ∧ 634 + 1 = 635 := by decide +kernel
theorem dL_law_635 : decode code 635 = .ok (.iadd, 1) ∧ 635 + 1 = 636 := by decide +kernel
theorem dL_law_636 : decode code 636 = .ok (.iaload, 1) ∧ 636 + 1 = 637 := by decide +kernel
theorem dL_law_637 : decode code 637 = .ok (.invokevirtual 78, 3) ∧ 637 + 3 = 640 := by decide +kernel
theorem dL_law_640 : decode code 640 = .ok (.aload_n 2, 1) ∧ 640 + 1 = 641 := by decide +kernel
theorem dL_law_641 : decode code 641 = .ok (.aload_n 0, 1) ∧ 641 + 1 = 642 := by decide +kernel
theorem dL_law_642 : decode code 642 = .ok (.iload_n 3, 1) ∧ 642 + 1 = 643 := by decide +kernel
theorem dL_law_643 : decode code 643 = .ok (.iconst 1, 1) ∧ 643 + 1 = 644 := by decide +kernel
theorem dL_law_644 : decode code 644 = .ok (.iadd, 1) ∧ 644 + 1 = 645 := by decide +kernel
theorem dL_law_645 : decode code 645 = .ok (.iaload, 1) ∧ 645 + 1 = 646 := by decide +kernel
theorem dL_law_646 : decode code 646 = .ok (.invokevirtual 81, 3) ∧ 646 + 3 = 649 := by decide +kernel
theorem dL_law_649 : decode code 649 = .ok (.if_icmp .eq 691, 3) ∧ 649 + 3 = 652 ∧ ((649 : Nat) : Int) + (691) = ((1340 : Nat) : Int) := by decide +kernel
theorem dL_law_652 : decode code 652 = .ok (.iconst 0, 1) ∧ 652 + 1 = 653 := by decide +kernel
theorem dL_law_653 : decode code 653 = .ok (.ireturn, 1) := by decide +kernel
theorem dL_law_654 : decode code 654 = .ok (.aload_n 1, 1) ∧ 654 + 1 = 655 := by decide +kernel
theorem dL_law_655 : decode code 655 = .ok (.aload_n 0, 1) ∧ 655 + 1 = 656 := by decide +kernel
theorem dL_law_656 : decode code 656 = .ok (.iload_n 3, 1) ∧ 656 + 1 = 657 := by decide +kernel
theorem dL_law_657 : decode code 657 = .ok (.iconst 1, 1) ∧ 657 + 1 = 658 := by decide +kernel
theorem dL_law_658 : decode code 658 = .ok (.iadd, 1) ∧ 658 + 1 = 659 := by decide +kernel
theorem dL_law_659 : decode code 659 = .ok (.iaload, 1) ∧ 659 + 1 = 660 := by decide +kernel
theorem dL_law_660 : decode code 660 = .ok (.invokevirtual 82, 3) ∧ 660 + 3 = 663 := by decide +kernel
theorem dL_law_663 : decode code 663 = .ok (.aload_n 2, 1) ∧ 663 + 1 = 664 := by decide +kernel
theorem dL_law_664 : decode code 664 = .ok (.aload_n 0, 1) ∧ 664 + 1 = 665 := by decide +kernel
theorem dL_law_665 : decode code 665 = .ok (.iload_n 3, 1) ∧ 665 + 1 = 666 := by decide +kernel
theorem dL_law_666 : decode code 666 = .ok (.iconst 1, 1) ∧ 666 + 1 = 667 := by decide +kernel
theorem dL_law_667 : decode code 667 = .ok (.iadd, 1) ∧ 667 + 1 = 668 := by decide +kernel
theorem dL_law_668 : decode code 668 = .ok (.iaload, 1) ∧ 668 + 1 = 669 := by decide +kernel
theorem dL_law_669 : decode code 669 = .ok (.invokevirtual 85, 3) ∧ 669 + 3 = 672 := by decide +kernel
theorem dL_law_672 : decode code 672 = .ok (.if_icmp .eq 668, 3) ∧ 672 + 3 = 675 ∧ ((672 : Nat) : Int) + (668) = ((1340 : Nat) : Int) := by decide +kernel
theorem dL_law_675 : decode code 675 = .ok (.iconst 0, 1) ∧ 675 + 1 = 676 := by decide +kernel
theorem dL_law_676 : decode code 676 = .ok (.ireturn, 1) := by decide +kernel
theorem dL_law_677 : decode code 677 = .ok (.aload_n 1, 1) ∧ 677 + 1 = 678 := by decide +kernel
theorem dL_law_678 : decode code 678 = .ok (.aload_n 0, 1) ∧ 678 + 1 = 679 := by decide +kernel
theorem dL_law_679 : decode code 679 = .ok (.iload_n 3, 1) ∧ 679 + 1 = 680 := by decide +kernel
theorem dL_law_680 : decode code 680 = .ok (.iconst 1, 1) ∧ 680 + 1 = 681 := by decide +kernel
theorem dL_law_681 : decode code 681 = .ok (.iadd, 1) ∧ 681 + 1 = 682 := by decide +kernel
theorem dL_law_682 : decode code 682 = .ok (.iaload, 1) ∧ 682 + 1 = 683 := by decide +kernel
theorem dL_law_683 : decode code 683 = .ok (.aload_n 0, 1) ∧ 683 + 1 = 684 := by decide +kernel
theorem dL_law_684 : decode code 684 = .ok (.iload_n 3, 1) ∧ 684 + 1 = 685 := by decide +kernel
theorem dL_law_685 : decode code 685 = .ok (.iconst 2, 1) ∧ 685 + 1 = 686 := by decide +kernel
theorem dL_law_686 : decode code 686 = .ok (.iadd, 1) ∧ 686 + 1 = 687 := by decide +kernel
theorem dL_law_687 : decode code 687 = .ok (.iaload, 1) ∧ 687 + 1 = 688 := by decide +kernel
theorem dL_law_688 : decode code 688 = .ok (.invokevirtual 86, 3) ∧ 688 + 3 = 691 := by decide +kernel
theorem dL_law_691 : decode code 691 = .ok (.aload_n 2, 1) ∧ 691 + 1 = 692 := by decide +kernel
theorem dL_law_692 : decode code 692 = .ok (.aload_n 0, 1) ∧ 692 + 1 = 693 := by decide +kernel
theorem dL_law_693 : decode code 693 = .ok (.iload_n 3, 1) ∧ 693 + 1 = 694 := by decide +kernel
theorem dL_law_694 : decode code 694 = .ok (.iconst 1, 1) ∧ 694 + 1 = 695 := by decide +kernel
theorem dL_law_695 : decode code 695 = .ok (.iadd, 1) ∧ 695 + 1 = 696 := by decide +kernel
theorem dL_law_696 : decode code 696 = .ok (.iaload, 1) ∧ 696 + 1 = 697 := by decide +kernel
theorem dL_law_697 : decode code 697 = .ok (.aload_n 0, 1) ∧ 697 + 1 = 698 := by decide +kernel
theorem dL_law_698 : decode code 698 = .ok (.iload_n 3, 1) ∧ 698 + 1 = 699 := by decide +kernel
theorem dL_law_699 : decode code 699 = .ok (.iconst 2, 1) ∧ 699 + 1 = 700 := by decide +kernel
theorem dL_law_700 : decode code 700 = .ok (.iadd, 1) ∧ 700 + 1 = 701 := by decide +kernel
theorem dL_law_701 : decode code 701 = .ok (.iaload, 1) ∧ 701 + 1 = 702 := by decide +kernel
theorem dL_law_702 : decode code 702 = .ok (.invokevirtual 89, 3) ∧ 702 + 3 = 705 := by decide +kernel
theorem dL_law_705 : decode code 705 = .ok (.if_icmp .eq 635, 3) ∧ 705 + 3 = 708 ∧ ((705 : Nat) : Int) + (635) = ((1340 : Nat) : Int) := by decide +kernel
theorem dL_law_708 : decode code 708 = .ok (.iconst 0, 1) ∧ 708 + 1 = 709 := by decide +kernel
theorem dL_law_709 : decode code 709 = .ok (.ireturn, 1) := by decide +kernel
theorem dL_law_710 : decode code 710 = .ok (.aload_n 1, 1) ∧ 710 + 1 = 711 := by decide +kernel
theorem dL_law_711 : decode code 711 = .ok (.aload_n 0, 1) ∧ 711 + 1 = 712 := by decide +kernel
theorem dL_law_712 : decode code 712 = .ok (.iload_n 3, 1) ∧ 712 + 1 = 713 := by decide +kernel
theorem dL_law_713 : decode code 713 = .ok (.iconst 1, 1) ∧ 713 + 1 = 714 := by decide +kernel
theorem dL_law_714 : decode code 714 = .ok (.iadd, 1) ∧ 714 + 1 = 715 := by decide +kernel
theorem dL_law_715 : decode code 715 = .ok (.iaload, 1) ∧ 715 + 1 = 716 := by decide +kernel
theorem dL_law_716 : decode code 716 = .ok (.aload_n 0, 1) ∧ 716 + 1 = 717 := by decide +kernel
theorem dL_law_717 : decode code 717 = .ok (.iload_n 3, 1) ∧ 717 + 1 = 718 := by decide +kernel
theorem dL_law_718 : decode code 718 = .ok (.iconst 2, 1) ∧ 718 + 1 = 719 := by decide +kernel
theorem dL_law_719 : decode code 719 = .ok (.iadd, 1) ∧ 719 + 1 = 720 := by decide +kernel
theorem dL_law_720 : decode code 720 = .ok (.iaload, 1) ∧ 720 + 1 = 721 := by decide +kernel
theorem dL_law_721 : decode code 721 = .ok (.invokevirtual 90, 3) ∧ 721 + 3 = 724 := by decide +kernel
theorem dL_law_724 : decode code 724 = .ok (.aload_n 2, 1) ∧ 724 + 1 = 725 := by decide +kernel
theorem dL_law_725 : decode code 725 = .ok (.aload_n 0, 1) ∧ 725 + 1 = 726 := by decide +kernel
theorem dL_law_726 : decode code 726 = .ok (.iload_n 3, 1) ∧ 726 + 1 = 727 := by decide +kernel
theorem dL_law_727 : decode code 727 = .ok (.iconst 1, 1) ∧ 727 + 1 = 728 := by decide +kernel
theorem dL_law_728 : decode code 728 = .ok (.iadd, 1) ∧ 728 + 1 = 729 := by decide +kernel
theorem dL_law_729 : decode code 729 = .ok (.iaload, 1) ∧ 729 + 1 = 730 := by decide +kernel
theorem dL_law_730 : decode code 730 = .ok (.aload_n 0, 1) ∧ 730 + 1 = 731 := by decide +kernel
theorem dL_law_731 : decode code 731 = .ok (.iload_n 3, 1) ∧ 731 + 1 = 732 := by decide +kernel
theorem dL_law_732 : decode code 732 = .ok (.iconst 2, 1) ∧ 732 + 1 = 733 := by decide +kernel
theorem dL_law_733 : decode code 733 = .ok (.iadd, 1) ∧ 733 + 1 = 734 := by decide +kernel
theorem dL_law_734 : decode code 734 = .ok (.iaload, 1) ∧ 734 + 1 = 735 := by decide +kernel
theorem dL_law_735 : decode code 735 = .ok (.invokevirtual 93, 3) ∧ 735 + 3 = 738 := by decide +kernel
theorem dL_law_738 : decode code 738 = .ok (.if_icmp .eq 602, 3) ∧ 738 + 3 = 741 ∧ ((738 : Nat) : Int) + (602) = ((1340 : Nat) : Int) := by decide +kernel
theorem dL_law_741 : decode code 741 = .ok (.iconst 0, 1) ∧ 741 + 1 = 742 := by decide +kernel
theorem dL_law_742 : decode code 742 = .ok (.ireturn, 1) := by decide +kernel
theorem dL_law_743 : decode code 743 = .ok (.aload_n 1, 1) ∧ 743 + 1 = 744 := by decide +kernel
theorem dL_law_744 : decode code 744 = .ok (.aload_n 0, 1) ∧ 744 + 1 = 745 := by decide +kernel
theorem dL_law_745 : decode code 745 = .ok (.iload_n 3, 1) ∧ 745 + 1 = 746 := by decide +kernel
theorem dL_law_746 : decode code 746 = .ok (.iconst 1, 1) ∧ 746 + 1 = 747 := by decide +kernel
theorem dL_law_747 : decode code 747 = .ok (.iadd, 1) ∧ 747 + 1 = 748 := by decide +kernel
theorem dL_law_748 : decode code 748 = .ok (.iaload, 1) ∧ 748 + 1 = 749 := by decide +kernel
theorem dL_law_749 : decode code 749 = .ok (.aload_n 0, 1) ∧ 749 + 1 = 750 := by decide +kernel
theorem dL_law_750 : decode code 750 = .ok (.iload_n 3, 1) ∧ 750 + 1 = 751 := by decide +kernel
theorem dL_law_751 : decode code 751 = .ok (.iconst 2, 1) ∧ 751 + 1 = 752 := by decide +kernel
theorem dL_law_752 : decode code 752 = .ok (.iadd, 1) ∧ 752 + 1 = 753 := by decide +kernel
theorem dL_law_753 : decode code 753 = .ok (.iaload, 1) ∧ 753 + 1 = 754 := by decide +kernel
theorem dL_law_754 : decode code 754 = .ok (.invokevirtual 94, 3) ∧ 754 + 3 = 757 := by decide +kernel
theorem dL_law_757 : decode code 757 = .ok (.aload_n 2, 1) ∧ 757 + 1 = 758 := by decide +kernel
theorem dL_law_758 : decode code 758 = .ok (.aload_n 0, 1) ∧ 758 + 1 = 759 := by decide +kernel
theorem dL_law_759 : decode code 759 = .ok (.iload_n 3, 1) ∧ 759 + 1 = 760 := by decide +kernel
theorem dL_law_760 : decode code 760 = .ok (.iconst 1, 1) ∧ 760 + 1 = 761 := by decide +kernel
theorem dL_law_761 : decode code 761 = .ok (.iadd, 1) ∧ 761 + 1 = 762 := by decide +kernel
theorem dL_law_762 : decode code 762 = .ok (.iaload, 1) ∧ 762 + 1 = 763 := by decide +kernel
theorem dL_law_763 : decode code 763 = .ok (.aload_n 0, 1) ∧ 763 + 1 = 764 := by decide +kernel
theorem dL_law_764 : decode code 764 = .ok (.iload_n 3, 1) ∧ 764 + 1 = 765 := by decide +kernel
theorem dL_law_765 : decode code 765 = .ok (.iconst 2, 1) ∧ 765 + 1 = 766 := by decide +kernel
theorem dL_law_766 : decode code 766 = .ok (.iadd, 1) ∧ 766 + 1 = 767 := by decide +kernel
theorem dL_law_767 : decode code 767 = .ok (.iaload, 1) ∧ 767 + 1 = 768 := by decide +kernel
theorem dL_law_768 : decode code 768 = .ok (.invokevirtual 97, 3) ∧ 768 + 3 = 771 := by decide +kernel
theorem dL_law_771 : decode code 771 = .ok (.if_icmp .eq 569, 3) ∧ 771 + 3 = 774 ∧ ((771 : Nat) : Int) + (569) = ((1340 : Nat) : Int) := by decide +kernel
theorem dL_law_774 : decode code 774 = .ok (.iconst 0, 1) ∧ 774 + 1 = 775 := by decide +kernel
theorem dL_law_775 : decode code 775 = .ok (.ireturn, 1) := by decide +kernel
theorem dL_law_776 : decode code 776 = .ok (.aload_n 1, 1) ∧ 776 + 1 = 777 := by decide +kernel
theorem dL_law_777 : decode code 777 = .ok (.aload_n 0, 1) ∧ 777 + 1 = 778 := by decide +kernel
theorem dL_law_778 : decode code 778 = .ok (.iload_n 3, 1) ∧ 778 + 1 = 779 := by decide +kernel
theorem dL_law_779 : decode code 779 = .ok (.iconst 1, 1) ∧ 779 + 1 = 780 := by decide +kernel
theorem dL_law_780 : decode code 780 = .ok (.iadd, 1) ∧ 780 + 1 = 781 := by decide +kernel
theorem dL_law_781 : decode code 781 = .ok (.iaload, 1) ∧ 781 + 1 = 782 := by decide +kernel
theorem dL_law_782 : decode code 782 = .ok (.aload_n 0, 1) ∧ 782 + 1 = 783 := by decide +kernel
theorem dL_law_783 : decode code 783 = .ok (.iload_n 3, 1) ∧ 783 + 1 = 784 := by decide +kernel
theorem dL_law_784 : decode code 784 = .ok (.iconst 2, 1) ∧ 784 + 1 = 785 := by decide +kernel
theorem dL_law_785 : decode code 785 = .ok (.iadd, 1) ∧ 785 + 1 = 786 := by decide +kernel
theorem dL_law_786 : decode code 786 = .ok (.iaload, 1) ∧ 786 + 1 = 787 := by decide +kernel
theorem dL_law_787 : decode code 787 = .ok (.invokevirtual 98, 3) ∧ 787 + 3 = 790 := by decide +kernel
theorem dL_law_790 : decode code 790 = .ok (.aload_n 2, 1) ∧ 790 + 1 = 791 := by decide +kernel
theorem dL_law_791 : decode code 791 = .ok (.aload_n 0, 1) ∧ 791 + 1 = 792 := by decide +kernel
theorem dL_law_792 : decode code 792 = .ok (.iload_n 3, 1) ∧ 792 + 1 = 793 := by decide +kernel
theorem dL_law_793 : decode code 793 = .ok (.iconst 1, 1) ∧ 793 + 1 = 794 := by decide +kernel
theorem dL_law_794 : decode code 794 = .ok (.iadd, 1) ∧ 794 + 1 = 795 := by decide +kernel
theorem dL_law_795 : decode code 795 = .ok (.iaload, 1) ∧ 795 + 1 = 796 := by decide +kernel
theorem dL_law_796 : decode code 796 = .ok (.aload_n 0, 1) ∧ 796 + 1 = 797 := by decide +kernel
theorem dL_law_797 : decode code 797 = .ok (.iload_n 3, 1) ∧ 797 + 1 = 798 := by decide +kernel
theorem dL_law_798 : decode code 798 = .ok (.iconst 2, 1) ∧ 798 + 1 = 799 := by decide +kernel
theorem dL_law_799 : decode code 799 = .ok (.iadd, 1) ∧ 799 + 1 = 800 := by decide +kernel
theorem dL_law_800 : decode code 800 = .ok (.iaload, 1) ∧ 800 + 1 = 801 := by decide +kernel
theorem dL_law_801 : decode code 801 = .ok (.invokevirtual 102, 3) ∧ 801 + 3 = 804 := by decide +kernel
theorem dL_law_804 : decode code 804 = .ok (.lcmp, 1) ∧ 804 + 1 = 805 := by decide +kernel
theorem dL_law_805 : decode code 805 = .ok (.ifCond .eq 535, 3) ∧ 805 + 3 = 808 ∧ ((805 : Nat) : Int) + (535) = ((1340 : Nat) : Int) := by decide +kernel
theorem dL_law_808 : decode code 808 = .ok (.iconst 0, 1) ∧ 808 + 1 = 809 := by decide +kernel
theorem dL_law_809 : decode code 809 = .ok (.ireturn, 1) := by decide +kernel
theorem dL_law_810 : decode code 810 = .ok (.aload_n 1, 1) ∧ 810 + 1 = 811 := by decide +kernel
theorem dL_law_811 : decode code 811 = .ok (.aload_n 0, 1) ∧ 811 + 1 = 812 := by decide +kernel
theorem dL_law_812 : decode code 812 = .ok (.iload_n 3, 1) ∧ 812 + 1 = 813 := by decide +kernel
theorem dL_law_813 : decode code 813 = .ok (.iconst 1, 1) ∧ 813 + 1 = 814 := by decide +kernel
theorem dL_law_814 : decode code 814 = .ok (.iadd, 1) ∧ 814 + 1 = 815 := by decide +kernel
theorem dL_law_815 : decode code 815 = .ok (.iaload, 1) ∧ 815 + 1 = 816 := by decide +kernel
theorem dL_law_816 : decode code 816 = .ok (.aload_n 0, 1) ∧ 816 + 1 = 817 := by decide +kernel
theorem dL_law_817 : decode code 817 = .ok (.iload_n 3, 1) ∧ 817 + 1 = 818 := by decide +kernel
theorem dL_law_818 : decode code 818 = .ok (.iconst 2, 1) ∧ 818 + 1 = 819 := by decide +kernel
theorem dL_law_819 : decode code 819 = .ok (.iadd, 1) ∧ 819 + 1 = 820 := by decide +kernel
theorem dL_law_820 : decode code 820 = .ok (.iaload, 1) ∧ 820 + 1 = 821 := by decide +kernel
theorem dL_law_821 : decode code 821 = .ok (.invokevirtual 103, 3) ∧ 821 + 3 = 824 := by decide +kernel
theorem dL_law_824 : decode code 824 = .ok (.aload_n 2, 1) ∧ 824 + 1 = 825 := by decide +kernel
theorem dL_law_825 : decode code 825 = .ok (.aload_n 0, 1) ∧ 825 + 1 = 826 := by decide +kernel
theorem dL_law_826 : decode code 826 = .ok (.iload_n 3, 1) ∧ 826 + 1 = 827 := by decide +kernel
theorem dL_law_827 : decode code 827 = .ok (.iconst 1, 1) ∧ 827 + 1 = 828 := by decide +kernel
theorem dL_law_828 : decode code 828 = .ok (.iadd, 1) ∧ 828 + 1 = 829 := by decide +kernel
theorem dL_law_829 : decode code 829 = .ok (.iaload, 1) ∧ 829 + 1 = 830 := by decide +kernel
theorem dL_law_830 : decode code 830 = .ok (.aload_n 0, 1) ∧ 830 + 1 = 831 := by decide +kernel
theorem dL_law_831 : decode code 831 = .ok (.iload_n 3, 1) ∧ 831 + 1 = 832 := by decide +kernel
theorem dL_law_832 : decode code 832 = .ok (.iconst 2, 1) ∧ 832 + 1 = 833 := by decide +kernel
theorem dL_law_833 : decode code 833 = .ok (.iadd, 1) ∧ 833 + 1 = 834 := by decide +kernel
theorem dL_law_834 : decode code 834 = .ok (.iaload, 1) ∧ 834 + 1 = 835 := by decide +kernel
theorem dL_law_835 : decode code 835 = .ok (.invokevirtual 106, 3) ∧ 835 + 3 = 838 := by decide +kernel
theorem dL_law_838 : decode code 838 = .ok (.lcmp, 1) ∧ 838 + 1 = 839 := by decide +kernel
theorem dL_law_839 : decode code 839 = .ok (.ifCond .eq 501, 3) ∧ 839 + 3 = 842 ∧ ((839 : Nat) : Int) + (501) = ((1340 : Nat) : Int) := by decide +kernel
theorem dL_law_842 : decode code 842 = .ok (.iconst 0, 1) ∧ 842 + 1 = 843 := by decide +kernel
theorem dL_law_843 : decode code 843 = .ok (.ireturn, 1) := by decide +kernel
theorem dL_law_844 : decode code 844 = .ok (.aload_n 1, 1) ∧ 844 + 1 = 845 := by decide +kernel
theorem dL_law_845 : decode code 845 = .ok (.aload_n 0, 1) ∧ 845 + 1 = 846 := by decide +kernel
theorem dL_law_846 : decode code 846 = .ok (.iload_n 3, 1) ∧ 846 + 1 = 847 := by decide +kernel
theorem dL_law_847 : decode code 847 = .ok (.iconst 1, 1) ∧ 847 + 1 = 848 := by decide +kernel
theorem dL_law_848 : decode code 848 = .ok (.iadd, 1) ∧ 848 + 1 = 849 := by decide +kernel
theorem dL_law_849 : decode code 849 = .ok (.iaload, 1) ∧ 849 + 1 = 850 := by decide +kernel
theorem dL_law_850 : decode code 850 = .ok (.aload_n 0, 1) ∧ 850 + 1 = 851 := by decide +kernel
theorem dL_law_851 : decode code 851 = .ok (.iload_n 3, 1) ∧ 851 + 1 = 852 := by decide +kernel
theorem dL_law_852 : decode code 852 = .ok (.iconst 2, 1) ∧ 852 + 1 = 853 := by decide +kernel
theorem dL_law_853 : decode code 853 = .ok (.iadd, 1) ∧ 853 + 1 = 854 := by decide +kernel
theorem dL_law_854 : decode code 854 = .ok (.iaload, 1) ∧ 854 + 1 = 855 := by decide +kernel
theorem dL_law_855 : decode code 855 = .ok (.invokevirtual 107, 3) ∧ 855 + 3 = 858 := by decide +kernel
theorem dL_law_858 : decode code 858 = .ok (.aload_n 2, 1) ∧ 858 + 1 = 859 := by decide +kernel
theorem dL_law_859 : decode code 859 = .ok (.aload_n 0, 1) ∧ 859 + 1 = 860 := by decide +kernel
theorem dL_law_860 : decode code 860 = .ok (.iload_n 3, 1) ∧ 860 + 1 = 861 := by decide +kernel
theorem dL_law_861 : decode code 861 = .ok (.iconst 1, 1) ∧ 861 + 1 = 862 := by decide +kernel
theorem dL_law_862 : decode code 862 = .ok (.iadd, 1) ∧ 862 + 1 = 863 := by decide +kernel
theorem dL_law_863 : decode code 863 = .ok (.iaload, 1) ∧ 863 + 1 = 864 := by decide +kernel
theorem dL_law_864 : decode code 864 = .ok (.aload_n 0, 1) ∧ 864 + 1 = 865 := by decide +kernel
theorem dL_law_865 : decode code 865 = .ok (.iload_n 3, 1) ∧ 865 + 1 = 866 := by decide +kernel
theorem dL_law_866 : decode code 866 = .ok (.iconst 2, 1) ∧ 866 + 1 = 867 := by decide +kernel
theorem dL_law_867 : decode code 867 = .ok (.iadd, 1) ∧ 867 + 1 = 868 := by decide +kernel
theorem dL_law_868 : decode code 868 = .ok (.iaload, 1) ∧ 868 + 1 = 869 := by decide +kernel
theorem dL_law_869 : decode code 869 = .ok (.invokevirtual 110, 3) ∧ 869 + 3 = 872 := by decide +kernel
theorem dL_law_872 : decode code 872 = .ok (.if_icmp .eq 468, 3) ∧ 872 + 3 = 875 ∧ ((872 : Nat) : Int) + (468) = ((1340 : Nat) : Int) := by decide +kernel
theorem dL_law_875 : decode code 875 = .ok (.iconst 0, 1) ∧ 875 + 1 = 876 := by decide +kernel
theorem dL_law_876 : decode code 876 = .ok (.ireturn, 1) := by decide +kernel
theorem dL_law_877 : decode code 877 = .ok (.aload_n 1, 1) ∧ 877 + 1 = 878 := by decide +kernel
theorem dL_law_878 : decode code 878 = .ok (.aload_n 0, 1) ∧ 878 + 1 = 879 := by decide +kernel
theorem dL_law_879 : decode code 879 = .ok (.iload_n 3, 1) ∧ 879 + 1 = 880 := by decide +kernel
theorem dL_law_880 : decode code 880 = .ok (.iconst 1, 1) ∧ 880 + 1 = 881 := by decide +kernel
theorem dL_law_881 : decode code 881 = .ok (.iadd, 1) ∧ 881 + 1 = 882 := by decide +kernel
theorem dL_law_882 : decode code 882 = .ok (.iaload, 1) ∧ 882 + 1 = 883 := by decide +kernel
theorem dL_law_883 : decode code 883 = .ok (.invokevirtual 111, 3) ∧ 883 + 3 = 886 := by decide +kernel
theorem dL_law_886 : decode code 886 = .ok (.aload_n 2, 1) ∧ 886 + 1 = 887 := by decide +kernel
theorem dL_law_887 : decode code 887 = .ok (.aload_n 0, 1) ∧ 887 + 1 = 888 := by decide +kernel
theorem dL_law_888 : decode code 888 = .ok (.iload_n 3, 1) ∧ 888 + 1 = 889 := by decide +kernel
theorem dL_law_889 : decode code 889 = .ok (.iconst 1, 1) ∧ 889 + 1 = 890 := by decide +kernel
theorem dL_law_890 : decode code 890 = .ok (.iadd, 1) ∧ 890 + 1 = 891 := by decide +kernel
theorem dL_law_891 : decode code 891 = .ok (.iaload, 1) ∧ 891 + 1 = 892 := by decide +kernel
theorem dL_law_892 : decode code 892 = .ok (.invokevirtual 114, 3) ∧ 892 + 3 = 895 := by decide +kernel
theorem dL_law_895 : decode code 895 = .ok (.if_icmp .eq 445, 3) ∧ 895 + 3 = 898 ∧ ((895 : Nat) : Int) + (445) = ((1340 : Nat) : Int) := by decide +kernel
theorem dL_law_898 : decode code 898 = .ok (.iconst 0, 1) ∧ 898 + 1 = 899 := by decide +kernel
theorem dL_law_899 : decode code 899 = .ok (.ireturn, 1) := by decide +kernel
theorem dL_law_900 : decode code 900 = .ok (.aload_n 1, 1) ∧ 900 + 1 = 901 := by decide +kernel
theorem dL_law_901 : decode code 901 = .ok (.aload_n 0, 1) ∧ 901 + 1 = 902 := by decide +kernel
theorem dL_law_902 : decode code 902 = .ok (.iload_n 3, 1) ∧ 902 + 1 = 903 := by decide +kernel
theorem dL_law_903 : decode code 903 = .ok (.iconst 1, 1) ∧ 903 + 1 = 904 := by decide +kernel
theorem dL_law_904 : decode code 904 = .ok (.iadd, 1) ∧ 904 + 1 = 905 := by decide +kernel
theorem dL_law_905 : decode code 905 = .ok (.iaload, 1) ∧ 905 + 1 = 906 := by decide +kernel
theorem dL_law_906 : decode code 906 = .ok (.aload_n 0, 1) ∧ 906 + 1 = 907 := by decide +kernel
theorem dL_law_907 : decode code 907 = .ok (.iload_n 3, 1) ∧ 907 + 1 = 908 := by decide +kernel
theorem dL_law_908 : decode code 908 = .ok (.iconst 2, 1) ∧ 908 + 1 = 909 := by decide +kernel
theorem dL_law_909 : decode code 909 = .ok (.iadd, 1) ∧ 909 + 1 = 910 := by decide +kernel
theorem dL_law_910 : decode code 910 = .ok (.iaload, 1) ∧ 910 + 1 = 911 := by decide +kernel
theorem dL_law_911 : decode code 911 = .ok (.invokevirtual 115, 3) ∧ 911 + 3 = 914 := by decide +kernel
theorem dL_law_914 : decode code 914 = .ok (.aload_n 2, 1) ∧ 914 + 1 = 915 := by decide +kernel
theorem dL_law_915 : decode code 915 = .ok (.aload_n 0, 1) ∧ 915 + 1 = 916 := by decide +kernel
theorem dL_law_916 : decode code 916 = .ok (.iload_n 3, 1) ∧ 916 + 1 = 917 := by decide +kernel
theorem dL_law_917 : decode code 917 = .ok (.iconst 1, 1) ∧ 917 + 1 = 918 := by decide +kernel
theorem dL_law_918 : decode code 918 = .ok (.iadd, 1) ∧ 918 + 1 = 919 := by decide +kernel
theorem dL_law_919 : decode code 919 = .ok (.iaload, 1) ∧ 919 + 1 = 920 := by decide +kernel
theorem dL_law_920 : decode code 920 = .ok (.aload_n 0, 1) ∧ 920 + 1 = 921 := by decide +kernel
theorem dL_law_921 : decode code 921 = .ok (.iload_n 3, 1) ∧ 921 + 1 = 922 := by decide +kernel
theorem dL_law_922 : decode code 922 = .ok (.iconst 2, 1) ∧ 922 + 1 = 923 := by decide +kernel
theorem dL_law_923 : decode code 923 = .ok (.iadd, 1) ∧ 923 + 1 = 924 := by decide +kernel
theorem dL_law_924 : decode code 924 = .ok (.iaload, 1) ∧ 924 + 1 = 925 := by decide +kernel
theorem dL_law_925 : decode code 925 = .ok (.invokevirtual 118, 3) ∧ 925 + 3 = 928 := by decide +kernel
theorem dL_law_928 : decode code 928 = .ok (.if_icmp .eq 412, 3) ∧ 928 + 3 = 931 ∧ ((928 : Nat) : Int) + (412) = ((1340 : Nat) : Int) := by decide +kernel
theorem dL_law_931 : decode code 931 = .ok (.iconst 0, 1) ∧ 931 + 1 = 932 := by decide +kernel
theorem dL_law_932 : decode code 932 = .ok (.ireturn, 1) := by decide +kernel
theorem dL_law_933 : decode code 933 = .ok (.aload_n 1, 1) ∧ 933 + 1 = 934 := by decide +kernel
theorem dL_law_934 : decode code 934 = .ok (.invokevirtual 119, 3) ∧ 934 + 3 = 937 := by decide +kernel
theorem dL_law_937 : decode code 937 = .ok (.aload_n 2, 1) ∧ 937 + 1 = 938 := by decide +kernel
theorem dL_law_938 : decode code 938 = .ok (.invokevirtual 122, 3) ∧ 938 + 3 = 941 := by decide +kernel
theorem dL_law_941 : decode code 941 = .ok (.if_icmp .eq 399, 3) ∧ 941 + 3 = 944 ∧ ((941 : Nat) : Int) + (399) = ((1340 : Nat) : Int) := by decide +kernel
theorem dL_law_944 : decode code 944 = .ok (.iconst 0, 1) ∧ 944 + 1 = 945 := by decide +kernel
theorem dL_law_945 : decode code 945 = .ok (.ireturn, 1) := by decide +kernel
theorem dL_law_946 : decode code 946 = .ok (.aload_n 1, 1) ∧ 946 + 1 = 947 := by decide +kernel
theorem dL_law_947 : decode code 947 = .ok (.aload_n 0, 1) ∧ 947 + 1 = 948 := by decide +kernel
theorem dL_law_948 : decode code 948 = .ok (.iload_n 3, 1) ∧ 948 + 1 = 949 := by decide +kernel
theorem dL_law_949 : decode code 949 = .ok (.iconst 1, 1) ∧ 949 + 1 = 950 := by decide +kernel
theorem dL_law_950 : decode code 950 = .ok (.iadd, 1) ∧ 950 + 1 = 951 := by decide +kernel
theorem dL_law_951 : decode code 951 = .ok (.iaload, 1) ∧ 951 + 1 = 952 := by decide +kernel
theorem dL_law_952 : decode code 952 = .ok (.aload_n 0, 1) ∧ 952 + 1 = 953 := by decide +kernel
theorem dL_law_953 : decode code 953 = .ok (.iload_n 3, 1) ∧ 953 + 1 = 954 := by decide +kernel
theorem dL_law_954 : decode code 954 = .ok (.iconst 2, 1) ∧ 954 + 1 = 955 := by decide +kernel
theorem dL_law_955 : decode code 955 = .ok (.iadd, 1) ∧ 955 + 1 = 956 := by decide +kernel
theorem dL_law_956 : decode code 956 = .ok (.iaload, 1) ∧ 956 + 1 = 957 := by decide +kernel
theorem dL_law_957 : decode code 957 = .ok (.invokevirtual 123, 3) ∧ 957 + 3 = 960 := by decide +kernel
theorem dL_law_960 : decode code 960 = .ok (.aload_n 2, 1) ∧ 960 + 1 = 961 := by decide +kernel
theorem dL_law_961 : decode code 961 = .ok (.aload_n 0, 1) ∧ 961 + 1 = 962 := by decide +kernel
theorem dL_law_962 : decode code 962 = .ok (.iload_n 3, 1) ∧ 962 + 1 = 963 := by decide +kernel
theorem dL_law_963 : decode code 963 = .ok (.iconst 1, 1) ∧ 963 + 1 = 964 := by decide +kernel
theorem dL_law_964 : decode code 964 = .ok (.iadd, 1) ∧ 964 + 1 = 965 := by decide +kernel
theorem dL_law_965 : decode code 965 = .ok (.iaload, 1) ∧ 965 + 1 = 966 := by decide +kernel
theorem dL_law_966 : decode code 966 = .ok (.aload_n 0, 1) ∧ 966 + 1 = 967 := by decide +kernel
theorem dL_law_967 : decode code 967 = .ok (.iload_n 3, 1) ∧ 967 + 1 = 968 := by decide +kernel
theorem dL_law_968 : decode code 968 = .ok (.iconst 2, 1) ∧ 968 + 1 = 969 := by decide +kernel
theorem dL_law_969 : decode code 969 = .ok (.iadd, 1) ∧ 969 + 1 = 970 := by decide +kernel
theorem dL_law_970 : decode code 970 = .ok (.iaload, 1) ∧ 970 + 1 = 971 := by decide +kernel
theorem dL_law_971 : decode code 971 = .ok (.invokevirtual 126, 3) ∧ 971 + 3 = 974 := by decide +kernel
theorem dL_law_974 : decode code 974 = .ok (.if_icmp .eq 366, 3) ∧ 974 + 3 = 977 ∧ ((974 : Nat) : Int) + (366) = ((1340 : Nat) : Int) := by decide +kernel
theorem dL_law_977 : decode code 977 = .ok (.iconst 0, 1) ∧ 977 + 1 = 978 := by decide +kernel
theorem dL_law_978 : decode code 978 = .ok (.ireturn, 1) := by decide +kernel
theorem dL_law_979 : decode code 979 = .ok (.aload_n 1, 1) ∧ 979 + 1 = 980 := by decide +kernel
theorem dL_law_980 : decode code 980 = .ok (.invokevirtual 127, 3) ∧ 980 + 3 = 983 := by decide +kernel
theorem dL_law_983 : decode code 983 = .ok (.aload_n 2, 1) ∧ 983 + 1 = 984 := by decide +kernel
theorem dL_law_984 : decode code 984 = .ok (.invokevirtual 130, 3) ∧ 984 + 3 = 987 := by decide +kernel
theorem dL_law_987 : decode code 987 = .ok (.if_icmp .eq 353, 3) ∧ 987 + 3 = 990 ∧ ((987 : Nat) : Int) + (353) = ((1340 : Nat) : Int) := by decide +kernel
theorem dL_law_990 : decode code 990 = .ok (.iconst 0, 1) ∧ 990 + 1 = 991 := by decide +kernel
theorem dL_law_991 : decode code 991 = .ok (.ireturn, 1) := by decide +kernel
theorem dL_law_992 : decode code 992 = .ok (.aload_n 1, 1) ∧ 992 + 1 = 993 := by decide +kernel
theorem dL_law_993 : decode code 993 = .ok (.invokevirtual 131, 3) ∧ 993 + 3 = 996 := by decide +kernel
theorem dL_law_996 : decode code 996 = .ok (.aload_n 2, 1) ∧ 996 + 1 = 997 := by decide +kernel
theorem dL_law_997 : decode code 997 = .ok (.invokevirtual 134, 3) ∧ 997 + 3 = 1000 := by decide +kernel
theorem dL_law_1000 : decode code 1000 = .ok (.if_icmp .eq 340, 3) ∧ 1000 + 3 = 1003 ∧ ((1000 : Nat) : Int) + (340) = ((1340 : Nat) : Int) := by decide +kernel
theorem dL_law_1003 : decode code 1003 = .ok (.iconst 0, 1) ∧ 1003 + 1 = 1004 := by decide +kernel
theorem dL_law_1004 : decode code 1004 = .ok (.ireturn, 1) := by decide +kernel
theorem dL_law_1005 : decode code 1005 = .ok (.aload_n 1, 1) ∧ 1005 + 1 = 1006 := by decide +kernel
theorem dL_law_1006 : decode code 1006 = .ok (.aload_n 0, 1) ∧ 1006 + 1 = 1007 := by decide +kernel
theorem dL_law_1007 : decode code 1007 = .ok (.iload_n 3, 1) ∧ 1007 + 1 = 1008 := by decide +kernel
theorem dL_law_1008 : decode code 1008 = .ok (.iconst 1, 1) ∧ 1008 + 1 = 1009 := by decide +kernel
theorem dL_law_1009 : decode code 1009 = .ok (.iadd, 1) ∧ 1009 + 1 = 1010 := by decide +kernel
theorem dL_law_1010 : decode code 1010 = .ok (.iaload, 1) ∧ 1010 + 1 = 1011 := by decide +kernel
theorem dL_law_1011 : decode code 1011 = .ok (.aload_n 0, 1) ∧ 1011 + 1 = 1012 := by decide +kernel
theorem dL_law_1012 : decode code 1012 = .ok (.iload_n 3, 1) ∧ 1012 + 1 = 1013 := by decide +kernel
theorem dL_law_1013 : decode code 1013 = .ok (.iconst 2, 1) ∧ 1013 + 1 = 1014 := by decide +kernel
theorem dL_law_1014 : decode code 1014 = .ok (.iadd, 1) ∧ 1014 + 1 = 1015 := by decide +kernel
theorem dL_law_1015 : decode code 1015 = .ok (.iaload, 1) ∧ 1015 + 1 = 1016 := by decide +kernel
theorem dL_law_1016 : decode code 1016 = .ok (.aload_n 0, 1) ∧ 1016 + 1 = 1017 := by decide +kernel
theorem dL_law_1017 : decode code 1017 = .ok (.iload_n 3, 1) ∧ 1017 + 1 = 1018 := by decide +kernel
theorem dL_law_1018 : decode code 1018 = .ok (.iconst 3, 1) ∧ 1018 + 1 = 1019 := by decide +kernel
theorem dL_law_1019 : decode code 1019 = .ok (.iadd, 1) ∧ 1019 + 1 = 1020 := by decide +kernel
theorem dL_law_1020 : decode code 1020 = .ok (.iaload, 1) ∧ 1020 + 1 = 1021 := by decide +kernel
theorem dL_law_1021 : decode code 1021 = .ok (.invokevirtual 135, 3) ∧ 1021 + 3 = 1024 := by decide +kernel
theorem dL_law_1024 : decode code 1024 = .ok (.aload_n 2, 1) ∧ 1024 + 1 = 1025 := by decide +kernel
theorem dL_law_1025 : decode code 1025 = .ok (.aload_n 0, 1) ∧ 1025 + 1 = 1026 := by decide +kernel
theorem dL_law_1026 : decode code 1026 = .ok (.iload_n 3, 1) ∧ 1026 + 1 = 1027 := by decide +kernel
theorem dL_law_1027 : decode code 1027 = .ok (.iconst 1, 1) ∧ 1027 + 1 = 1028 := by decide +kernel
theorem dL_law_1028 : decode code 1028 = .ok (.iadd, 1) ∧ 1028 + 1 = 1029 := by decide +kernel
theorem dL_law_1029 : decode code 1029 = .ok (.iaload, 1) ∧ 1029 + 1 = 1030 := by decide +kernel
theorem dL_law_1030 : decode code 1030 = .ok (.aload_n 0, 1) ∧ 1030 + 1 = 1031 := by decide +kernel
theorem dL_law_1031 : decode code 1031 = .ok (.iload_n 3, 1) ∧ 1031 + 1 = 1032 := by decide +kernel
theorem dL_law_1032 : decode code 1032 = .ok (.iconst 2, 1) ∧ 1032 + 1 = 1033 := by decide +kernel
theorem dL_law_1033 : decode code 1033 = .ok (.iadd, 1) ∧ 1033 + 1 = 1034 := by decide +kernel
theorem dL_law_1034 : decode code 1034 = .ok (.iaload, 1) ∧ 1034 + 1 = 1035 := by decide +kernel
theorem dL_law_1035 : decode code 1035 = .ok (.aload_n 0, 1) ∧ 1035 + 1 = 1036 := by decide +kernel
theorem dL_law_1036 : decode code 1036 = .ok (.iload_n 3, 1) ∧ 1036 + 1 = 1037 := by decide +kernel
theorem dL_law_1037 : decode code 1037 = .ok (.iconst 3, 1) ∧ 1037 + 1 = 1038 := by decide +kernel
theorem dL_law_1038 : decode code 1038 = .ok (.iadd, 1) ∧ 1038 + 1 = 1039 := by decide +kernel
theorem dL_law_1039 : decode code 1039 = .ok (.iaload, 1) ∧ 1039 + 1 = 1040 := by decide +kernel
theorem dL_law_1040 : decode code 1040 = .ok (.invokevirtual 138, 3) ∧ 1040 + 3 = 1043 := by decide +kernel
theorem dL_law_1043 : decode code 1043 = .ok (.if_icmp .eq 297, 3) ∧ 1043 + 3 = 1046 ∧ ((1043 : Nat) : Int) + (297) = ((1340 : Nat) : Int) := by decide +kernel
theorem dL_law_1046 : decode code 1046 = .ok (.iconst 0, 1) ∧ 1046 + 1 = 1047 := by decide +kernel
theorem dL_law_1047 : decode code 1047 = .ok (.ireturn, 1) := by decide +kernel
theorem dL_law_1048 : decode code 1048 = .ok (.aload_n 1, 1) ∧ 1048 + 1 = 1049 := by decide +kernel
theorem dL_law_1049 : decode code 1049 = .ok (.aload_n 0, 1) ∧ 1049 + 1 = 1050 := by decide +kernel
theorem dL_law_1050 : decode code 1050 = .ok (.iload_n 3, 1) ∧ 1050 + 1 = 1051 := by decide +kernel
theorem dL_law_1051 : decode code 1051 = .ok (.iconst 1, 1) ∧ 1051 + 1 = 1052 := by decide +kernel
theorem dL_law_1052 : decode code 1052 = .ok (.iadd, 1) ∧ 1052 + 1 = 1053 := by decide +kernel
theorem dL_law_1053 : decode code 1053 = .ok (.iaload, 1) ∧ 1053 + 1 = 1054 := by decide +kernel
theorem dL_law_1054 : decode code 1054 = .ok (.invokevirtual 139, 3) ∧ 1054 + 3 = 1057 := by decide +kernel
theorem dL_law_1057 : decode code 1057 = .ok (.aload_n 2, 1) ∧ 1057 + 1 = 1058 := by decide +kernel
theorem dL_law_1058 : decode code 1058 = .ok (.aload_n 0, 1) ∧ 1058 + 1 = 1059 := by decide +kernel
theorem dL_law_1059 : decode code 1059 = .ok (.iload_n 3, 1) ∧ 1059 + 1 = 1060 := by decide +kernel
theorem dL_law_1060 : decode code 1060 = .ok (.iconst 1, 1) ∧ 1060 + 1 = 1061 := by decide +kernel
theorem dL_law_1061 : decode code 1061 = .ok (.iadd, 1) ∧ 1061 + 1 = 1062 := by decide +kernel
theorem dL_law_1062 : decode code 1062 = .ok (.iaload, 1) ∧ 1062 + 1 = 1063 := by decide +kernel
theorem dL_law_1063 : decode code 1063 = .ok (.invokevirtual 142, 3) ∧ 1063 + 3 = 1066 := by decide +kernel
theorem dL_law_1066 : decode code 1066 = .ok (.if_icmp .eq 274, 3) ∧ 1066 + 3 = 1069 ∧ ((1066 : Nat) : Int) + (274) = ((1340 : Nat) : Int) := by decide +kernel
theorem dL_law_1069 : decode code 1069 = .ok (.iconst 0, 1) ∧ 1069 + 1 = 1070 := by decide +kernel
theorem dL_law_1070 : decode code 1070 = .ok (.ireturn, 1) := by decide +kernel
theorem dL_law_1071 : decode code 1071 = .ok (.aload_n 1, 1) ∧ 1071 + 1 = 1072 := by decide +kernel
theorem dL_law_1072 : decode code 1072 = .ok (.aload_n 0, 1) ∧ 1072 + 1 = 1073 := by decide +kernel
theorem dL_law_1073 : decode code 1073 = .ok (.iload_n 3, 1) ∧ 1073 + 1 = 1074 := by decide +kernel
theorem dL_law_1074 : decode code 1074 = .ok (.iconst 1, 1) ∧ 1074 + 1 = 1075 := by decide +kernel
theorem dL_law_1075 : decode code 1075 = .ok (.iadd, 1) ∧ 1075 + 1 = 1076 := by decide +kernel
theorem dL_law_1076 : decode code 1076 = .ok (.iaload, 1) ∧ 1076 + 1 = 1077 := by decide +kernel
theorem dL_law_1077 : decode code 1077 = .ok (.aload_n 0, 1) ∧ 1077 + 1 = 1078 := by decide +kernel
theorem dL_law_1078 : decode code 1078 = .ok (.iload_n 3, 1) ∧ 1078 + 1 = 1079 := by decide +kernel
theorem dL_law_1079 : decode code 1079 = .ok (.iconst 2, 1) ∧ 1079 + 1 = 1080 := by decide +kernel
theorem dL_law_1080 : decode code 1080 = .ok (.iadd, 1) ∧ 1080 + 1 = 1081 := by decide +kernel
theorem dL_law_1081 : decode code 1081 = .ok (.iaload, 1) ∧ 1081 + 1 = 1082 := by decide +kernel
theorem dL_law_1082 : decode code 1082 = .ok (.invokevirtual 143, 3) ∧ 1082 + 3 = 1085 := by decide +kernel
theorem dL_law_1085 : decode code 1085 = .ok (.aload_n 2, 1) ∧ 1085 + 1 = 1086 := by decide +kernel
theorem dL_law_1086 : decode code 1086 = .ok (.aload_n 0, 1) ∧ 1086 + 1 = 1087 := by decide +kernel
theorem dL_law_1087 : decode code 1087 = .ok (.iload_n 3, 1) ∧ 1087 + 1 = 1088 := by decide +kernel
theorem dL_law_1088 : decode code 1088 = .ok (.iconst 1, 1) ∧ 1088 + 1 = 1089 := by decide +kernel
theorem dL_law_1089 : decode code 1089 = .ok (.iadd, 1) ∧ 1089 + 1 = 1090 := by decide +kernel
theorem dL_law_1090 : decode code 1090 = .ok (.iaload, 1) ∧ 1090 + 1 = 1091 := by decide +kernel
theorem dL_law_1091 : decode code 1091 = .ok (.aload_n 0, 1) ∧ 1091 + 1 = 1092 := by decide +kernel
theorem dL_law_1092 : decode code 1092 = .ok (.iload_n 3, 1) ∧ 1092 + 1 = 1093 := by decide +kernel
theorem dL_law_1093 : decode code 1093 = .ok (.iconst 2, 1) ∧ 1093 + 1 = 1094 := by decide +kernel
theorem dL_law_1094 : decode code 1094 = .ok (.iadd, 1) ∧ 1094 + 1 = 1095 := by decide +kernel
theorem dL_law_1095 : decode code 1095 = .ok (.iaload, 1) ∧ 1095 + 1 = 1096 := by decide +kernel
theorem dL_law_1096 : decode code 1096 = .ok (.invokevirtual 146, 3) ∧ 1096 + 3 = 1099 := by decide +kernel
theorem dL_law_1099 : decode code 1099 = .ok (.if_icmp .eq 241, 3) ∧ 1099 + 3 = 1102 ∧ ((1099 : Nat) : Int) + (241) = ((1340 : Nat) : Int) := by decide +kernel
theorem dL_law_1102 : decode code 1102 = .ok (.iconst 0, 1) ∧ 1102 + 1 = 1103 := by decide +kernel
theorem dL_law_1103 : decode code 1103 = .ok (.ireturn, 1) := by decide +kernel
theorem dL_law_1104 : decode code 1104 = .ok (.aload_n 1, 1) ∧ 1104 + 1 = 1105 := by decide +kernel
theorem dL_law_1105 : decode code 1105 = .ok (.aload_n 0, 1) ∧ 1105 + 1 = 1106 := by decide +kernel
theorem dL_law_1106 : decode code 1106 = .ok (.iload_n 3, 1) ∧ 1106 + 1 = 1107 := by decide +kernel
theorem dL_law_1107 : decode code 1107 = .ok (.iconst 1, 1) ∧ 1107 + 1 = 1108 := by decide +kernel
theorem dL_law_1108 : decode code 1108 = .ok (.iadd, 1) ∧ 1108 + 1 = 1109 := by decide +kernel
theorem dL_law_1109 : decode code 1109 = .ok (.iaload, 1) ∧ 1109 + 1 = 1110 := by decide +kernel
theorem dL_law_1110 : decode code 1110 = .ok (.invokevirtual 147, 3) ∧ 1110 + 3 = 1113 := by decide +kernel
theorem dL_law_1113 : decode code 1113 = .ok (.aload_n 2, 1) ∧ 1113 + 1 = 1114 := by decide +kernel
theorem dL_law_1114 : decode code 1114 = .ok (.aload_n 0, 1) ∧ 1114 + 1 = 1115 := by decide +kernel
theorem dL_law_1115 : decode code 1115 = .ok (.iload_n 3, 1) ∧ 1115 + 1 = 1116 := by decide +kernel
theorem dL_law_1116 : decode code 1116 = .ok (.iconst 1, 1) ∧ 1116 + 1 = 1117 := by decide +kernel
theorem dL_law_1117 : decode code 1117 = .ok (.iadd, 1) ∧ 1117 + 1 = 1118 := by decide +kernel
theorem dL_law_1118 : decode code 1118 = .ok (.iaload, 1) ∧ 1118 + 1 = 1119 := by decide +kernel
theorem dL_law_1119 : decode code 1119 = .ok (.invokevirtual 150, 3) ∧ 1119 + 3 = 1122 := by decide +kernel
theorem dL_law_1122 : decode code 1122 = .ok (.if_icmp .eq 218, 3) ∧ 1122 + 3 = 1125 ∧ ((1122 : Nat) : Int) + (218) = ((1340 : Nat) : Int) := by decide +kernel
theorem dL_law_1125 : decode code 1125 = .ok (.iconst 0, 1) ∧ 1125 + 1 = 1126 := by decide +kernel
theorem dL_law_1126 : decode code 1126 = .ok (.ireturn, 1) := by decide +kernel
theorem dL_law_1127 : decode code 1127 = .ok (.aload_n 1, 1) ∧ 1127 + 1 = 1128 := by decide +kernel
theorem dL_law_1128 : decode code 1128 = .ok (.aload_n 0, 1) ∧ 1128 + 1 = 1129 := by decide +kernel
theorem dL_law_1129 : decode code 1129 = .ok (.iload_n 3, 1) ∧ 1129 + 1 = 1130 := by decide +kernel
theorem dL_law_1130 : decode code 1130 = .ok (.iconst 1, 1) ∧ 1130 + 1 = 1131 := by decide +kernel
theorem dL_law_1131 : decode code 1131 = .ok (.iadd, 1) ∧ 1131 + 1 = 1132 := by decide +kernel
theorem dL_law_1132 : decode code 1132 = .ok (.iaload, 1) ∧ 1132 + 1 = 1133 := by decide +kernel
theorem dL_law_1133 : decode code 1133 = .ok (.aload_n 0, 1) ∧ 1133 + 1 = 1134 := by decide +kernel
theorem dL_law_1134 : decode code 1134 = .ok (.iload_n 3, 1) ∧ 1134 + 1 = 1135 := by decide +kernel
theorem dL_law_1135 : decode code 1135 = .ok (.iconst 2, 1) ∧ 1135 + 1 = 1136 := by decide +kernel
theorem dL_law_1136 : decode code 1136 = .ok (.iadd, 1) ∧ 1136 + 1 = 1137 := by decide +kernel
theorem dL_law_1137 : decode code 1137 = .ok (.iaload, 1) ∧ 1137 + 1 = 1138 := by decide +kernel
theorem dL_law_1138 : decode code 1138 = .ok (.aload_n 0, 1) ∧ 1138 + 1 = 1139 := by decide +kernel
theorem dL_law_1139 : decode code 1139 = .ok (.iload_n 3, 1) ∧ 1139 + 1 = 1140 := by decide +kernel
theorem dL_law_1140 : decode code 1140 = .ok (.iconst 3, 1) ∧ 1140 + 1 = 1141 := by decide +kernel
theorem dL_law_1141 : decode code 1141 = .ok (.iadd, 1) ∧ 1141 + 1 = 1142 := by decide +kernel
theorem dL_law_1142 : decode code 1142 = .ok (.iaload, 1) ∧ 1142 + 1 = 1143 := by decide +kernel
theorem dL_law_1143 : decode code 1143 = .ok (.invokevirtual 151, 3) ∧ 1143 + 3 = 1146 := by decide +kernel
theorem dL_law_1146 : decode code 1146 = .ok (.aload_n 2, 1) ∧ 1146 + 1 = 1147 := by decide +kernel
theorem dL_law_1147 : decode code 1147 = .ok (.aload_n 0, 1) ∧ 1147 + 1 = 1148 := by decide +kernel
theorem dL_law_1148 : decode code 1148 = .ok (.iload_n 3, 1) ∧ 1148 + 1 = 1149 := by decide +kernel
theorem dL_law_1149 : decode code 1149 = .ok (.iconst 1, 1) ∧ 1149 + 1 = 1150 := by decide +kernel
theorem dL_law_1150 : decode code 1150 = .ok (.iadd, 1) ∧ 1150 + 1 = 1151 := by decide +kernel
theorem dL_law_1151 : decode code 1151 = .ok (.iaload, 1) ∧ 1151 + 1 = 1152 := by decide +kernel
theorem dL_law_1152 : decode code 1152 = .ok (.aload_n 0, 1) ∧ 1152 + 1 = 1153 := by decide +kernel
theorem dL_law_1153 : decode code 1153 = .ok (.iload_n 3, 1) ∧ 1153 + 1 = 1154 := by decide +kernel
theorem dL_law_1154 : decode code 1154 = .ok (.iconst 2, 1) ∧ 1154 + 1 = 1155 := by decide +kernel
theorem dL_law_1155 : decode code 1155 = .ok (.iadd, 1) ∧ 1155 + 1 = 1156 := by decide +kernel
theorem dL_law_1156 : decode code 1156 = .ok (.iaload, 1) ∧ 1156 + 1 = 1157 := by decide +kernel
theorem dL_law_1157 : decode code 1157 = .ok (.aload_n 0, 1) ∧ 1157 + 1 = 1158 := by decide +kernel
theorem dL_law_1158 : decode code 1158 = .ok (.iload_n 3, 1) ∧ 1158 + 1 = 1159 := by decide +kernel
theorem dL_law_1159 : decode code 1159 = .ok (.iconst 3, 1) ∧ 1159 + 1 = 1160 := by decide +kernel
theorem dL_law_1160 : decode code 1160 = .ok (.iadd, 1) ∧ 1160 + 1 = 1161 := by decide +kernel
theorem dL_law_1161 : decode code 1161 = .ok (.iaload, 1) ∧ 1161 + 1 = 1162 := by decide +kernel
theorem dL_law_1162 : decode code 1162 = .ok (.invokevirtual 154, 3) ∧ 1162 + 3 = 1165 := by decide +kernel
theorem dL_law_1165 : decode code 1165 = .ok (.if_icmp .eq 175, 3) ∧ 1165 + 3 = 1168 ∧ ((1165 : Nat) : Int) + (175) = ((1340 : Nat) : Int) := by decide +kernel
theorem dL_law_1168 : decode code 1168 = .ok (.iconst 0, 1) ∧ 1168 + 1 = 1169 := by decide +kernel
theorem dL_law_1169 : decode code 1169 = .ok (.ireturn, 1) := by decide +kernel
theorem dL_law_1170 : decode code 1170 = .ok (.aload_n 1, 1) ∧ 1170 + 1 = 1171 := by decide +kernel
theorem dL_law_1171 : decode code 1171 = .ok (.aload_n 0, 1) ∧ 1171 + 1 = 1172 := by decide +kernel
theorem dL_law_1172 : decode code 1172 = .ok (.iload_n 3, 1) ∧ 1172 + 1 = 1173 := by decide +kernel
theorem dL_law_1173 : decode code 1173 = .ok (.iconst 1, 1) ∧ 1173 + 1 = 1174 := by decide +kernel
theorem dL_law_1174 : decode code 1174 = .ok (.iadd, 1) ∧ 1174 + 1 = 1175 := by decide +kernel
theorem dL_law_1175 : decode code 1175 = .ok (.iaload, 1) ∧ 1175 + 1 = 1176 := by decide +kernel
theorem dL_law_1176 : decode code 1176 = .ok (.aload_n 0, 1) ∧ 1176 + 1 = 1177 := by decide +kernel
theorem dL_law_1177 : decode code 1177 = .ok (.iload_n 3, 1) ∧ 1177 + 1 = 1178 := by decide +kernel
theorem dL_law_1178 : decode code 1178 = .ok (.iconst 2, 1) ∧ 1178 + 1 = 1179 := by decide +kernel
theorem dL_law_1179 : decode code 1179 = .ok (.iadd, 1) ∧ 1179 + 1 = 1180 := by decide +kernel
theorem dL_law_1180 : decode code 1180 = .ok (.iaload, 1) ∧ 1180 + 1 = 1181 := by decide +kernel
theorem dL_law_1181 : decode code 1181 = .ok (.aload_n 0, 1) ∧ 1181 + 1 = 1182 := by decide +kernel
theorem dL_law_1182 : decode code 1182 = .ok (.iload_n 3, 1) ∧ 1182 + 1 = 1183 := by decide +kernel
theorem dL_law_1183 : decode code 1183 = .ok (.iconst 3, 1) ∧ 1183 + 1 = 1184 := by decide +kernel
theorem dL_law_1184 : decode code 1184 = .ok (.iadd, 1) ∧ 1184 + 1 = 1185 := by decide +kernel
theorem dL_law_1185 : decode code 1185 = .ok (.iaload, 1) ∧ 1185 + 1 = 1186 := by decide +kernel
theorem dL_law_1186 : decode code 1186 = .ok (.i2l, 1) ∧ 1186 + 1 = 1187 := by decide +kernel
theorem dL_law_1187 : decode code 1187 = .ok (.bipush 32, 2) ∧ 1187 + 2 = 1189 := by decide +kernel
theorem dL_law_1189 : decode code 1189 = .ok (.lshl, 1) ∧ 1189 + 1 = 1190 := by decide +kernel
theorem dL_law_1190 : decode code 1190 = .ok (.aload_n 0, 1) ∧ 1190 + 1 = 1191 := by decide +kernel
theorem dL_law_1191 : decode code 1191 = .ok (.iload_n 3, 1) ∧ 1191 + 1 = 1192 := by decide +kernel
theorem dL_law_1192 : decode code 1192 = .ok (.iconst 4, 1) ∧ 1192 + 1 = 1193 := by decide +kernel
theorem dL_law_1193 : decode code 1193 = .ok (.iadd, 1) ∧ 1193 + 1 = 1194 := by decide +kernel
theorem dL_law_1194 : decode code 1194 = .ok (.iaload, 1) ∧ 1194 + 1 = 1195 := by decide +kernel
theorem dL_law_1195 : decode code 1195 = .ok (.i2l, 1) ∧ 1195 + 1 = 1196 := by decide +kernel
theorem dL_law_1196 : decode code 1196 = .ok (.ldc2_w 155, 3) ∧ 1196 + 3 = 1199 := by decide +kernel
theorem dL_law_1199 : decode code 1199 = .ok (.land, 1) ∧ 1199 + 1 = 1200 := by decide +kernel
theorem dL_law_1200 : decode code 1200 = .ok (.lor, 1) ∧ 1200 + 1 = 1201 := by decide +kernel
theorem dL_law_1201 : decode code 1201 = .ok (.invokevirtual 157, 3) ∧ 1201 + 3 = 1204 := by decide +kernel
theorem dL_law_1204 : decode code 1204 = .ok (.aload_n 2, 1) ∧ 1204 + 1 = 1205 := by decide +kernel
theorem dL_law_1205 : decode code 1205 = .ok (.aload_n 0, 1) ∧ 1205 + 1 = 1206 := by decide +kernel
theorem dL_law_1206 : decode code 1206 = .ok (.iload_n 3, 1) ∧ 1206 + 1 = 1207 := by decide +kernel
theorem dL_law_1207 : decode code 1207 = .ok (.iconst 1, 1) ∧ 1207 + 1 = 1208 := by decide +kernel
theorem dL_law_1208 : decode code 1208 = .ok (.iadd, 1) ∧ 1208 + 1 = 1209 := by decide +kernel
theorem dL_law_1209 : decode code 1209 = .ok (.iaload, 1) ∧ 1209 + 1 = 1210 := by decide +kernel
theorem dL_law_1210 : decode code 1210 = .ok (.aload_n 0, 1) ∧ 1210 + 1 = 1211 := by decide +kernel
theorem dL_law_1211 : decode code 1211 = .ok (.iload_n 3, 1) ∧ 1211 + 1 = 1212 := by decide +kernel
theorem dL_law_1212 : decode code 1212 = .ok (.iconst 2, 1) ∧ 1212 + 1 = 1213 := by decide +kernel
theorem dL_law_1213 : decode code 1213 = .ok (.iadd, 1) ∧ 1213 + 1 = 1214 := by decide +kernel
theorem dL_law_1214 : decode code 1214 = .ok (.iaload, 1) ∧ 1214 + 1 = 1215 := by decide +kernel
theorem dL_law_1215 : decode code 1215 = .ok (.aload_n 0, 1) ∧ 1215 + 1 = 1216 := by decide +kernel
theorem dL_law_1216 : decode code 1216 = .ok (.iload_n 3, 1) ∧ 1216 + 1 = 1217 := by decide +kernel
theorem dL_law_1217 : decode code 1217 = .ok (.iconst 3, 1) ∧ 1217 + 1 = 1218 := by decide +kernel
theorem dL_law_1218 : decode code 1218 = .ok (.iadd, 1) ∧ 1218 + 1 = 1219 := by decide +kernel
theorem dL_law_1219 : decode code 1219 = .ok (.iaload, 1) ∧ 1219 + 1 = 1220 := by decide +kernel
theorem dL_law_1220 : decode code 1220 = .ok (.i2l, 1) ∧ 1220 + 1 = 1221 := by decide +kernel
theorem dL_law_1221 : decode code 1221 = .ok (.bipush 32, 2) ∧ 1221 + 2 = 1223 := by decide +kernel
theorem dL_law_1223 : decode code 1223 = .ok (.lshl, 1) ∧ 1223 + 1 = 1224 := by decide +kernel
theorem dL_law_1224 : decode code 1224 = .ok (.aload_n 0, 1) ∧ 1224 + 1 = 1225 := by decide +kernel
theorem dL_law_1225 : decode code 1225 = .ok (.iload_n 3, 1) ∧ 1225 + 1 = 1226 := by decide +kernel
theorem dL_law_1226 : decode code 1226 = .ok (.iconst 4, 1) ∧ 1226 + 1 = 1227 := by decide +kernel
theorem dL_law_1227 : decode code 1227 = .ok (.iadd, 1) ∧ 1227 + 1 = 1228 := by decide +kernel
theorem dL_law_1228 : decode code 1228 = .ok (.iaload, 1) ∧ 1228 + 1 = 1229 := by decide +kernel
theorem dL_law_1229 : decode code 1229 = .ok (.i2l, 1) ∧ 1229 + 1 = 1230 := by decide +kernel
theorem dL_law_1230 : decode code 1230 = .ok (.ldc2_w 155, 3) ∧ 1230 + 3 = 1233 := by decide +kernel
theorem dL_law_1233 : decode code 1233 = .ok (.land, 1) ∧ 1233 + 1 = 1234 := by decide +kernel
theorem dL_law_1234 : decode code 1234 = .ok (.lor, 1) ∧ 1234 + 1 = 1235 := by decide +kernel
theorem dL_law_1235 : decode code 1235 = .ok (.invokevirtual 161, 3) ∧ 1235 + 3 = 1238 := by decide +kernel
theorem dL_law_1238 : decode code 1238 = .ok (.if_icmp .eq 102, 3) ∧ 1238 + 3 = 1241 ∧ ((1238 : Nat) : Int) + (102) = ((1340 : Nat) : Int) := by decide +kernel
theorem dL_law_1241 : decode code 1241 = .ok (.iconst 0, 1) ∧ 1241 + 1 = 1242 := by decide +kernel
theorem dL_law_1242 : decode code 1242 = .ok (.ireturn, 1) := by decide +kernel
theorem dL_law_1243 : decode code 1243 = .ok (.aload_n 1, 1) ∧ 1243 + 1 = 1244 := by decide +kernel
theorem dL_law_1244 : decode code 1244 = .ok (.aload_n 0, 1) ∧ 1244 + 1 = 1245 := by decide +kernel
theorem dL_law_1245 : decode code 1245 = .ok (.iload_n 3, 1) ∧ 1245 + 1 = 1246 := by decide +kernel
theorem dL_law_1246 : decode code 1246 = .ok (.iconst 1, 1) ∧ 1246 + 1 = 1247 := by decide +kernel
theorem dL_law_1247 : decode code 1247 = .ok (.iadd, 1) ∧ 1247 + 1 = 1248 := by decide +kernel
theorem dL_law_1248 : decode code 1248 = .ok (.iaload, 1) ∧ 1248 + 1 = 1249 := by decide +kernel
theorem dL_law_1249 : decode code 1249 = .ok (.aload_n 0, 1) ∧ 1249 + 1 = 1250 := by decide +kernel
theorem dL_law_1250 : decode code 1250 = .ok (.iload_n 3, 1) ∧ 1250 + 1 = 1251 := by decide +kernel
theorem dL_law_1251 : decode code 1251 = .ok (.iconst 2, 1) ∧ 1251 + 1 = 1252 := by decide +kernel
theorem dL_law_1252 : decode code 1252 = .ok (.iadd, 1) ∧ 1252 + 1 = 1253 := by decide +kernel
theorem dL_law_1253 : decode code 1253 = .ok (.iaload, 1) ∧ 1253 + 1 = 1254 := by decide +kernel
theorem dL_law_1254 : decode code 1254 = .ok (.invokevirtual 162, 3) ∧ 1254 + 3 = 1257 := by decide +kernel
theorem dL_law_1257 : decode code 1257 = .ok (.aload_n 2, 1) ∧ 1257 + 1 = 1258 := by decide +kernel
theorem dL_law_1258 : decode code 1258 = .ok (.aload_n 0, 1) ∧ 1258 + 1 = 1259 := by decide +kernel
theorem dL_law_1259 : decode code 1259 = .ok (.iload_n 3, 1) ∧ 1259 + 1 = 1260 := by decide +kernel
theorem dL_law_1260 : decode code 1260 = .ok (.iconst 1, 1) ∧ 1260 + 1 = 1261 := by decide +kernel
theorem dL_law_1261 : decode code 1261 = .ok (.iadd, 1) ∧ 1261 + 1 = 1262 := by decide +kernel
theorem dL_law_1262 : decode code 1262 = .ok (.iaload, 1) ∧ 1262 + 1 = 1263 := by decide +kernel
theorem dL_law_1263 : decode code 1263 = .ok (.aload_n 0, 1) ∧ 1263 + 1 = 1264 := by decide +kernel
theorem dL_law_1264 : decode code 1264 = .ok (.iload_n 3, 1) ∧ 1264 + 1 = 1265 := by decide +kernel
theorem dL_law_1265 : decode code 1265 = .ok (.iconst 2, 1) ∧ 1265 + 1 = 1266 := by decide +kernel
theorem dL_law_1266 : decode code 1266 = .ok (.iadd, 1) ∧ 1266 + 1 = 1267 := by decide +kernel
theorem dL_law_1267 : decode code 1267 = .ok (.iaload, 1) ∧ 1267 + 1 = 1268 := by decide +kernel
theorem dL_law_1268 : decode code 1268 = .ok (.invokevirtual 165, 3) ∧ 1268 + 3 = 1271 := by decide +kernel
theorem dL_law_1271 : decode code 1271 = .ok (.lcmp, 1) ∧ 1271 + 1 = 1272 := by decide +kernel
theorem dL_law_1272 : decode code 1272 = .ok (.ifCond .eq 68, 3) ∧ 1272 + 3 = 1275 ∧ ((1272 : Nat) : Int) + (68) = ((1340 : Nat) : Int) := by decide +kernel
theorem dL_law_1275 : decode code 1275 = .ok (.iconst 0, 1) ∧ 1275 + 1 = 1276 := by decide +kernel
theorem dL_law_1276 : decode code 1276 = .ok (.ireturn, 1) := by decide +kernel
theorem dL_law_1277 : decode code 1277 = .ok (.aload_n 1, 1) ∧ 1277 + 1 = 1278 := by decide +kernel
theorem dL_law_1278 : decode code 1278 = .ok (.aload_n 0, 1) ∧ 1278 + 1 = 1279 := by decide +kernel
theorem dL_law_1279 : decode code 1279 = .ok (.iload_n 3, 1) ∧ 1279 + 1 = 1280 := by decide +kernel
theorem dL_law_1280 : decode code 1280 = .ok (.iconst 1, 1) ∧ 1280 + 1 = 1281 := by decide +kernel
theorem dL_law_1281 : decode code 1281 = .ok (.iadd, 1) ∧ 1281 + 1 = 1282 := by decide +kernel
theorem dL_law_1282 : decode code 1282 = .ok (.iaload, 1) ∧ 1282 + 1 = 1283 := by decide +kernel
theorem dL_law_1283 : decode code 1283 = .ok (.aload_n 0, 1) ∧ 1283 + 1 = 1284 := by decide +kernel
theorem dL_law_1284 : decode code 1284 = .ok (.iload_n 3, 1) ∧ 1284 + 1 = 1285 := by decide +kernel
theorem dL_law_1285 : decode code 1285 = .ok (.iconst 2, 1) ∧ 1285 + 1 = 1286 := by decide +kernel
theorem dL_law_1286 : decode code 1286 = .ok (.iadd, 1) ∧ 1286 + 1 = 1287 := by decide +kernel
theorem dL_law_1287 : decode code 1287 = .ok (.iaload, 1) ∧ 1287 + 1 = 1288 := by decide +kernel
theorem dL_law_1288 : decode code 1288 = .ok (.aload_n 0, 1) ∧ 1288 + 1 = 1289 := by decide +kernel
theorem dL_law_1289 : decode code 1289 = .ok (.iload_n 3, 1) ∧ 1289 + 1 = 1290 := by decide +kernel
theorem dL_law_1290 : decode code 1290 = .ok (.iconst 3, 1) ∧ 1290 + 1 = 1291 := by decide +kernel
theorem dL_law_1291 : decode code 1291 = .ok (.iadd, 1) ∧ 1291 + 1 = 1292 := by decide +kernel
theorem dL_law_1292 : decode code 1292 = .ok (.iaload, 1) ∧ 1292 + 1 = 1293 := by decide +kernel
theorem dL_law_1293 : decode code 1293 = .ok (.aload_n 0, 1) ∧ 1293 + 1 = 1294 := by decide +kernel
theorem dL_law_1294 : decode code 1294 = .ok (.iload_n 3, 1) ∧ 1294 + 1 = 1295 := by decide +kernel
theorem dL_law_1295 : decode code 1295 = .ok (.iconst 4, 1) ∧ 1295 + 1 = 1296 := by decide +kernel
theorem dL_law_1296 : decode code 1296 = .ok (.iadd, 1) ∧ 1296 + 1 = 1297 := by decide +kernel
theorem dL_law_1297 : decode code 1297 = .ok (.iaload, 1) ∧ 1297 + 1 = 1298 := by decide +kernel
theorem dL_law_1298 : decode code 1298 = .ok (.aload_n 0, 1) ∧ 1298 + 1 = 1299 := by decide +kernel
theorem dL_law_1299 : decode code 1299 = .ok (.iload_n 3, 1) ∧ 1299 + 1 = 1300 := by decide +kernel
theorem dL_law_1300 : decode code 1300 = .ok (.iconst 5, 1) ∧ 1300 + 1 = 1301 := by decide +kernel
theorem dL_law_1301 : decode code 1301 = .ok (.iadd, 1) ∧ 1301 + 1 = 1302 := by decide +kernel
theorem dL_law_1302 : decode code 1302 = .ok (.iaload, 1) ∧ 1302 + 1 = 1303 := by decide +kernel
theorem dL_law_1303 : decode code 1303 = .ok (.invokevirtual 166, 3) ∧ 1303 + 3 = 1306 := by decide +kernel
theorem dL_law_1306 : decode code 1306 = .ok (.aload_n 2, 1) ∧ 1306 + 1 = 1307 := by decide +kernel
theorem dL_law_1307 : decode code 1307 = .ok (.aload_n 0, 1) ∧ 1307 + 1 = 1308 := by decide +kernel
theorem dL_law_1308 : decode code 1308 = .ok (.iload_n 3, 1) ∧ 1308 + 1 = 1309 := by decide +kernel
theorem dL_law_1309 : decode code 1309 = .ok (.iconst 1, 1) ∧ 1309 + 1 = 1310 := by decide +kernel
theorem dL_law_1310 : decode code 1310 = .ok (.iadd, 1) ∧ 1310 + 1 = 1311 := by decide +kernel
theorem dL_law_1311 : decode code 1311 = .ok (.iaload, 1) ∧ 1311 + 1 = 1312 := by decide +kernel
theorem dL_law_1312 : decode code 1312 = .ok (.aload_n 0, 1) ∧ 1312 + 1 = 1313 := by decide +kernel
theorem dL_law_1313 : decode code 1313 = .ok (.iload_n 3, 1) ∧ 1313 + 1 = 1314 := by decide +kernel
theorem dL_law_1314 : decode code 1314 = .ok (.iconst 2, 1) ∧ 1314 + 1 = 1315 := by decide +kernel
theorem dL_law_1315 : decode code 1315 = .ok (.iadd, 1) ∧ 1315 + 1 = 1316 := by decide +kernel
theorem dL_law_1316 : decode code 1316 = .ok (.iaload, 1) ∧ 1316 + 1 = 1317 := by decide +kernel
theorem dL_law_1317 : decode code 1317 = .ok (.aload_n 0, 1) ∧ 1317 + 1 = 1318 := by decide +kernel
theorem dL_law_1318 : decode code 1318 = .ok (.iload_n 3, 1) ∧ 1318 + 1 = 1319 := by decide +kernel
theorem dL_law_1319 : decode code 1319 = .ok (.iconst 3, 1) ∧ 1319 + 1 = 1320 := by decide +kernel
theorem dL_law_1320 : decode code 1320 = .ok (.iadd, 1) ∧ 1320 + 1 = 1321 := by decide +kernel
theorem dL_law_1321 : decode code 1321 = .ok (.iaload, 1) ∧ 1321 + 1 = 1322 := by decide +kernel
theorem dL_law_1322 : decode code 1322 = .ok (.aload_n 0, 1) ∧ 1322 + 1 = 1323 := by decide +kernel
theorem dL_law_1323 : decode code 1323 = .ok (.iload_n 3, 1) ∧ 1323 + 1 = 1324 := by decide +kernel
theorem dL_law_1324 : decode code 1324 = .ok (.iconst 4, 1) ∧ 1324 + 1 = 1325 := by decide +kernel
theorem dL_law_1325 : decode code 1325 = .ok (.iadd, 1) ∧ 1325 + 1 = 1326 := by decide +kernel
theorem dL_law_1326 : decode code 1326 = .ok (.iaload, 1) ∧ 1326 + 1 = 1327 := by decide +kernel
theorem dL_law_1327 : decode code 1327 = .ok (.aload_n 0, 1) ∧ 1327 + 1 = 1328 := by decide +kernel
theorem dL_law_1328 : decode code 1328 = .ok (.iload_n 3, 1) ∧ 1328 + 1 = 1329 := by decide +kernel
theorem dL_law_1329 : decode code 1329 = .ok (.iconst 5, 1) ∧ 1329 + 1 = 1330 := by decide +kernel
theorem dL_law_1330 : decode code 1330 = .ok (.iadd, 1) ∧ 1330 + 1 = 1331 := by decide +kernel
theorem dL_law_1331 : decode code 1331 = .ok (.iaload, 1) ∧ 1331 + 1 = 1332 := by decide +kernel
theorem dL_law_1332 : decode code 1332 = .ok (.invokevirtual 170, 3) ∧ 1332 + 3 = 1335 := by decide +kernel
theorem dL_law_1335 : decode code 1335 = .ok (.if_icmp .eq 5, 3) ∧ 1335 + 3 = 1338 ∧ ((1335 : Nat) : Int) + (5) = ((1340 : Nat) : Int) := by decide +kernel
theorem dL_law_1338 : decode code 1338 = .ok (.iconst 0, 1) ∧ 1338 + 1 = 1339 := by decide +kernel
theorem dL_law_1339 : decode code 1339 = .ok (.ireturn, 1) := by decide +kernel
theorem dL_law_1340 : decode code 1340 = .ok (.iinc 3 6, 3) ∧ 1340 + 3 = 1343 := by decide +kernel
theorem dL_law_1343 : decode code 1343 = .ok (.goto (-1325), 3) ∧ ((1343 : Nat) : Int) + (-1325) = ((18 : Nat) : Int) := by decide +kernel
theorem dL_law_1346 : decode code 1346 = .ok (.iconst 1, 1) ∧ 1346 + 1 = 1347 := by decide +kernel
theorem dL_law_1347 : decode code 1347 = .ok (.ireturn, 1) := by decide +kernel
