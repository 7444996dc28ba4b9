/-! the instructions as they are decoded; written by wip/whole/gen_code.py -/
theorem dX7_in_0 : decode bX7_in 0 = .ok (.iload_n 1, 1) ∧ 0 + 1 = 1 := by decide +kernel
theorem dX7_in_1 : decode bX7_in 1 = .ok (.iload_n 2, 1) ∧ 1 + 1 = 2 := by decide +kernel
theorem dX7_in_2 : decode bX7_in 2 = .ok (.if_icmp .lt 12, 3) ∧ 2 + 3 = 5 ∧ ((2 : Nat) : Int) + (12) = ((14 : Nat) : Int) := by decide +kernel
theorem dX7_in_5 : decode bX7_in 5 = .ok (.iload_n 1, 1) ∧ 5 + 1 = 6 := by decide +kernel
theorem dX7_in_6 : decode bX7_in 6 = .ok (.iload_n 3, 1) ∧ 6 + 1 = 7 := by decide +kernel
theorem dX7_in_7 : decode bX7_in 7 = .ok (.if_icmp .gt 7, 3) ∧ 7 + 3 = 10 ∧ ((7 : Nat) : Int) + (7) = ((14 : Nat) : Int) := by decide +kernel
theorem dX7_in_10 : decode bX7_in 10 = .ok (.iconst 1, 1) ∧ 10 + 1 = 11 := by decide +kernel
theorem dX7_in_11 : decode bX7_in 11 = .ok (.goto 4, 3) ∧ ((11 : Nat) : Int) + (4) = ((15 : Nat) : Int) := by decide +kernel
theorem dX7_in_14 : decode bX7_in 14 = .ok (.iconst 0, 1) ∧ 14 + 1 = 15 := by decide +kernel
theorem dX7_in_15 : decode bX7_in 15 = .ok (.ireturn, 1) := by decide +kernel
theorem dX7_held_0 : decode bX7_held 0 = .ok (.iload_n 1, 1) ∧ 0 + 1 = 1 := by decide +kernel
theorem dX7_held_1 : decode bX7_held 1 = .ok (.ifCond .ge 7, 3) ∧ 1 + 3 = 4 ∧ ((1 : Nat) : Int) + (7) = ((8 : Nat) : Int) := by decide +kernel
theorem dX7_held_4 : decode bX7_held 4 = .ok (.iconst 0, 1) ∧ 4 + 1 = 5 := by decide +kernel
theorem dX7_held_5 : decode bX7_held 5 = .ok (.goto 13, 3) ∧ ((5 : Nat) : Int) + (13) = ((18 : Nat) : Int) := by decide +kernel
theorem dX7_held_8 : decode bX7_held 8 = .ok (.iload_n 1, 1) ∧ 8 + 1 = 9 := by decide +kernel
theorem dX7_held_9 : decode bX7_held 9 = .ok (.iload_n 2, 1) ∧ 9 + 1 = 10 := by decide +kernel
theorem dX7_held_10 : decode bX7_held 10 = .ok (.if_icmp .le 7, 3) ∧ 10 + 3 = 13 ∧ ((10 : Nat) : Int) + (7) = ((17 : Nat) : Int) := by decide +kernel
theorem dX7_held_13 : decode bX7_held 13 = .ok (.iload_n 2, 1) ∧ 13 + 1 = 14 := by decide +kernel
theorem dX7_held_14 : decode bX7_held 14 = .ok (.goto 4, 3) ∧ ((14 : Nat) : Int) + (4) = ((18 : Nat) : Int) := by decide +kernel
theorem dX7_held_17 : decode bX7_held 17 = .ok (.iload_n 1, 1) ∧ 17 + 1 = 18 := by decide +kernel
theorem dX7_held_18 : decode bX7_held 18 = .ok (.ireturn, 1) := by decide +kernel
theorem dX7_isBorrower_0 : decode bX7_isBorrower 0 = .ok (.aload_n 0, 1) ∧ 0 + 1 = 1 := by decide +kernel
theorem dX7_isBorrower_1 : decode bX7_isBorrower 1 = .ok (.iload_n 1, 1) ∧ 1 + 1 = 2 := by decide +kernel
theorem dX7_isBorrower_2 : decode bX7_isBorrower 2 = .ok (.iconst 0, 1) ∧ 2 + 1 = 3 := by decide +kernel
theorem dX7_isBorrower_3 : decode bX7_isBorrower 3 = .ok (.aload_n 0, 1) ∧ 3 + 1 = 4 := by decide +kernel
theorem dX7_isBorrower_4 : decode bX7_isBorrower 4 = .ok (.getfield 13, 3) ∧ 4 + 3 = 7 := by decide +kernel
theorem dX7_isBorrower_7 : decode bX7_isBorrower 7 = .ok (.iconst 1, 1) ∧ 7 + 1 = 8 := by decide +kernel
theorem dX7_isBorrower_8 : decode bX7_isBorrower 8 = .ok (.isub, 1) ∧ 8 + 1 = 9 := by decide +kernel
theorem dX7_isBorrower_9 : decode bX7_isBorrower 9 = .ok (.invokevirtual 263, 3) ∧ 9 + 3 = 12 := by decide +kernel
theorem dX7_isBorrower_12 : decode bX7_isBorrower 12 = .ok (.ireturn, 1) := by decide +kernel
theorem dX7_isDepth_0 : decode bX7_isDepth 0 = .ok (.aload_n 0, 1) ∧ 0 + 1 = 1 := by decide +kernel
theorem dX7_isDepth_1 : decode bX7_isDepth 1 = .ok (.iload_n 1, 1) ∧ 1 + 1 = 2 := by decide +kernel
theorem dX7_isDepth_2 : decode bX7_isDepth 2 = .ok (.iconst 0, 1) ∧ 2 + 1 = 3 := by decide +kernel
theorem dX7_isDepth_3 : decode bX7_isDepth 3 = .ok (.sipush 9999, 3) ∧ 3 + 3 = 6 := by decide +kernel
theorem dX7_isDepth_6 : decode bX7_isDepth 6 = .ok (.invokevirtual 263, 3) ∧ 6 + 3 = 9 := by decide +kernel
theorem dX7_isDepth_9 : decode bX7_isDepth 9 = .ok (.ireturn, 1) := by decide +kernel
theorem dX7_isDays_0 : decode bX7_isDays 0 = .ok (.aload_n 0, 1) ∧ 0 + 1 = 1 := by decide +kernel
theorem dX7_isDays_1 : decode bX7_isDays 1 = .ok (.iload_n 1, 1) ∧ 1 + 1 = 2 := by decide +kernel
theorem dX7_isDays_2 : decode bX7_isDays 2 = .ok (.iconst 0, 1) ∧ 2 + 1 = 3 := by decide +kernel
theorem dX7_isDays_3 : decode bX7_isDays 3 = .ok (.bipush 60, 2) ∧ 3 + 2 = 5 := by decide +kernel
theorem dX7_isDays_5 : decode bX7_isDays 5 = .ok (.invokevirtual 263, 3) ∧ 5 + 3 = 8 := by decide +kernel
theorem dX7_isDays_8 : decode bX7_isDays 8 = .ok (.ireturn, 1) := by decide +kernel
theorem dX7_isWants_0 : decode bX7_isWants 0 = .ok (.aload_n 0, 1) ∧ 0 + 1 = 1 := by decide +kernel
theorem dX7_isWants_1 : decode bX7_isWants 1 = .ok (.iload_n 1, 1) ∧ 1 + 1 = 2 := by decide +kernel
theorem dX7_isWants_2 : decode bX7_isWants 2 = .ok (.iconst 1, 1) ∧ 2 + 1 = 3 := by decide +kernel
theorem dX7_isWants_3 : decode bX7_isWants 3 = .ok (.bipush 99, 2) ∧ 3 + 2 = 5 := by decide +kernel
theorem dX7_isWants_5 : decode bX7_isWants 5 = .ok (.invokevirtual 263, 3) ∧ 5 + 3 = 8 := by decide +kernel
theorem dX7_isWants_8 : decode bX7_isWants 8 = .ok (.ireturn, 1) := by decide +kernel
theorem dX7_isEvery_0 : decode bX7_isEvery 0 = .ok (.aload_n 0, 1) ∧ 0 + 1 = 1 := by decide +kernel
theorem dX7_isEvery_1 : decode bX7_isEvery 1 = .ok (.iload_n 1, 1) ∧ 1 + 1 = 2 := by decide +kernel
theorem dX7_isEvery_2 : decode bX7_isEvery 2 = .ok (.iconst 1, 1) ∧ 2 + 1 = 3 := by decide +kernel
theorem dX7_isEvery_3 : decode bX7_isEvery 3 = .ok (.bipush 20, 2) ∧ 3 + 2 = 5 := by decide +kernel
theorem dX7_isEvery_5 : decode bX7_isEvery 5 = .ok (.invokevirtual 263, 3) ∧ 5 + 3 = 8 := by decide +kernel
theorem dX7_isEvery_8 : decode bX7_isEvery 8 = .ok (.ireturn, 1) := by decide +kernel
theorem dX7_borrower_0 : decode bX7_borrower 0 = .ok (.aload_n 0, 1) ∧ 0 + 1 = 1 := by decide +kernel
theorem dX7_borrower_1 : decode bX7_borrower 1 = .ok (.iload_n 1, 1) ∧ 1 + 1 = 2 := by decide +kernel
theorem dX7_borrower_2 : decode bX7_borrower 2 = .ok (.iconst 0, 1) ∧ 2 + 1 = 3 := by decide +kernel
theorem dX7_borrower_3 : decode bX7_borrower 3 = .ok (.bipush 6, 2) ∧ 3 + 2 = 5 := by decide +kernel
theorem dX7_borrower_5 : decode bX7_borrower 5 = .ok (.invokevirtual 263, 3) ∧ 5 + 3 = 8 := by decide +kernel
theorem dX7_borrower_8 : decode bX7_borrower 8 = .ok (.ifCond .ne 5, 3) ∧ 8 + 3 = 11 ∧ ((8 : Nat) : Int) + (5) = ((13 : Nat) : Int) := by decide +kernel
theorem dX7_borrower_11 : decode bX7_borrower 11 = .ok (.iconst (-1), 1) ∧ 11 + 1 = 12 := by decide +kernel
theorem dX7_borrower_12 : decode bX7_borrower 12 = .ok (.ireturn, 1) := by decide +kernel
theorem dX7_borrower_13 : decode bX7_borrower 13 = .ok (.aload_n 0, 1) ∧ 13 + 1 = 14 := by decide +kernel
theorem dX7_borrower_14 : decode bX7_borrower 14 = .ok (.iload_n 2, 1) ∧ 14 + 1 = 15 := by decide +kernel
theorem dX7_borrower_15 : decode bX7_borrower 15 = .ok (.iconst 0, 1) ∧ 15 + 1 = 16 := by decide +kernel
theorem dX7_borrower_16 : decode bX7_borrower 16 = .ok (.bipush 9, 2) ∧ 16 + 2 = 18 := by decide +kernel
theorem dX7_borrower_18 : decode bX7_borrower 18 = .ok (.invokevirtual 263, 3) ∧ 18 + 3 = 21 := by decide +kernel
theorem dX7_borrower_21 : decode bX7_borrower 21 = .ok (.ifCond .eq 20, 3) ∧ 21 + 3 = 24 ∧ ((21 : Nat) : Int) + (20) = ((41 : Nat) : Int) := by decide +kernel
theorem dX7_borrower_24 : decode bX7_borrower 24 = .ok (.aload_n 0, 1) ∧ 24 + 1 = 25 := by decide +kernel
theorem dX7_borrower_25 : decode bX7_borrower 25 = .ok (.iload_n 3, 1) ∧ 25 + 1 = 26 := by decide +kernel
theorem dX7_borrower_26 : decode bX7_borrower 26 = .ok (.invokevirtual 267, 3) ∧ 26 + 3 = 29 := by decide +kernel
theorem dX7_borrower_29 : decode bX7_borrower 29 = .ok (.ifCond .eq 12, 3) ∧ 29 + 3 = 32 ∧ ((29 : Nat) : Int) + (12) = ((41 : Nat) : Int) := by decide +kernel
theorem dX7_borrower_32 : decode bX7_borrower 32 = .ok (.aload_n 0, 1) ∧ 32 + 1 = 33 := by decide +kernel
theorem dX7_borrower_33 : decode bX7_borrower 33 = .ok (.iload 4, 2) ∧ 33 + 2 = 35 := by decide +kernel
theorem dX7_borrower_35 : decode bX7_borrower 35 = .ok (.invokevirtual 271, 3) ∧ 35 + 3 = 38 := by decide +kernel
theorem dX7_borrower_38 : decode bX7_borrower 38 = .ok (.ifCond .ne 6, 3) ∧ 38 + 3 = 41 ∧ ((38 : Nat) : Int) + (6) = ((44 : Nat) : Int) := by decide +kernel
theorem dX7_borrower_41 : decode bX7_borrower 41 = .ok (.bipush (-2), 2) ∧ 41 + 2 = 43 := by decide +kernel
theorem dX7_borrower_43 : decode bX7_borrower 43 = .ok (.ireturn, 1) := by decide +kernel
theorem dX7_borrower_44 : decode bX7_borrower 44 = .ok (.aload_n 0, 1) ∧ 44 + 1 = 45 := by decide +kernel
theorem dX7_borrower_45 : decode bX7_borrower 45 = .ok (.getfield 13, 3) ∧ 45 + 3 = 48 := by decide +kernel
theorem dX7_borrower_48 : decode bX7_borrower 48 = .ok (.bipush 6, 2) ∧ 48 + 2 = 50 := by decide +kernel
theorem dX7_borrower_50 : decode bX7_borrower 50 = .ok (.if_icmp .ne 6, 3) ∧ 50 + 3 = 53 ∧ ((50 : Nat) : Int) + (6) = ((56 : Nat) : Int) := by decide +kernel
theorem dX7_borrower_53 : decode bX7_borrower 53 = .ok (.bipush (-4), 2) ∧ 53 + 2 = 55 := by decide +kernel
theorem dX7_borrower_55 : decode bX7_borrower 55 = .ok (.ireturn, 1) := by decide +kernel
theorem dX7_borrower_56 : decode bX7_borrower 56 = .ok (.aload_n 0, 1) ∧ 56 + 1 = 57 := by decide +kernel
theorem dX7_borrower_57 : decode bX7_borrower 57 = .ok (.getfield 19, 3) ∧ 57 + 3 = 60 := by decide +kernel
theorem dX7_borrower_60 : decode bX7_borrower 60 = .ok (.aload_n 0, 1) ∧ 60 + 1 = 61 := by decide +kernel
theorem dX7_borrower_61 : decode bX7_borrower 61 = .ok (.getfield 13, 3) ∧ 61 + 3 = 64 := by decide +kernel
theorem dX7_borrower_64 : decode bX7_borrower 64 = .ok (.iload_n 1, 1) ∧ 64 + 1 = 65 := by decide +kernel
theorem dX7_borrower_65 : decode bX7_borrower 65 = .ok (.iastore, 1) ∧ 65 + 1 = 66 := by decide +kernel
theorem dX7_borrower_66 : decode bX7_borrower 66 = .ok (.aload_n 0, 1) ∧ 66 + 1 = 67 := by decide +kernel
theorem dX7_borrower_67 : decode bX7_borrower 67 = .ok (.getfield 23, 3) ∧ 67 + 3 = 70 := by decide +kernel
theorem dX7_borrower_70 : decode bX7_borrower 70 = .ok (.aload_n 0, 1) ∧ 70 + 1 = 71 := by decide +kernel
theorem dX7_borrower_71 : decode bX7_borrower 71 = .ok (.getfield 13, 3) ∧ 71 + 3 = 74 := by decide +kernel
theorem dX7_borrower_74 : decode bX7_borrower 74 = .ok (.iload_n 2, 1) ∧ 74 + 1 = 75 := by decide +kernel
theorem dX7_borrower_75 : decode bX7_borrower 75 = .ok (.iastore, 1) ∧ 75 + 1 = 76 := by decide +kernel
theorem dX7_borrower_76 : decode bX7_borrower 76 = .ok (.aload_n 0, 1) ∧ 76 + 1 = 77 := by decide +kernel
theorem dX7_borrower_77 : decode bX7_borrower 77 = .ok (.getfield 26, 3) ∧ 77 + 3 = 80 := by decide +kernel
theorem dX7_borrower_80 : decode bX7_borrower 80 = .ok (.aload_n 0, 1) ∧ 80 + 1 = 81 := by decide +kernel
theorem dX7_borrower_81 : decode bX7_borrower 81 = .ok (.getfield 13, 3) ∧ 81 + 3 = 84 := by decide +kernel
theorem dX7_borrower_84 : decode bX7_borrower 84 = .ok (.iload_n 3, 1) ∧ 84 + 1 = 85 := by decide +kernel
theorem dX7_borrower_85 : decode bX7_borrower 85 = .ok (.iastore, 1) ∧ 85 + 1 = 86 := by decide +kernel
theorem dX7_borrower_86 : decode bX7_borrower 86 = .ok (.aload_n 0, 1) ∧ 86 + 1 = 87 := by decide +kernel
theorem dX7_borrower_87 : decode bX7_borrower 87 = .ok (.getfield 29, 3) ∧ 87 + 3 = 90 := by decide +kernel
theorem dX7_borrower_90 : decode bX7_borrower 90 = .ok (.aload_n 0, 1) ∧ 90 + 1 = 91 := by decide +kernel
theorem dX7_borrower_91 : decode bX7_borrower 91 = .ok (.getfield 13, 3) ∧ 91 + 3 = 94 := by decide +kernel
theorem dX7_borrower_94 : decode bX7_borrower 94 = .ok (.iload 4, 2) ∧ 94 + 2 = 96 := by decide +kernel
theorem dX7_borrower_96 : decode bX7_borrower 96 = .ok (.iastore, 1) ∧ 96 + 1 = 97 := by decide +kernel
theorem dX7_borrower_97 : decode bX7_borrower 97 = .ok (.aload_n 0, 1) ∧ 97 + 1 = 98 := by decide +kernel
theorem dX7_borrower_98 : decode bX7_borrower 98 = .ok (.getfield 32, 3) ∧ 98 + 3 = 101 := by decide +kernel
theorem dX7_borrower_101 : decode bX7_borrower 101 = .ok (.aload_n 0, 1) ∧ 101 + 1 = 102 := by decide +kernel
theorem dX7_borrower_102 : decode bX7_borrower 102 = .ok (.getfield 13, 3) ∧ 102 + 3 = 105 := by decide +kernel
theorem dX7_borrower_105 : decode bX7_borrower 105 = .ok (.iconst 0, 1) ∧ 105 + 1 = 106 := by decide +kernel
theorem dX7_borrower_106 : decode bX7_borrower 106 = .ok (.iastore, 1) ∧ 106 + 1 = 107 := by decide +kernel
theorem dX7_borrower_107 : decode bX7_borrower 107 = .ok (.aload_n 0, 1) ∧ 107 + 1 = 108 := by decide +kernel
theorem dX7_borrower_108 : decode bX7_borrower 108 = .ok (.getfield 35, 3) ∧ 108 + 3 = 111 := by decide +kernel
theorem dX7_borrower_111 : decode bX7_borrower 111 = .ok (.aload_n 0, 1) ∧ 111 + 1 = 112 := by decide +kernel
theorem dX7_borrower_112 : decode bX7_borrower 112 = .ok (.getfield 13, 3) ∧ 112 + 3 = 115 := by decide +kernel
theorem dX7_borrower_115 : decode bX7_borrower 115 = .ok (.iconst 0, 1) ∧ 115 + 1 = 116 := by decide +kernel
theorem dX7_borrower_116 : decode bX7_borrower 116 = .ok (.iastore, 1) ∧ 116 + 1 = 117 := by decide +kernel
theorem dX7_borrower_117 : decode bX7_borrower 117 = .ok (.aload_n 0, 1) ∧ 117 + 1 = 118 := by decide +kernel
theorem dX7_borrower_118 : decode bX7_borrower 118 = .ok (.getfield 38, 3) ∧ 118 + 3 = 121 := by decide +kernel
theorem dX7_borrower_121 : decode bX7_borrower 121 = .ok (.aload_n 0, 1) ∧ 121 + 1 = 122 := by decide +kernel
theorem dX7_borrower_122 : decode bX7_borrower 122 = .ok (.getfield 13, 3) ∧ 122 + 3 = 125 := by decide +kernel
theorem dX7_borrower_125 : decode bX7_borrower 125 = .ok (.iconst 0, 1) ∧ 125 + 1 = 126 := by decide +kernel
theorem dX7_borrower_126 : decode bX7_borrower 126 = .ok (.iastore, 1) ∧ 126 + 1 = 127 := by decide +kernel
theorem dX7_borrower_127 : decode bX7_borrower 127 = .ok (.aload_n 0, 1) ∧ 127 + 1 = 128 := by decide +kernel
theorem dX7_borrower_128 : decode bX7_borrower 128 = .ok (.getfield 41, 3) ∧ 128 + 3 = 131 := by decide +kernel
theorem dX7_borrower_131 : decode bX7_borrower 131 = .ok (.aload_n 0, 1) ∧ 131 + 1 = 132 := by decide +kernel
theorem dX7_borrower_132 : decode bX7_borrower 132 = .ok (.getfield 13, 3) ∧ 132 + 3 = 135 := by decide +kernel
theorem dX7_borrower_135 : decode bX7_borrower 135 = .ok (.iconst 0, 1) ∧ 135 + 1 = 136 := by decide +kernel
theorem dX7_borrower_136 : decode bX7_borrower 136 = .ok (.iastore, 1) ∧ 136 + 1 = 137 := by decide +kernel
theorem dX7_borrower_137 : decode bX7_borrower 137 = .ok (.iconst 0, 1) ∧ 137 + 1 = 138 := by decide +kernel
theorem dX7_borrower_138 : decode bX7_borrower 138 = .ok (.istore 5, 2) ∧ 138 + 2 = 140 := by decide +kernel
theorem dX7_borrower_140 : decode bX7_borrower 140 = .ok (.iload 5, 2) ∧ 140 + 2 = 142 := by decide +kernel
theorem dX7_borrower_142 : decode bX7_borrower 142 = .ok (.iconst 4, 1) ∧ 142 + 1 = 143 := by decide +kernel
theorem dX7_borrower_143 : decode bX7_borrower 143 = .ok (.if_icmp .ge 24, 3) ∧ 143 + 3 = 146 ∧ ((143 : Nat) : Int) + (24) = ((167 : Nat) : Int) := by decide +kernel
theorem dX7_borrower_146 : decode bX7_borrower 146 = .ok (.aload_n 0, 1) ∧ 146 + 1 = 147 := by decide +kernel
theorem dX7_borrower_147 : decode bX7_borrower 147 = .ok (.getfield 44, 3) ∧ 147 + 3 = 150 := by decide +kernel
theorem dX7_borrower_150 : decode bX7_borrower 150 = .ok (.iconst 4, 1) ∧ 150 + 1 = 151 := by decide +kernel
theorem dX7_borrower_151 : decode bX7_borrower 151 = .ok (.aload_n 0, 1) ∧ 151 + 1 = 152 := by decide +kernel
theorem dX7_borrower_152 : decode bX7_borrower 152 = .ok (.getfield 13, 3) ∧ 152 + 3 = 155 := by decide +kernel
theorem dX7_borrower_155 : decode bX7_borrower 155 = .ok (.imul, 1) ∧ 155 + 1 = 156 := by decide +kernel
theorem dX7_borrower_156 : decode bX7_borrower 156 = .ok (.iload 5, 2) ∧ 156 + 2 = 158 := by decide +kernel
theorem dX7_borrower_158 : decode bX7_borrower 158 = .ok (.iadd, 1) ∧ 158 + 1 = 159 := by decide +kernel
theorem dX7_borrower_159 : decode bX7_borrower 159 = .ok (.iconst 0, 1) ∧ 159 + 1 = 160 := by decide +kernel
theorem dX7_borrower_160 : decode bX7_borrower 160 = .ok (.iastore, 1) ∧ 160 + 1 = 161 := by decide +kernel
theorem dX7_borrower_161 : decode bX7_borrower 161 = .ok (.iinc 5 1, 3) ∧ 161 + 3 = 164 := by decide +kernel
theorem dX7_borrower_164 : decode bX7_borrower 164 = .ok (.goto (-24), 3) ∧ ((164 : Nat) : Int) + (-24) = ((140 : Nat) : Int) := by decide +kernel
theorem dX7_borrower_167 : decode bX7_borrower 167 = .ok (.aload_n 0, 1) ∧ 167 + 1 = 168 := by decide +kernel
theorem dX7_borrower_168 : decode bX7_borrower 168 = .ok (.getfield 47, 3) ∧ 168 + 3 = 171 := by decide +kernel
theorem dX7_borrower_171 : decode bX7_borrower 171 = .ok (.aload_n 0, 1) ∧ 171 + 1 = 172 := by decide +kernel
theorem dX7_borrower_172 : decode bX7_borrower 172 = .ok (.getfield 13, 3) ∧ 172 + 3 = 175 := by decide +kernel
theorem dX7_borrower_175 : decode bX7_borrower 175 = .ok (.aload_n 0, 1) ∧ 175 + 1 = 176 := by decide +kernel
theorem dX7_borrower_176 : decode bX7_borrower 176 = .ok (.getfield 13, 3) ∧ 176 + 3 = 179 := by decide +kernel
theorem dX7_borrower_179 : decode bX7_borrower 179 = .ok (.iastore, 1) ∧ 179 + 1 = 180 := by decide +kernel
theorem dX7_borrower_180 : decode bX7_borrower 180 = .ok (.aload_n 0, 1) ∧ 180 + 1 = 181 := by decide +kernel
theorem dX7_borrower_181 : decode bX7_borrower 181 = .ok (.dup, 1) ∧ 181 + 1 = 182 := by decide +kernel
theorem dX7_borrower_182 : decode bX7_borrower 182 = .ok (.getfield 13, 3) ∧ 182 + 3 = 185 := by decide +kernel
theorem dX7_borrower_185 : decode bX7_borrower 185 = .ok (.iconst 1, 1) ∧ 185 + 1 = 186 := by decide +kernel
theorem dX7_borrower_186 : decode bX7_borrower 186 = .ok (.iadd, 1) ∧ 186 + 1 = 187 := by decide +kernel
theorem dX7_borrower_187 : decode bX7_borrower 187 = .ok (.putfield 13, 3) ∧ 187 + 3 = 190 := by decide +kernel
theorem dX7_borrower_190 : decode bX7_borrower 190 = .ok (.aload_n 0, 1) ∧ 190 + 1 = 191 := by decide +kernel
theorem dX7_borrower_191 : decode bX7_borrower 191 = .ok (.getfield 13, 3) ∧ 191 + 3 = 194 := by decide +kernel
theorem dX7_borrower_194 : decode bX7_borrower 194 = .ok (.iconst 1, 1) ∧ 194 + 1 = 195 := by decide +kernel
theorem dX7_borrower_195 : decode bX7_borrower 195 = .ok (.isub, 1) ∧ 195 + 1 = 196 := by decide +kernel
theorem dX7_borrower_196 : decode bX7_borrower 196 = .ok (.ireturn, 1) := by decide +kernel
theorem dX7_set_0 : decode bX7_set 0 = .ok (.aload_n 0, 1) ∧ 0 + 1 = 1 := by decide +kernel
theorem dX7_set_1 : decode bX7_set 1 = .ok (.iload_n 1, 1) ∧ 1 + 1 = 2 := by decide +kernel
theorem dX7_set_2 : decode bX7_set 2 = .ok (.invokevirtual 274, 3) ∧ 2 + 3 = 5 := by decide +kernel
theorem dX7_set_5 : decode bX7_set 5 = .ok (.ifCond .eq 13, 3) ∧ 5 + 3 = 8 ∧ ((5 : Nat) : Int) + (13) = ((18 : Nat) : Int) := by decide +kernel
theorem dX7_set_8 : decode bX7_set 8 = .ok (.aload_n 0, 1) ∧ 8 + 1 = 9 := by decide +kernel
theorem dX7_set_9 : decode bX7_set 9 = .ok (.iload_n 2, 1) ∧ 9 + 1 = 10 := by decide +kernel
theorem dX7_set_10 : decode bX7_set 10 = .ok (.iconst 0, 1) ∧ 10 + 1 = 11 := by decide +kernel
theorem dX7_set_11 : decode bX7_set 11 = .ok (.iconst 1, 1) ∧ 11 + 1 = 12 := by decide +kernel
theorem dX7_set_12 : decode bX7_set 12 = .ok (.invokevirtual 263, 3) ∧ 12 + 3 = 15 := by decide +kernel
theorem dX7_set_15 : decode bX7_set 15 = .ok (.ifCond .ne 5, 3) ∧ 15 + 3 = 18 ∧ ((15 : Nat) : Int) + (5) = ((20 : Nat) : Int) := by decide +kernel
theorem dX7_set_18 : decode bX7_set 18 = .ok (.iconst (-1), 1) ∧ 18 + 1 = 19 := by decide +kernel
theorem dX7_set_19 : decode bX7_set 19 = .ok (.ireturn, 1) := by decide +kernel
theorem dX7_set_20 : decode bX7_set 20 = .ok (.iload_n 2, 1) ∧ 20 + 1 = 21 := by decide +kernel
theorem dX7_set_21 : decode bX7_set 21 = .ok (.ifCond .ne 14, 3) ∧ 21 + 3 = 24 ∧ ((21 : Nat) : Int) + (14) = ((35 : Nat) : Int) := by decide +kernel
theorem dX7_set_24 : decode bX7_set 24 = .ok (.aload_n 0, 1) ∧ 24 + 1 = 25 := by decide +kernel
theorem dX7_set_25 : decode bX7_set 25 = .ok (.iload_n 3, 1) ∧ 25 + 1 = 26 := by decide +kernel
theorem dX7_set_26 : decode bX7_set 26 = .ok (.invokevirtual 267, 3) ∧ 26 + 3 = 29 := by decide +kernel
theorem dX7_set_29 : decode bX7_set 29 = .ok (.ifCond .ne 17, 3) ∧ 29 + 3 = 32 ∧ ((29 : Nat) : Int) + (17) = ((46 : Nat) : Int) := by decide +kernel
theorem dX7_set_32 : decode bX7_set 32 = .ok (.goto 11, 3) ∧ ((32 : Nat) : Int) + (11) = ((43 : Nat) : Int) := by decide +kernel
theorem dX7_set_35 : decode bX7_set 35 = .ok (.aload_n 0, 1) ∧ 35 + 1 = 36 := by decide +kernel
theorem dX7_set_36 : decode bX7_set 36 = .ok (.iload_n 3, 1) ∧ 36 + 1 = 37 := by decide +kernel
theorem dX7_set_37 : decode bX7_set 37 = .ok (.invokevirtual 271, 3) ∧ 37 + 3 = 40 := by decide +kernel
theorem dX7_set_40 : decode bX7_set 40 = .ok (.ifCond .ne 6, 3) ∧ 40 + 3 = 43 ∧ ((40 : Nat) : Int) + (6) = ((46 : Nat) : Int) := by decide +kernel
theorem dX7_set_43 : decode bX7_set 43 = .ok (.bipush (-2), 2) ∧ 43 + 2 = 45 := by decide +kernel
theorem dX7_set_45 : decode bX7_set 45 = .ok (.ireturn, 1) := by decide +kernel
theorem dX7_set_46 : decode bX7_set 46 = .ok (.iload_n 2, 1) ∧ 46 + 1 = 47 := by decide +kernel
theorem dX7_set_47 : decode bX7_set 47 = .ok (.ifCond .ne 12, 3) ∧ 47 + 3 = 50 ∧ ((47 : Nat) : Int) + (12) = ((59 : Nat) : Int) := by decide +kernel
theorem dX7_set_50 : decode bX7_set 50 = .ok (.aload_n 0, 1) ∧ 50 + 1 = 51 := by decide +kernel
theorem dX7_set_51 : decode bX7_set 51 = .ok (.getfield 26, 3) ∧ 51 + 3 = 54 := by decide +kernel
theorem dX7_set_54 : decode bX7_set 54 = .ok (.iload_n 1, 1) ∧ 54 + 1 = 55 := by decide +kernel
theorem dX7_set_55 : decode bX7_set 55 = .ok (.iaload, 1) ∧ 55 + 1 = 56 := by decide +kernel
theorem dX7_set_56 : decode bX7_set 56 = .ok (.goto 9, 3) ∧ ((56 : Nat) : Int) + (9) = ((65 : Nat) : Int) := by decide +kernel
theorem dX7_set_59 : decode bX7_set 59 = .ok (.aload_n 0, 1) ∧ 59 + 1 = 60 := by decide +kernel
theorem dX7_set_60 : decode bX7_set 60 = .ok (.getfield 29, 3) ∧ 60 + 3 = 63 := by decide +kernel
theorem dX7_set_63 : decode bX7_set 63 = .ok (.iload_n 1, 1) ∧ 63 + 1 = 64 := by decide +kernel
theorem dX7_set_64 : decode bX7_set 64 = .ok (.iaload, 1) ∧ 64 + 1 = 65 := by decide +kernel
theorem dX7_set_65 : decode bX7_set 65 = .ok (.istore 4, 2) ∧ 65 + 2 = 67 := by decide +kernel
theorem dX7_set_67 : decode bX7_set 67 = .ok (.iload_n 2, 1) ∧ 67 + 1 = 68 := by decide +kernel
theorem dX7_set_68 : decode bX7_set 68 = .ok (.ifCond .ne 13, 3) ∧ 68 + 3 = 71 ∧ ((68 : Nat) : Int) + (13) = ((81 : Nat) : Int) := by decide +kernel
theorem dX7_set_71 : decode bX7_set 71 = .ok (.aload_n 0, 1) ∧ 71 + 1 = 72 := by decide +kernel
theorem dX7_set_72 : decode bX7_set 72 = .ok (.getfield 26, 3) ∧ 72 + 3 = 75 := by decide +kernel
theorem dX7_set_75 : decode bX7_set 75 = .ok (.iload_n 1, 1) ∧ 75 + 1 = 76 := by decide +kernel
theorem dX7_set_76 : decode bX7_set 76 = .ok (.iload_n 3, 1) ∧ 76 + 1 = 77 := by decide +kernel
theorem dX7_set_77 : decode bX7_set 77 = .ok (.iastore, 1) ∧ 77 + 1 = 78 := by decide +kernel
theorem dX7_set_78 : decode bX7_set 78 = .ok (.goto 10, 3) ∧ ((78 : Nat) : Int) + (10) = ((88 : Nat) : Int) := by decide +kernel
theorem dX7_set_81 : decode bX7_set 81 = .ok (.aload_n 0, 1) ∧ 81 + 1 = 82 := by decide +kernel
theorem dX7_set_82 : decode bX7_set 82 = .ok (.getfield 29, 3) ∧ 82 + 3 = 85 := by decide +kernel
theorem dX7_set_85 : decode bX7_set 85 = .ok (.iload_n 1, 1) ∧ 85 + 1 = 86 := by decide +kernel
theorem dX7_set_86 : decode bX7_set 86 = .ok (.iload_n 3, 1) ∧ 86 + 1 = 87 := by decide +kernel
theorem dX7_set_87 : decode bX7_set 87 = .ok (.iastore, 1) ∧ 87 + 1 = 88 := by decide +kernel
theorem dX7_set_88 : decode bX7_set 88 = .ok (.iload 4, 2) ∧ 88 + 2 = 90 := by decide +kernel
theorem dX7_set_90 : decode bX7_set 90 = .ok (.ireturn, 1) := by decide +kernel
theorem dX7_row_0 : decode bX7_row 0 = .ok (.aload_n 0, 1) ∧ 0 + 1 = 1 := by decide +kernel
theorem dX7_row_1 : decode bX7_row 1 = .ok (.iload_n 1, 1) ∧ 1 + 1 = 2 := by decide +kernel
theorem dX7_row_2 : decode bX7_row 2 = .ok (.invokevirtual 274, 3) ∧ 2 + 3 = 5 := by decide +kernel
theorem dX7_row_5 : decode bX7_row 5 = .ok (.ifCond .eq 13, 3) ∧ 5 + 3 = 8 ∧ ((5 : Nat) : Int) + (13) = ((18 : Nat) : Int) := by decide +kernel
theorem dX7_row_8 : decode bX7_row 8 = .ok (.aload_n 0, 1) ∧ 8 + 1 = 9 := by decide +kernel
theorem dX7_row_9 : decode bX7_row 9 = .ok (.iload_n 2, 1) ∧ 9 + 1 = 10 := by decide +kernel
theorem dX7_row_10 : decode bX7_row 10 = .ok (.iconst 0, 1) ∧ 10 + 1 = 11 := by decide +kernel
theorem dX7_row_11 : decode bX7_row 11 = .ok (.iconst 3, 1) ∧ 11 + 1 = 12 := by decide +kernel
theorem dX7_row_12 : decode bX7_row 12 = .ok (.invokevirtual 263, 3) ∧ 12 + 3 = 15 := by decide +kernel
theorem dX7_row_15 : decode bX7_row 15 = .ok (.ifCond .ne 5, 3) ∧ 15 + 3 = 18 ∧ ((15 : Nat) : Int) + (5) = ((20 : Nat) : Int) := by decide +kernel
theorem dX7_row_18 : decode bX7_row 18 = .ok (.iconst (-1), 1) ∧ 18 + 1 = 19 := by decide +kernel
theorem dX7_row_19 : decode bX7_row 19 = .ok (.ireturn, 1) := by decide +kernel
theorem dX7_row_20 : decode bX7_row 20 = .ok (.aload_n 0, 1) ∧ 20 + 1 = 21 := by decide +kernel
theorem dX7_row_21 : decode bX7_row 21 = .ok (.iload_n 3, 1) ∧ 21 + 1 = 22 := by decide +kernel
theorem dX7_row_22 : decode bX7_row 22 = .ok (.iconst 0, 1) ∧ 22 + 1 = 23 := by decide +kernel
theorem dX7_row_23 : decode bX7_row 23 = .ok (.bipush 9, 2) ∧ 23 + 2 = 25 := by decide +kernel
theorem dX7_row_25 : decode bX7_row 25 = .ok (.invokevirtual 263, 3) ∧ 25 + 3 = 28 := by decide +kernel
theorem dX7_row_28 : decode bX7_row 28 = .ok (.ifCond .ne 6, 3) ∧ 28 + 3 = 31 ∧ ((28 : Nat) : Int) + (6) = ((34 : Nat) : Int) := by decide +kernel
theorem dX7_row_31 : decode bX7_row 31 = .ok (.bipush (-2), 2) ∧ 31 + 2 = 33 := by decide +kernel
theorem dX7_row_33 : decode bX7_row 33 = .ok (.ireturn, 1) := by decide +kernel
theorem dX7_row_34 : decode bX7_row 34 = .ok (.aload_n 0, 1) ∧ 34 + 1 = 35 := by decide +kernel
theorem dX7_row_35 : decode bX7_row 35 = .ok (.getfield 19, 3) ∧ 35 + 3 = 38 := by decide +kernel
theorem dX7_row_38 : decode bX7_row 38 = .ok (.iload_n 1, 1) ∧ 38 + 1 = 39 := by decide +kernel
theorem dX7_row_39 : decode bX7_row 39 = .ok (.iaload, 1) ∧ 39 + 1 = 40 := by decide +kernel
theorem dX7_row_40 : decode bX7_row 40 = .ok (.bipush 6, 2) ∧ 40 + 2 = 42 := by decide +kernel
theorem dX7_row_42 : decode bX7_row 42 = .ok (.if_icmp .eq 6, 3) ∧ 42 + 3 = 45 ∧ ((42 : Nat) : Int) + (6) = ((48 : Nat) : Int) := by decide +kernel
theorem dX7_row_45 : decode bX7_row 45 = .ok (.bipush (-3), 2) ∧ 45 + 2 = 47 := by decide +kernel
theorem dX7_row_47 : decode bX7_row 47 = .ok (.ireturn, 1) := by decide +kernel
theorem dX7_row_48 : decode bX7_row 48 = .ok (.aload_n 0, 1) ∧ 48 + 1 = 49 := by decide +kernel
theorem dX7_row_49 : decode bX7_row 49 = .ok (.getfield 44, 3) ∧ 49 + 3 = 52 := by decide +kernel
theorem dX7_row_52 : decode bX7_row 52 = .ok (.iconst 4, 1) ∧ 52 + 1 = 53 := by decide +kernel
theorem dX7_row_53 : decode bX7_row 53 = .ok (.iload_n 1, 1) ∧ 53 + 1 = 54 := by decide +kernel
theorem dX7_row_54 : decode bX7_row 54 = .ok (.imul, 1) ∧ 54 + 1 = 55 := by decide +kernel
theorem dX7_row_55 : decode bX7_row 55 = .ok (.iload_n 2, 1) ∧ 55 + 1 = 56 := by decide +kernel
theorem dX7_row_56 : decode bX7_row 56 = .ok (.iadd, 1) ∧ 56 + 1 = 57 := by decide +kernel
theorem dX7_row_57 : decode bX7_row 57 = .ok (.iaload, 1) ∧ 57 + 1 = 58 := by decide +kernel
theorem dX7_row_58 : decode bX7_row 58 = .ok (.istore 4, 2) ∧ 58 + 2 = 60 := by decide +kernel
theorem dX7_row_60 : decode bX7_row 60 = .ok (.aload_n 0, 1) ∧ 60 + 1 = 61 := by decide +kernel
theorem dX7_row_61 : decode bX7_row 61 = .ok (.getfield 44, 3) ∧ 61 + 3 = 64 := by decide +kernel
theorem dX7_row_64 : decode bX7_row 64 = .ok (.iconst 4, 1) ∧ 64 + 1 = 65 := by decide +kernel
theorem dX7_row_65 : decode bX7_row 65 = .ok (.iload_n 1, 1) ∧ 65 + 1 = 66 := by decide +kernel
theorem dX7_row_66 : decode bX7_row 66 = .ok (.imul, 1) ∧ 66 + 1 = 67 := by decide +kernel
theorem dX7_row_67 : decode bX7_row 67 = .ok (.iload_n 2, 1) ∧ 67 + 1 = 68 := by decide +kernel
theorem dX7_row_68 : decode bX7_row 68 = .ok (.iadd, 1) ∧ 68 + 1 = 69 := by decide +kernel
theorem dX7_row_69 : decode bX7_row 69 = .ok (.iload_n 3, 1) ∧ 69 + 1 = 70 := by decide +kernel
theorem dX7_row_70 : decode bX7_row 70 = .ok (.iastore, 1) ∧ 70 + 1 = 71 := by decide +kernel
theorem dX7_row_71 : decode bX7_row 71 = .ok (.iload 4, 2) ∧ 71 + 2 = 73 := by decide +kernel
theorem dX7_row_73 : decode bX7_row 73 = .ok (.ireturn, 1) := by decide +kernel
theorem dX7_depth_0 : decode bX7_depth 0 = .ok (.aload_n 0, 1) ∧ 0 + 1 = 1 := by decide +kernel
theorem dX7_depth_1 : decode bX7_depth 1 = .ok (.iload_n 1, 1) ∧ 1 + 1 = 2 := by decide +kernel
theorem dX7_depth_2 : decode bX7_depth 2 = .ok (.invokevirtual 277, 3) ∧ 2 + 3 = 5 := by decide +kernel
theorem dX7_depth_5 : decode bX7_depth 5 = .ok (.ifCond .ne 6, 3) ∧ 5 + 3 = 8 ∧ ((5 : Nat) : Int) + (6) = ((11 : Nat) : Int) := by decide +kernel
theorem dX7_depth_8 : decode bX7_depth 8 = .ok (.bipush (-2), 2) ∧ 8 + 2 = 10 := by decide +kernel
theorem dX7_depth_10 : decode bX7_depth 10 = .ok (.ireturn, 1) := by decide +kernel
theorem dX7_depth_11 : decode bX7_depth 11 = .ok (.aload_n 0, 1) ∧ 11 + 1 = 12 := by decide +kernel
theorem dX7_depth_12 : decode bX7_depth 12 = .ok (.getfield 7, 3) ∧ 12 + 3 = 15 := by decide +kernel
theorem dX7_depth_15 : decode bX7_depth 15 = .ok (.istore_n 2, 1) ∧ 15 + 1 = 16 := by decide +kernel
theorem dX7_depth_16 : decode bX7_depth 16 = .ok (.aload_n 0, 1) ∧ 16 + 1 = 17 := by decide +kernel
theorem dX7_depth_17 : decode bX7_depth 17 = .ok (.iload_n 1, 1) ∧ 17 + 1 = 18 := by decide +kernel
theorem dX7_depth_18 : decode bX7_depth 18 = .ok (.putfield 7, 3) ∧ 18 + 3 = 21 := by decide +kernel
theorem dX7_depth_21 : decode bX7_depth 21 = .ok (.iload_n 2, 1) ∧ 21 + 1 = 22 := by decide +kernel
theorem dX7_depth_22 : decode bX7_depth 22 = .ok (.ireturn, 1) := by decide +kernel
theorem dX7_changes_0 : decode bX7_changes 0 = .ok (.aload_n 0, 1) ∧ 0 + 1 = 1 := by decide +kernel
theorem dX7_changes_1 : decode bX7_changes 1 = .ok (.getfield 47, 3) ∧ 1 + 3 = 4 := by decide +kernel
theorem dX7_changes_4 : decode bX7_changes 4 = .ok (.iload_n 1, 1) ∧ 4 + 1 = 5 := by decide +kernel
theorem dX7_changes_5 : decode bX7_changes 5 = .ok (.iaload, 1) ∧ 5 + 1 = 6 := by decide +kernel
theorem dX7_changes_6 : decode bX7_changes 6 = .ok (.istore_n 3, 1) ∧ 6 + 1 = 7 := by decide +kernel
theorem dX7_changes_7 : decode bX7_changes 7 = .ok (.aload_n 0, 1) ∧ 7 + 1 = 8 := by decide +kernel
theorem dX7_changes_8 : decode bX7_changes 8 = .ok (.getfield 47, 3) ∧ 8 + 3 = 11 := by decide +kernel
theorem dX7_changes_11 : decode bX7_changes 11 = .ok (.iload_n 1, 1) ∧ 11 + 1 = 12 := by decide +kernel
theorem dX7_changes_12 : decode bX7_changes 12 = .ok (.aload_n 0, 1) ∧ 12 + 1 = 13 := by decide +kernel
theorem dX7_changes_13 : decode bX7_changes 13 = .ok (.getfield 47, 3) ∧ 13 + 3 = 16 := by decide +kernel
theorem dX7_changes_16 : decode bX7_changes 16 = .ok (.iload_n 2, 1) ∧ 16 + 1 = 17 := by decide +kernel
theorem dX7_changes_17 : decode bX7_changes 17 = .ok (.iaload, 1) ∧ 17 + 1 = 18 := by decide +kernel
theorem dX7_changes_18 : decode bX7_changes 18 = .ok (.iastore, 1) ∧ 18 + 1 = 19 := by decide +kernel
theorem dX7_changes_19 : decode bX7_changes 19 = .ok (.aload_n 0, 1) ∧ 19 + 1 = 20 := by decide +kernel
theorem dX7_changes_20 : decode bX7_changes 20 = .ok (.getfield 47, 3) ∧ 20 + 3 = 23 := by decide +kernel
theorem dX7_changes_23 : decode bX7_changes 23 = .ok (.iload_n 2, 1) ∧ 23 + 1 = 24 := by decide +kernel
theorem dX7_changes_24 : decode bX7_changes 24 = .ok (.iload_n 3, 1) ∧ 24 + 1 = 25 := by decide +kernel
theorem dX7_changes_25 : decode bX7_changes 25 = .ok (.iastore, 1) ∧ 25 + 1 = 26 := by decide +kernel
theorem dX7_changes_26 : decode bX7_changes 26 = .ok (.return_, 1) := by decide +kernel
theorem dX7_change_0 : decode bX7_change 0 = .ok (.aload_n 0, 1) ∧ 0 + 1 = 1 := by decide +kernel
theorem dX7_change_1 : decode bX7_change 1 = .ok (.iload_n 1, 1) ∧ 1 + 1 = 2 := by decide +kernel
theorem dX7_change_2 : decode bX7_change 2 = .ok (.invokevirtual 274, 3) ∧ 2 + 3 = 5 := by decide +kernel
theorem dX7_change_5 : decode bX7_change 5 = .ok (.ifCond .eq 11, 3) ∧ 5 + 3 = 8 ∧ ((5 : Nat) : Int) + (11) = ((16 : Nat) : Int) := by decide +kernel
theorem dX7_change_8 : decode bX7_change 8 = .ok (.aload_n 0, 1) ∧ 8 + 1 = 9 := by decide +kernel
theorem dX7_change_9 : decode bX7_change 9 = .ok (.iload_n 2, 1) ∧ 9 + 1 = 10 := by decide +kernel
theorem dX7_change_10 : decode bX7_change 10 = .ok (.invokevirtual 274, 3) ∧ 10 + 3 = 13 := by decide +kernel
theorem dX7_change_13 : decode bX7_change 13 = .ok (.ifCond .ne 5, 3) ∧ 13 + 3 = 16 ∧ ((13 : Nat) : Int) + (5) = ((18 : Nat) : Int) := by decide +kernel
theorem dX7_change_16 : decode bX7_change 16 = .ok (.iconst (-1), 1) ∧ 16 + 1 = 17 := by decide +kernel
theorem dX7_change_17 : decode bX7_change 17 = .ok (.ireturn, 1) := by decide +kernel
theorem dX7_change_18 : decode bX7_change 18 = .ok (.iload_n 1, 1) ∧ 18 + 1 = 19 := by decide +kernel
theorem dX7_change_19 : decode bX7_change 19 = .ok (.iload_n 2, 1) ∧ 19 + 1 = 20 := by decide +kernel
theorem dX7_change_20 : decode bX7_change 20 = .ok (.if_icmp .ne 6, 3) ∧ 20 + 3 = 23 ∧ ((20 : Nat) : Int) + (6) = ((26 : Nat) : Int) := by decide +kernel
theorem dX7_change_23 : decode bX7_change 23 = .ok (.bipush (-2), 2) ∧ 23 + 2 = 25 := by decide +kernel
theorem dX7_change_25 : decode bX7_change 25 = .ok (.ireturn, 1) := by decide +kernel
theorem dX7_change_26 : decode bX7_change 26 = .ok (.aload_n 0, 1) ∧ 26 + 1 = 27 := by decide +kernel
theorem dX7_change_27 : decode bX7_change 27 = .ok (.iload_n 1, 1) ∧ 27 + 1 = 28 := by decide +kernel
theorem dX7_change_28 : decode bX7_change 28 = .ok (.iload_n 2, 1) ∧ 28 + 1 = 29 := by decide +kernel
theorem dX7_change_29 : decode bX7_change 29 = .ok (.invokevirtual 280, 3) ∧ 29 + 3 = 32 := by decide +kernel
theorem dX7_change_32 : decode bX7_change 32 = .ok (.aload_n 0, 1) ∧ 32 + 1 = 33 := by decide +kernel
theorem dX7_change_33 : decode bX7_change 33 = .ok (.getfield 47, 3) ∧ 33 + 3 = 36 := by decide +kernel
theorem dX7_change_36 : decode bX7_change 36 = .ok (.iload_n 2, 1) ∧ 36 + 1 = 37 := by decide +kernel
theorem dX7_change_37 : decode bX7_change 37 = .ok (.iaload, 1) ∧ 37 + 1 = 38 := by decide +kernel
theorem dX7_change_38 : decode bX7_change 38 = .ok (.ireturn, 1) := by decide +kernel
theorem dX7_calls_0 : decode bX7_calls 0 = .ok (.aload_n 0, 1) ∧ 0 + 1 = 1 := by decide +kernel
theorem dX7_calls_1 : decode bX7_calls 1 = .ok (.aload_n 0, 1) ∧ 1 + 1 = 2 := by decide +kernel
theorem dX7_calls_2 : decode bX7_calls 2 = .ok (.aload_n 0, 1) ∧ 2 + 1 = 3 := by decide +kernel
theorem dX7_calls_3 : decode bX7_calls 3 = .ok (.getfield 7, 3) ∧ 3 + 3 = 6 := by decide +kernel
theorem dX7_calls_6 : decode bX7_calls 6 = .ok (.aload_n 0, 1) ∧ 6 + 1 = 7 := by decide +kernel
theorem dX7_calls_7 : decode bX7_calls 7 = .ok (.getfield 32, 3) ∧ 7 + 3 = 10 := by decide +kernel
theorem dX7_calls_10 : decode bX7_calls 10 = .ok (.iload_n 1, 1) ∧ 10 + 1 = 11 := by decide +kernel
theorem dX7_calls_11 : decode bX7_calls 11 = .ok (.iaload, 1) ∧ 11 + 1 = 12 := by decide +kernel
theorem dX7_calls_12 : decode bX7_calls 12 = .ok (.iadd, 1) ∧ 12 + 1 = 13 := by decide +kernel
theorem dX7_calls_13 : decode bX7_calls 13 = .ok (.sipush 9999, 3) ∧ 13 + 3 = 16 := by decide +kernel
theorem dX7_calls_16 : decode bX7_calls 16 = .ok (.invokevirtual 284, 3) ∧ 16 + 3 = 19 := by decide +kernel
theorem dX7_calls_19 : decode bX7_calls 19 = .ok (.putfield 7, 3) ∧ 19 + 3 = 22 := by decide +kernel
theorem dX7_calls_22 : decode bX7_calls 22 = .ok (.aload_n 0, 1) ∧ 22 + 1 = 23 := by decide +kernel
theorem dX7_calls_23 : decode bX7_calls 23 = .ok (.getfield 32, 3) ∧ 23 + 3 = 26 := by decide +kernel
theorem dX7_calls_26 : decode bX7_calls 26 = .ok (.iload_n 1, 1) ∧ 26 + 1 = 27 := by decide +kernel
theorem dX7_calls_27 : decode bX7_calls 27 = .ok (.iconst 0, 1) ∧ 27 + 1 = 28 := by decide +kernel
theorem dX7_calls_28 : decode bX7_calls 28 = .ok (.iastore, 1) ∧ 28 + 1 = 29 := by decide +kernel
theorem dX7_calls_29 : decode bX7_calls 29 = .ok (.aload_n 0, 1) ∧ 29 + 1 = 30 := by decide +kernel
theorem dX7_calls_30 : decode bX7_calls 30 = .ok (.getfield 35, 3) ∧ 30 + 3 = 33 := by decide +kernel
theorem dX7_calls_33 : decode bX7_calls 33 = .ok (.iload_n 1, 1) ∧ 33 + 1 = 34 := by decide +kernel
theorem dX7_calls_34 : decode bX7_calls 34 = .ok (.iconst 0, 1) ∧ 34 + 1 = 35 := by decide +kernel
theorem dX7_calls_35 : decode bX7_calls 35 = .ok (.iastore, 1) ∧ 35 + 1 = 36 := by decide +kernel
theorem dX7_calls_36 : decode bX7_calls 36 = .ok (.return_, 1) := by decide +kernel
theorem dX7_call_0 : decode bX7_call 0 = .ok (.aload_n 0, 1) ∧ 0 + 1 = 1 := by decide +kernel
theorem dX7_call_1 : decode bX7_call 1 = .ok (.iload_n 1, 1) ∧ 1 + 1 = 2 := by decide +kernel
theorem dX7_call_2 : decode bX7_call 2 = .ok (.invokevirtual 274, 3) ∧ 2 + 3 = 5 := by decide +kernel
theorem dX7_call_5 : decode bX7_call 5 = .ok (.ifCond .ne 5, 3) ∧ 5 + 3 = 8 ∧ ((5 : Nat) : Int) + (5) = ((10 : Nat) : Int) := by decide +kernel
theorem dX7_call_8 : decode bX7_call 8 = .ok (.iconst (-1), 1) ∧ 8 + 1 = 9 := by decide +kernel
theorem dX7_call_9 : decode bX7_call 9 = .ok (.ireturn, 1) := by decide +kernel
theorem dX7_call_10 : decode bX7_call 10 = .ok (.aload_n 0, 1) ∧ 10 + 1 = 11 := by decide +kernel
theorem dX7_call_11 : decode bX7_call 11 = .ok (.getfield 32, 3) ∧ 11 + 3 = 14 := by decide +kernel
theorem dX7_call_14 : decode bX7_call 14 = .ok (.iload_n 1, 1) ∧ 14 + 1 = 15 := by decide +kernel
theorem dX7_call_15 : decode bX7_call 15 = .ok (.iaload, 1) ∧ 15 + 1 = 16 := by decide +kernel
theorem dX7_call_16 : decode bX7_call 16 = .ok (.ifCond .ne 6, 3) ∧ 16 + 3 = 19 ∧ ((16 : Nat) : Int) + (6) = ((22 : Nat) : Int) := by decide +kernel
theorem dX7_call_19 : decode bX7_call 19 = .ok (.bipush (-3), 2) ∧ 19 + 2 = 21 := by decide +kernel
theorem dX7_call_21 : decode bX7_call 21 = .ok (.ireturn, 1) := by decide +kernel
theorem dX7_call_22 : decode bX7_call 22 = .ok (.aload_n 0, 1) ∧ 22 + 1 = 23 := by decide +kernel
theorem dX7_call_23 : decode bX7_call 23 = .ok (.getfield 32, 3) ∧ 23 + 3 = 26 := by decide +kernel
theorem dX7_call_26 : decode bX7_call 26 = .ok (.iload_n 1, 1) ∧ 26 + 1 = 27 := by decide +kernel
theorem dX7_call_27 : decode bX7_call 27 = .ok (.iaload, 1) ∧ 27 + 1 = 28 := by decide +kernel
theorem dX7_call_28 : decode bX7_call 28 = .ok (.istore_n 2, 1) ∧ 28 + 1 = 29 := by decide +kernel
theorem dX7_call_29 : decode bX7_call 29 = .ok (.aload_n 0, 1) ∧ 29 + 1 = 30 := by decide +kernel
theorem dX7_call_30 : decode bX7_call 30 = .ok (.iload_n 1, 1) ∧ 30 + 1 = 31 := by decide +kernel
theorem dX7_call_31 : decode bX7_call 31 = .ok (.invokevirtual 288, 3) ∧ 31 + 3 = 34 := by decide +kernel
theorem dX7_call_34 : decode bX7_call 34 = .ok (.iload_n 2, 1) ∧ 34 + 1 = 35 := by decide +kernel
theorem dX7_call_35 : decode bX7_call 35 = .ok (.ireturn, 1) := by decide +kernel
theorem dX7_feed_0 : decode bX7_feed 0 = .ok (.aload_n 0, 1) ∧ 0 + 1 = 1 := by decide +kernel
theorem dX7_feed_1 : decode bX7_feed 1 = .ok (.iload_n 1, 1) ∧ 1 + 1 = 2 := by decide +kernel
theorem dX7_feed_2 : decode bX7_feed 2 = .ok (.iconst 0, 1) ∧ 2 + 1 = 3 := by decide +kernel
theorem dX7_feed_3 : decode bX7_feed 3 = .ok (.bipush 127, 2) ∧ 3 + 2 = 5 := by decide +kernel
theorem dX7_feed_5 : decode bX7_feed 5 = .ok (.invokevirtual 263, 3) ∧ 5 + 3 = 8 := by decide +kernel
theorem dX7_feed_8 : decode bX7_feed 8 = .ok (.ifCond .ne 6, 3) ∧ 8 + 3 = 11 ∧ ((8 : Nat) : Int) + (6) = ((14 : Nat) : Int) := by decide +kernel
theorem dX7_feed_11 : decode bX7_feed 11 = .ok (.bipush (-2), 2) ∧ 11 + 2 = 13 := by decide +kernel
theorem dX7_feed_13 : decode bX7_feed 13 = .ok (.ireturn, 1) := by decide +kernel
theorem dX7_feed_14 : decode bX7_feed 14 = .ok (.aload_n 0, 1) ∧ 14 + 1 = 15 := by decide +kernel
theorem dX7_feed_15 : decode bX7_feed 15 = .ok (.getfield 56, 3) ∧ 15 + 3 = 18 := by decide +kernel
theorem dX7_feed_18 : decode bX7_feed 18 = .ok (.bipush 100, 2) ∧ 18 + 2 = 20 := by decide +kernel
theorem dX7_feed_20 : decode bX7_feed 20 = .ok (.if_icmp .ne 6, 3) ∧ 20 + 3 = 23 ∧ ((20 : Nat) : Int) + (6) = ((26 : Nat) : Int) := by decide +kernel
theorem dX7_feed_23 : decode bX7_feed 23 = .ok (.bipush (-4), 2) ∧ 23 + 2 = 25 := by decide +kernel
theorem dX7_feed_25 : decode bX7_feed 25 = .ok (.ireturn, 1) := by decide +kernel
theorem dX7_feed_26 : decode bX7_feed 26 = .ok (.aload_n 0, 1) ∧ 26 + 1 = 27 := by decide +kernel
theorem dX7_feed_27 : decode bX7_feed 27 = .ok (.getfield 65, 3) ∧ 27 + 3 = 30 := by decide +kernel
theorem dX7_feed_30 : decode bX7_feed 30 = .ok (.aload_n 0, 1) ∧ 30 + 1 = 31 := by decide +kernel
theorem dX7_feed_31 : decode bX7_feed 31 = .ok (.getfield 56, 3) ∧ 31 + 3 = 34 := by decide +kernel
theorem dX7_feed_34 : decode bX7_feed 34 = .ok (.iload_n 1, 1) ∧ 34 + 1 = 35 := by decide +kernel
theorem dX7_feed_35 : decode bX7_feed 35 = .ok (.iastore, 1) ∧ 35 + 1 = 36 := by decide +kernel
theorem dX7_feed_36 : decode bX7_feed 36 = .ok (.aload_n 0, 1) ∧ 36 + 1 = 37 := by decide +kernel
theorem dX7_feed_37 : decode bX7_feed 37 = .ok (.dup, 1) ∧ 37 + 1 = 38 := by decide +kernel
theorem dX7_feed_38 : decode bX7_feed 38 = .ok (.getfield 56, 3) ∧ 38 + 3 = 41 := by decide +kernel
theorem dX7_feed_41 : decode bX7_feed 41 = .ok (.iconst 1, 1) ∧ 41 + 1 = 42 := by decide +kernel
theorem dX7_feed_42 : decode bX7_feed 42 = .ok (.iadd, 1) ∧ 42 + 1 = 43 := by decide +kernel
theorem dX7_feed_43 : decode bX7_feed 43 = .ok (.putfield 56, 3) ∧ 43 + 3 = 46 := by decide +kernel
theorem dX7_feed_46 : decode bX7_feed 46 = .ok (.aload_n 0, 1) ∧ 46 + 1 = 47 := by decide +kernel
theorem dX7_feed_47 : decode bX7_feed 47 = .ok (.getfield 56, 3) ∧ 47 + 3 = 50 := by decide +kernel
theorem dX7_feed_50 : decode bX7_feed 50 = .ok (.ireturn, 1) := by decide +kernel
theorem dX7_next_0 : decode bX7_next 0 = .ok (.aload_n 0, 1) ∧ 0 + 1 = 1 := by decide +kernel
theorem dX7_next_1 : decode bX7_next 1 = .ok (.getfield 59, 3) ∧ 1 + 3 = 4 := by decide +kernel
theorem dX7_next_4 : decode bX7_next 4 = .ok (.aload_n 0, 1) ∧ 4 + 1 = 5 := by decide +kernel
theorem dX7_next_5 : decode bX7_next 5 = .ok (.getfield 56, 3) ∧ 5 + 3 = 8 := by decide +kernel
theorem dX7_next_8 : decode bX7_next 8 = .ok (.if_icmp .ge 15, 3) ∧ 8 + 3 = 11 ∧ ((8 : Nat) : Int) + (15) = ((23 : Nat) : Int) := by decide +kernel
theorem dX7_next_11 : decode bX7_next 11 = .ok (.aload_n 0, 1) ∧ 11 + 1 = 12 := by decide +kernel
theorem dX7_next_12 : decode bX7_next 12 = .ok (.getfield 65, 3) ∧ 12 + 3 = 15 := by decide +kernel
theorem dX7_next_15 : decode bX7_next 15 = .ok (.aload_n 0, 1) ∧ 15 + 1 = 16 := by decide +kernel
theorem dX7_next_16 : decode bX7_next 16 = .ok (.getfield 59, 3) ∧ 16 + 3 = 19 := by decide +kernel
theorem dX7_next_19 : decode bX7_next 19 = .ok (.iaload, 1) ∧ 19 + 1 = 20 := by decide +kernel
theorem dX7_next_20 : decode bX7_next 20 = .ok (.goto 4, 3) ∧ ((20 : Nat) : Int) + (4) = ((24 : Nat) : Int) := by decide +kernel
theorem dX7_next_23 : decode bX7_next 23 = .ok (.iconst (-1), 1) ∧ 23 + 1 = 24 := by decide +kernel
theorem dX7_next_24 : decode bX7_next 24 = .ok (.ireturn, 1) := by decide +kernel
theorem dX7_takes_0 : decode bX7_takes 0 = .ok (.aload_n 0, 1) ∧ 0 + 1 = 1 := by decide +kernel
theorem dX7_takes_1 : decode bX7_takes 1 = .ok (.invokevirtual 292, 3) ∧ 1 + 3 = 4 := by decide +kernel
theorem dX7_takes_4 : decode bX7_takes 4 = .ok (.iload_n 1, 1) ∧ 4 + 1 = 5 := by decide +kernel
theorem dX7_takes_5 : decode bX7_takes 5 = .ok (.if_icmp .eq 5, 3) ∧ 5 + 3 = 8 ∧ ((5 : Nat) : Int) + (5) = ((10 : Nat) : Int) := by decide +kernel
theorem dX7_takes_8 : decode bX7_takes 8 = .ok (.iconst 0, 1) ∧ 8 + 1 = 9 := by decide +kernel
theorem dX7_takes_9 : decode bX7_takes 9 = .ok (.ireturn, 1) := by decide +kernel
theorem dX7_takes_10 : decode bX7_takes 10 = .ok (.aload_n 0, 1) ∧ 10 + 1 = 11 := by decide +kernel
theorem dX7_takes_11 : decode bX7_takes 11 = .ok (.dup, 1) ∧ 11 + 1 = 12 := by decide +kernel
theorem dX7_takes_12 : decode bX7_takes 12 = .ok (.getfield 59, 3) ∧ 12 + 3 = 15 := by decide +kernel
theorem dX7_takes_15 : decode bX7_takes 15 = .ok (.iconst 1, 1) ∧ 15 + 1 = 16 := by decide +kernel
theorem dX7_takes_16 : decode bX7_takes 16 = .ok (.iadd, 1) ∧ 16 + 1 = 17 := by decide +kernel
theorem dX7_takes_17 : decode bX7_takes 17 = .ok (.putfield 59, 3) ∧ 17 + 3 = 20 := by decide +kernel
theorem dX7_takes_20 : decode bX7_takes 20 = .ok (.iconst 1, 1) ∧ 20 + 1 = 21 := by decide +kernel
theorem dX7_takes_21 : decode bX7_takes 21 = .ok (.ireturn, 1) := by decide +kernel
theorem dX7_takesWord_0 : decode bX7_takesWord 0 = .ok (.iconst 0, 1) ∧ 0 + 1 = 1 := by decide +kernel
theorem dX7_takesWord_1 : decode bX7_takesWord 1 = .ok (.istore_n 3, 1) ∧ 1 + 1 = 2 := by decide +kernel
theorem dX7_takesWord_2 : decode bX7_takesWord 2 = .ok (.iload_n 3, 1) ∧ 2 + 1 = 3 := by decide +kernel
theorem dX7_takesWord_3 : decode bX7_takesWord 3 = .ok (.iload_n 2, 1) ∧ 3 + 1 = 4 := by decide +kernel
theorem dX7_takesWord_4 : decode bX7_takesWord 4 = .ok (.if_icmp .ge 26, 3) ∧ 4 + 3 = 7 ∧ ((4 : Nat) : Int) + (26) = ((30 : Nat) : Int) := by decide +kernel
theorem dX7_takesWord_7 : decode bX7_takesWord 7 = .ok (.aload_n 0, 1) ∧ 7 + 1 = 8 := by decide +kernel
theorem dX7_takesWord_8 : decode bX7_takesWord 8 = .ok (.aload_n 0, 1) ∧ 8 + 1 = 9 := by decide +kernel
theorem dX7_takesWord_9 : decode bX7_takesWord 9 = .ok (.getfield 98, 3) ∧ 9 + 3 = 12 := by decide +kernel
theorem dX7_takesWord_12 : decode bX7_takesWord 12 = .ok (.iload_n 1, 1) ∧ 12 + 1 = 13 := by decide +kernel
theorem dX7_takesWord_13 : decode bX7_takesWord 13 = .ok (.iload_n 3, 1) ∧ 13 + 1 = 14 := by decide +kernel
theorem dX7_takesWord_14 : decode bX7_takesWord 14 = .ok (.iadd, 1) ∧ 14 + 1 = 15 := by decide +kernel
theorem dX7_takesWord_15 : decode bX7_takesWord 15 = .ok (.iaload, 1) ∧ 15 + 1 = 16 := by decide +kernel
theorem dX7_takesWord_16 : decode bX7_takesWord 16 = .ok (.invokevirtual 296, 3) ∧ 16 + 3 = 19 := by decide +kernel
theorem dX7_takesWord_19 : decode bX7_takesWord 19 = .ok (.ifCond .ne 5, 3) ∧ 19 + 3 = 22 ∧ ((19 : Nat) : Int) + (5) = ((24 : Nat) : Int) := by decide +kernel
theorem dX7_takesWord_22 : decode bX7_takesWord 22 = .ok (.iconst 0, 1) ∧ 22 + 1 = 23 := by decide +kernel
theorem dX7_takesWord_23 : decode bX7_takesWord 23 = .ok (.ireturn, 1) := by decide +kernel
theorem dX7_takesWord_24 : decode bX7_takesWord 24 = .ok (.iinc 3 1, 3) ∧ 24 + 3 = 27 := by decide +kernel
theorem dX7_takesWord_27 : decode bX7_takesWord 27 = .ok (.goto (-25), 3) ∧ ((27 : Nat) : Int) + (-25) = ((2 : Nat) : Int) := by decide +kernel
theorem dX7_takesWord_30 : decode bX7_takesWord 30 = .ok (.aload_n 0, 1) ∧ 30 + 1 = 31 := by decide +kernel
theorem dX7_takesWord_31 : decode bX7_takesWord 31 = .ok (.bipush 32, 2) ∧ 31 + 2 = 33 := by decide +kernel
theorem dX7_takesWord_33 : decode bX7_takesWord 33 = .ok (.invokevirtual 296, 3) ∧ 33 + 3 = 36 := by decide +kernel
theorem dX7_takesWord_36 : decode bX7_takesWord 36 = .ok (.ireturn, 1) := by decide +kernel
theorem dX7_isDigit_0 : decode bX7_isDigit 0 = .ok (.aload_n 0, 1) ∧ 0 + 1 = 1 := by decide +kernel
theorem dX7_isDigit_1 : decode bX7_isDigit 1 = .ok (.aload_n 0, 1) ∧ 1 + 1 = 2 := by decide +kernel
theorem dX7_isDigit_2 : decode bX7_isDigit 2 = .ok (.invokevirtual 292, 3) ∧ 2 + 3 = 5 := by decide +kernel
theorem dX7_isDigit_5 : decode bX7_isDigit 5 = .ok (.bipush 48, 2) ∧ 5 + 2 = 7 := by decide +kernel
theorem dX7_isDigit_7 : decode bX7_isDigit 7 = .ok (.bipush 57, 2) ∧ 7 + 2 = 9 := by decide +kernel
theorem dX7_isDigit_9 : decode bX7_isDigit 9 = .ok (.invokevirtual 263, 3) ∧ 9 + 3 = 12 := by decide +kernel
theorem dX7_isDigit_12 : decode bX7_isDigit 12 = .ok (.ireturn, 1) := by decide +kernel
theorem dX7_takesNumber_0 : decode bX7_takesNumber 0 = .ok (.aload_n 0, 1) ∧ 0 + 1 = 1 := by decide +kernel
theorem dX7_takesNumber_1 : decode bX7_takesNumber 1 = .ok (.invokevirtual 299, 3) ∧ 1 + 3 = 4 := by decide +kernel
theorem dX7_takesNumber_4 : decode bX7_takesNumber 4 = .ok (.ifCond .ne 5, 3) ∧ 4 + 3 = 7 ∧ ((4 : Nat) : Int) + (5) = ((9 : Nat) : Int) := by decide +kernel
theorem dX7_takesNumber_7 : decode bX7_takesNumber 7 = .ok (.iconst 0, 1) ∧ 7 + 1 = 8 := by decide +kernel
theorem dX7_takesNumber_8 : decode bX7_takesNumber 8 = .ok (.ireturn, 1) := by decide +kernel
theorem dX7_takesNumber_9 : decode bX7_takesNumber 9 = .ok (.aload_n 0, 1) ∧ 9 + 1 = 10 := by decide +kernel
theorem dX7_takesNumber_10 : decode bX7_takesNumber 10 = .ok (.iconst 0, 1) ∧ 10 + 1 = 11 := by decide +kernel
theorem dX7_takesNumber_11 : decode bX7_takesNumber 11 = .ok (.putfield 62, 3) ∧ 11 + 3 = 14 := by decide +kernel
theorem dX7_takesNumber_14 : decode bX7_takesNumber 14 = .ok (.iconst 0, 1) ∧ 14 + 1 = 15 := by decide +kernel
theorem dX7_takesNumber_15 : decode bX7_takesNumber 15 = .ok (.istore_n 1, 1) ∧ 15 + 1 = 16 := by decide +kernel
theorem dX7_takesNumber_16 : decode bX7_takesNumber 16 = .ok (.iload_n 1, 1) ∧ 16 + 1 = 17 := by decide +kernel
theorem dX7_takesNumber_17 : decode bX7_takesNumber 17 = .ok (.iconst 2, 1) ∧ 17 + 1 = 18 := by decide +kernel
theorem dX7_takesNumber_18 : decode bX7_takesNumber 18 = .ok (.if_icmp .ge 45, 3) ∧ 18 + 3 = 21 ∧ ((18 : Nat) : Int) + (45) = ((63 : Nat) : Int) := by decide +kernel
theorem dX7_takesNumber_21 : decode bX7_takesNumber 21 = .ok (.aload_n 0, 1) ∧ 21 + 1 = 22 := by decide +kernel
theorem dX7_takesNumber_22 : decode bX7_takesNumber 22 = .ok (.invokevirtual 299, 3) ∧ 22 + 3 = 25 := by decide +kernel
theorem dX7_takesNumber_25 : decode bX7_takesNumber 25 = .ok (.ifCond .eq 38, 3) ∧ 25 + 3 = 28 ∧ ((25 : Nat) : Int) + (38) = ((63 : Nat) : Int) := by decide +kernel
theorem dX7_takesNumber_28 : decode bX7_takesNumber 28 = .ok (.aload_n 0, 1) ∧ 28 + 1 = 29 := by decide +kernel
theorem dX7_takesNumber_29 : decode bX7_takesNumber 29 = .ok (.bipush 10, 2) ∧ 29 + 2 = 31 := by decide +kernel
theorem dX7_takesNumber_31 : decode bX7_takesNumber 31 = .ok (.aload_n 0, 1) ∧ 31 + 1 = 32 := by decide +kernel
theorem dX7_takesNumber_32 : decode bX7_takesNumber 32 = .ok (.getfield 62, 3) ∧ 32 + 3 = 35 := by decide +kernel
theorem dX7_takesNumber_35 : decode bX7_takesNumber 35 = .ok (.imul, 1) ∧ 35 + 1 = 36 := by decide +kernel
theorem dX7_takesNumber_36 : decode bX7_takesNumber 36 = .ok (.aload_n 0, 1) ∧ 36 + 1 = 37 := by decide +kernel
theorem dX7_takesNumber_37 : decode bX7_takesNumber 37 = .ok (.invokevirtual 292, 3) ∧ 37 + 3 = 40 := by decide +kernel
theorem dX7_takesNumber_40 : decode bX7_takesNumber 40 = .ok (.iadd, 1) ∧ 40 + 1 = 41 := by decide +kernel
theorem dX7_takesNumber_41 : decode bX7_takesNumber 41 = .ok (.bipush 48, 2) ∧ 41 + 2 = 43 := by decide +kernel
theorem dX7_takesNumber_43 : decode bX7_takesNumber 43 = .ok (.isub, 1) ∧ 43 + 1 = 44 := by decide +kernel
theorem dX7_takesNumber_44 : decode bX7_takesNumber 44 = .ok (.putfield 62, 3) ∧ 44 + 3 = 47 := by decide +kernel
theorem dX7_takesNumber_47 : decode bX7_takesNumber 47 = .ok (.aload_n 0, 1) ∧ 47 + 1 = 48 := by decide +kernel
theorem dX7_takesNumber_48 : decode bX7_takesNumber 48 = .ok (.dup, 1) ∧ 48 + 1 = 49 := by decide +kernel
theorem dX7_takesNumber_49 : decode bX7_takesNumber 49 = .ok (.getfield 59, 3) ∧ 49 + 3 = 52 := by decide +kernel
theorem dX7_takesNumber_52 : decode bX7_takesNumber 52 = .ok (.iconst 1, 1) ∧ 52 + 1 = 53 := by decide +kernel
theorem dX7_takesNumber_53 : decode bX7_takesNumber 53 = .ok (.iadd, 1) ∧ 53 + 1 = 54 := by decide +kernel
theorem dX7_takesNumber_54 : decode bX7_takesNumber 54 = .ok (.putfield 59, 3) ∧ 54 + 3 = 57 := by decide +kernel
theorem dX7_takesNumber_57 : decode bX7_takesNumber 57 = .ok (.iinc 1 1, 3) ∧ 57 + 3 = 60 := by decide +kernel
theorem dX7_takesNumber_60 : decode bX7_takesNumber 60 = .ok (.goto (-44), 3) ∧ ((60 : Nat) : Int) + (-44) = ((16 : Nat) : Int) := by decide +kernel
theorem dX7_takesNumber_63 : decode bX7_takesNumber 63 = .ok (.iconst 1, 1) ∧ 63 + 1 = 64 := by decide +kernel
theorem dX7_takesNumber_64 : decode bX7_takesNumber 64 = .ok (.ireturn, 1) := by decide +kernel
theorem dX7_emits_0 : decode bX7_emits 0 = .ok (.aload_n 0, 1) ∧ 0 + 1 = 1 := by decide +kernel
theorem dX7_emits_1 : decode bX7_emits 1 = .ok (.getfield 83, 3) ∧ 1 + 3 = 4 := by decide +kernel
theorem dX7_emits_4 : decode bX7_emits 4 = .ok (.aload_n 0, 1) ∧ 4 + 1 = 5 := by decide +kernel
theorem dX7_emits_5 : decode bX7_emits 5 = .ok (.getfield 89, 3) ∧ 5 + 3 = 8 := by decide +kernel
theorem dX7_emits_8 : decode bX7_emits 8 = .ok (.iload_n 1, 1) ∧ 8 + 1 = 9 := by decide +kernel
theorem dX7_emits_9 : decode bX7_emits 9 = .ok (.iastore, 1) ∧ 9 + 1 = 10 := by decide +kernel
theorem dX7_emits_10 : decode bX7_emits 10 = .ok (.aload_n 0, 1) ∧ 10 + 1 = 11 := by decide +kernel
theorem dX7_emits_11 : decode bX7_emits 11 = .ok (.dup, 1) ∧ 11 + 1 = 12 := by decide +kernel
theorem dX7_emits_12 : decode bX7_emits 12 = .ok (.getfield 89, 3) ∧ 12 + 3 = 15 := by decide +kernel
theorem dX7_emits_15 : decode bX7_emits 15 = .ok (.iconst 1, 1) ∧ 15 + 1 = 16 := by decide +kernel
theorem dX7_emits_16 : decode bX7_emits 16 = .ok (.iadd, 1) ∧ 16 + 1 = 17 := by decide +kernel
theorem dX7_emits_17 : decode bX7_emits 17 = .ok (.putfield 89, 3) ∧ 17 + 3 = 20 := by decide +kernel
theorem dX7_emits_20 : decode bX7_emits 20 = .ok (.return_, 1) := by decide +kernel
theorem dX7_whole_0 : decode bX7_whole 0 = .ok (.aload_n 0, 1) ∧ 0 + 1 = 1 := by decide +kernel
theorem dX7_whole_1 : decode bX7_whole 1 = .ok (.getfield 92, 3) ∧ 1 + 3 = 4 := by decide +kernel
theorem dX7_whole_4 : decode bX7_whole 4 = .ok (.ifCond .le 48, 3) ∧ 4 + 3 = 7 ∧ ((4 : Nat) : Int) + (48) = ((52 : Nat) : Int) := by decide +kernel
theorem dX7_whole_7 : decode bX7_whole 7 = .ok (.aload_n 0, 1) ∧ 7 + 1 = 8 := by decide +kernel
theorem dX7_whole_8 : decode bX7_whole 8 = .ok (.getfield 86, 3) ∧ 8 + 3 = 11 := by decide +kernel
theorem dX7_whole_11 : decode bX7_whole 11 = .ok (.aload_n 0, 1) ∧ 11 + 1 = 12 := by decide +kernel
theorem dX7_whole_12 : decode bX7_whole 12 = .ok (.getfield 92, 3) ∧ 12 + 3 = 15 := by decide +kernel
theorem dX7_whole_15 : decode bX7_whole 15 = .ok (.iconst 1, 1) ∧ 15 + 1 = 16 := by decide +kernel
theorem dX7_whole_16 : decode bX7_whole 16 = .ok (.isub, 1) ∧ 16 + 1 = 17 := by decide +kernel
theorem dX7_whole_17 : decode bX7_whole 17 = .ok (.iaload, 1) ∧ 17 + 1 = 18 := by decide +kernel
theorem dX7_whole_18 : decode bX7_whole 18 = .ok (.bipush 33, 2) ∧ 18 + 2 = 20 := by decide +kernel
theorem dX7_whole_20 : decode bX7_whole 20 = .ok (.if_icmp .ne 32, 3) ∧ 20 + 3 = 23 ∧ ((20 : Nat) : Int) + (32) = ((52 : Nat) : Int) := by decide +kernel
theorem dX7_whole_23 : decode bX7_whole 23 = .ok (.aload_n 0, 1) ∧ 23 + 1 = 24 := by decide +kernel
theorem dX7_whole_24 : decode bX7_whole 24 = .ok (.bipush (-33), 2) ∧ 24 + 2 = 26 := by decide +kernel
theorem dX7_whole_26 : decode bX7_whole 26 = .ok (.invokevirtual 303, 3) ∧ 26 + 3 = 29 := by decide +kernel
theorem dX7_whole_29 : decode bX7_whole 29 = .ok (.aload_n 0, 1) ∧ 29 + 1 = 30 := by decide +kernel
theorem dX7_whole_30 : decode bX7_whole 30 = .ok (.dup, 1) ∧ 30 + 1 = 31 := by decide +kernel
theorem dX7_whole_31 : decode bX7_whole 31 = .ok (.getfield 92, 3) ∧ 31 + 3 = 34 := by decide +kernel
theorem dX7_whole_34 : decode bX7_whole 34 = .ok (.iconst 1, 1) ∧ 34 + 1 = 35 := by decide +kernel
theorem dX7_whole_35 : decode bX7_whole 35 = .ok (.isub, 1) ∧ 35 + 1 = 36 := by decide +kernel
theorem dX7_whole_36 : decode bX7_whole 36 = .ok (.putfield 92, 3) ∧ 36 + 3 = 39 := by decide +kernel
theorem dX7_whole_39 : decode bX7_whole 39 = .ok (.aload_n 0, 1) ∧ 39 + 1 = 40 := by decide +kernel
theorem dX7_whole_40 : decode bX7_whole 40 = .ok (.dup, 1) ∧ 40 + 1 = 41 := by decide +kernel
theorem dX7_whole_41 : decode bX7_whole 41 = .ok (.getfield 95, 3) ∧ 41 + 3 = 44 := by decide +kernel
theorem dX7_whole_44 : decode bX7_whole 44 = .ok (.iconst 1, 1) ∧ 44 + 1 = 45 := by decide +kernel
theorem dX7_whole_45 : decode bX7_whole 45 = .ok (.isub, 1) ∧ 45 + 1 = 46 := by decide +kernel
theorem dX7_whole_46 : decode bX7_whole 46 = .ok (.putfield 95, 3) ∧ 46 + 3 = 49 := by decide +kernel
theorem dX7_whole_49 : decode bX7_whole 49 = .ok (.goto (-49), 3) ∧ ((49 : Nat) : Int) + (-49) = ((0 : Nat) : Int) := by decide +kernel
theorem dX7_whole_52 : decode bX7_whole 52 = .ok (.return_, 1) := by decide +kernel
theorem dX7_settle_0 : decode bX7_settle 0 = .ok (.aload_n 0, 1) ∧ 0 + 1 = 1 := by decide +kernel
theorem dX7_settle_1 : decode bX7_settle 1 = .ok (.getfield 92, 3) ∧ 1 + 3 = 4 := by decide +kernel
theorem dX7_settle_4 : decode bX7_settle 4 = .ok (.ifCond .le 68, 3) ∧ 4 + 3 = 7 ∧ ((4 : Nat) : Int) + (68) = ((72 : Nat) : Int) := by decide +kernel
theorem dX7_settle_7 : decode bX7_settle 7 = .ok (.aload_n 0, 1) ∧ 7 + 1 = 8 := by decide +kernel
theorem dX7_settle_8 : decode bX7_settle 8 = .ok (.getfield 86, 3) ∧ 8 + 3 = 11 := by decide +kernel
theorem dX7_settle_11 : decode bX7_settle 11 = .ok (.aload_n 0, 1) ∧ 11 + 1 = 12 := by decide +kernel
theorem dX7_settle_12 : decode bX7_settle 12 = .ok (.getfield 92, 3) ∧ 12 + 3 = 15 := by decide +kernel
theorem dX7_settle_15 : decode bX7_settle 15 = .ok (.iconst 1, 1) ∧ 15 + 1 = 16 := by decide +kernel
theorem dX7_settle_16 : decode bX7_settle 16 = .ok (.isub, 1) ∧ 16 + 1 = 17 := by decide +kernel
theorem dX7_settle_17 : decode bX7_settle 17 = .ok (.iaload, 1) ∧ 17 + 1 = 18 := by decide +kernel
theorem dX7_settle_18 : decode bX7_settle 18 = .ok (.bipush 38, 2) ∧ 18 + 2 = 20 := by decide +kernel
theorem dX7_settle_20 : decode bX7_settle 20 = .ok (.if_icmp .eq 25, 3) ∧ 20 + 3 = 23 ∧ ((20 : Nat) : Int) + (25) = ((45 : Nat) : Int) := by decide +kernel
theorem dX7_settle_23 : decode bX7_settle 23 = .ok (.aload_n 0, 1) ∧ 23 + 1 = 24 := by decide +kernel
theorem dX7_settle_24 : decode bX7_settle 24 = .ok (.getfield 86, 3) ∧ 24 + 3 = 27 := by decide +kernel
theorem dX7_settle_27 : decode bX7_settle 27 = .ok (.aload_n 0, 1) ∧ 27 + 1 = 28 := by decide +kernel
theorem dX7_settle_28 : decode bX7_settle 28 = .ok (.getfield 92, 3) ∧ 28 + 3 = 31 := by decide +kernel
theorem dX7_settle_31 : decode bX7_settle 31 = .ok (.iconst 1, 1) ∧ 31 + 1 = 32 := by decide +kernel
theorem dX7_settle_32 : decode bX7_settle 32 = .ok (.isub, 1) ∧ 32 + 1 = 33 := by decide +kernel
theorem dX7_settle_33 : decode bX7_settle 33 = .ok (.iaload, 1) ∧ 33 + 1 = 34 := by decide +kernel
theorem dX7_settle_34 : decode bX7_settle 34 = .ok (.bipush 124, 2) ∧ 34 + 2 = 36 := by decide +kernel
theorem dX7_settle_36 : decode bX7_settle 36 = .ok (.if_icmp .ne 36, 3) ∧ 36 + 3 = 39 ∧ ((36 : Nat) : Int) + (36) = ((72 : Nat) : Int) := by decide +kernel
theorem dX7_settle_39 : decode bX7_settle 39 = .ok (.iload_n 1, 1) ∧ 39 + 1 = 40 := by decide +kernel
theorem dX7_settle_40 : decode bX7_settle 40 = .ok (.bipush 38, 2) ∧ 40 + 2 = 42 := by decide +kernel
theorem dX7_settle_42 : decode bX7_settle 42 = .ok (.if_icmp .eq 30, 3) ∧ 42 + 3 = 45 ∧ ((42 : Nat) : Int) + (30) = ((72 : Nat) : Int) := by decide +kernel
theorem dX7_settle_45 : decode bX7_settle 45 = .ok (.aload_n 0, 1) ∧ 45 + 1 = 46 := by decide +kernel
theorem dX7_settle_46 : decode bX7_settle 46 = .ok (.dup, 1) ∧ 46 + 1 = 47 := by decide +kernel
theorem dX7_settle_47 : decode bX7_settle 47 = .ok (.getfield 92, 3) ∧ 47 + 3 = 50 := by decide +kernel
theorem dX7_settle_50 : decode bX7_settle 50 = .ok (.iconst 1, 1) ∧ 50 + 1 = 51 := by decide +kernel
theorem dX7_settle_51 : decode bX7_settle 51 = .ok (.isub, 1) ∧ 51 + 1 = 52 := by decide +kernel
theorem dX7_settle_52 : decode bX7_settle 52 = .ok (.putfield 92, 3) ∧ 52 + 3 = 55 := by decide +kernel
theorem dX7_settle_55 : decode bX7_settle 55 = .ok (.aload_n 0, 1) ∧ 55 + 1 = 56 := by decide +kernel
theorem dX7_settle_56 : decode bX7_settle 56 = .ok (.aload_n 0, 1) ∧ 56 + 1 = 57 := by decide +kernel
theorem dX7_settle_57 : decode bX7_settle 57 = .ok (.getfield 86, 3) ∧ 57 + 3 = 60 := by decide +kernel
theorem dX7_settle_60 : decode bX7_settle 60 = .ok (.aload_n 0, 1) ∧ 60 + 1 = 61 := by decide +kernel
theorem dX7_settle_61 : decode bX7_settle 61 = .ok (.getfield 92, 3) ∧ 61 + 3 = 64 := by decide +kernel
theorem dX7_settle_64 : decode bX7_settle 64 = .ok (.iaload, 1) ∧ 64 + 1 = 65 := by decide +kernel
theorem dX7_settle_65 : decode bX7_settle 65 = .ok (.ineg, 1) ∧ 65 + 1 = 66 := by decide +kernel
theorem dX7_settle_66 : decode bX7_settle 66 = .ok (.invokevirtual 303, 3) ∧ 66 + 3 = 69 := by decide +kernel
theorem dX7_settle_69 : decode bX7_settle 69 = .ok (.goto (-69), 3) ∧ ((69 : Nat) : Int) + (-69) = ((0 : Nat) : Int) := by decide +kernel
theorem dX7_settle_72 : decode bX7_settle 72 = .ok (.return_, 1) := by decide +kernel
theorem dX7_place_0 : decode bX7_place 0 = .ok (.iload_n 1, 1) ∧ 0 + 1 = 1 := by decide +kernel
theorem dX7_place_1 : decode bX7_place 1 = .ok (.lookupswitch 71 #[(98, 59), (100, 69), (104, 65), (107, 61), (108, 67), (118, 63)], 59) := by decide +kernel
theorem dX7_place_60 : decode bX7_place 60 = .ok (.iconst 0, 1) ∧ 60 + 1 = 61 := by decide +kernel
theorem dX7_place_61 : decode bX7_place 61 = .ok (.ireturn, 1) := by decide +kernel
theorem dX7_place_62 : decode bX7_place 62 = .ok (.iconst 1, 1) ∧ 62 + 1 = 63 := by decide +kernel
theorem dX7_place_63 : decode bX7_place 63 = .ok (.ireturn, 1) := by decide +kernel
theorem dX7_place_64 : decode bX7_place 64 = .ok (.iconst 2, 1) ∧ 64 + 1 = 65 := by decide +kernel
theorem dX7_place_65 : decode bX7_place 65 = .ok (.ireturn, 1) := by decide +kernel
theorem dX7_place_66 : decode bX7_place 66 = .ok (.iconst 3, 1) ∧ 66 + 1 = 67 := by decide +kernel
theorem dX7_place_67 : decode bX7_place 67 = .ok (.ireturn, 1) := by decide +kernel
theorem dX7_place_68 : decode bX7_place 68 = .ok (.iconst 4, 1) ∧ 68 + 1 = 69 := by decide +kernel
theorem dX7_place_69 : decode bX7_place 69 = .ok (.ireturn, 1) := by decide +kernel
theorem dX7_place_70 : decode bX7_place 70 = .ok (.iconst 5, 1) ∧ 70 + 1 = 71 := by decide +kernel
theorem dX7_place_71 : decode bX7_place 71 = .ok (.ireturn, 1) := by decide +kernel
theorem dX7_place_72 : decode bX7_place 72 = .ok (.iconst (-1), 1) ∧ 72 + 1 = 73 := by decide +kernel
theorem dX7_place_73 : decode bX7_place 73 = .ok (.ireturn, 1) := by decide +kernel
theorem dX7_takesTest_0 : decode bX7_takesTest 0 = .ok (.aload_n 0, 1) ∧ 0 + 1 = 1 := by decide +kernel
theorem dX7_takesTest_1 : decode bX7_takesTest 1 = .ok (.aload_n 0, 1) ∧ 1 + 1 = 2 := by decide +kernel
theorem dX7_takesTest_2 : decode bX7_takesTest 2 = .ok (.invokevirtual 292, 3) ∧ 2 + 3 = 5 := by decide +kernel
theorem dX7_takesTest_5 : decode bX7_takesTest 5 = .ok (.invokevirtual 306, 3) ∧ 5 + 3 = 8 := by decide +kernel
theorem dX7_takesTest_8 : decode bX7_takesTest 8 = .ok (.istore_n 1, 1) ∧ 8 + 1 = 9 := by decide +kernel
theorem dX7_takesTest_9 : decode bX7_takesTest 9 = .ok (.iload_n 1, 1) ∧ 9 + 1 = 10 := by decide +kernel
theorem dX7_takesTest_10 : decode bX7_takesTest 10 = .ok (.ifCond .ge 5, 3) ∧ 10 + 3 = 13 ∧ ((10 : Nat) : Int) + (5) = ((15 : Nat) : Int) := by decide +kernel
theorem dX7_takesTest_13 : decode bX7_takesTest 13 = .ok (.iconst 0, 1) ∧ 13 + 1 = 14 := by decide +kernel
theorem dX7_takesTest_14 : decode bX7_takesTest 14 = .ok (.ireturn, 1) := by decide +kernel
theorem dX7_takesTest_15 : decode bX7_takesTest 15 = .ok (.aload_n 0, 1) ∧ 15 + 1 = 16 := by decide +kernel
theorem dX7_takesTest_16 : decode bX7_takesTest 16 = .ok (.dup, 1) ∧ 16 + 1 = 17 := by decide +kernel
theorem dX7_takesTest_17 : decode bX7_takesTest 17 = .ok (.getfield 59, 3) ∧ 17 + 3 = 20 := by decide +kernel
theorem dX7_takesTest_20 : decode bX7_takesTest 20 = .ok (.iconst 1, 1) ∧ 20 + 1 = 21 := by decide +kernel
theorem dX7_takesTest_21 : decode bX7_takesTest 21 = .ok (.iadd, 1) ∧ 21 + 1 = 22 := by decide +kernel
theorem dX7_takesTest_22 : decode bX7_takesTest 22 = .ok (.putfield 59, 3) ∧ 22 + 3 = 25 := by decide +kernel
theorem dX7_takesTest_25 : decode bX7_takesTest 25 = .ok (.aload_n 0, 1) ∧ 25 + 1 = 26 := by decide +kernel
theorem dX7_takesTest_26 : decode bX7_takesTest 26 = .ok (.invokevirtual 292, 3) ∧ 26 + 3 = 29 := by decide +kernel
theorem dX7_takesTest_29 : decode bX7_takesTest 29 = .ok (.istore_n 2, 1) ∧ 29 + 1 = 30 := by decide +kernel
theorem dX7_takesTest_30 : decode bX7_takesTest 30 = .ok (.aload_n 0, 1) ∧ 30 + 1 = 31 := by decide +kernel
theorem dX7_takesTest_31 : decode bX7_takesTest 31 = .ok (.iload_n 2, 1) ∧ 31 + 1 = 32 := by decide +kernel
theorem dX7_takesTest_32 : decode bX7_takesTest 32 = .ok (.bipush 60, 2) ∧ 32 + 2 = 34 := by decide +kernel
theorem dX7_takesTest_34 : decode bX7_takesTest 34 = .ok (.bipush 62, 2) ∧ 34 + 2 = 36 := by decide +kernel
theorem dX7_takesTest_36 : decode bX7_takesTest 36 = .ok (.invokevirtual 263, 3) ∧ 36 + 3 = 39 := by decide +kernel
theorem dX7_takesTest_39 : decode bX7_takesTest 39 = .ok (.ifCond .ne 5, 3) ∧ 39 + 3 = 42 ∧ ((39 : Nat) : Int) + (5) = ((44 : Nat) : Int) := by decide +kernel
theorem dX7_takesTest_42 : decode bX7_takesTest 42 = .ok (.iconst 0, 1) ∧ 42 + 1 = 43 := by decide +kernel
theorem dX7_takesTest_43 : decode bX7_takesTest 43 = .ok (.ireturn, 1) := by decide +kernel
theorem dX7_takesTest_44 : decode bX7_takesTest 44 = .ok (.aload_n 0, 1) ∧ 44 + 1 = 45 := by decide +kernel
theorem dX7_takesTest_45 : decode bX7_takesTest 45 = .ok (.dup, 1) ∧ 45 + 1 = 46 := by decide +kernel
theorem dX7_takesTest_46 : decode bX7_takesTest 46 = .ok (.getfield 59, 3) ∧ 46 + 3 = 49 := by decide +kernel
theorem dX7_takesTest_49 : decode bX7_takesTest 49 = .ok (.iconst 1, 1) ∧ 49 + 1 = 50 := by decide +kernel
theorem dX7_takesTest_50 : decode bX7_takesTest 50 = .ok (.iadd, 1) ∧ 50 + 1 = 51 := by decide +kernel
theorem dX7_takesTest_51 : decode bX7_takesTest 51 = .ok (.putfield 59, 3) ∧ 51 + 3 = 54 := by decide +kernel
theorem dX7_takesTest_54 : decode bX7_takesTest 54 = .ok (.aload_n 0, 1) ∧ 54 + 1 = 55 := by decide +kernel
theorem dX7_takesTest_55 : decode bX7_takesTest 55 = .ok (.invokevirtual 310, 3) ∧ 55 + 3 = 58 := by decide +kernel
theorem dX7_takesTest_58 : decode bX7_takesTest 58 = .ok (.ifCond .ne 5, 3) ∧ 58 + 3 = 61 ∧ ((58 : Nat) : Int) + (5) = ((63 : Nat) : Int) := by decide +kernel
theorem dX7_takesTest_61 : decode bX7_takesTest 61 = .ok (.iconst 0, 1) ∧ 61 + 1 = 62 := by decide +kernel
theorem dX7_takesTest_62 : decode bX7_takesTest 62 = .ok (.ireturn, 1) := by decide +kernel
theorem dX7_takesTest_63 : decode bX7_takesTest 63 = .ok (.aload_n 0, 1) ∧ 63 + 1 = 64 := by decide +kernel
theorem dX7_takesTest_64 : decode bX7_takesTest 64 = .ok (.sipush 1000, 3) ∧ 64 + 3 = 67 := by decide +kernel
theorem dX7_takesTest_67 : decode bX7_takesTest 67 = .ok (.iload_n 1, 1) ∧ 67 + 1 = 68 := by decide +kernel
theorem dX7_takesTest_68 : decode bX7_takesTest 68 = .ok (.imul, 1) ∧ 68 + 1 = 69 := by decide +kernel
theorem dX7_takesTest_69 : decode bX7_takesTest 69 = .ok (.bipush 100, 2) ∧ 69 + 2 = 71 := by decide +kernel
theorem dX7_takesTest_71 : decode bX7_takesTest 71 = .ok (.iload_n 2, 1) ∧ 71 + 1 = 72 := by decide +kernel
theorem dX7_takesTest_72 : decode bX7_takesTest 72 = .ok (.bipush 60, 2) ∧ 72 + 2 = 74 := by decide +kernel
theorem dX7_takesTest_74 : decode bX7_takesTest 74 = .ok (.isub, 1) ∧ 74 + 1 = 75 := by decide +kernel
theorem dX7_takesTest_75 : decode bX7_takesTest 75 = .ok (.imul, 1) ∧ 75 + 1 = 76 := by decide +kernel
theorem dX7_takesTest_76 : decode bX7_takesTest 76 = .ok (.iadd, 1) ∧ 76 + 1 = 77 := by decide +kernel
theorem dX7_takesTest_77 : decode bX7_takesTest 77 = .ok (.aload_n 0, 1) ∧ 77 + 1 = 78 := by decide +kernel
theorem dX7_takesTest_78 : decode bX7_takesTest 78 = .ok (.getfield 62, 3) ∧ 78 + 3 = 81 := by decide +kernel
theorem dX7_takesTest_81 : decode bX7_takesTest 81 = .ok (.iadd, 1) ∧ 81 + 1 = 82 := by decide +kernel
theorem dX7_takesTest_82 : decode bX7_takesTest 82 = .ok (.invokevirtual 303, 3) ∧ 82 + 3 = 85 := by decide +kernel
theorem dX7_takesTest_85 : decode bX7_takesTest 85 = .ok (.aload_n 0, 1) ∧ 85 + 1 = 86 := by decide +kernel
theorem dX7_takesTest_86 : decode bX7_takesTest 86 = .ok (.invokevirtual 313, 3) ∧ 86 + 3 = 89 := by decide +kernel
theorem dX7_takesTest_89 : decode bX7_takesTest 89 = .ok (.iconst 1, 1) ∧ 89 + 1 = 90 := by decide +kernel
theorem dX7_takesTest_90 : decode bX7_takesTest 90 = .ok (.ireturn, 1) := by decide +kernel
theorem dX7_takesE_0 : decode bX7_takesE 0 = .ok (.aload_n 0, 1) ∧ 0 + 1 = 1 := by decide +kernel
theorem dX7_takesE_1 : decode bX7_takesE 1 = .ok (.iconst 0, 1) ∧ 1 + 1 = 2 := by decide +kernel
theorem dX7_takesE_2 : decode bX7_takesE 2 = .ok (.putfield 92, 3) ∧ 2 + 3 = 5 := by decide +kernel
theorem dX7_takesE_5 : decode bX7_takesE 5 = .ok (.aload_n 0, 1) ∧ 5 + 1 = 6 := by decide +kernel
theorem dX7_takesE_6 : decode bX7_takesE 6 = .ok (.iconst 0, 1) ∧ 6 + 1 = 7 := by decide +kernel
theorem dX7_takesE_7 : decode bX7_takesE 7 = .ok (.putfield 95, 3) ∧ 7 + 3 = 10 := by decide +kernel
theorem dX7_takesE_10 : decode bX7_takesE 10 = .ok (.aload_n 0, 1) ∧ 10 + 1 = 11 := by decide +kernel
theorem dX7_takesE_11 : decode bX7_takesE 11 = .ok (.getfield 77, 3) ∧ 11 + 3 = 14 := by decide +kernel
theorem dX7_takesE_14 : decode bX7_takesE 14 = .ok (.iload_n 1, 1) ∧ 14 + 1 = 15 := by decide +kernel
theorem dX7_takesE_15 : decode bX7_takesE 15 = .ok (.aload_n 0, 1) ∧ 15 + 1 = 16 := by decide +kernel
theorem dX7_takesE_16 : decode bX7_takesE 16 = .ok (.getfield 89, 3) ∧ 16 + 3 = 19 := by decide +kernel
theorem dX7_takesE_19 : decode bX7_takesE 19 = .ok (.iastore, 1) ∧ 19 + 1 = 20 := by decide +kernel
theorem dX7_takesE_20 : decode bX7_takesE 20 = .ok (.iconst 1, 1) ∧ 20 + 1 = 21 := by decide +kernel
theorem dX7_takesE_21 : decode bX7_takesE 21 = .ok (.istore_n 2, 1) ∧ 21 + 1 = 22 := by decide +kernel
theorem dX7_takesE_22 : decode bX7_takesE 22 = .ok (.aload_n 0, 1) ∧ 22 + 1 = 23 := by decide +kernel
theorem dX7_takesE_23 : decode bX7_takesE 23 = .ok (.invokevirtual 292, 3) ∧ 23 + 3 = 26 := by decide +kernel
theorem dX7_takesE_26 : decode bX7_takesE 26 = .ok (.istore_n 3, 1) ∧ 26 + 1 = 27 := by decide +kernel
theorem dX7_takesE_27 : decode bX7_takesE 27 = .ok (.iload_n 2, 1) ∧ 27 + 1 = 28 := by decide +kernel
theorem dX7_takesE_28 : decode bX7_takesE 28 = .ok (.ifCond .eq 82, 3) ∧ 28 + 3 = 31 ∧ ((28 : Nat) : Int) + (82) = ((110 : Nat) : Int) := by decide +kernel
theorem dX7_takesE_31 : decode bX7_takesE 31 = .ok (.iload_n 3, 1) ∧ 31 + 1 = 32 := by decide +kernel
theorem dX7_takesE_32 : decode bX7_takesE 32 = .ok (.bipush 33, 2) ∧ 32 + 2 = 34 := by decide +kernel
theorem dX7_takesE_34 : decode bX7_takesE 34 = .ok (.if_icmp .eq 9, 3) ∧ 34 + 3 = 37 ∧ ((34 : Nat) : Int) + (9) = ((43 : Nat) : Int) := by decide +kernel
theorem dX7_takesE_37 : decode bX7_takesE 37 = .ok (.iload_n 3, 1) ∧ 37 + 1 = 38 := by decide +kernel
theorem dX7_takesE_38 : decode bX7_takesE 38 = .ok (.bipush 40, 2) ∧ 38 + 2 = 40 := by decide +kernel
theorem dX7_takesE_40 : decode bX7_takesE 40 = .ok (.if_icmp .ne 56, 3) ∧ 40 + 3 = 43 ∧ ((40 : Nat) : Int) + (56) = ((96 : Nat) : Int) := by decide +kernel
theorem dX7_takesE_43 : decode bX7_takesE 43 = .ok (.aload_n 0, 1) ∧ 43 + 1 = 44 := by decide +kernel
theorem dX7_takesE_44 : decode bX7_takesE 44 = .ok (.getfield 95, 3) ∧ 44 + 3 = 47 := by decide +kernel
theorem dX7_takesE_47 : decode bX7_takesE 47 = .ok (.iconst 4, 1) ∧ 47 + 1 = 48 := by decide +kernel
theorem dX7_takesE_48 : decode bX7_takesE 48 = .ok (.if_icmp .ne 5, 3) ∧ 48 + 3 = 51 ∧ ((48 : Nat) : Int) + (5) = ((53 : Nat) : Int) := by decide +kernel
theorem dX7_takesE_51 : decode bX7_takesE 51 = .ok (.iconst 0, 1) ∧ 51 + 1 = 52 := by decide +kernel
theorem dX7_takesE_52 : decode bX7_takesE 52 = .ok (.ireturn, 1) := by decide +kernel
theorem dX7_takesE_53 : decode bX7_takesE 53 = .ok (.aload_n 0, 1) ∧ 53 + 1 = 54 := by decide +kernel
theorem dX7_takesE_54 : decode bX7_takesE 54 = .ok (.dup, 1) ∧ 54 + 1 = 55 := by decide +kernel
theorem dX7_takesE_55 : decode bX7_takesE 55 = .ok (.getfield 95, 3) ∧ 55 + 3 = 58 := by decide +kernel
theorem dX7_takesE_58 : decode bX7_takesE 58 = .ok (.iconst 1, 1) ∧ 58 + 1 = 59 := by decide +kernel
theorem dX7_takesE_59 : decode bX7_takesE 59 = .ok (.iadd, 1) ∧ 59 + 1 = 60 := by decide +kernel
theorem dX7_takesE_60 : decode bX7_takesE 60 = .ok (.putfield 95, 3) ∧ 60 + 3 = 63 := by decide +kernel
theorem dX7_takesE_63 : decode bX7_takesE 63 = .ok (.aload_n 0, 1) ∧ 63 + 1 = 64 := by decide +kernel
theorem dX7_takesE_64 : decode bX7_takesE 64 = .ok (.getfield 86, 3) ∧ 64 + 3 = 67 := by decide +kernel
theorem dX7_takesE_67 : decode bX7_takesE 67 = .ok (.aload_n 0, 1) ∧ 67 + 1 = 68 := by decide +kernel
theorem dX7_takesE_68 : decode bX7_takesE 68 = .ok (.getfield 92, 3) ∧ 68 + 3 = 71 := by decide +kernel
theorem dX7_takesE_71 : decode bX7_takesE 71 = .ok (.iload_n 3, 1) ∧ 71 + 1 = 72 := by decide +kernel
theorem dX7_takesE_72 : decode bX7_takesE 72 = .ok (.iastore, 1) ∧ 72 + 1 = 73 := by decide +kernel
theorem dX7_takesE_73 : decode bX7_takesE 73 = .ok (.aload_n 0, 1) ∧ 73 + 1 = 74 := by decide +kernel
theorem dX7_takesE_74 : decode bX7_takesE 74 = .ok (.dup, 1) ∧ 74 + 1 = 75 := by decide +kernel
theorem dX7_takesE_75 : decode bX7_takesE 75 = .ok (.getfield 92, 3) ∧ 75 + 3 = 78 := by decide +kernel
theorem dX7_takesE_78 : decode bX7_takesE 78 = .ok (.iconst 1, 1) ∧ 78 + 1 = 79 := by decide +kernel
theorem dX7_takesE_79 : decode bX7_takesE 79 = .ok (.iadd, 1) ∧ 79 + 1 = 80 := by decide +kernel
theorem dX7_takesE_80 : decode bX7_takesE 80 = .ok (.putfield 92, 3) ∧ 80 + 3 = 83 := by decide +kernel
theorem dX7_takesE_83 : decode bX7_takesE 83 = .ok (.aload_n 0, 1) ∧ 83 + 1 = 84 := by decide +kernel
theorem dX7_takesE_84 : decode bX7_takesE 84 = .ok (.dup, 1) ∧ 84 + 1 = 85 := by decide +kernel
theorem dX7_takesE_85 : decode bX7_takesE 85 = .ok (.getfield 59, 3) ∧ 85 + 3 = 88 := by decide +kernel
theorem dX7_takesE_88 : decode bX7_takesE 88 = .ok (.iconst 1, 1) ∧ 88 + 1 = 89 := by decide +kernel
theorem dX7_takesE_89 : decode bX7_takesE 89 = .ok (.iadd, 1) ∧ 89 + 1 = 90 := by decide +kernel
theorem dX7_takesE_90 : decode bX7_takesE 90 = .ok (.putfield 59, 3) ∧ 90 + 3 = 93 := by decide +kernel
theorem dX7_takesE_93 : decode bX7_takesE 93 = .ok (.goto (-71), 3) ∧ ((93 : Nat) : Int) + (-71) = ((22 : Nat) : Int) := by decide +kernel
theorem dX7_takesE_96 : decode bX7_takesE 96 = .ok (.aload_n 0, 1) ∧ 96 + 1 = 97 := by decide +kernel
theorem dX7_takesE_97 : decode bX7_takesE 97 = .ok (.invokevirtual 316, 3) ∧ 97 + 3 = 100 := by decide +kernel
theorem dX7_takesE_100 : decode bX7_takesE 100 = .ok (.ifCond .eq 8, 3) ∧ 100 + 3 = 103 ∧ ((100 : Nat) : Int) + (8) = ((108 : Nat) : Int) := by decide +kernel
theorem dX7_takesE_103 : decode bX7_takesE 103 = .ok (.iconst 0, 1) ∧ 103 + 1 = 104 := by decide +kernel
theorem dX7_takesE_104 : decode bX7_takesE 104 = .ok (.istore_n 2, 1) ∧ 104 + 1 = 105 := by decide +kernel
theorem dX7_takesE_105 : decode bX7_takesE 105 = .ok (.goto (-83), 3) ∧ ((105 : Nat) : Int) + (-83) = ((22 : Nat) : Int) := by decide +kernel
theorem dX7_takesE_108 : decode bX7_takesE 108 = .ok (.iconst 0, 1) ∧ 108 + 1 = 109 := by decide +kernel
theorem dX7_takesE_109 : decode bX7_takesE 109 = .ok (.ireturn, 1) := by decide +kernel
theorem dX7_takesE_110 : decode bX7_takesE 110 = .ok (.iload_n 3, 1) ∧ 110 + 1 = 111 := by decide +kernel
theorem dX7_takesE_111 : decode bX7_takesE 111 = .ok (.bipush 38, 2) ∧ 111 + 2 = 113 := by decide +kernel
theorem dX7_takesE_113 : decode bX7_takesE 113 = .ok (.if_icmp .eq 9, 3) ∧ 113 + 3 = 116 ∧ ((113 : Nat) : Int) + (9) = ((122 : Nat) : Int) := by decide +kernel
theorem dX7_takesE_116 : decode bX7_takesE 116 = .ok (.iload_n 3, 1) ∧ 116 + 1 = 117 := by decide +kernel
theorem dX7_takesE_117 : decode bX7_takesE 117 = .ok (.bipush 124, 2) ∧ 117 + 2 = 119 := by decide +kernel
theorem dX7_takesE_119 : decode bX7_takesE 119 = .ok (.if_icmp .ne 43, 3) ∧ 119 + 3 = 122 ∧ ((119 : Nat) : Int) + (43) = ((162 : Nat) : Int) := by decide +kernel
theorem dX7_takesE_122 : decode bX7_takesE 122 = .ok (.aload_n 0, 1) ∧ 122 + 1 = 123 := by decide +kernel
theorem dX7_takesE_123 : decode bX7_takesE 123 = .ok (.iload_n 3, 1) ∧ 123 + 1 = 124 := by decide +kernel
theorem dX7_takesE_124 : decode bX7_takesE 124 = .ok (.invokevirtual 319, 3) ∧ 124 + 3 = 127 := by decide +kernel
theorem dX7_takesE_127 : decode bX7_takesE 127 = .ok (.aload_n 0, 1) ∧ 127 + 1 = 128 := by decide +kernel
theorem dX7_takesE_128 : decode bX7_takesE 128 = .ok (.getfield 86, 3) ∧ 128 + 3 = 131 := by decide +kernel
theorem dX7_takesE_131 : decode bX7_takesE 131 = .ok (.aload_n 0, 1) ∧ 131 + 1 = 132 := by decide +kernel
theorem dX7_takesE_132 : decode bX7_takesE 132 = .ok (.getfield 92, 3) ∧ 132 + 3 = 135 := by decide +kernel
theorem dX7_takesE_135 : decode bX7_takesE 135 = .ok (.iload_n 3, 1) ∧ 135 + 1 = 136 := by decide +kernel
theorem dX7_takesE_136 : decode bX7_takesE 136 = .ok (.iastore, 1) ∧ 136 + 1 = 137 := by decide +kernel
theorem dX7_takesE_137 : decode bX7_takesE 137 = .ok (.aload_n 0, 1) ∧ 137 + 1 = 138 := by decide +kernel
theorem dX7_takesE_138 : decode bX7_takesE 138 = .ok (.dup, 1) ∧ 138 + 1 = 139 := by decide +kernel
theorem dX7_takesE_139 : decode bX7_takesE 139 = .ok (.getfield 92, 3) ∧ 139 + 3 = 142 := by decide +kernel
theorem dX7_takesE_142 : decode bX7_takesE 142 = .ok (.iconst 1, 1) ∧ 142 + 1 = 143 := by decide +kernel
theorem dX7_takesE_143 : decode bX7_takesE 143 = .ok (.iadd, 1) ∧ 143 + 1 = 144 := by decide +kernel
theorem dX7_takesE_144 : decode bX7_takesE 144 = .ok (.putfield 92, 3) ∧ 144 + 3 = 147 := by decide +kernel
theorem dX7_takesE_147 : decode bX7_takesE 147 = .ok (.iconst 1, 1) ∧ 147 + 1 = 148 := by decide +kernel
theorem dX7_takesE_148 : decode bX7_takesE 148 = .ok (.istore_n 2, 1) ∧ 148 + 1 = 149 := by decide +kernel
theorem dX7_takesE_149 : decode bX7_takesE 149 = .ok (.aload_n 0, 1) ∧ 149 + 1 = 150 := by decide +kernel
theorem dX7_takesE_150 : decode bX7_takesE 150 = .ok (.dup, 1) ∧ 150 + 1 = 151 := by decide +kernel
theorem dX7_takesE_151 : decode bX7_takesE 151 = .ok (.getfield 59, 3) ∧ 151 + 3 = 154 := by decide +kernel
theorem dX7_takesE_154 : decode bX7_takesE 154 = .ok (.iconst 1, 1) ∧ 154 + 1 = 155 := by decide +kernel
theorem dX7_takesE_155 : decode bX7_takesE 155 = .ok (.iadd, 1) ∧ 155 + 1 = 156 := by decide +kernel
theorem dX7_takesE_156 : decode bX7_takesE 156 = .ok (.putfield 59, 3) ∧ 156 + 3 = 159 := by decide +kernel
theorem dX7_takesE_159 : decode bX7_takesE 159 = .ok (.goto (-137), 3) ∧ ((159 : Nat) : Int) + (-137) = ((22 : Nat) : Int) := by decide +kernel
theorem dX7_takesE_162 : decode bX7_takesE 162 = .ok (.aload_n 0, 1) ∧ 162 + 1 = 163 := by decide +kernel
theorem dX7_takesE_163 : decode bX7_takesE 163 = .ok (.bipush 124, 2) ∧ 163 + 2 = 165 := by decide +kernel
theorem dX7_takesE_165 : decode bX7_takesE 165 = .ok (.invokevirtual 319, 3) ∧ 165 + 3 = 168 := by decide +kernel
theorem dX7_takesE_168 : decode bX7_takesE 168 = .ok (.aload_n 0, 1) ∧ 168 + 1 = 169 := by decide +kernel
theorem dX7_takesE_169 : decode bX7_takesE 169 = .ok (.getfield 80, 3) ∧ 169 + 3 = 172 := by decide +kernel
theorem dX7_takesE_172 : decode bX7_takesE 172 = .ok (.iload_n 1, 1) ∧ 172 + 1 = 173 := by decide +kernel
theorem dX7_takesE_173 : decode bX7_takesE 173 = .ok (.aload_n 0, 1) ∧ 173 + 1 = 174 := by decide +kernel
theorem dX7_takesE_174 : decode bX7_takesE 174 = .ok (.getfield 89, 3) ∧ 174 + 3 = 177 := by decide +kernel
theorem dX7_takesE_177 : decode bX7_takesE 177 = .ok (.iastore, 1) ∧ 177 + 1 = 178 := by decide +kernel
theorem dX7_takesE_178 : decode bX7_takesE 178 = .ok (.aload_n 0, 1) ∧ 178 + 1 = 179 := by decide +kernel
theorem dX7_takesE_179 : decode bX7_takesE 179 = .ok (.getfield 92, 3) ∧ 179 + 3 = 182 := by decide +kernel
theorem dX7_takesE_182 : decode bX7_takesE 182 = .ok (.ifCond .ne 5, 3) ∧ 182 + 3 = 185 ∧ ((182 : Nat) : Int) + (5) = ((187 : Nat) : Int) := by decide +kernel
theorem dX7_takesE_185 : decode bX7_takesE 185 = .ok (.iconst 1, 1) ∧ 185 + 1 = 186 := by decide +kernel
theorem dX7_takesE_186 : decode bX7_takesE 186 = .ok (.ireturn, 1) := by decide +kernel
theorem dX7_takesE_187 : decode bX7_takesE 187 = .ok (.iload_n 3, 1) ∧ 187 + 1 = 188 := by decide +kernel
theorem dX7_takesE_188 : decode bX7_takesE 188 = .ok (.bipush 41, 2) ∧ 188 + 2 = 190 := by decide +kernel
theorem dX7_takesE_190 : decode bX7_takesE 190 = .ok (.if_icmp .eq 5, 3) ∧ 190 + 3 = 193 ∧ ((190 : Nat) : Int) + (5) = ((195 : Nat) : Int) := by decide +kernel
theorem dX7_takesE_193 : decode bX7_takesE 193 = .ok (.iconst 0, 1) ∧ 193 + 1 = 194 := by decide +kernel
theorem dX7_takesE_194 : decode bX7_takesE 194 = .ok (.ireturn, 1) := by decide +kernel
theorem dX7_takesE_195 : decode bX7_takesE 195 = .ok (.aload_n 0, 1) ∧ 195 + 1 = 196 := by decide +kernel
theorem dX7_takesE_196 : decode bX7_takesE 196 = .ok (.dup, 1) ∧ 196 + 1 = 197 := by decide +kernel
theorem dX7_takesE_197 : decode bX7_takesE 197 = .ok (.getfield 92, 3) ∧ 197 + 3 = 200 := by decide +kernel
theorem dX7_takesE_200 : decode bX7_takesE 200 = .ok (.iconst 1, 1) ∧ 200 + 1 = 201 := by decide +kernel
theorem dX7_takesE_201 : decode bX7_takesE 201 = .ok (.isub, 1) ∧ 201 + 1 = 202 := by decide +kernel
theorem dX7_takesE_202 : decode bX7_takesE 202 = .ok (.putfield 92, 3) ∧ 202 + 3 = 205 := by decide +kernel
theorem dX7_takesE_205 : decode bX7_takesE 205 = .ok (.aload_n 0, 1) ∧ 205 + 1 = 206 := by decide +kernel
theorem dX7_takesE_206 : decode bX7_takesE 206 = .ok (.dup, 1) ∧ 206 + 1 = 207 := by decide +kernel
theorem dX7_takesE_207 : decode bX7_takesE 207 = .ok (.getfield 95, 3) ∧ 207 + 3 = 210 := by decide +kernel
theorem dX7_takesE_210 : decode bX7_takesE 210 = .ok (.iconst 1, 1) ∧ 210 + 1 = 211 := by decide +kernel
theorem dX7_takesE_211 : decode bX7_takesE 211 = .ok (.isub, 1) ∧ 211 + 1 = 212 := by decide +kernel
theorem dX7_takesE_212 : decode bX7_takesE 212 = .ok (.putfield 95, 3) ∧ 212 + 3 = 215 := by decide +kernel
theorem dX7_takesE_215 : decode bX7_takesE 215 = .ok (.aload_n 0, 1) ∧ 215 + 1 = 216 := by decide +kernel
theorem dX7_takesE_216 : decode bX7_takesE 216 = .ok (.dup, 1) ∧ 216 + 1 = 217 := by decide +kernel
theorem dX7_takesE_217 : decode bX7_takesE 217 = .ok (.getfield 59, 3) ∧ 217 + 3 = 220 := by decide +kernel
theorem dX7_takesE_220 : decode bX7_takesE 220 = .ok (.iconst 1, 1) ∧ 220 + 1 = 221 := by decide +kernel
theorem dX7_takesE_221 : decode bX7_takesE 221 = .ok (.iadd, 1) ∧ 221 + 1 = 222 := by decide +kernel
theorem dX7_takesE_222 : decode bX7_takesE 222 = .ok (.putfield 59, 3) ∧ 222 + 3 = 225 := by decide +kernel
theorem dX7_takesE_225 : decode bX7_takesE 225 = .ok (.aload_n 0, 1) ∧ 225 + 1 = 226 := by decide +kernel
theorem dX7_takesE_226 : decode bX7_takesE 226 = .ok (.invokevirtual 313, 3) ∧ 226 + 3 = 229 := by decide +kernel
theorem dX7_takesE_229 : decode bX7_takesE 229 = .ok (.goto (-207), 3) ∧ ((229 : Nat) : Int) + (-207) = ((22 : Nat) : Int) := by decide +kernel
theorem dX7_takesHead_0 : decode bX7_takesHead 0 = .ok (.aload_n 0, 1) ∧ 0 + 1 = 1 := by decide +kernel
theorem dX7_takesHead_1 : decode bX7_takesHead 1 = .ok (.invokevirtual 292, 3) ∧ 1 + 3 = 4 := by decide +kernel
theorem dX7_takesHead_4 : decode bX7_takesHead 4 = .ok (.lookupswitch 103 #[(99, 58), (100, 44), (109, 72), (115, 87)], 44) := by decide +kernel
theorem dX7_takesHead_48 : decode bX7_takesHead 48 = .ok (.aload_n 0, 1) ∧ 48 + 1 = 49 := by decide +kernel
theorem dX7_takesHead_49 : decode bX7_takesHead 49 = .ok (.getfield 71, 3) ∧ 49 + 3 = 52 := by decide +kernel
theorem dX7_takesHead_52 : decode bX7_takesHead 52 = .ok (.iload_n 1, 1) ∧ 52 + 1 = 53 := by decide +kernel
theorem dX7_takesHead_53 : decode bX7_takesHead 53 = .ok (.iconst 0, 1) ∧ 53 + 1 = 54 := by decide +kernel
theorem dX7_takesHead_54 : decode bX7_takesHead 54 = .ok (.iastore, 1) ∧ 54 + 1 = 55 := by decide +kernel
theorem dX7_takesHead_55 : decode bX7_takesHead 55 = .ok (.aload_n 0, 1) ∧ 55 + 1 = 56 := by decide +kernel
theorem dX7_takesHead_56 : decode bX7_takesHead 56 = .ok (.iconst 0, 1) ∧ 56 + 1 = 57 := by decide +kernel
theorem dX7_takesHead_57 : decode bX7_takesHead 57 = .ok (.iconst 4, 1) ∧ 57 + 1 = 58 := by decide +kernel
theorem dX7_takesHead_58 : decode bX7_takesHead 58 = .ok (.invokevirtual 322, 3) ∧ 58 + 3 = 61 := by decide +kernel
theorem dX7_takesHead_61 : decode bX7_takesHead 61 = .ok (.ireturn, 1) := by decide +kernel
theorem dX7_takesHead_62 : decode bX7_takesHead 62 = .ok (.aload_n 0, 1) ∧ 62 + 1 = 63 := by decide +kernel
theorem dX7_takesHead_63 : decode bX7_takesHead 63 = .ok (.getfield 71, 3) ∧ 63 + 3 = 66 := by decide +kernel
theorem dX7_takesHead_66 : decode bX7_takesHead 66 = .ok (.iload_n 1, 1) ∧ 66 + 1 = 67 := by decide +kernel
theorem dX7_takesHead_67 : decode bX7_takesHead 67 = .ok (.iconst 1, 1) ∧ 67 + 1 = 68 := by decide +kernel
theorem dX7_takesHead_68 : decode bX7_takesHead 68 = .ok (.iastore, 1) ∧ 68 + 1 = 69 := by decide +kernel
theorem dX7_takesHead_69 : decode bX7_takesHead 69 = .ok (.aload_n 0, 1) ∧ 69 + 1 = 70 := by decide +kernel
theorem dX7_takesHead_70 : decode bX7_takesHead 70 = .ok (.iconst 4, 1) ∧ 70 + 1 = 71 := by decide +kernel
theorem dX7_takesHead_71 : decode bX7_takesHead 71 = .ok (.iconst 5, 1) ∧ 71 + 1 = 72 := by decide +kernel
theorem dX7_takesHead_72 : decode bX7_takesHead 72 = .ok (.invokevirtual 322, 3) ∧ 72 + 3 = 75 := by decide +kernel
theorem dX7_takesHead_75 : decode bX7_takesHead 75 = .ok (.ireturn, 1) := by decide +kernel
theorem dX7_takesHead_76 : decode bX7_takesHead 76 = .ok (.aload_n 0, 1) ∧ 76 + 1 = 77 := by decide +kernel
theorem dX7_takesHead_77 : decode bX7_takesHead 77 = .ok (.getfield 71, 3) ∧ 77 + 3 = 80 := by decide +kernel
theorem dX7_takesHead_80 : decode bX7_takesHead 80 = .ok (.iload_n 1, 1) ∧ 80 + 1 = 81 := by decide +kernel
theorem dX7_takesHead_81 : decode bX7_takesHead 81 = .ok (.iconst 2, 1) ∧ 81 + 1 = 82 := by decide +kernel
theorem dX7_takesHead_82 : decode bX7_takesHead 82 = .ok (.iastore, 1) ∧ 82 + 1 = 83 := by decide +kernel
theorem dX7_takesHead_83 : decode bX7_takesHead 83 = .ok (.aload_n 0, 1) ∧ 83 + 1 = 84 := by decide +kernel
theorem dX7_takesHead_84 : decode bX7_takesHead 84 = .ok (.bipush 9, 2) ∧ 84 + 2 = 86 := by decide +kernel
theorem dX7_takesHead_86 : decode bX7_takesHead 86 = .ok (.iconst 4, 1) ∧ 86 + 1 = 87 := by decide +kernel
theorem dX7_takesHead_87 : decode bX7_takesHead 87 = .ok (.invokevirtual 322, 3) ∧ 87 + 3 = 90 := by decide +kernel
theorem dX7_takesHead_90 : decode bX7_takesHead 90 = .ok (.ireturn, 1) := by decide +kernel
theorem dX7_takesHead_91 : decode bX7_takesHead 91 = .ok (.aload_n 0, 1) ∧ 91 + 1 = 92 := by decide +kernel
theorem dX7_takesHead_92 : decode bX7_takesHead 92 = .ok (.getfield 71, 3) ∧ 92 + 3 = 95 := by decide +kernel
theorem dX7_takesHead_95 : decode bX7_takesHead 95 = .ok (.iload_n 1, 1) ∧ 95 + 1 = 96 := by decide +kernel
theorem dX7_takesHead_96 : decode bX7_takesHead 96 = .ok (.iconst 3, 1) ∧ 96 + 1 = 97 := by decide +kernel
theorem dX7_takesHead_97 : decode bX7_takesHead 97 = .ok (.iastore, 1) ∧ 97 + 1 = 98 := by decide +kernel
theorem dX7_takesHead_98 : decode bX7_takesHead 98 = .ok (.aload_n 0, 1) ∧ 98 + 1 = 99 := by decide +kernel
theorem dX7_takesHead_99 : decode bX7_takesHead 99 = .ok (.bipush 13, 2) ∧ 99 + 2 = 101 := by decide +kernel
theorem dX7_takesHead_101 : decode bX7_takesHead 101 = .ok (.bipush 6, 2) ∧ 101 + 2 = 103 := by decide +kernel
theorem dX7_takesHead_103 : decode bX7_takesHead 103 = .ok (.invokevirtual 322, 3) ∧ 103 + 3 = 106 := by decide +kernel
theorem dX7_takesHead_106 : decode bX7_takesHead 106 = .ok (.ireturn, 1) := by decide +kernel
theorem dX7_takesHead_107 : decode bX7_takesHead 107 = .ok (.aload_n 0, 1) ∧ 107 + 1 = 108 := by decide +kernel
theorem dX7_takesHead_108 : decode bX7_takesHead 108 = .ok (.getfield 71, 3) ∧ 108 + 3 = 111 := by decide +kernel
theorem dX7_takesHead_111 : decode bX7_takesHead 111 = .ok (.iload_n 1, 1) ∧ 111 + 1 = 112 := by decide +kernel
theorem dX7_takesHead_112 : decode bX7_takesHead 112 = .ok (.iconst 4, 1) ∧ 112 + 1 = 113 := by decide +kernel
theorem dX7_takesHead_113 : decode bX7_takesHead 113 = .ok (.iastore, 1) ∧ 113 + 1 = 114 := by decide +kernel
theorem dX7_takesHead_114 : decode bX7_takesHead 114 = .ok (.aload_n 0, 1) ∧ 114 + 1 = 115 := by decide +kernel
theorem dX7_takesHead_115 : decode bX7_takesHead 115 = .ok (.bipush 19, 2) ∧ 115 + 2 = 117 := by decide +kernel
theorem dX7_takesHead_117 : decode bX7_takesHead 117 = .ok (.iconst 4, 1) ∧ 117 + 1 = 118 := by decide +kernel
theorem dX7_takesHead_118 : decode bX7_takesHead 118 = .ok (.invokevirtual 322, 3) ∧ 118 + 3 = 121 := by decide +kernel
theorem dX7_takesHead_121 : decode bX7_takesHead 121 = .ok (.ireturn, 1) := by decide +kernel
theorem dX7_takesClause_0 : decode bX7_takesClause 0 = .ok (.aload_n 0, 1) ∧ 0 + 1 = 1 := by decide +kernel
theorem dX7_takesClause_1 : decode bX7_takesClause 1 = .ok (.iload_n 1, 1) ∧ 1 + 1 = 2 := by decide +kernel
theorem dX7_takesClause_2 : decode bX7_takesClause 2 = .ok (.invokevirtual 326, 3) ∧ 2 + 3 = 5 := by decide +kernel
theorem dX7_takesClause_5 : decode bX7_takesClause 5 = .ok (.ifCond .eq 10, 3) ∧ 5 + 3 = 8 ∧ ((5 : Nat) : Int) + (10) = ((15 : Nat) : Int) := by decide +kernel
theorem dX7_takesClause_8 : decode bX7_takesClause 8 = .ok (.aload_n 0, 1) ∧ 8 + 1 = 9 := by decide +kernel
theorem dX7_takesClause_9 : decode bX7_takesClause 9 = .ok (.invokevirtual 310, 3) ∧ 9 + 3 = 12 := by decide +kernel
theorem dX7_takesClause_12 : decode bX7_takesClause 12 = .ok (.ifCond .ne 5, 3) ∧ 12 + 3 = 15 ∧ ((12 : Nat) : Int) + (5) = ((17 : Nat) : Int) := by decide +kernel
theorem dX7_takesClause_15 : decode bX7_takesClause 15 = .ok (.iconst 0, 1) ∧ 15 + 1 = 16 := by decide +kernel
theorem dX7_takesClause_16 : decode bX7_takesClause 16 = .ok (.ireturn, 1) := by decide +kernel
theorem dX7_takesClause_17 : decode bX7_takesClause 17 = .ok (.aload_n 0, 1) ∧ 17 + 1 = 18 := by decide +kernel
theorem dX7_takesClause_18 : decode bX7_takesClause 18 = .ok (.getfield 74, 3) ∧ 18 + 3 = 21 := by decide +kernel
theorem dX7_takesClause_21 : decode bX7_takesClause 21 = .ok (.iload_n 1, 1) ∧ 21 + 1 = 22 := by decide +kernel
theorem dX7_takesClause_22 : decode bX7_takesClause 22 = .ok (.aload_n 0, 1) ∧ 22 + 1 = 23 := by decide +kernel
theorem dX7_takesClause_23 : decode bX7_takesClause 23 = .ok (.getfield 62, 3) ∧ 23 + 3 = 26 := by decide +kernel
theorem dX7_takesClause_26 : decode bX7_takesClause 26 = .ok (.iastore, 1) ∧ 26 + 1 = 27 := by decide +kernel
theorem dX7_takesClause_27 : decode bX7_takesClause 27 = .ok (.aload_n 0, 1) ∧ 27 + 1 = 28 := by decide +kernel
theorem dX7_takesClause_28 : decode bX7_takesClause 28 = .ok (.getfield 71, 3) ∧ 28 + 3 = 31 := by decide +kernel
theorem dX7_takesClause_31 : decode bX7_takesClause 31 = .ok (.iload_n 1, 1) ∧ 31 + 1 = 32 := by decide +kernel
theorem dX7_takesClause_32 : decode bX7_takesClause 32 = .ok (.iaload, 1) ∧ 32 + 1 = 33 := by decide +kernel
theorem dX7_takesClause_33 : decode bX7_takesClause 33 = .ok (.iconst 2, 1) ∧ 33 + 1 = 34 := by decide +kernel
theorem dX7_takesClause_34 : decode bX7_takesClause 34 = .ok (.if_icmp .ge 20, 3) ∧ 34 + 3 = 37 ∧ ((34 : Nat) : Int) + (20) = ((54 : Nat) : Int) := by decide +kernel
theorem dX7_takesClause_37 : decode bX7_takesClause 37 = .ok (.aload_n 0, 1) ∧ 37 + 1 = 38 := by decide +kernel
theorem dX7_takesClause_38 : decode bX7_takesClause 38 = .ok (.bipush 32, 2) ∧ 38 + 2 = 40 := by decide +kernel
theorem dX7_takesClause_40 : decode bX7_takesClause 40 = .ok (.invokevirtual 296, 3) ∧ 40 + 3 = 43 := by decide +kernel
theorem dX7_takesClause_43 : decode bX7_takesClause 43 = .ok (.ifCond .eq 15, 3) ∧ 43 + 3 = 46 ∧ ((43 : Nat) : Int) + (15) = ((58 : Nat) : Int) := by decide +kernel
theorem dX7_takesClause_46 : decode bX7_takesClause 46 = .ok (.aload_n 0, 1) ∧ 46 + 1 = 47 := by decide +kernel
theorem dX7_takesClause_47 : decode bX7_takesClause 47 = .ok (.iload_n 1, 1) ∧ 47 + 1 = 48 := by decide +kernel
theorem dX7_takesClause_48 : decode bX7_takesClause 48 = .ok (.invokevirtual 329, 3) ∧ 48 + 3 = 51 := by decide +kernel
theorem dX7_takesClause_51 : decode bX7_takesClause 51 = .ok (.ifCond .eq 7, 3) ∧ 51 + 3 = 54 ∧ ((51 : Nat) : Int) + (7) = ((58 : Nat) : Int) := by decide +kernel
theorem dX7_takesClause_54 : decode bX7_takesClause 54 = .ok (.iconst 1, 1) ∧ 54 + 1 = 55 := by decide +kernel
theorem dX7_takesClause_55 : decode bX7_takesClause 55 = .ok (.goto 4, 3) ∧ ((55 : Nat) : Int) + (4) = ((59 : Nat) : Int) := by decide +kernel
theorem dX7_takesClause_58 : decode bX7_takesClause 58 = .ok (.iconst 0, 1) ∧ 58 + 1 = 59 := by decide +kernel
theorem dX7_takesClause_59 : decode bX7_takesClause 59 = .ok (.ireturn, 1) := by decide +kernel
theorem dX7_goesText_0 : decode bX7_goesText 0 = .ok (.aload_n 0, 1) ∧ 0 + 1 = 1 := by decide +kernel
theorem dX7_goesText_1 : decode bX7_goesText 1 = .ok (.iconst 0, 1) ∧ 1 + 1 = 2 := by decide +kernel
theorem dX7_goesText_2 : decode bX7_goesText 2 = .ok (.putfield 59, 3) ∧ 2 + 3 = 5 := by decide +kernel
theorem dX7_goesText_5 : decode bX7_goesText 5 = .ok (.aload_n 0, 1) ∧ 5 + 1 = 6 := by decide +kernel
theorem dX7_goesText_6 : decode bX7_goesText 6 = .ok (.bipush 100, 2) ∧ 6 + 2 = 8 := by decide +kernel
theorem dX7_goesText_8 : decode bX7_goesText 8 = .ok (.iload_n 1, 1) ∧ 8 + 1 = 9 := by decide +kernel
theorem dX7_goesText_9 : decode bX7_goesText 9 = .ok (.imul, 1) ∧ 9 + 1 = 10 := by decide +kernel
theorem dX7_goesText_10 : decode bX7_goesText 10 = .ok (.putfield 89, 3) ∧ 10 + 3 = 13 := by decide +kernel
theorem dX7_goesText_13 : decode bX7_goesText 13 = .ok (.iconst 0, 1) ∧ 13 + 1 = 14 := by decide +kernel
theorem dX7_goesText_14 : decode bX7_goesText 14 = .ok (.istore_n 2, 1) ∧ 14 + 1 = 15 := by decide +kernel
theorem dX7_goesText_15 : decode bX7_goesText 15 = .ok (.aload_n 0, 1) ∧ 15 + 1 = 16 := by decide +kernel
theorem dX7_goesText_16 : decode bX7_goesText 16 = .ok (.bipush 10, 2) ∧ 16 + 2 = 18 := by decide +kernel
theorem dX7_goesText_18 : decode bX7_goesText 18 = .ok (.iload_n 1, 1) ∧ 18 + 1 = 19 := by decide +kernel
theorem dX7_goesText_19 : decode bX7_goesText 19 = .ok (.imul, 1) ∧ 19 + 1 = 20 := by decide +kernel
theorem dX7_goesText_20 : decode bX7_goesText 20 = .ok (.iload_n 2, 1) ∧ 20 + 1 = 21 := by decide +kernel
theorem dX7_goesText_21 : decode bX7_goesText 21 = .ok (.iadd, 1) ∧ 21 + 1 = 22 := by decide +kernel
theorem dX7_goesText_22 : decode bX7_goesText 22 = .ok (.invokevirtual 332, 3) ∧ 22 + 3 = 25 := by decide +kernel
theorem dX7_goesText_25 : decode bX7_goesText 25 = .ok (.ifCond .ne 5, 3) ∧ 25 + 3 = 28 ∧ ((25 : Nat) : Int) + (5) = ((30 : Nat) : Int) := by decide +kernel
theorem dX7_goesText_28 : decode bX7_goesText 28 = .ok (.iconst 0, 1) ∧ 28 + 1 = 29 := by decide +kernel
theorem dX7_goesText_29 : decode bX7_goesText 29 = .ok (.ireturn, 1) := by decide +kernel
theorem dX7_goesText_30 : decode bX7_goesText 30 = .ok (.iinc 2 1, 3) ∧ 30 + 3 = 33 := by decide +kernel
theorem dX7_goesText_33 : decode bX7_goesText 33 = .ok (.aload_n 0, 1) ∧ 33 + 1 = 34 := by decide +kernel
theorem dX7_goesText_34 : decode bX7_goesText 34 = .ok (.getfield 68, 3) ∧ 34 + 3 = 37 := by decide +kernel
theorem dX7_goesText_37 : decode bX7_goesText 37 = .ok (.iload_n 1, 1) ∧ 37 + 1 = 38 := by decide +kernel
theorem dX7_goesText_38 : decode bX7_goesText 38 = .ok (.iload_n 2, 1) ∧ 38 + 1 = 39 := by decide +kernel
theorem dX7_goesText_39 : decode bX7_goesText 39 = .ok (.iastore, 1) ∧ 39 + 1 = 40 := by decide +kernel
theorem dX7_goesText_40 : decode bX7_goesText 40 = .ok (.aload_n 0, 1) ∧ 40 + 1 = 41 := by decide +kernel
theorem dX7_goesText_41 : decode bX7_goesText 41 = .ok (.getfield 59, 3) ∧ 41 + 3 = 44 := by decide +kernel
theorem dX7_goesText_44 : decode bX7_goesText 44 = .ok (.aload_n 0, 1) ∧ 44 + 1 = 45 := by decide +kernel
theorem dX7_goesText_45 : decode bX7_goesText 45 = .ok (.getfield 56, 3) ∧ 45 + 3 = 48 := by decide +kernel
theorem dX7_goesText_48 : decode bX7_goesText 48 = .ok (.if_icmp .ne 5, 3) ∧ 48 + 3 = 51 ∧ ((48 : Nat) : Int) + (5) = ((53 : Nat) : Int) := by decide +kernel
theorem dX7_goesText_51 : decode bX7_goesText 51 = .ok (.iconst 1, 1) ∧ 51 + 1 = 52 := by decide +kernel
theorem dX7_goesText_52 : decode bX7_goesText 52 = .ok (.ireturn, 1) := by decide +kernel
theorem dX7_goesText_53 : decode bX7_goesText 53 = .ok (.iload_n 2, 1) ∧ 53 + 1 = 54 := by decide +kernel
theorem dX7_goesText_54 : decode bX7_goesText 54 = .ok (.bipush 10, 2) ∧ 54 + 2 = 56 := by decide +kernel
theorem dX7_goesText_56 : decode bX7_goesText 56 = .ok (.if_icmp .eq 12, 3) ∧ 56 + 3 = 59 ∧ ((56 : Nat) : Int) + (12) = ((68 : Nat) : Int) := by decide +kernel
theorem dX7_goesText_59 : decode bX7_goesText 59 = .ok (.aload_n 0, 1) ∧ 59 + 1 = 60 := by decide +kernel
theorem dX7_goesText_60 : decode bX7_goesText 60 = .ok (.bipush 59, 2) ∧ 60 + 2 = 62 := by decide +kernel
theorem dX7_goesText_62 : decode bX7_goesText 62 = .ok (.invokevirtual 296, 3) ∧ 62 + 3 = 65 := by decide +kernel
theorem dX7_goesText_65 : decode bX7_goesText 65 = .ok (.ifCond .ne (-50), 3) ∧ 65 + 3 = 68 ∧ ((65 : Nat) : Int) + (-50) = ((15 : Nat) : Int) := by decide +kernel
theorem dX7_goesText_68 : decode bX7_goesText 68 = .ok (.iconst 0, 1) ∧ 68 + 1 = 69 := by decide +kernel
theorem dX7_goesText_69 : decode bX7_goesText 69 = .ok (.ireturn, 1) := by decide +kernel
theorem dX7_country_0 : decode bX7_country 0 = .ok (.aload_n 0, 1) ∧ 0 + 1 = 1 := by decide +kernel
theorem dX7_country_1 : decode bX7_country 1 = .ok (.getfield 50, 3) ∧ 1 + 3 = 4 := by decide +kernel
theorem dX7_country_4 : decode bX7_country 4 = .ok (.bipush 6, 2) ∧ 4 + 2 = 6 := by decide +kernel
theorem dX7_country_6 : decode bX7_country 6 = .ok (.if_icmp .ne 6, 3) ∧ 6 + 3 = 9 ∧ ((6 : Nat) : Int) + (6) = ((12 : Nat) : Int) := by decide +kernel
theorem dX7_country_9 : decode bX7_country 9 = .ok (.bipush (-4), 2) ∧ 9 + 2 = 11 := by decide +kernel
theorem dX7_country_11 : decode bX7_country 11 = .ok (.ireturn, 1) := by decide +kernel
theorem dX7_country_12 : decode bX7_country 12 = .ok (.aload_n 0, 1) ∧ 12 + 1 = 13 := by decide +kernel
theorem dX7_country_13 : decode bX7_country 13 = .ok (.aload_n 0, 1) ∧ 13 + 1 = 14 := by decide +kernel
theorem dX7_country_14 : decode bX7_country 14 = .ok (.getfield 50, 3) ∧ 14 + 3 = 17 := by decide +kernel
theorem dX7_country_17 : decode bX7_country 17 = .ok (.invokevirtual 335, 3) ∧ 17 + 3 = 20 := by decide +kernel
theorem dX7_country_20 : decode bX7_country 20 = .ok (.istore_n 1, 1) ∧ 20 + 1 = 21 := by decide +kernel
theorem dX7_country_21 : decode bX7_country 21 = .ok (.aload_n 0, 1) ∧ 21 + 1 = 22 := by decide +kernel
theorem dX7_country_22 : decode bX7_country 22 = .ok (.iconst 0, 1) ∧ 22 + 1 = 23 := by decide +kernel
theorem dX7_country_23 : decode bX7_country 23 = .ok (.putfield 56, 3) ∧ 23 + 3 = 26 := by decide +kernel
theorem dX7_country_26 : decode bX7_country 26 = .ok (.iload_n 1, 1) ∧ 26 + 1 = 27 := by decide +kernel
theorem dX7_country_27 : decode bX7_country 27 = .ok (.ifCond .ne 11, 3) ∧ 27 + 3 = 30 ∧ ((27 : Nat) : Int) + (11) = ((38 : Nat) : Int) := by decide +kernel
theorem dX7_country_30 : decode bX7_country 30 = .ok (.bipush (-10), 2) ∧ 30 + 2 = 32 := by decide +kernel
theorem dX7_country_32 : decode bX7_country 32 = .ok (.aload_n 0, 1) ∧ 32 + 1 = 33 := by decide +kernel
theorem dX7_country_33 : decode bX7_country 33 = .ok (.getfield 59, 3) ∧ 33 + 3 = 36 := by decide +kernel
theorem dX7_country_36 : decode bX7_country 36 = .ok (.isub, 1) ∧ 36 + 1 = 37 := by decide +kernel
theorem dX7_country_37 : decode bX7_country 37 = .ok (.ireturn, 1) := by decide +kernel
theorem dX7_country_38 : decode bX7_country 38 = .ok (.aload_n 0, 1) ∧ 38 + 1 = 39 := by decide +kernel
theorem dX7_country_39 : decode bX7_country 39 = .ok (.aload_n 0, 1) ∧ 39 + 1 = 40 := by decide +kernel
theorem dX7_country_40 : decode bX7_country 40 = .ok (.getfield 50, 3) ∧ 40 + 3 = 43 := by decide +kernel
theorem dX7_country_43 : decode bX7_country 43 = .ok (.putfield 53, 3) ∧ 43 + 3 = 46 := by decide +kernel
theorem dX7_country_46 : decode bX7_country 46 = .ok (.aload_n 0, 1) ∧ 46 + 1 = 47 := by decide +kernel
theorem dX7_country_47 : decode bX7_country 47 = .ok (.dup, 1) ∧ 47 + 1 = 48 := by decide +kernel
theorem dX7_country_48 : decode bX7_country 48 = .ok (.getfield 50, 3) ∧ 48 + 3 = 51 := by decide +kernel
theorem dX7_country_51 : decode bX7_country 51 = .ok (.iconst 1, 1) ∧ 51 + 1 = 52 := by decide +kernel
theorem dX7_country_52 : decode bX7_country 52 = .ok (.iadd, 1) ∧ 52 + 1 = 53 := by decide +kernel
theorem dX7_country_53 : decode bX7_country 53 = .ok (.putfield 50, 3) ∧ 53 + 3 = 56 := by decide +kernel
theorem dX7_country_56 : decode bX7_country 56 = .ok (.aload_n 0, 1) ∧ 56 + 1 = 57 := by decide +kernel
theorem dX7_country_57 : decode bX7_country 57 = .ok (.getfield 53, 3) ∧ 57 + 3 = 60 := by decide +kernel
theorem dX7_country_60 : decode bX7_country 60 = .ok (.ireturn, 1) := by decide +kernel
theorem dX7_begin_0 : decode bX7_begin 0 = .ok (.aload_n 0, 1) ∧ 0 + 1 = 1 := by decide +kernel
theorem dX7_begin_1 : decode bX7_begin 1 = .ok (.getfield 53, 3) ∧ 1 + 3 = 4 := by decide +kernel
theorem dX7_begin_4 : decode bX7_begin 4 = .ok (.ifCond .ge 7, 3) ∧ 4 + 3 = 7 ∧ ((4 : Nat) : Int) + (7) = ((11 : Nat) : Int) := by decide +kernel
theorem dX7_begin_7 : decode bX7_begin 7 = .ok (.iconst 0, 1) ∧ 7 + 1 = 8 := by decide +kernel
theorem dX7_begin_8 : decode bX7_begin 8 = .ok (.goto 10, 3) ∧ ((8 : Nat) : Int) + (10) = ((18 : Nat) : Int) := by decide +kernel
theorem dX7_begin_11 : decode bX7_begin 11 = .ok (.bipush 10, 2) ∧ 11 + 2 = 13 := by decide +kernel
theorem dX7_begin_13 : decode bX7_begin 13 = .ok (.aload_n 0, 1) ∧ 13 + 1 = 14 := by decide +kernel
theorem dX7_begin_14 : decode bX7_begin 14 = .ok (.getfield 53, 3) ∧ 14 + 3 = 17 := by decide +kernel
theorem dX7_begin_17 : decode bX7_begin 17 = .ok (.imul, 1) ∧ 17 + 1 = 18 := by decide +kernel
theorem dX7_begin_18 : decode bX7_begin 18 = .ok (.ireturn, 1) := by decide +kernel
theorem dX7_behind_0 : decode bX7_behind 0 = .ok (.aload_n 0, 1) ∧ 0 + 1 = 1 := by decide +kernel
theorem dX7_behind_1 : decode bX7_behind 1 = .ok (.getfield 53, 3) ∧ 1 + 3 = 4 := by decide +kernel
theorem dX7_behind_4 : decode bX7_behind 4 = .ok (.ifCond .ge 7, 3) ∧ 4 + 3 = 7 ∧ ((4 : Nat) : Int) + (7) = ((11 : Nat) : Int) := by decide +kernel
theorem dX7_behind_7 : decode bX7_behind 7 = .ok (.iconst 0, 1) ∧ 7 + 1 = 8 := by decide +kernel
theorem dX7_behind_8 : decode bX7_behind 8 = .ok (.goto 20, 3) ∧ ((8 : Nat) : Int) + (20) = ((28 : Nat) : Int) := by decide +kernel
theorem dX7_behind_11 : decode bX7_behind 11 = .ok (.bipush 10, 2) ∧ 11 + 2 = 13 := by decide +kernel
theorem dX7_behind_13 : decode bX7_behind 13 = .ok (.aload_n 0, 1) ∧ 13 + 1 = 14 := by decide +kernel
theorem dX7_behind_14 : decode bX7_behind 14 = .ok (.getfield 53, 3) ∧ 14 + 3 = 17 := by decide +kernel
theorem dX7_behind_17 : decode bX7_behind 17 = .ok (.imul, 1) ∧ 17 + 1 = 18 := by decide +kernel
theorem dX7_behind_18 : decode bX7_behind 18 = .ok (.aload_n 0, 1) ∧ 18 + 1 = 19 := by decide +kernel
theorem dX7_behind_19 : decode bX7_behind 19 = .ok (.getfield 68, 3) ∧ 19 + 3 = 22 := by decide +kernel
theorem dX7_behind_22 : decode bX7_behind 22 = .ok (.aload_n 0, 1) ∧ 22 + 1 = 23 := by decide +kernel
theorem dX7_behind_23 : decode bX7_behind 23 = .ok (.getfield 53, 3) ∧ 23 + 3 = 26 := by decide +kernel
theorem dX7_behind_26 : decode bX7_behind 26 = .ok (.iaload, 1) ∧ 26 + 1 = 27 := by decide +kernel
theorem dX7_behind_27 : decode bX7_behind 27 = .ok (.iadd, 1) ∧ 27 + 1 = 28 := by decide +kernel
theorem dX7_behind_28 : decode bX7_behind 28 = .ok (.ireturn, 1) := by decide +kernel
theorem dX7_lastOf_0 : decode bX7_lastOf 0 = .ok (.iload_n 2, 1) ∧ 0 + 1 = 1 := by decide +kernel
theorem dX7_lastOf_1 : decode bX7_lastOf 1 = .ok (.istore_n 3, 1) ∧ 1 + 1 = 2 := by decide +kernel
theorem dX7_lastOf_2 : decode bX7_lastOf 2 = .ok (.aload_n 0, 1) ∧ 2 + 1 = 3 := by decide +kernel
theorem dX7_lastOf_3 : decode bX7_lastOf 3 = .ok (.invokevirtual 338, 3) ∧ 3 + 3 = 6 := by decide +kernel
theorem dX7_lastOf_6 : decode bX7_lastOf 6 = .ok (.istore 4, 2) ∧ 6 + 2 = 8 := by decide +kernel
theorem dX7_lastOf_8 : decode bX7_lastOf 8 = .ok (.iload 4, 2) ∧ 8 + 2 = 10 := by decide +kernel
theorem dX7_lastOf_10 : decode bX7_lastOf 10 = .ok (.aload_n 0, 1) ∧ 10 + 1 = 11 := by decide +kernel
theorem dX7_lastOf_11 : decode bX7_lastOf 11 = .ok (.invokevirtual 341, 3) ∧ 11 + 3 = 14 := by decide +kernel
theorem dX7_lastOf_14 : decode bX7_lastOf 14 = .ok (.if_icmp .ge 32, 3) ∧ 14 + 3 = 17 ∧ ((14 : Nat) : Int) + (32) = ((46 : Nat) : Int) := by decide +kernel
theorem dX7_lastOf_17 : decode bX7_lastOf 17 = .ok (.aload_n 0, 1) ∧ 17 + 1 = 18 := by decide +kernel
theorem dX7_lastOf_18 : decode bX7_lastOf 18 = .ok (.getfield 71, 3) ∧ 18 + 3 = 21 := by decide +kernel
theorem dX7_lastOf_21 : decode bX7_lastOf 21 = .ok (.iload 4, 2) ∧ 21 + 2 = 23 := by decide +kernel
theorem dX7_lastOf_23 : decode bX7_lastOf 23 = .ok (.iaload, 1) ∧ 23 + 1 = 24 := by decide +kernel
theorem dX7_lastOf_24 : decode bX7_lastOf 24 = .ok (.iload_n 1, 1) ∧ 24 + 1 = 25 := by decide +kernel
theorem dX7_lastOf_25 : decode bX7_lastOf 25 = .ok (.if_icmp .ne 13, 3) ∧ 25 + 3 = 28 ∧ ((25 : Nat) : Int) + (13) = ((38 : Nat) : Int) := by decide +kernel
theorem dX7_lastOf_28 : decode bX7_lastOf 28 = .ok (.aload_n 0, 1) ∧ 28 + 1 = 29 := by decide +kernel
theorem dX7_lastOf_29 : decode bX7_lastOf 29 = .ok (.getfield 74, 3) ∧ 29 + 3 = 32 := by decide +kernel
theorem dX7_lastOf_32 : decode bX7_lastOf 32 = .ok (.iload 4, 2) ∧ 32 + 2 = 34 := by decide +kernel
theorem dX7_lastOf_34 : decode bX7_lastOf 34 = .ok (.iaload, 1) ∧ 34 + 1 = 35 := by decide +kernel
theorem dX7_lastOf_35 : decode bX7_lastOf 35 = .ok (.goto 4, 3) ∧ ((35 : Nat) : Int) + (4) = ((39 : Nat) : Int) := by decide +kernel
theorem dX7_lastOf_38 : decode bX7_lastOf 38 = .ok (.iload_n 3, 1) ∧ 38 + 1 = 39 := by decide +kernel
theorem dX7_lastOf_39 : decode bX7_lastOf 39 = .ok (.istore_n 3, 1) ∧ 39 + 1 = 40 := by decide +kernel
theorem dX7_lastOf_40 : decode bX7_lastOf 40 = .ok (.iinc 4 1, 3) ∧ 40 + 3 = 43 := by decide +kernel
theorem dX7_lastOf_43 : decode bX7_lastOf 43 = .ok (.goto (-35), 3) ∧ ((43 : Nat) : Int) + (-35) = ((8 : Nat) : Int) := by decide +kernel
theorem dX7_lastOf_46 : decode bX7_lastOf 46 = .ok (.iload_n 3, 1) ∧ 46 + 1 = 47 := by decide +kernel
theorem dX7_lastOf_47 : decode bX7_lastOf 47 = .ok (.ireturn, 1) := by decide +kernel
theorem dX7_mark_0 : decode bX7_mark 0 = .ok (.aload_n 0, 1) ∧ 0 + 1 = 1 := by decide +kernel
theorem dX7_mark_1 : decode bX7_mark 1 = .ok (.getfield 101, 3) ∧ 1 + 3 = 4 := by decide +kernel
theorem dX7_mark_4 : decode bX7_mark 4 = .ok (.ifCond .lt 10, 3) ∧ 4 + 3 = 7 ∧ ((4 : Nat) : Int) + (10) = ((14 : Nat) : Int) := by decide +kernel
theorem dX7_mark_7 : decode bX7_mark 7 = .ok (.aload_n 0, 1) ∧ 7 + 1 = 8 := by decide +kernel
theorem dX7_mark_8 : decode bX7_mark 8 = .ok (.getfield 101, 3) ∧ 8 + 3 = 11 := by decide +kernel
theorem dX7_mark_11 : decode bX7_mark 11 = .ok (.goto 10, 3) ∧ ((11 : Nat) : Int) + (10) = ((21 : Nat) : Int) := by decide +kernel
theorem dX7_mark_14 : decode bX7_mark 14 = .ok (.aload_n 0, 1) ∧ 14 + 1 = 15 := by decide +kernel
theorem dX7_mark_15 : decode bX7_mark 15 = .ok (.iconst 2, 1) ∧ 15 + 1 = 16 := by decide +kernel
theorem dX7_mark_16 : decode bX7_mark 16 = .ok (.bipush 10, 2) ∧ 16 + 2 = 18 := by decide +kernel
theorem dX7_mark_18 : decode bX7_mark 18 = .ok (.invokevirtual 344, 3) ∧ 18 + 3 = 21 := by decide +kernel
theorem dX7_mark_21 : decode bX7_mark 21 = .ok (.ireturn, 1) := by decide +kernel
theorem dX7_factOf_0 : decode bX7_factOf 0 = .ok (.iload_n 1, 1) ∧ 0 + 1 = 1 := by decide +kernel
theorem dX7_factOf_1 : decode bX7_factOf 1 = .ok (.tableswitch 68 0 4 #[35, 37, 44, 51, 61], 35) := by decide +kernel
theorem dX7_factOf_36 : decode bX7_factOf 36 = .ok (.iload_n 2, 1) ∧ 36 + 1 = 37 := by decide +kernel
theorem dX7_factOf_37 : decode bX7_factOf 37 = .ok (.ireturn, 1) := by decide +kernel
theorem dX7_factOf_38 : decode bX7_factOf 38 = .ok (.aload_n 0, 1) ∧ 38 + 1 = 39 := by decide +kernel
theorem dX7_factOf_39 : decode bX7_factOf 39 = .ok (.getfield 19, 3) ∧ 39 + 3 = 42 := by decide +kernel
theorem dX7_factOf_42 : decode bX7_factOf 42 = .ok (.iload_n 2, 1) ∧ 42 + 1 = 43 := by decide +kernel
theorem dX7_factOf_43 : decode bX7_factOf 43 = .ok (.iaload, 1) ∧ 43 + 1 = 44 := by decide +kernel
theorem dX7_factOf_44 : decode bX7_factOf 44 = .ok (.ireturn, 1) := by decide +kernel
theorem dX7_factOf_45 : decode bX7_factOf 45 = .ok (.aload_n 0, 1) ∧ 45 + 1 = 46 := by decide +kernel
theorem dX7_factOf_46 : decode bX7_factOf 46 = .ok (.getfield 23, 3) ∧ 46 + 3 = 49 := by decide +kernel
theorem dX7_factOf_49 : decode bX7_factOf 49 = .ok (.iload_n 2, 1) ∧ 49 + 1 = 50 := by decide +kernel
theorem dX7_factOf_50 : decode bX7_factOf 50 = .ok (.iaload, 1) ∧ 50 + 1 = 51 := by decide +kernel
theorem dX7_factOf_51 : decode bX7_factOf 51 = .ok (.ireturn, 1) := by decide +kernel
theorem dX7_factOf_52 : decode bX7_factOf 52 = .ok (.aload_n 0, 1) ∧ 52 + 1 = 53 := by decide +kernel
theorem dX7_factOf_53 : decode bX7_factOf 53 = .ok (.getfield 32, 3) ∧ 53 + 3 = 56 := by decide +kernel
theorem dX7_factOf_56 : decode bX7_factOf 56 = .ok (.iload_n 2, 1) ∧ 56 + 1 = 57 := by decide +kernel
theorem dX7_factOf_57 : decode bX7_factOf 57 = .ok (.iaload, 1) ∧ 57 + 1 = 58 := by decide +kernel
theorem dX7_factOf_58 : decode bX7_factOf 58 = .ok (.bipush 10, 2) ∧ 58 + 2 = 60 := by decide +kernel
theorem dX7_factOf_60 : decode bX7_factOf 60 = .ok (.idiv, 1) ∧ 60 + 1 = 61 := by decide +kernel
theorem dX7_factOf_61 : decode bX7_factOf 61 = .ok (.ireturn, 1) := by decide +kernel
theorem dX7_factOf_62 : decode bX7_factOf 62 = .ok (.aload_n 0, 1) ∧ 62 + 1 = 63 := by decide +kernel
theorem dX7_factOf_63 : decode bX7_factOf 63 = .ok (.getfield 35, 3) ∧ 63 + 3 = 66 := by decide +kernel
theorem dX7_factOf_66 : decode bX7_factOf 66 = .ok (.iload_n 2, 1) ∧ 66 + 1 = 67 := by decide +kernel
theorem dX7_factOf_67 : decode bX7_factOf 67 = .ok (.iaload, 1) ∧ 67 + 1 = 68 := by decide +kernel
theorem dX7_factOf_68 : decode bX7_factOf 68 = .ok (.ireturn, 1) := by decide +kernel
theorem dX7_factOf_69 : decode bX7_factOf 69 = .ok (.aload_n 0, 1) ∧ 69 + 1 = 70 := by decide +kernel
theorem dX7_factOf_70 : decode bX7_factOf 70 = .ok (.getfield 16, 3) ∧ 70 + 3 = 73 := by decide +kernel
theorem dX7_factOf_73 : decode bX7_factOf 73 = .ok (.bipush 10, 2) ∧ 73 + 2 = 75 := by decide +kernel
theorem dX7_factOf_75 : decode bX7_factOf 75 = .ok (.irem, 1) ∧ 75 + 1 = 76 := by decide +kernel
theorem dX7_factOf_76 : decode bX7_factOf 76 = .ok (.ireturn, 1) := by decide +kernel
theorem dX7_holds_0 : decode bX7_holds 0 = .ok (.iconst 0, 1) ∧ 0 + 1 = 1 := by decide +kernel
theorem dX7_holds_1 : decode bX7_holds 1 = .ok (.istore_n 3, 1) ∧ 1 + 1 = 2 := by decide +kernel
theorem dX7_holds_2 : decode bX7_holds 2 = .ok (.aload_n 0, 1) ∧ 2 + 1 = 3 := by decide +kernel
theorem dX7_holds_3 : decode bX7_holds 3 = .ok (.getfield 77, 3) ∧ 3 + 3 = 6 := by decide +kernel
theorem dX7_holds_6 : decode bX7_holds 6 = .ok (.iload_n 1, 1) ∧ 6 + 1 = 7 := by decide +kernel
theorem dX7_holds_7 : decode bX7_holds 7 = .ok (.iaload, 1) ∧ 7 + 1 = 8 := by decide +kernel
theorem dX7_holds_8 : decode bX7_holds 8 = .ok (.istore 4, 2) ∧ 8 + 2 = 10 := by decide +kernel
theorem dX7_holds_10 : decode bX7_holds 10 = .ok (.iload 4, 2) ∧ 10 + 2 = 12 := by decide +kernel
theorem dX7_holds_12 : decode bX7_holds 12 = .ok (.aload_n 0, 1) ∧ 12 + 1 = 13 := by decide +kernel
theorem dX7_holds_13 : decode bX7_holds 13 = .ok (.getfield 80, 3) ∧ 13 + 3 = 16 := by decide +kernel
theorem dX7_holds_16 : decode bX7_holds 16 = .ok (.iload_n 1, 1) ∧ 16 + 1 = 17 := by decide +kernel
theorem dX7_holds_17 : decode bX7_holds 17 = .ok (.iaload, 1) ∧ 17 + 1 = 18 := by decide +kernel
theorem dX7_holds_18 : decode bX7_holds 18 = .ok (.if_icmp .ge 225, 3) ∧ 18 + 3 = 21 ∧ ((18 : Nat) : Int) + (225) = ((243 : Nat) : Int) := by decide +kernel
theorem dX7_holds_21 : decode bX7_holds 21 = .ok (.aload_n 0, 1) ∧ 21 + 1 = 22 := by decide +kernel
theorem dX7_holds_22 : decode bX7_holds 22 = .ok (.getfield 83, 3) ∧ 22 + 3 = 25 := by decide +kernel
theorem dX7_holds_25 : decode bX7_holds 25 = .ok (.iload 4, 2) ∧ 25 + 2 = 27 := by decide +kernel
theorem dX7_holds_27 : decode bX7_holds 27 = .ok (.iaload, 1) ∧ 27 + 1 = 28 := by decide +kernel
theorem dX7_holds_28 : decode bX7_holds 28 = .ok (.istore 5, 2) ∧ 28 + 2 = 30 := by decide +kernel
theorem dX7_holds_30 : decode bX7_holds 30 = .ok (.iload 5, 2) ∧ 30 + 2 = 32 := by decide +kernel
theorem dX7_holds_32 : decode bX7_holds 32 = .ok (.bipush (-33), 2) ∧ 32 + 2 = 34 := by decide +kernel
theorem dX7_holds_34 : decode bX7_holds 34 = .ok (.if_icmp .ne 30, 3) ∧ 34 + 3 = 37 ∧ ((34 : Nat) : Int) + (30) = ((64 : Nat) : Int) := by decide +kernel
theorem dX7_holds_37 : decode bX7_holds 37 = .ok (.aload_n 0, 1) ∧ 37 + 1 = 38 := by decide +kernel
theorem dX7_holds_38 : decode bX7_holds 38 = .ok (.getfield 107, 3) ∧ 38 + 3 = 41 := by decide +kernel
theorem dX7_holds_41 : decode bX7_holds 41 = .ok (.iload_n 3, 1) ∧ 41 + 1 = 42 := by decide +kernel
theorem dX7_holds_42 : decode bX7_holds 42 = .ok (.iconst 1, 1) ∧ 42 + 1 = 43 := by decide +kernel
theorem dX7_holds_43 : decode bX7_holds 43 = .ok (.isub, 1) ∧ 43 + 1 = 44 := by decide +kernel
theorem dX7_holds_44 : decode bX7_holds 44 = .ok (.aload_n 0, 1) ∧ 44 + 1 = 45 := by decide +kernel
theorem dX7_holds_45 : decode bX7_holds 45 = .ok (.getfield 107, 3) ∧ 45 + 3 = 48 := by decide +kernel
theorem dX7_holds_48 : decode bX7_holds 48 = .ok (.iload_n 3, 1) ∧ 48 + 1 = 49 := by decide +kernel
theorem dX7_holds_49 : decode bX7_holds 49 = .ok (.iconst 1, 1) ∧ 49 + 1 = 50 := by decide +kernel
theorem dX7_holds_50 : decode bX7_holds 50 = .ok (.isub, 1) ∧ 50 + 1 = 51 := by decide +kernel
theorem dX7_holds_51 : decode bX7_holds 51 = .ok (.baload, 1) ∧ 51 + 1 = 52 := by decide +kernel
theorem dX7_holds_52 : decode bX7_holds 52 = .ok (.ifCond .ne 7, 3) ∧ 52 + 3 = 55 ∧ ((52 : Nat) : Int) + (7) = ((59 : Nat) : Int) := by decide +kernel
theorem dX7_holds_55 : decode bX7_holds 55 = .ok (.iconst 1, 1) ∧ 55 + 1 = 56 := by decide +kernel
theorem dX7_holds_56 : decode bX7_holds 56 = .ok (.goto 4, 3) ∧ ((56 : Nat) : Int) + (4) = ((60 : Nat) : Int) := by decide +kernel
theorem dX7_holds_59 : decode bX7_holds 59 = .ok (.iconst 0, 1) ∧ 59 + 1 = 60 := by decide +kernel
theorem dX7_holds_60 : decode bX7_holds 60 = .ok (.bastore, 1) ∧ 60 + 1 = 61 := by decide +kernel
theorem dX7_holds_61 : decode bX7_holds 61 = .ok (.goto 176, 3) ∧ ((61 : Nat) : Int) + (176) = ((237 : Nat) : Int) := by decide +kernel
theorem dX7_holds_64 : decode bX7_holds 64 = .ok (.iload 5, 2) ∧ 64 + 2 = 66 := by decide +kernel
theorem dX7_holds_66 : decode bX7_holds 66 = .ok (.ifCond .ge 77, 3) ∧ 66 + 3 = 69 ∧ ((66 : Nat) : Int) + (77) = ((143 : Nat) : Int) := by decide +kernel
theorem dX7_holds_69 : decode bX7_holds 69 = .ok (.iinc 3 (-1), 3) ∧ 69 + 3 = 72 := by decide +kernel
theorem dX7_holds_72 : decode bX7_holds 72 = .ok (.aload_n 0, 1) ∧ 72 + 1 = 73 := by decide +kernel
theorem dX7_holds_73 : decode bX7_holds 73 = .ok (.getfield 107, 3) ∧ 73 + 3 = 76 := by decide +kernel
theorem dX7_holds_76 : decode bX7_holds 76 = .ok (.iload_n 3, 1) ∧ 76 + 1 = 77 := by decide +kernel
theorem dX7_holds_77 : decode bX7_holds 77 = .ok (.iconst 1, 1) ∧ 77 + 1 = 78 := by decide +kernel
theorem dX7_holds_78 : decode bX7_holds 78 = .ok (.isub, 1) ∧ 78 + 1 = 79 := by decide +kernel
theorem dX7_holds_79 : decode bX7_holds 79 = .ok (.iload 5, 2) ∧ 79 + 2 = 81 := by decide +kernel
theorem dX7_holds_81 : decode bX7_holds 81 = .ok (.bipush (-38), 2) ∧ 81 + 2 = 83 := by decide +kernel
theorem dX7_holds_83 : decode bX7_holds 83 = .ok (.if_icmp .ne 31, 3) ∧ 83 + 3 = 86 ∧ ((83 : Nat) : Int) + (31) = ((114 : Nat) : Int) := by decide +kernel
theorem dX7_holds_86 : decode bX7_holds 86 = .ok (.aload_n 0, 1) ∧ 86 + 1 = 87 := by decide +kernel
theorem dX7_holds_87 : decode bX7_holds 87 = .ok (.getfield 107, 3) ∧ 87 + 3 = 90 := by decide +kernel
theorem dX7_holds_90 : decode bX7_holds 90 = .ok (.iload_n 3, 1) ∧ 90 + 1 = 91 := by decide +kernel
theorem dX7_holds_91 : decode bX7_holds 91 = .ok (.iconst 1, 1) ∧ 91 + 1 = 92 := by decide +kernel
theorem dX7_holds_92 : decode bX7_holds 92 = .ok (.isub, 1) ∧ 92 + 1 = 93 := by decide +kernel
theorem dX7_holds_93 : decode bX7_holds 93 = .ok (.baload, 1) ∧ 93 + 1 = 94 := by decide +kernel
theorem dX7_holds_94 : decode bX7_holds 94 = .ok (.ifCond .eq 16, 3) ∧ 94 + 3 = 97 ∧ ((94 : Nat) : Int) + (16) = ((110 : Nat) : Int) := by decide +kernel
theorem dX7_holds_97 : decode bX7_holds 97 = .ok (.aload_n 0, 1) ∧ 97 + 1 = 98 := by decide +kernel
theorem dX7_holds_98 : decode bX7_holds 98 = .ok (.getfield 107, 3) ∧ 98 + 3 = 101 := by decide +kernel
theorem dX7_holds_101 : decode bX7_holds 101 = .ok (.iload_n 3, 1) ∧ 101 + 1 = 102 := by decide +kernel
theorem dX7_holds_102 : decode bX7_holds 102 = .ok (.baload, 1) ∧ 102 + 1 = 103 := by decide +kernel
theorem dX7_holds_103 : decode bX7_holds 103 = .ok (.ifCond .eq 7, 3) ∧ 103 + 3 = 106 ∧ ((103 : Nat) : Int) + (7) = ((110 : Nat) : Int) := by decide +kernel
theorem dX7_holds_106 : decode bX7_holds 106 = .ok (.iconst 1, 1) ∧ 106 + 1 = 107 := by decide +kernel
theorem dX7_holds_107 : decode bX7_holds 107 = .ok (.goto 32, 3) ∧ ((107 : Nat) : Int) + (32) = ((139 : Nat) : Int) := by decide +kernel
theorem dX7_holds_110 : decode bX7_holds 110 = .ok (.iconst 0, 1) ∧ 110 + 1 = 111 := by decide +kernel
theorem dX7_holds_111 : decode bX7_holds 111 = .ok (.goto 28, 3) ∧ ((111 : Nat) : Int) + (28) = ((139 : Nat) : Int) := by decide +kernel
theorem dX7_holds_114 : decode bX7_holds 114 = .ok (.aload_n 0, 1) ∧ 114 + 1 = 115 := by decide +kernel
theorem dX7_holds_115 : decode bX7_holds 115 = .ok (.getfield 107, 3) ∧ 115 + 3 = 118 := by decide +kernel
theorem dX7_holds_118 : decode bX7_holds 118 = .ok (.iload_n 3, 1) ∧ 118 + 1 = 119 := by decide +kernel
theorem dX7_holds_119 : decode bX7_holds 119 = .ok (.iconst 1, 1) ∧ 119 + 1 = 120 := by decide +kernel
theorem dX7_holds_120 : decode bX7_holds 120 = .ok (.isub, 1) ∧ 120 + 1 = 121 := by decide +kernel
theorem dX7_holds_121 : decode bX7_holds 121 = .ok (.baload, 1) ∧ 121 + 1 = 122 := by decide +kernel
theorem dX7_holds_122 : decode bX7_holds 122 = .ok (.ifCond .ne 12, 3) ∧ 122 + 3 = 125 ∧ ((122 : Nat) : Int) + (12) = ((134 : Nat) : Int) := by decide +kernel
theorem dX7_holds_125 : decode bX7_holds 125 = .ok (.aload_n 0, 1) ∧ 125 + 1 = 126 := by decide +kernel
theorem dX7_holds_126 : decode bX7_holds 126 = .ok (.getfield 107, 3) ∧ 126 + 3 = 129 := by decide +kernel
theorem dX7_holds_129 : decode bX7_holds 129 = .ok (.iload_n 3, 1) ∧ 129 + 1 = 130 := by decide +kernel
theorem dX7_holds_130 : decode bX7_holds 130 = .ok (.baload, 1) ∧ 130 + 1 = 131 := by decide +kernel
theorem dX7_holds_131 : decode bX7_holds 131 = .ok (.ifCond .eq 7, 3) ∧ 131 + 3 = 134 ∧ ((131 : Nat) : Int) + (7) = ((138 : Nat) : Int) := by decide +kernel
theorem dX7_holds_134 : decode bX7_holds 134 = .ok (.iconst 1, 1) ∧ 134 + 1 = 135 := by decide +kernel
theorem dX7_holds_135 : decode bX7_holds 135 = .ok (.goto 4, 3) ∧ ((135 : Nat) : Int) + (4) = ((139 : Nat) : Int) := by decide +kernel
theorem dX7_holds_138 : decode bX7_holds 138 = .ok (.iconst 0, 1) ∧ 138 + 1 = 139 := by decide +kernel
theorem dX7_holds_139 : decode bX7_holds 139 = .ok (.bastore, 1) ∧ 139 + 1 = 140 := by decide +kernel
theorem dX7_holds_140 : decode bX7_holds 140 = .ok (.goto 97, 3) ∧ ((140 : Nat) : Int) + (97) = ((237 : Nat) : Int) := by decide +kernel
theorem dX7_holds_143 : decode bX7_holds 143 = .ok (.aload_n 0, 1) ∧ 143 + 1 = 144 := by decide +kernel
theorem dX7_holds_144 : decode bX7_holds 144 = .ok (.iload 5, 2) ∧ 144 + 2 = 146 := by decide +kernel
theorem dX7_holds_146 : decode bX7_holds 146 = .ok (.sipush 1000, 3) ∧ 146 + 3 = 149 := by decide +kernel
theorem dX7_holds_149 : decode bX7_holds 149 = .ok (.idiv, 1) ∧ 149 + 1 = 150 := by decide +kernel
theorem dX7_holds_150 : decode bX7_holds 150 = .ok (.iload_n 2, 1) ∧ 150 + 1 = 151 := by decide +kernel
theorem dX7_holds_151 : decode bX7_holds 151 = .ok (.invokevirtual 347, 3) ∧ 151 + 3 = 154 := by decide +kernel
theorem dX7_holds_154 : decode bX7_holds 154 = .ok (.istore 6, 2) ∧ 154 + 2 = 156 := by decide +kernel
theorem dX7_holds_156 : decode bX7_holds 156 = .ok (.iload 5, 2) ∧ 156 + 2 = 158 := by decide +kernel
theorem dX7_holds_158 : decode bX7_holds 158 = .ok (.bipush 100, 2) ∧ 158 + 2 = 160 := by decide +kernel
theorem dX7_holds_160 : decode bX7_holds 160 = .ok (.idiv, 1) ∧ 160 + 1 = 161 := by decide +kernel
theorem dX7_holds_161 : decode bX7_holds 161 = .ok (.bipush 10, 2) ∧ 161 + 2 = 163 := by decide +kernel
theorem dX7_holds_163 : decode bX7_holds 163 = .ok (.irem, 1) ∧ 163 + 1 = 164 := by decide +kernel
theorem dX7_holds_164 : decode bX7_holds 164 = .ok (.istore 7, 2) ∧ 164 + 2 = 166 := by decide +kernel
theorem dX7_holds_166 : decode bX7_holds 166 = .ok (.aload_n 0, 1) ∧ 166 + 1 = 167 := by decide +kernel
theorem dX7_holds_167 : decode bX7_holds 167 = .ok (.getfield 107, 3) ∧ 167 + 3 = 170 := by decide +kernel
theorem dX7_holds_170 : decode bX7_holds 170 = .ok (.iload_n 3, 1) ∧ 170 + 1 = 171 := by decide +kernel
theorem dX7_holds_171 : decode bX7_holds 171 = .ok (.iload 7, 2) ∧ 171 + 2 = 173 := by decide +kernel
theorem dX7_holds_173 : decode bX7_holds 173 = .ok (.ifCond .ne 21, 3) ∧ 173 + 3 = 176 ∧ ((173 : Nat) : Int) + (21) = ((194 : Nat) : Int) := by decide +kernel
theorem dX7_holds_176 : decode bX7_holds 176 = .ok (.iload 6, 2) ∧ 176 + 2 = 178 := by decide +kernel
theorem dX7_holds_178 : decode bX7_holds 178 = .ok (.iload 5, 2) ∧ 178 + 2 = 180 := by decide +kernel
theorem dX7_holds_180 : decode bX7_holds 180 = .ok (.bipush 100, 2) ∧ 180 + 2 = 182 := by decide +kernel
theorem dX7_holds_182 : decode bX7_holds 182 = .ok (.irem, 1) ∧ 182 + 1 = 183 := by decide +kernel
theorem dX7_holds_183 : decode bX7_holds 183 = .ok (.if_icmp .ge 7, 3) ∧ 183 + 3 = 186 ∧ ((183 : Nat) : Int) + (7) = ((190 : Nat) : Int) := by decide +kernel
theorem dX7_holds_186 : decode bX7_holds 186 = .ok (.iconst 1, 1) ∧ 186 + 1 = 187 := by decide +kernel
theorem dX7_holds_187 : decode bX7_holds 187 = .ok (.goto 46, 3) ∧ ((187 : Nat) : Int) + (46) = ((233 : Nat) : Int) := by decide +kernel
theorem dX7_holds_190 : decode bX7_holds 190 = .ok (.iconst 0, 1) ∧ 190 + 1 = 191 := by decide +kernel
theorem dX7_holds_191 : decode bX7_holds 191 = .ok (.goto 42, 3) ∧ ((191 : Nat) : Int) + (42) = ((233 : Nat) : Int) := by decide +kernel
theorem dX7_holds_194 : decode bX7_holds 194 = .ok (.iload 7, 2) ∧ 194 + 2 = 196 := by decide +kernel
theorem dX7_holds_196 : decode bX7_holds 196 = .ok (.iconst 1, 1) ∧ 196 + 1 = 197 := by decide +kernel
theorem dX7_holds_197 : decode bX7_holds 197 = .ok (.if_icmp .ne 21, 3) ∧ 197 + 3 = 200 ∧ ((197 : Nat) : Int) + (21) = ((218 : Nat) : Int) := by decide +kernel
theorem dX7_holds_200 : decode bX7_holds 200 = .ok (.iload 6, 2) ∧ 200 + 2 = 202 := by decide +kernel
theorem dX7_holds_202 : decode bX7_holds 202 = .ok (.iload 5, 2) ∧ 202 + 2 = 204 := by decide +kernel
theorem dX7_holds_204 : decode bX7_holds 204 = .ok (.bipush 100, 2) ∧ 204 + 2 = 206 := by decide +kernel
theorem dX7_holds_206 : decode bX7_holds 206 = .ok (.irem, 1) ∧ 206 + 1 = 207 := by decide +kernel
theorem dX7_holds_207 : decode bX7_holds 207 = .ok (.if_icmp .ne 7, 3) ∧ 207 + 3 = 210 ∧ ((207 : Nat) : Int) + (7) = ((214 : Nat) : Int) := by decide +kernel
theorem dX7_holds_210 : decode bX7_holds 210 = .ok (.iconst 1, 1) ∧ 210 + 1 = 211 := by decide +kernel
theorem dX7_holds_211 : decode bX7_holds 211 = .ok (.goto 22, 3) ∧ ((211 : Nat) : Int) + (22) = ((233 : Nat) : Int) := by decide +kernel
theorem dX7_holds_214 : decode bX7_holds 214 = .ok (.iconst 0, 1) ∧ 214 + 1 = 215 := by decide +kernel
theorem dX7_holds_215 : decode bX7_holds 215 = .ok (.goto 18, 3) ∧ ((215 : Nat) : Int) + (18) = ((233 : Nat) : Int) := by decide +kernel
theorem dX7_holds_218 : decode bX7_holds 218 = .ok (.iload 6, 2) ∧ 218 + 2 = 220 := by decide +kernel
theorem dX7_holds_220 : decode bX7_holds 220 = .ok (.iload 5, 2) ∧ 220 + 2 = 222 := by decide +kernel
theorem dX7_holds_222 : decode bX7_holds 222 = .ok (.bipush 100, 2) ∧ 222 + 2 = 224 := by decide +kernel
theorem dX7_holds_224 : decode bX7_holds 224 = .ok (.irem, 1) ∧ 224 + 1 = 225 := by decide +kernel
theorem dX7_holds_225 : decode bX7_holds 225 = .ok (.if_icmp .le 7, 3) ∧ 225 + 3 = 228 ∧ ((225 : Nat) : Int) + (7) = ((232 : Nat) : Int) := by decide +kernel
theorem dX7_holds_228 : decode bX7_holds 228 = .ok (.iconst 1, 1) ∧ 228 + 1 = 229 := by decide +kernel
theorem dX7_holds_229 : decode bX7_holds 229 = .ok (.goto 4, 3) ∧ ((229 : Nat) : Int) + (4) = ((233 : Nat) : Int) := by decide +kernel
theorem dX7_holds_232 : decode bX7_holds 232 = .ok (.iconst 0, 1) ∧ 232 + 1 = 233 := by decide +kernel
theorem dX7_holds_233 : decode bX7_holds 233 = .ok (.bastore, 1) ∧ 233 + 1 = 234 := by decide +kernel
theorem dX7_holds_234 : decode bX7_holds 234 = .ok (.iinc 3 1, 3) ∧ 234 + 3 = 237 := by decide +kernel
theorem dX7_holds_237 : decode bX7_holds 237 = .ok (.iinc 4 1, 3) ∧ 237 + 3 = 240 := by decide +kernel
theorem dX7_holds_240 : decode bX7_holds 240 = .ok (.goto (-230), 3) ∧ ((240 : Nat) : Int) + (-230) = ((10 : Nat) : Int) := by decide +kernel
theorem dX7_holds_243 : decode bX7_holds 243 = .ok (.aload_n 0, 1) ∧ 243 + 1 = 244 := by decide +kernel
theorem dX7_holds_244 : decode bX7_holds 244 = .ok (.getfield 107, 3) ∧ 244 + 3 = 247 := by decide +kernel
theorem dX7_holds_247 : decode bX7_holds 247 = .ok (.iconst 0, 1) ∧ 247 + 1 = 248 := by decide +kernel
theorem dX7_holds_248 : decode bX7_holds 248 = .ok (.baload, 1) ∧ 248 + 1 = 249 := by decide +kernel
theorem dX7_holds_249 : decode bX7_holds 249 = .ok (.ireturn, 1) := by decide +kernel
theorem dX7_rate_0 : decode bX7_rate 0 = .ok (.iconst 1, 1) ∧ 0 + 1 = 1 := by decide +kernel
theorem dX7_rate_1 : decode bX7_rate 1 = .ok (.istore_n 2, 1) ∧ 1 + 1 = 2 := by decide +kernel
theorem dX7_rate_2 : decode bX7_rate 2 = .ok (.aload_n 0, 1) ∧ 2 + 1 = 3 := by decide +kernel
theorem dX7_rate_3 : decode bX7_rate 3 = .ok (.invokevirtual 338, 3) ∧ 3 + 3 = 6 := by decide +kernel
theorem dX7_rate_6 : decode bX7_rate 6 = .ok (.istore_n 3, 1) ∧ 6 + 1 = 7 := by decide +kernel
theorem dX7_rate_7 : decode bX7_rate 7 = .ok (.iload_n 3, 1) ∧ 7 + 1 = 8 := by decide +kernel
theorem dX7_rate_8 : decode bX7_rate 8 = .ok (.aload_n 0, 1) ∧ 8 + 1 = 9 := by decide +kernel
theorem dX7_rate_9 : decode bX7_rate 9 = .ok (.invokevirtual 341, 3) ∧ 9 + 3 = 12 := by decide +kernel
theorem dX7_rate_12 : decode bX7_rate 12 = .ok (.if_icmp .ge 59, 3) ∧ 12 + 3 = 15 ∧ ((12 : Nat) : Int) + (59) = ((71 : Nat) : Int) := by decide +kernel
theorem dX7_rate_15 : decode bX7_rate 15 = .ok (.aload_n 0, 1) ∧ 15 + 1 = 16 := by decide +kernel
theorem dX7_rate_16 : decode bX7_rate 16 = .ok (.getfield 71, 3) ∧ 16 + 3 = 19 := by decide +kernel
theorem dX7_rate_19 : decode bX7_rate 19 = .ok (.iload_n 3, 1) ∧ 19 + 1 = 20 := by decide +kernel
theorem dX7_rate_20 : decode bX7_rate 20 = .ok (.iaload, 1) ∧ 20 + 1 = 21 := by decide +kernel
theorem dX7_rate_21 : decode bX7_rate 21 = .ok (.iconst 1, 1) ∧ 21 + 1 = 22 := by decide +kernel
theorem dX7_rate_22 : decode bX7_rate 22 = .ok (.if_icmp .gt 43, 3) ∧ 22 + 3 = 25 ∧ ((22 : Nat) : Int) + (43) = ((65 : Nat) : Int) := by decide +kernel
theorem dX7_rate_25 : decode bX7_rate 25 = .ok (.aload_n 0, 1) ∧ 25 + 1 = 26 := by decide +kernel
theorem dX7_rate_26 : decode bX7_rate 26 = .ok (.iload_n 3, 1) ∧ 26 + 1 = 27 := by decide +kernel
theorem dX7_rate_27 : decode bX7_rate 27 = .ok (.iload_n 1, 1) ∧ 27 + 1 = 28 := by decide +kernel
theorem dX7_rate_28 : decode bX7_rate 28 = .ok (.invokevirtual 350, 3) ∧ 28 + 3 = 31 := by decide +kernel
theorem dX7_rate_31 : decode bX7_rate 31 = .ok (.ifCond .ne 6, 3) ∧ 31 + 3 = 34 ∧ ((31 : Nat) : Int) + (6) = ((37 : Nat) : Int) := by decide +kernel
theorem dX7_rate_34 : decode bX7_rate 34 = .ok (.goto 31, 3) ∧ ((34 : Nat) : Int) + (31) = ((65 : Nat) : Int) := by decide +kernel
theorem dX7_rate_37 : decode bX7_rate 37 = .ok (.iload_n 2, 1) ∧ 37 + 1 = 38 := by decide +kernel
theorem dX7_rate_38 : decode bX7_rate 38 = .ok (.aload_n 0, 1) ∧ 38 + 1 = 39 := by decide +kernel
theorem dX7_rate_39 : decode bX7_rate 39 = .ok (.getfield 71, 3) ∧ 39 + 3 = 42 := by decide +kernel
theorem dX7_rate_42 : decode bX7_rate 42 = .ok (.iload_n 3, 1) ∧ 42 + 1 = 43 := by decide +kernel
theorem dX7_rate_43 : decode bX7_rate 43 = .ok (.iaload, 1) ∧ 43 + 1 = 44 := by decide +kernel
theorem dX7_rate_44 : decode bX7_rate 44 = .ok (.ifCond .ne 12, 3) ∧ 44 + 3 = 47 ∧ ((44 : Nat) : Int) + (12) = ((56 : Nat) : Int) := by decide +kernel
theorem dX7_rate_47 : decode bX7_rate 47 = .ok (.aload_n 0, 1) ∧ 47 + 1 = 48 := by decide +kernel
theorem dX7_rate_48 : decode bX7_rate 48 = .ok (.getfield 74, 3) ∧ 48 + 3 = 51 := by decide +kernel
theorem dX7_rate_51 : decode bX7_rate 51 = .ok (.iload_n 3, 1) ∧ 51 + 1 = 52 := by decide +kernel
theorem dX7_rate_52 : decode bX7_rate 52 = .ok (.iaload, 1) ∧ 52 + 1 = 53 := by decide +kernel
theorem dX7_rate_53 : decode bX7_rate 53 = .ok (.goto 10, 3) ∧ ((53 : Nat) : Int) + (10) = ((63 : Nat) : Int) := by decide +kernel
theorem dX7_rate_56 : decode bX7_rate 56 = .ok (.aload_n 0, 1) ∧ 56 + 1 = 57 := by decide +kernel
theorem dX7_rate_57 : decode bX7_rate 57 = .ok (.getfield 74, 3) ∧ 57 + 3 = 60 := by decide +kernel
theorem dX7_rate_60 : decode bX7_rate 60 = .ok (.iload_n 3, 1) ∧ 60 + 1 = 61 := by decide +kernel
theorem dX7_rate_61 : decode bX7_rate 61 = .ok (.iaload, 1) ∧ 61 + 1 = 62 := by decide +kernel
theorem dX7_rate_62 : decode bX7_rate 62 = .ok (.ineg, 1) ∧ 62 + 1 = 63 := by decide +kernel
theorem dX7_rate_63 : decode bX7_rate 63 = .ok (.iadd, 1) ∧ 63 + 1 = 64 := by decide +kernel
theorem dX7_rate_64 : decode bX7_rate 64 = .ok (.istore_n 2, 1) ∧ 64 + 1 = 65 := by decide +kernel
theorem dX7_rate_65 : decode bX7_rate 65 = .ok (.iinc 3 1, 3) ∧ 65 + 3 = 68 := by decide +kernel
theorem dX7_rate_68 : decode bX7_rate 68 = .ok (.goto (-61), 3) ∧ ((68 : Nat) : Int) + (-61) = ((7 : Nat) : Int) := by decide +kernel
theorem dX7_rate_71 : decode bX7_rate 71 = .ok (.iload_n 2, 1) ∧ 71 + 1 = 72 := by decide +kernel
theorem dX7_rate_72 : decode bX7_rate 72 = .ok (.ifCond .ge 7, 3) ∧ 72 + 3 = 75 ∧ ((72 : Nat) : Int) + (7) = ((79 : Nat) : Int) := by decide +kernel
theorem dX7_rate_75 : decode bX7_rate 75 = .ok (.iconst 0, 1) ∧ 75 + 1 = 76 := by decide +kernel
theorem dX7_rate_76 : decode bX7_rate 76 = .ok (.goto 4, 3) ∧ ((76 : Nat) : Int) + (4) = ((80 : Nat) : Int) := by decide +kernel
theorem dX7_rate_79 : decode bX7_rate 79 = .ok (.iload_n 2, 1) ∧ 79 + 1 = 80 := by decide +kernel
theorem dX7_rate_80 : decode bX7_rate 80 = .ok (.ireturn, 1) := by decide +kernel
theorem dX7_asks_0 : decode bX7_asks 0 = .ok (.aload_n 0, 1) ∧ 0 + 1 = 1 := by decide +kernel
theorem dX7_asks_1 : decode bX7_asks 1 = .ok (.getfield 19, 3) ∧ 1 + 3 = 4 := by decide +kernel
theorem dX7_asks_4 : decode bX7_asks 4 = .ok (.iload_n 1, 1) ∧ 4 + 1 = 5 := by decide +kernel
theorem dX7_asks_5 : decode bX7_asks 5 = .ok (.iaload, 1) ∧ 5 + 1 = 6 := by decide +kernel
theorem dX7_asks_6 : decode bX7_asks 6 = .ok (.tableswitch 109 2 6 #[34, 109, 109, 43, 86], 34) := by decide +kernel
theorem dX7_asks_40 : decode bX7_asks 40 = .ok (.iconst 2, 1) ∧ 40 + 1 = 41 := by decide +kernel
theorem dX7_asks_41 : decode bX7_asks 41 = .ok (.aload_n 0, 1) ∧ 41 + 1 = 42 := by decide +kernel
theorem dX7_asks_42 : decode bX7_asks 42 = .ok (.getfield 26, 3) ∧ 42 + 3 = 45 := by decide +kernel
theorem dX7_asks_45 : decode bX7_asks 45 = .ok (.iload_n 1, 1) ∧ 45 + 1 = 46 := by decide +kernel
theorem dX7_asks_46 : decode bX7_asks 46 = .ok (.iaload, 1) ∧ 46 + 1 = 47 := by decide +kernel
theorem dX7_asks_47 : decode bX7_asks 47 = .ok (.imul, 1) ∧ 47 + 1 = 48 := by decide +kernel
theorem dX7_asks_48 : decode bX7_asks 48 = .ok (.ireturn, 1) := by decide +kernel
theorem dX7_asks_49 : decode bX7_asks 49 = .ok (.aload_n 0, 1) ∧ 49 + 1 = 50 := by decide +kernel
theorem dX7_asks_50 : decode bX7_asks 50 = .ok (.getfield 7, 3) ∧ 50 + 3 = 53 := by decide +kernel
theorem dX7_asks_53 : decode bX7_asks 53 = .ok (.aload_n 0, 1) ∧ 53 + 1 = 54 := by decide +kernel
theorem dX7_asks_54 : decode bX7_asks 54 = .ok (.invokevirtual 353, 3) ∧ 54 + 3 = 57 := by decide +kernel
theorem dX7_asks_57 : decode bX7_asks 57 = .ok (.isub, 1) ∧ 57 + 1 = 58 := by decide +kernel
theorem dX7_asks_58 : decode bX7_asks 58 = .ok (.istore_n 2, 1) ∧ 58 + 1 = 59 := by decide +kernel
theorem dX7_asks_59 : decode bX7_asks 59 = .ok (.iload_n 2, 1) ∧ 59 + 1 = 60 := by decide +kernel
theorem dX7_asks_60 : decode bX7_asks 60 = .ok (.ifCond .ge 7, 3) ∧ 60 + 3 = 63 ∧ ((60 : Nat) : Int) + (7) = ((67 : Nat) : Int) := by decide +kernel
theorem dX7_asks_63 : decode bX7_asks 63 = .ok (.iconst 0, 1) ∧ 63 + 1 = 64 := by decide +kernel
theorem dX7_asks_64 : decode bX7_asks 64 = .ok (.goto 27, 3) ∧ ((64 : Nat) : Int) + (27) = ((91 : Nat) : Int) := by decide +kernel
theorem dX7_asks_67 : decode bX7_asks 67 = .ok (.iload_n 2, 1) ∧ 67 + 1 = 68 := by decide +kernel
theorem dX7_asks_68 : decode bX7_asks 68 = .ok (.iconst 2, 1) ∧ 68 + 1 = 69 := by decide +kernel
theorem dX7_asks_69 : decode bX7_asks 69 = .ok (.aload_n 0, 1) ∧ 69 + 1 = 70 := by decide +kernel
theorem dX7_asks_70 : decode bX7_asks 70 = .ok (.getfield 26, 3) ∧ 70 + 3 = 73 := by decide +kernel
theorem dX7_asks_73 : decode bX7_asks 73 = .ok (.iload_n 1, 1) ∧ 73 + 1 = 74 := by decide +kernel
theorem dX7_asks_74 : decode bX7_asks 74 = .ok (.iaload, 1) ∧ 74 + 1 = 75 := by decide +kernel
theorem dX7_asks_75 : decode bX7_asks 75 = .ok (.imul, 1) ∧ 75 + 1 = 76 := by decide +kernel
theorem dX7_asks_76 : decode bX7_asks 76 = .ok (.if_icmp .ge 7, 3) ∧ 76 + 3 = 79 ∧ ((76 : Nat) : Int) + (7) = ((83 : Nat) : Int) := by decide +kernel
theorem dX7_asks_79 : decode bX7_asks 79 = .ok (.iload_n 2, 1) ∧ 79 + 1 = 80 := by decide +kernel
theorem dX7_asks_80 : decode bX7_asks 80 = .ok (.goto 11, 3) ∧ ((80 : Nat) : Int) + (11) = ((91 : Nat) : Int) := by decide +kernel
theorem dX7_asks_83 : decode bX7_asks 83 = .ok (.iconst 2, 1) ∧ 83 + 1 = 84 := by decide +kernel
theorem dX7_asks_84 : decode bX7_asks 84 = .ok (.aload_n 0, 1) ∧ 84 + 1 = 85 := by decide +kernel
theorem dX7_asks_85 : decode bX7_asks 85 = .ok (.getfield 26, 3) ∧ 85 + 3 = 88 := by decide +kernel
theorem dX7_asks_88 : decode bX7_asks 88 = .ok (.iload_n 1, 1) ∧ 88 + 1 = 89 := by decide +kernel
theorem dX7_asks_89 : decode bX7_asks 89 = .ok (.iaload, 1) ∧ 89 + 1 = 90 := by decide +kernel
theorem dX7_asks_90 : decode bX7_asks 90 = .ok (.imul, 1) ∧ 90 + 1 = 91 := by decide +kernel
theorem dX7_asks_91 : decode bX7_asks 91 = .ok (.ireturn, 1) := by decide +kernel
theorem dX7_asks_92 : decode bX7_asks 92 = .ok (.aload_n 0, 1) ∧ 92 + 1 = 93 := by decide +kernel
theorem dX7_asks_93 : decode bX7_asks 93 = .ok (.getfield 26, 3) ∧ 93 + 3 = 96 := by decide +kernel
theorem dX7_asks_96 : decode bX7_asks 96 = .ok (.iload_n 1, 1) ∧ 96 + 1 = 97 := by decide +kernel
theorem dX7_asks_97 : decode bX7_asks 97 = .ok (.iaload, 1) ∧ 97 + 1 = 98 := by decide +kernel
theorem dX7_asks_98 : decode bX7_asks 98 = .ok (.aload_n 0, 1) ∧ 98 + 1 = 99 := by decide +kernel
theorem dX7_asks_99 : decode bX7_asks 99 = .ok (.getfield 44, 3) ∧ 99 + 3 = 102 := by decide +kernel
theorem dX7_asks_102 : decode bX7_asks 102 = .ok (.iconst 4, 1) ∧ 102 + 1 = 103 := by decide +kernel
theorem dX7_asks_103 : decode bX7_asks 103 = .ok (.iload_n 1, 1) ∧ 103 + 1 = 104 := by decide +kernel
theorem dX7_asks_104 : decode bX7_asks 104 = .ok (.imul, 1) ∧ 104 + 1 = 105 := by decide +kernel
theorem dX7_asks_105 : decode bX7_asks 105 = .ok (.aload_n 0, 1) ∧ 105 + 1 = 106 := by decide +kernel
theorem dX7_asks_106 : decode bX7_asks 106 = .ok (.getfield 16, 3) ∧ 106 + 3 = 109 := by decide +kernel
theorem dX7_asks_109 : decode bX7_asks 109 = .ok (.iconst 4, 1) ∧ 109 + 1 = 110 := by decide +kernel
theorem dX7_asks_110 : decode bX7_asks 110 = .ok (.irem, 1) ∧ 110 + 1 = 111 := by decide +kernel
theorem dX7_asks_111 : decode bX7_asks 111 = .ok (.iadd, 1) ∧ 111 + 1 = 112 := by decide +kernel
theorem dX7_asks_112 : decode bX7_asks 112 = .ok (.iaload, 1) ∧ 112 + 1 = 113 := by decide +kernel
theorem dX7_asks_113 : decode bX7_asks 113 = .ok (.iadd, 1) ∧ 113 + 1 = 114 := by decide +kernel
theorem dX7_asks_114 : decode bX7_asks 114 = .ok (.ireturn, 1) := by decide +kernel
theorem dX7_asks_115 : decode bX7_asks 115 = .ok (.aload_n 0, 1) ∧ 115 + 1 = 116 := by decide +kernel
theorem dX7_asks_116 : decode bX7_asks 116 = .ok (.getfield 26, 3) ∧ 116 + 3 = 119 := by decide +kernel
theorem dX7_asks_119 : decode bX7_asks 119 = .ok (.iload_n 1, 1) ∧ 119 + 1 = 120 := by decide +kernel
theorem dX7_asks_120 : decode bX7_asks 120 = .ok (.iaload, 1) ∧ 120 + 1 = 121 := by decide +kernel
theorem dX7_asks_121 : decode bX7_asks 121 = .ok (.ireturn, 1) := by decide +kernel
theorem dX7_keeps_0 : decode bX7_keeps 0 = .ok (.aload_n 0, 1) ∧ 0 + 1 = 1 := by decide +kernel
theorem dX7_keeps_1 : decode bX7_keeps 1 = .ok (.getfield 19, 3) ∧ 1 + 3 = 4 := by decide +kernel
theorem dX7_keeps_4 : decode bX7_keeps 4 = .ok (.iload_n 1, 1) ∧ 4 + 1 = 5 := by decide +kernel
theorem dX7_keeps_5 : decode bX7_keeps 5 = .ok (.iaload, 1) ∧ 5 + 1 = 6 := by decide +kernel
theorem dX7_keeps_6 : decode bX7_keeps 6 = .ok (.iconst 1, 1) ∧ 6 + 1 = 7 := by decide +kernel
theorem dX7_keeps_7 : decode bX7_keeps 7 = .ok (.if_icmp .eq 13, 3) ∧ 7 + 3 = 10 ∧ ((7 : Nat) : Int) + (13) = ((20 : Nat) : Int) := by decide +kernel
theorem dX7_keeps_10 : decode bX7_keeps 10 = .ok (.aload_n 0, 1) ∧ 10 + 1 = 11 := by decide +kernel
theorem dX7_keeps_11 : decode bX7_keeps 11 = .ok (.getfield 19, 3) ∧ 11 + 3 = 14 := by decide +kernel
theorem dX7_keeps_14 : decode bX7_keeps 14 = .ok (.iload_n 1, 1) ∧ 14 + 1 = 15 := by decide +kernel
theorem dX7_keeps_15 : decode bX7_keeps 15 = .ok (.iaload, 1) ∧ 15 + 1 = 16 := by decide +kernel
theorem dX7_keeps_16 : decode bX7_keeps 16 = .ok (.iconst 4, 1) ∧ 16 + 1 = 17 := by decide +kernel
theorem dX7_keeps_17 : decode bX7_keeps 17 = .ok (.if_icmp .ne 14, 3) ∧ 17 + 3 = 20 ∧ ((17 : Nat) : Int) + (14) = ((31 : Nat) : Int) := by decide +kernel
theorem dX7_keeps_20 : decode bX7_keeps 20 = .ok (.iconst 3, 1) ∧ 20 + 1 = 21 := by decide +kernel
theorem dX7_keeps_21 : decode bX7_keeps 21 = .ok (.aload_n 0, 1) ∧ 21 + 1 = 22 := by decide +kernel
theorem dX7_keeps_22 : decode bX7_keeps 22 = .ok (.getfield 23, 3) ∧ 22 + 3 = 25 := by decide +kernel
theorem dX7_keeps_25 : decode bX7_keeps 25 = .ok (.iload_n 1, 1) ∧ 25 + 1 = 26 := by decide +kernel
theorem dX7_keeps_26 : decode bX7_keeps 26 = .ok (.iaload, 1) ∧ 26 + 1 = 27 := by decide +kernel
theorem dX7_keeps_27 : decode bX7_keeps 27 = .ok (.iadd, 1) ∧ 27 + 1 = 28 := by decide +kernel
theorem dX7_keeps_28 : decode bX7_keeps 28 = .ok (.goto 4, 3) ∧ ((28 : Nat) : Int) + (4) = ((32 : Nat) : Int) := by decide +kernel
theorem dX7_keeps_31 : decode bX7_keeps 31 = .ok (.iconst 3, 1) ∧ 31 + 1 = 32 := by decide +kernel
theorem dX7_keeps_32 : decode bX7_keeps 32 = .ok (.ireturn, 1) := by decide +kernel
theorem dX7_staysAway_0 : decode bX7_staysAway 0 = .ok (.aload_n 0, 1) ∧ 0 + 1 = 1 := by decide +kernel
theorem dX7_staysAway_1 : decode bX7_staysAway 1 = .ok (.getfield 19, 3) ∧ 1 + 3 = 4 := by decide +kernel
theorem dX7_staysAway_4 : decode bX7_staysAway 4 = .ok (.iload_n 1, 1) ∧ 4 + 1 = 5 := by decide +kernel
theorem dX7_staysAway_5 : decode bX7_staysAway 5 = .ok (.iaload, 1) ∧ 5 + 1 = 6 := by decide +kernel
theorem dX7_staysAway_6 : decode bX7_staysAway 6 = .ok (.iconst 4, 1) ∧ 6 + 1 = 7 := by decide +kernel
theorem dX7_staysAway_7 : decode bX7_staysAway 7 = .ok (.if_icmp .ne 18, 3) ∧ 7 + 3 = 10 ∧ ((7 : Nat) : Int) + (18) = ((25 : Nat) : Int) := by decide +kernel
theorem dX7_staysAway_10 : decode bX7_staysAway 10 = .ok (.aload_n 0, 1) ∧ 10 + 1 = 11 := by decide +kernel
theorem dX7_staysAway_11 : decode bX7_staysAway 11 = .ok (.getfield 38, 3) ∧ 11 + 3 = 14 := by decide +kernel
theorem dX7_staysAway_14 : decode bX7_staysAway 14 = .ok (.iload_n 1, 1) ∧ 14 + 1 = 15 := by decide +kernel
theorem dX7_staysAway_15 : decode bX7_staysAway 15 = .ok (.iaload, 1) ∧ 15 + 1 = 16 := by decide +kernel
theorem dX7_staysAway_16 : decode bX7_staysAway 16 = .ok (.bipush 30, 2) ∧ 16 + 2 = 18 := by decide +kernel
theorem dX7_staysAway_18 : decode bX7_staysAway 18 = .ok (.if_icmp .le 7, 3) ∧ 18 + 3 = 21 ∧ ((18 : Nat) : Int) + (7) = ((25 : Nat) : Int) := by decide +kernel
theorem dX7_staysAway_21 : decode bX7_staysAway 21 = .ok (.iconst 1, 1) ∧ 21 + 1 = 22 := by decide +kernel
theorem dX7_staysAway_22 : decode bX7_staysAway 22 = .ok (.goto 4, 3) ∧ ((22 : Nat) : Int) + (4) = ((26 : Nat) : Int) := by decide +kernel
theorem dX7_staysAway_25 : decode bX7_staysAway 25 = .ok (.iconst 0, 1) ∧ 25 + 1 = 26 := by decide +kernel
theorem dX7_staysAway_26 : decode bX7_staysAway 26 = .ok (.ireturn, 1) := by decide +kernel
theorem dX7_brings_0 : decode bX7_brings 0 = .ok (.aload_n 0, 1) ∧ 0 + 1 = 1 := by decide +kernel
theorem dX7_brings_1 : decode bX7_brings 1 = .ok (.getfield 19, 3) ∧ 1 + 3 = 4 := by decide +kernel
theorem dX7_brings_4 : decode bX7_brings 4 = .ok (.iload_n 1, 1) ∧ 4 + 1 = 5 := by decide +kernel
theorem dX7_brings_5 : decode bX7_brings 5 = .ok (.iaload, 1) ∧ 5 + 1 = 6 := by decide +kernel
theorem dX7_brings_6 : decode bX7_brings 6 = .ok (.iconst 3, 1) ∧ 6 + 1 = 7 := by decide +kernel
theorem dX7_brings_7 : decode bX7_brings 7 = .ok (.if_icmp .eq 14, 3) ∧ 7 + 3 = 10 ∧ ((7 : Nat) : Int) + (14) = ((21 : Nat) : Int) := by decide +kernel
theorem dX7_brings_10 : decode bX7_brings 10 = .ok (.aload_n 0, 1) ∧ 10 + 1 = 11 := by decide +kernel
theorem dX7_brings_11 : decode bX7_brings 11 = .ok (.getfield 19, 3) ∧ 11 + 3 = 14 := by decide +kernel
theorem dX7_brings_14 : decode bX7_brings 14 = .ok (.iload_n 1, 1) ∧ 14 + 1 = 15 := by decide +kernel
theorem dX7_brings_15 : decode bX7_brings 15 = .ok (.iaload, 1) ∧ 15 + 1 = 16 := by decide +kernel
theorem dX7_brings_16 : decode bX7_brings 16 = .ok (.bipush 6, 2) ∧ 16 + 2 = 18 := by decide +kernel
theorem dX7_brings_18 : decode bX7_brings 18 = .ok (.if_icmp .ne 22, 3) ∧ 18 + 3 = 21 ∧ ((18 : Nat) : Int) + (22) = ((40 : Nat) : Int) := by decide +kernel
theorem dX7_brings_21 : decode bX7_brings 21 = .ok (.aload_n 0, 1) ∧ 21 + 1 = 22 := by decide +kernel
theorem dX7_brings_22 : decode bX7_brings 22 = .ok (.getfield 32, 3) ∧ 22 + 3 = 25 := by decide +kernel
theorem dX7_brings_25 : decode bX7_brings 25 = .ok (.iload_n 1, 1) ∧ 25 + 1 = 26 := by decide +kernel
theorem dX7_brings_26 : decode bX7_brings 26 = .ok (.iaload, 1) ∧ 26 + 1 = 27 := by decide +kernel
theorem dX7_brings_27 : decode bX7_brings 27 = .ok (.aload_n 0, 1) ∧ 27 + 1 = 28 := by decide +kernel
theorem dX7_brings_28 : decode bX7_brings 28 = .ok (.getfield 32, 3) ∧ 28 + 3 = 31 := by decide +kernel
theorem dX7_brings_31 : decode bX7_brings 31 = .ok (.iload_n 1, 1) ∧ 31 + 1 = 32 := by decide +kernel
theorem dX7_brings_32 : decode bX7_brings 32 = .ok (.iaload, 1) ∧ 32 + 1 = 33 := by decide +kernel
theorem dX7_brings_33 : decode bX7_brings 33 = .ok (.bipush 10, 2) ∧ 33 + 2 = 35 := by decide +kernel
theorem dX7_brings_35 : decode bX7_brings 35 = .ok (.idiv, 1) ∧ 35 + 1 = 36 := by decide +kernel
theorem dX7_brings_36 : decode bX7_brings 36 = .ok (.isub, 1) ∧ 36 + 1 = 37 := by decide +kernel
theorem dX7_brings_37 : decode bX7_brings 37 = .ok (.goto 9, 3) ∧ ((37 : Nat) : Int) + (9) = ((46 : Nat) : Int) := by decide +kernel
theorem dX7_brings_40 : decode bX7_brings 40 = .ok (.aload_n 0, 1) ∧ 40 + 1 = 41 := by decide +kernel
theorem dX7_brings_41 : decode bX7_brings 41 = .ok (.getfield 32, 3) ∧ 41 + 3 = 44 := by decide +kernel
theorem dX7_brings_44 : decode bX7_brings 44 = .ok (.iload_n 1, 1) ∧ 44 + 1 = 45 := by decide +kernel
theorem dX7_brings_45 : decode bX7_brings 45 = .ok (.iaload, 1) ∧ 45 + 1 = 46 := by decide +kernel
theorem dX7_brings_46 : decode bX7_brings 46 = .ok (.ireturn, 1) := by decide +kernel
theorem dX7_of_0 : decode bX7_of 0 = .ok (.aload_n 0, 1) ∧ 0 + 1 = 1 := by decide +kernel
theorem dX7_of_1 : decode bX7_of 1 = .ok (.iload_n 1, 1) ∧ 1 + 1 = 2 := by decide +kernel
theorem dX7_of_2 : decode bX7_of 2 = .ok (.invokevirtual 274, 3) ∧ 2 + 3 = 5 := by decide +kernel
theorem dX7_of_5 : decode bX7_of 5 = .ok (.ifCond .ne 5, 3) ∧ 5 + 3 = 8 ∧ ((5 : Nat) : Int) + (5) = ((10 : Nat) : Int) := by decide +kernel
theorem dX7_of_8 : decode bX7_of 8 = .ok (.iconst (-1), 1) ∧ 8 + 1 = 9 := by decide +kernel
theorem dX7_of_9 : decode bX7_of 9 = .ok (.ireturn, 1) := by decide +kernel
theorem dX7_of_10 : decode bX7_of 10 = .ok (.iload_n 2, 1) ∧ 10 + 1 = 11 := by decide +kernel
theorem dX7_of_11 : decode bX7_of 11 = .ok (.tableswitch 159 0 12 #[65, 72, 79, 86, 93, 100, 107, 114, 121, 127, 133, 139, 153], 65) := by decide +kernel
theorem dX7_of_76 : decode bX7_of 76 = .ok (.aload_n 0, 1) ∧ 76 + 1 = 77 := by decide +kernel
theorem dX7_of_77 : decode bX7_of 77 = .ok (.getfield 19, 3) ∧ 77 + 3 = 80 := by decide +kernel
theorem dX7_of_80 : decode bX7_of 80 = .ok (.iload_n 1, 1) ∧ 80 + 1 = 81 := by decide +kernel
theorem dX7_of_81 : decode bX7_of 81 = .ok (.iaload, 1) ∧ 81 + 1 = 82 := by decide +kernel
theorem dX7_of_82 : decode bX7_of 82 = .ok (.ireturn, 1) := by decide +kernel
theorem dX7_of_83 : decode bX7_of 83 = .ok (.aload_n 0, 1) ∧ 83 + 1 = 84 := by decide +kernel
theorem dX7_of_84 : decode bX7_of 84 = .ok (.getfield 23, 3) ∧ 84 + 3 = 87 := by decide +kernel
theorem dX7_of_87 : decode bX7_of 87 = .ok (.iload_n 1, 1) ∧ 87 + 1 = 88 := by decide +kernel
theorem dX7_of_88 : decode bX7_of 88 = .ok (.iaload, 1) ∧ 88 + 1 = 89 := by decide +kernel
theorem dX7_of_89 : decode bX7_of 89 = .ok (.ireturn, 1) := by decide +kernel
theorem dX7_of_90 : decode bX7_of 90 = .ok (.aload_n 0, 1) ∧ 90 + 1 = 91 := by decide +kernel
theorem dX7_of_91 : decode bX7_of 91 = .ok (.getfield 26, 3) ∧ 91 + 3 = 94 := by decide +kernel
theorem dX7_of_94 : decode bX7_of 94 = .ok (.iload_n 1, 1) ∧ 94 + 1 = 95 := by decide +kernel
theorem dX7_of_95 : decode bX7_of 95 = .ok (.iaload, 1) ∧ 95 + 1 = 96 := by decide +kernel
theorem dX7_of_96 : decode bX7_of 96 = .ok (.ireturn, 1) := by decide +kernel
theorem dX7_of_97 : decode bX7_of 97 = .ok (.aload_n 0, 1) ∧ 97 + 1 = 98 := by decide +kernel
theorem dX7_of_98 : decode bX7_of 98 = .ok (.getfield 29, 3) ∧ 98 + 3 = 101 := by decide +kernel
theorem dX7_of_101 : decode bX7_of 101 = .ok (.iload_n 1, 1) ∧ 101 + 1 = 102 := by decide +kernel
theorem dX7_of_102 : decode bX7_of 102 = .ok (.iaload, 1) ∧ 102 + 1 = 103 := by decide +kernel
theorem dX7_of_103 : decode bX7_of 103 = .ok (.ireturn, 1) := by decide +kernel
theorem dX7_of_104 : decode bX7_of 104 = .ok (.aload_n 0, 1) ∧ 104 + 1 = 105 := by decide +kernel
theorem dX7_of_105 : decode bX7_of 105 = .ok (.getfield 32, 3) ∧ 105 + 3 = 108 := by decide +kernel
theorem dX7_of_108 : decode bX7_of 108 = .ok (.iload_n 1, 1) ∧ 108 + 1 = 109 := by decide +kernel
theorem dX7_of_109 : decode bX7_of 109 = .ok (.iaload, 1) ∧ 109 + 1 = 110 := by decide +kernel
theorem dX7_of_110 : decode bX7_of 110 = .ok (.ireturn, 1) := by decide +kernel
theorem dX7_of_111 : decode bX7_of 111 = .ok (.aload_n 0, 1) ∧ 111 + 1 = 112 := by decide +kernel
theorem dX7_of_112 : decode bX7_of 112 = .ok (.getfield 35, 3) ∧ 112 + 3 = 115 := by decide +kernel
theorem dX7_of_115 : decode bX7_of 115 = .ok (.iload_n 1, 1) ∧ 115 + 1 = 116 := by decide +kernel
theorem dX7_of_116 : decode bX7_of 116 = .ok (.iaload, 1) ∧ 116 + 1 = 117 := by decide +kernel
theorem dX7_of_117 : decode bX7_of 117 = .ok (.ireturn, 1) := by decide +kernel
theorem dX7_of_118 : decode bX7_of 118 = .ok (.aload_n 0, 1) ∧ 118 + 1 = 119 := by decide +kernel
theorem dX7_of_119 : decode bX7_of 119 = .ok (.getfield 38, 3) ∧ 119 + 3 = 122 := by decide +kernel
theorem dX7_of_122 : decode bX7_of 122 = .ok (.iload_n 1, 1) ∧ 122 + 1 = 123 := by decide +kernel
theorem dX7_of_123 : decode bX7_of 123 = .ok (.iaload, 1) ∧ 123 + 1 = 124 := by decide +kernel
theorem dX7_of_124 : decode bX7_of 124 = .ok (.ireturn, 1) := by decide +kernel
theorem dX7_of_125 : decode bX7_of 125 = .ok (.aload_n 0, 1) ∧ 125 + 1 = 126 := by decide +kernel
theorem dX7_of_126 : decode bX7_of 126 = .ok (.getfield 41, 3) ∧ 126 + 3 = 129 := by decide +kernel
theorem dX7_of_129 : decode bX7_of 129 = .ok (.iload_n 1, 1) ∧ 129 + 1 = 130 := by decide +kernel
theorem dX7_of_130 : decode bX7_of 130 = .ok (.iaload, 1) ∧ 130 + 1 = 131 := by decide +kernel
theorem dX7_of_131 : decode bX7_of 131 = .ok (.ireturn, 1) := by decide +kernel
theorem dX7_of_132 : decode bX7_of 132 = .ok (.aload_n 0, 1) ∧ 132 + 1 = 133 := by decide +kernel
theorem dX7_of_133 : decode bX7_of 133 = .ok (.iload_n 1, 1) ∧ 133 + 1 = 134 := by decide +kernel
theorem dX7_of_134 : decode bX7_of 134 = .ok (.invokevirtual 356, 3) ∧ 134 + 3 = 137 := by decide +kernel
theorem dX7_of_137 : decode bX7_of 137 = .ok (.ireturn, 1) := by decide +kernel
theorem dX7_of_138 : decode bX7_of 138 = .ok (.aload_n 0, 1) ∧ 138 + 1 = 139 := by decide +kernel
theorem dX7_of_139 : decode bX7_of 139 = .ok (.iload_n 1, 1) ∧ 139 + 1 = 140 := by decide +kernel
theorem dX7_of_140 : decode bX7_of 140 = .ok (.invokevirtual 359, 3) ∧ 140 + 3 = 143 := by decide +kernel
theorem dX7_of_143 : decode bX7_of 143 = .ok (.ireturn, 1) := by decide +kernel
theorem dX7_of_144 : decode bX7_of 144 = .ok (.aload_n 0, 1) ∧ 144 + 1 = 145 := by decide +kernel
theorem dX7_of_145 : decode bX7_of 145 = .ok (.iload_n 1, 1) ∧ 145 + 1 = 146 := by decide +kernel
theorem dX7_of_146 : decode bX7_of 146 = .ok (.invokevirtual 362, 3) ∧ 146 + 3 = 149 := by decide +kernel
theorem dX7_of_149 : decode bX7_of 149 = .ok (.ireturn, 1) := by decide +kernel
theorem dX7_of_150 : decode bX7_of 150 = .ok (.aload_n 0, 1) ∧ 150 + 1 = 151 := by decide +kernel
theorem dX7_of_151 : decode bX7_of 151 = .ok (.iload_n 1, 1) ∧ 151 + 1 = 152 := by decide +kernel
theorem dX7_of_152 : decode bX7_of 152 = .ok (.invokevirtual 365, 3) ∧ 152 + 3 = 155 := by decide +kernel
theorem dX7_of_155 : decode bX7_of 155 = .ok (.ifCond .eq 7, 3) ∧ 155 + 3 = 158 ∧ ((155 : Nat) : Int) + (7) = ((162 : Nat) : Int) := by decide +kernel
theorem dX7_of_158 : decode bX7_of 158 = .ok (.iconst 1, 1) ∧ 158 + 1 = 159 := by decide +kernel
theorem dX7_of_159 : decode bX7_of 159 = .ok (.goto 4, 3) ∧ ((159 : Nat) : Int) + (4) = ((163 : Nat) : Int) := by decide +kernel
theorem dX7_of_162 : decode bX7_of 162 = .ok (.iconst 0, 1) ∧ 162 + 1 = 163 := by decide +kernel
theorem dX7_of_163 : decode bX7_of 163 = .ok (.ireturn, 1) := by decide +kernel
theorem dX7_of_164 : decode bX7_of 164 = .ok (.aload_n 0, 1) ∧ 164 + 1 = 165 := by decide +kernel
theorem dX7_of_165 : decode bX7_of 165 = .ok (.iload_n 1, 1) ∧ 165 + 1 = 166 := by decide +kernel
theorem dX7_of_166 : decode bX7_of 166 = .ok (.invokevirtual 368, 3) ∧ 166 + 3 = 169 := by decide +kernel
theorem dX7_of_169 : decode bX7_of 169 = .ok (.ireturn, 1) := by decide +kernel
theorem dX7_of_170 : decode bX7_of 170 = .ok (.iconst (-1), 1) ∧ 170 + 1 = 171 := by decide +kernel
theorem dX7_of_171 : decode bX7_of 171 = .ok (.ireturn, 1) := by decide +kernel
theorem dX7_allOwes_0 : decode bX7_allOwes 0 = .ok (.iconst 0, 1) ∧ 0 + 1 = 1 := by decide +kernel
theorem dX7_allOwes_1 : decode bX7_allOwes 1 = .ok (.istore_n 1, 1) ∧ 1 + 1 = 2 := by decide +kernel
theorem dX7_allOwes_2 : decode bX7_allOwes 2 = .ok (.iconst 0, 1) ∧ 2 + 1 = 3 := by decide +kernel
theorem dX7_allOwes_3 : decode bX7_allOwes 3 = .ok (.istore_n 2, 1) ∧ 3 + 1 = 4 := by decide +kernel
theorem dX7_allOwes_4 : decode bX7_allOwes 4 = .ok (.iload_n 2, 1) ∧ 4 + 1 = 5 := by decide +kernel
theorem dX7_allOwes_5 : decode bX7_allOwes 5 = .ok (.aload_n 0, 1) ∧ 5 + 1 = 6 := by decide +kernel
theorem dX7_allOwes_6 : decode bX7_allOwes 6 = .ok (.getfield 13, 3) ∧ 6 + 3 = 9 := by decide +kernel
theorem dX7_allOwes_9 : decode bX7_allOwes 9 = .ok (.if_icmp .ge 18, 3) ∧ 9 + 3 = 12 ∧ ((9 : Nat) : Int) + (18) = ((27 : Nat) : Int) := by decide +kernel
theorem dX7_allOwes_12 : decode bX7_allOwes 12 = .ok (.iload_n 1, 1) ∧ 12 + 1 = 13 := by decide +kernel
theorem dX7_allOwes_13 : decode bX7_allOwes 13 = .ok (.aload_n 0, 1) ∧ 13 + 1 = 14 := by decide +kernel
theorem dX7_allOwes_14 : decode bX7_allOwes 14 = .ok (.getfield 38, 3) ∧ 14 + 3 = 17 := by decide +kernel
theorem dX7_allOwes_17 : decode bX7_allOwes 17 = .ok (.iload_n 2, 1) ∧ 17 + 1 = 18 := by decide +kernel
theorem dX7_allOwes_18 : decode bX7_allOwes 18 = .ok (.iaload, 1) ∧ 18 + 1 = 19 := by decide +kernel
theorem dX7_allOwes_19 : decode bX7_allOwes 19 = .ok (.iadd, 1) ∧ 19 + 1 = 20 := by decide +kernel
theorem dX7_allOwes_20 : decode bX7_allOwes 20 = .ok (.istore_n 1, 1) ∧ 20 + 1 = 21 := by decide +kernel
theorem dX7_allOwes_21 : decode bX7_allOwes 21 = .ok (.iinc 2 1, 3) ∧ 21 + 3 = 24 := by decide +kernel
theorem dX7_allOwes_24 : decode bX7_allOwes 24 = .ok (.goto (-20), 3) ∧ ((24 : Nat) : Int) + (-20) = ((4 : Nat) : Int) := by decide +kernel
theorem dX7_allOwes_27 : decode bX7_allOwes 27 = .ok (.iload_n 1, 1) ∧ 27 + 1 = 28 := by decide +kernel
theorem dX7_allOwes_28 : decode bX7_allOwes 28 = .ok (.ireturn, 1) := by decide +kernel
theorem dX7_told_0 : decode bX7_told 0 = .ok (.aload_n 0, 1) ∧ 0 + 1 = 1 := by decide +kernel
theorem dX7_told_1 : decode bX7_told 1 = .ok (.iload_n 1, 1) ∧ 1 + 1 = 2 := by decide +kernel
theorem dX7_told_2 : decode bX7_told 2 = .ok (.bipush 10, 2) ∧ 2 + 2 = 4 := by decide +kernel
theorem dX7_told_4 : decode bX7_told 4 = .ok (.bipush 9, 2) ∧ 4 + 2 = 6 := by decide +kernel
theorem dX7_told_6 : decode bX7_told 6 = .ok (.aload_n 0, 1) ∧ 6 + 1 = 7 := by decide +kernel
theorem dX7_told_7 : decode bX7_told 7 = .ok (.getfield 13, 3) ∧ 7 + 3 = 10 := by decide +kernel
theorem dX7_told_10 : decode bX7_told 10 = .ok (.iadd, 1) ∧ 10 + 1 = 11 := by decide +kernel
theorem dX7_told_11 : decode bX7_told 11 = .ok (.invokevirtual 263, 3) ∧ 11 + 3 = 14 := by decide +kernel
theorem dX7_told_14 : decode bX7_told 14 = .ok (.ifCond .eq 13, 3) ∧ 14 + 3 = 17 ∧ ((14 : Nat) : Int) + (13) = ((27 : Nat) : Int) := by decide +kernel
theorem dX7_told_17 : decode bX7_told 17 = .ok (.aload_n 0, 1) ∧ 17 + 1 = 18 := by decide +kernel
theorem dX7_told_18 : decode bX7_told 18 = .ok (.getfield 47, 3) ∧ 18 + 3 = 21 := by decide +kernel
theorem dX7_told_21 : decode bX7_told 21 = .ok (.iload_n 1, 1) ∧ 21 + 1 = 22 := by decide +kernel
theorem dX7_told_22 : decode bX7_told 22 = .ok (.bipush 10, 2) ∧ 22 + 2 = 24 := by decide +kernel
theorem dX7_told_24 : decode bX7_told 24 = .ok (.isub, 1) ∧ 24 + 1 = 25 := by decide +kernel
theorem dX7_told_25 : decode bX7_told 25 = .ok (.iaload, 1) ∧ 25 + 1 = 26 := by decide +kernel
theorem dX7_told_26 : decode bX7_told 26 = .ok (.ireturn, 1) := by decide +kernel
theorem dX7_told_27 : decode bX7_told 27 = .ok (.iload_n 1, 1) ∧ 27 + 1 = 28 := by decide +kernel
theorem dX7_told_28 : decode bX7_told 28 = .ok (.tableswitch 74 0 5 #[40, 45, 50, 55, 62, 69], 40) := by decide +kernel
theorem dX7_told_68 : decode bX7_told 68 = .ok (.aload_n 0, 1) ∧ 68 + 1 = 69 := by decide +kernel
theorem dX7_told_69 : decode bX7_told 69 = .ok (.getfield 16, 3) ∧ 69 + 3 = 72 := by decide +kernel
theorem dX7_told_72 : decode bX7_told 72 = .ok (.ireturn, 1) := by decide +kernel
theorem dX7_told_73 : decode bX7_told 73 = .ok (.aload_n 0, 1) ∧ 73 + 1 = 74 := by decide +kernel
theorem dX7_told_74 : decode bX7_told 74 = .ok (.getfield 7, 3) ∧ 74 + 3 = 77 := by decide +kernel
theorem dX7_told_77 : decode bX7_told 77 = .ok (.ireturn, 1) := by decide +kernel
theorem dX7_told_78 : decode bX7_told 78 = .ok (.aload_n 0, 1) ∧ 78 + 1 = 79 := by decide +kernel
theorem dX7_told_79 : decode bX7_told 79 = .ok (.invokevirtual 353, 3) ∧ 79 + 3 = 82 := by decide +kernel
theorem dX7_told_82 : decode bX7_told 82 = .ok (.ireturn, 1) := by decide +kernel
theorem dX7_told_83 : decode bX7_told 83 = .ok (.aload_n 0, 1) ∧ 83 + 1 = 84 := by decide +kernel
theorem dX7_told_84 : decode bX7_told 84 = .ok (.iconst 3, 1) ∧ 84 + 1 = 85 := by decide +kernel
theorem dX7_told_85 : decode bX7_told 85 = .ok (.iconst 0, 1) ∧ 85 + 1 = 86 := by decide +kernel
theorem dX7_told_86 : decode bX7_told 86 = .ok (.invokevirtual 344, 3) ∧ 86 + 3 = 89 := by decide +kernel
theorem dX7_told_89 : decode bX7_told 89 = .ok (.ireturn, 1) := by decide +kernel
theorem dX7_told_90 : decode bX7_told 90 = .ok (.aload_n 0, 1) ∧ 90 + 1 = 91 := by decide +kernel
theorem dX7_told_91 : decode bX7_told 91 = .ok (.iconst 4, 1) ∧ 91 + 1 = 92 := by decide +kernel
theorem dX7_told_92 : decode bX7_told 92 = .ok (.iconst 0, 1) ∧ 92 + 1 = 93 := by decide +kernel
theorem dX7_told_93 : decode bX7_told 93 = .ok (.invokevirtual 344, 3) ∧ 93 + 3 = 96 := by decide +kernel
theorem dX7_told_96 : decode bX7_told 96 = .ok (.ireturn, 1) := by decide +kernel
theorem dX7_told_97 : decode bX7_told 97 = .ok (.aload_n 0, 1) ∧ 97 + 1 = 98 := by decide +kernel
theorem dX7_told_98 : decode bX7_told 98 = .ok (.invokevirtual 371, 3) ∧ 98 + 3 = 101 := by decide +kernel
theorem dX7_told_101 : decode bX7_told 101 = .ok (.ireturn, 1) := by decide +kernel
theorem dX7_told_102 : decode bX7_told 102 = .ok (.iconst (-1), 1) ∧ 102 + 1 = 103 := by decide +kernel
theorem dX7_told_103 : decode bX7_told 103 = .ok (.ireturn, 1) := by decide +kernel
theorem dX7_goHaving_0 : decode bX7_goHaving 0 = .ok (.aload_n 0, 1) ∧ 0 + 1 = 1 := by decide +kernel
theorem dX7_goHaving_1 : decode bX7_goHaving 1 = .ok (.getfield 38, 3) ∧ 1 + 3 = 4 := by decide +kernel
theorem dX7_goHaving_4 : decode bX7_goHaving 4 = .ok (.iload_n 1, 1) ∧ 4 + 1 = 5 := by decide +kernel
theorem dX7_goHaving_5 : decode bX7_goHaving 5 = .ok (.aload_n 0, 1) ∧ 5 + 1 = 6 := by decide +kernel
theorem dX7_goHaving_6 : decode bX7_goHaving 6 = .ok (.aload_n 0, 1) ∧ 6 + 1 = 7 := by decide +kernel
theorem dX7_goHaving_7 : decode bX7_goHaving 7 = .ok (.getfield 38, 3) ∧ 7 + 3 = 10 := by decide +kernel
theorem dX7_goHaving_10 : decode bX7_goHaving 10 = .ok (.iload_n 1, 1) ∧ 10 + 1 = 11 := by decide +kernel
theorem dX7_goHaving_11 : decode bX7_goHaving 11 = .ok (.iaload, 1) ∧ 11 + 1 = 12 := by decide +kernel
theorem dX7_goHaving_12 : decode bX7_goHaving 12 = .ok (.aload_n 0, 1) ∧ 12 + 1 = 13 := by decide +kernel
theorem dX7_goHaving_13 : decode bX7_goHaving 13 = .ok (.iload_n 1, 1) ∧ 13 + 1 = 14 := by decide +kernel
theorem dX7_goHaving_14 : decode bX7_goHaving 14 = .ok (.invokevirtual 356, 3) ∧ 14 + 3 = 17 := by decide +kernel
theorem dX7_goHaving_17 : decode bX7_goHaving 17 = .ok (.aload_n 0, 1) ∧ 17 + 1 = 18 := by decide +kernel
theorem dX7_goHaving_18 : decode bX7_goHaving 18 = .ok (.getfield 32, 3) ∧ 18 + 3 = 21 := by decide +kernel
theorem dX7_goHaving_21 : decode bX7_goHaving 21 = .ok (.iload_n 1, 1) ∧ 21 + 1 = 22 := by decide +kernel
theorem dX7_goHaving_22 : decode bX7_goHaving 22 = .ok (.iaload, 1) ∧ 22 + 1 = 23 := by decide +kernel
theorem dX7_goHaving_23 : decode bX7_goHaving 23 = .ok (.imul, 1) ∧ 23 + 1 = 24 := by decide +kernel
theorem dX7_goHaving_24 : decode bX7_goHaving 24 = .ok (.bipush 10, 2) ∧ 24 + 2 = 26 := by decide +kernel
theorem dX7_goHaving_26 : decode bX7_goHaving 26 = .ok (.idiv, 1) ∧ 26 + 1 = 27 := by decide +kernel
theorem dX7_goHaving_27 : decode bX7_goHaving 27 = .ok (.iadd, 1) ∧ 27 + 1 = 28 := by decide +kernel
theorem dX7_goHaving_28 : decode bX7_goHaving 28 = .ok (.ldc_w 374, 3) ∧ 28 + 3 = 31 := by decide +kernel
theorem dX7_goHaving_31 : decode bX7_goHaving 31 = .ok (.invokevirtual 284, 3) ∧ 31 + 3 = 34 := by decide +kernel
theorem dX7_goHaving_34 : decode bX7_goHaving 34 = .ok (.iastore, 1) ∧ 34 + 1 = 35 := by decide +kernel
theorem dX7_goHaving_35 : decode bX7_goHaving 35 = .ok (.aload_n 0, 1) ∧ 35 + 1 = 36 := by decide +kernel
theorem dX7_goHaving_36 : decode bX7_goHaving 36 = .ok (.getfield 35, 3) ∧ 36 + 3 = 39 := by decide +kernel
theorem dX7_goHaving_39 : decode bX7_goHaving 39 = .ok (.iload_n 1, 1) ∧ 39 + 1 = 40 := by decide +kernel
theorem dX7_goHaving_40 : decode bX7_goHaving 40 = .ok (.aload_n 0, 1) ∧ 40 + 1 = 41 := by decide +kernel
theorem dX7_goHaving_41 : decode bX7_goHaving 41 = .ok (.aload_n 0, 1) ∧ 41 + 1 = 42 := by decide +kernel
theorem dX7_goHaving_42 : decode bX7_goHaving 42 = .ok (.getfield 35, 3) ∧ 42 + 3 = 45 := by decide +kernel
theorem dX7_goHaving_45 : decode bX7_goHaving 45 = .ok (.iload_n 1, 1) ∧ 45 + 1 = 46 := by decide +kernel
theorem dX7_goHaving_46 : decode bX7_goHaving 46 = .ok (.iaload, 1) ∧ 46 + 1 = 47 := by decide +kernel
theorem dX7_goHaving_47 : decode bX7_goHaving 47 = .ok (.iconst 1, 1) ∧ 47 + 1 = 48 := by decide +kernel
theorem dX7_goHaving_48 : decode bX7_goHaving 48 = .ok (.isub, 1) ∧ 48 + 1 = 49 := by decide +kernel
theorem dX7_goHaving_49 : decode bX7_goHaving 49 = .ok (.bipush 99, 2) ∧ 49 + 2 = 51 := by decide +kernel
theorem dX7_goHaving_51 : decode bX7_goHaving 51 = .ok (.invokevirtual 284, 3) ∧ 51 + 3 = 54 := by decide +kernel
theorem dX7_goHaving_54 : decode bX7_goHaving 54 = .ok (.iastore, 1) ∧ 54 + 1 = 55 := by decide +kernel
theorem dX7_goHaving_55 : decode bX7_goHaving 55 = .ok (.aload_n 0, 1) ∧ 55 + 1 = 56 := by decide +kernel
theorem dX7_goHaving_56 : decode bX7_goHaving 56 = .ok (.getfield 35, 3) ∧ 56 + 3 = 59 := by decide +kernel
theorem dX7_goHaving_59 : decode bX7_goHaving 59 = .ok (.iload_n 1, 1) ∧ 59 + 1 = 60 := by decide +kernel
theorem dX7_goHaving_60 : decode bX7_goHaving 60 = .ok (.iaload, 1) ∧ 60 + 1 = 61 := by decide +kernel
theorem dX7_goHaving_61 : decode bX7_goHaving 61 = .ok (.ifCond .le 4, 3) ∧ 61 + 3 = 64 ∧ ((61 : Nat) : Int) + (4) = ((65 : Nat) : Int) := by decide +kernel
theorem dX7_goHaving_64 : decode bX7_goHaving 64 = .ok (.return_, 1) := by decide +kernel
theorem dX7_goHaving_65 : decode bX7_goHaving 65 = .ok (.aload_n 0, 1) ∧ 65 + 1 = 66 := by decide +kernel
theorem dX7_goHaving_66 : decode bX7_goHaving 66 = .ok (.iload_n 1, 1) ∧ 66 + 1 = 67 := by decide +kernel
theorem dX7_goHaving_67 : decode bX7_goHaving 67 = .ok (.invokevirtual 365, 3) ∧ 67 + 3 = 70 := by decide +kernel
theorem dX7_goHaving_70 : decode bX7_goHaving 70 = .ok (.ifCond .eq 15, 3) ∧ 70 + 3 = 73 ∧ ((70 : Nat) : Int) + (15) = ((85 : Nat) : Int) := by decide +kernel
theorem dX7_goHaving_73 : decode bX7_goHaving 73 = .ok (.aload_n 0, 1) ∧ 73 + 1 = 74 := by decide +kernel
theorem dX7_goHaving_74 : decode bX7_goHaving 74 = .ok (.getfield 35, 3) ∧ 74 + 3 = 77 := by decide +kernel
theorem dX7_goHaving_77 : decode bX7_goHaving 77 = .ok (.iload_n 1, 1) ∧ 77 + 1 = 78 := by decide +kernel
theorem dX7_goHaving_78 : decode bX7_goHaving 78 = .ok (.aload_n 0, 1) ∧ 78 + 1 = 79 := by decide +kernel
theorem dX7_goHaving_79 : decode bX7_goHaving 79 = .ok (.iload_n 1, 1) ∧ 79 + 1 = 80 := by decide +kernel
theorem dX7_goHaving_80 : decode bX7_goHaving 80 = .ok (.invokevirtual 362, 3) ∧ 80 + 3 = 83 := by decide +kernel
theorem dX7_goHaving_83 : decode bX7_goHaving 83 = .ok (.iastore, 1) ∧ 83 + 1 = 84 := by decide +kernel
theorem dX7_goHaving_84 : decode bX7_goHaving 84 = .ok (.return_, 1) := by decide +kernel
theorem dX7_goHaving_85 : decode bX7_goHaving 85 = .ok (.aload_n 0, 1) ∧ 85 + 1 = 86 := by decide +kernel
theorem dX7_goHaving_86 : decode bX7_goHaving 86 = .ok (.aload_n 0, 1) ∧ 86 + 1 = 87 := by decide +kernel
theorem dX7_goHaving_87 : decode bX7_goHaving 87 = .ok (.aload_n 0, 1) ∧ 87 + 1 = 88 := by decide +kernel
theorem dX7_goHaving_88 : decode bX7_goHaving 88 = .ok (.getfield 7, 3) ∧ 88 + 3 = 91 := by decide +kernel
theorem dX7_goHaving_91 : decode bX7_goHaving 91 = .ok (.aload_n 0, 1) ∧ 91 + 1 = 92 := by decide +kernel
theorem dX7_goHaving_92 : decode bX7_goHaving 92 = .ok (.iload_n 1, 1) ∧ 92 + 1 = 93 := by decide +kernel
theorem dX7_goHaving_93 : decode bX7_goHaving 93 = .ok (.invokevirtual 368, 3) ∧ 93 + 3 = 96 := by decide +kernel
theorem dX7_goHaving_96 : decode bX7_goHaving 96 = .ok (.iadd, 1) ∧ 96 + 1 = 97 := by decide +kernel
theorem dX7_goHaving_97 : decode bX7_goHaving 97 = .ok (.sipush 9999, 3) ∧ 97 + 3 = 100 := by decide +kernel
theorem dX7_goHaving_100 : decode bX7_goHaving 100 = .ok (.invokevirtual 284, 3) ∧ 100 + 3 = 103 := by decide +kernel
theorem dX7_goHaving_103 : decode bX7_goHaving 103 = .ok (.putfield 7, 3) ∧ 103 + 3 = 106 := by decide +kernel
theorem dX7_goHaving_106 : decode bX7_goHaving 106 = .ok (.aload_n 0, 1) ∧ 106 + 1 = 107 := by decide +kernel
theorem dX7_goHaving_107 : decode bX7_goHaving 107 = .ok (.getfield 32, 3) ∧ 107 + 3 = 110 := by decide +kernel
theorem dX7_goHaving_110 : decode bX7_goHaving 110 = .ok (.iload_n 1, 1) ∧ 110 + 1 = 111 := by decide +kernel
theorem dX7_goHaving_111 : decode bX7_goHaving 111 = .ok (.iconst 0, 1) ∧ 111 + 1 = 112 := by decide +kernel
theorem dX7_goHaving_112 : decode bX7_goHaving 112 = .ok (.iastore, 1) ∧ 112 + 1 = 113 := by decide +kernel
theorem dX7_goHaving_113 : decode bX7_goHaving 113 = .ok (.return_, 1) := by decide +kernel
theorem dX7_goAsking_0 : decode bX7_goAsking 0 = .ok (.aload_n 0, 1) ∧ 0 + 1 = 1 := by decide +kernel
theorem dX7_goAsking_1 : decode bX7_goAsking 1 = .ok (.getfield 16, 3) ∧ 1 + 3 = 4 := by decide +kernel
theorem dX7_goAsking_4 : decode bX7_goAsking 4 = .ok (.aload_n 0, 1) ∧ 4 + 1 = 5 := by decide +kernel
theorem dX7_goAsking_5 : decode bX7_goAsking 5 = .ok (.getfield 29, 3) ∧ 5 + 3 = 8 := by decide +kernel
theorem dX7_goAsking_8 : decode bX7_goAsking 8 = .ok (.iload_n 1, 1) ∧ 8 + 1 = 9 := by decide +kernel
theorem dX7_goAsking_9 : decode bX7_goAsking 9 = .ok (.iaload, 1) ∧ 9 + 1 = 10 := by decide +kernel
theorem dX7_goAsking_10 : decode bX7_goAsking 10 = .ok (.irem, 1) ∧ 10 + 1 = 11 := by decide +kernel
theorem dX7_goAsking_11 : decode bX7_goAsking 11 = .ok (.ifCond .ne 11, 3) ∧ 11 + 3 = 14 ∧ ((11 : Nat) : Int) + (11) = ((22 : Nat) : Int) := by decide +kernel
theorem dX7_goAsking_14 : decode bX7_goAsking 14 = .ok (.iload_n 1, 1) ∧ 14 + 1 = 15 := by decide +kernel
theorem dX7_goAsking_15 : decode bX7_goAsking 15 = .ok (.aload_n 0, 1) ∧ 15 + 1 = 16 := by decide +kernel
theorem dX7_goAsking_16 : decode bX7_goAsking 16 = .ok (.getfield 104, 3) ∧ 16 + 3 = 19 := by decide +kernel
theorem dX7_goAsking_19 : decode bX7_goAsking 19 = .ok (.if_icmp .ne 4, 3) ∧ 19 + 3 = 22 ∧ ((19 : Nat) : Int) + (4) = ((23 : Nat) : Int) := by decide +kernel
theorem dX7_goAsking_22 : decode bX7_goAsking 22 = .ok (.return_, 1) := by decide +kernel
theorem dX7_goAsking_23 : decode bX7_goAsking 23 = .ok (.aload_n 0, 1) ∧ 23 + 1 = 24 := by decide +kernel
theorem dX7_goAsking_24 : decode bX7_goAsking 24 = .ok (.iload_n 1, 1) ∧ 24 + 1 = 25 := by decide +kernel
theorem dX7_goAsking_25 : decode bX7_goAsking 25 = .ok (.invokevirtual 359, 3) ∧ 25 + 3 = 28 := by decide +kernel
theorem dX7_goAsking_28 : decode bX7_goAsking 28 = .ok (.istore_n 2, 1) ∧ 28 + 1 = 29 := by decide +kernel
theorem dX7_goAsking_29 : decode bX7_goAsking 29 = .ok (.iload_n 2, 1) ∧ 29 + 1 = 30 := by decide +kernel
theorem dX7_goAsking_30 : decode bX7_goAsking 30 = .ok (.ifCond .le 45, 3) ∧ 30 + 3 = 33 ∧ ((30 : Nat) : Int) + (45) = ((75 : Nat) : Int) := by decide +kernel
theorem dX7_goAsking_33 : decode bX7_goAsking 33 = .ok (.aload_n 0, 1) ∧ 33 + 1 = 34 := by decide +kernel
theorem dX7_goAsking_34 : decode bX7_goAsking 34 = .ok (.getfield 7, 3) ∧ 34 + 3 = 37 := by decide +kernel
theorem dX7_goAsking_37 : decode bX7_goAsking 37 = .ok (.iload_n 2, 1) ∧ 37 + 1 = 38 := by decide +kernel
theorem dX7_goAsking_38 : decode bX7_goAsking 38 = .ok (.isub, 1) ∧ 38 + 1 = 39 := by decide +kernel
theorem dX7_goAsking_39 : decode bX7_goAsking 39 = .ok (.aload_n 0, 1) ∧ 39 + 1 = 40 := by decide +kernel
theorem dX7_goAsking_40 : decode bX7_goAsking 40 = .ok (.invokevirtual 353, 3) ∧ 40 + 3 = 43 := by decide +kernel
theorem dX7_goAsking_43 : decode bX7_goAsking 43 = .ok (.if_icmp .lt 32, 3) ∧ 43 + 3 = 46 ∧ ((43 : Nat) : Int) + (32) = ((75 : Nat) : Int) := by decide +kernel
theorem dX7_goAsking_46 : decode bX7_goAsking 46 = .ok (.aload_n 0, 1) ∧ 46 + 1 = 47 := by decide +kernel
theorem dX7_goAsking_47 : decode bX7_goAsking 47 = .ok (.getfield 32, 3) ∧ 47 + 3 = 50 := by decide +kernel
theorem dX7_goAsking_50 : decode bX7_goAsking 50 = .ok (.iload_n 1, 1) ∧ 50 + 1 = 51 := by decide +kernel
theorem dX7_goAsking_51 : decode bX7_goAsking 51 = .ok (.iload_n 2, 1) ∧ 51 + 1 = 52 := by decide +kernel
theorem dX7_goAsking_52 : decode bX7_goAsking 52 = .ok (.iastore, 1) ∧ 52 + 1 = 53 := by decide +kernel
theorem dX7_goAsking_53 : decode bX7_goAsking 53 = .ok (.aload_n 0, 1) ∧ 53 + 1 = 54 := by decide +kernel
theorem dX7_goAsking_54 : decode bX7_goAsking 54 = .ok (.dup, 1) ∧ 54 + 1 = 55 := by decide +kernel
theorem dX7_goAsking_55 : decode bX7_goAsking 55 = .ok (.getfield 7, 3) ∧ 55 + 3 = 58 := by decide +kernel
theorem dX7_goAsking_58 : decode bX7_goAsking 58 = .ok (.iload_n 2, 1) ∧ 58 + 1 = 59 := by decide +kernel
theorem dX7_goAsking_59 : decode bX7_goAsking 59 = .ok (.isub, 1) ∧ 59 + 1 = 60 := by decide +kernel
theorem dX7_goAsking_60 : decode bX7_goAsking 60 = .ok (.putfield 7, 3) ∧ 60 + 3 = 63 := by decide +kernel
theorem dX7_goAsking_63 : decode bX7_goAsking 63 = .ok (.aload_n 0, 1) ∧ 63 + 1 = 64 := by decide +kernel
theorem dX7_goAsking_64 : decode bX7_goAsking 64 = .ok (.getfield 35, 3) ∧ 64 + 3 = 67 := by decide +kernel
theorem dX7_goAsking_67 : decode bX7_goAsking 67 = .ok (.iload_n 1, 1) ∧ 67 + 1 = 68 := by decide +kernel
theorem dX7_goAsking_68 : decode bX7_goAsking 68 = .ok (.aload_n 0, 1) ∧ 68 + 1 = 69 := by decide +kernel
theorem dX7_goAsking_69 : decode bX7_goAsking 69 = .ok (.iload_n 1, 1) ∧ 69 + 1 = 70 := by decide +kernel
theorem dX7_goAsking_70 : decode bX7_goAsking 70 = .ok (.invokevirtual 362, 3) ∧ 70 + 3 = 73 := by decide +kernel
theorem dX7_goAsking_73 : decode bX7_goAsking 73 = .ok (.iastore, 1) ∧ 73 + 1 = 74 := by decide +kernel
theorem dX7_goAsking_74 : decode bX7_goAsking 74 = .ok (.return_, 1) := by decide +kernel
theorem dX7_goAsking_75 : decode bX7_goAsking 75 = .ok (.aload_n 0, 1) ∧ 75 + 1 = 76 := by decide +kernel
theorem dX7_goAsking_76 : decode bX7_goAsking 76 = .ok (.getfield 41, 3) ∧ 76 + 3 = 79 := by decide +kernel
theorem dX7_goAsking_79 : decode bX7_goAsking 79 = .ok (.iload_n 1, 1) ∧ 79 + 1 = 80 := by decide +kernel
theorem dX7_goAsking_80 : decode bX7_goAsking 80 = .ok (.aload_n 0, 1) ∧ 80 + 1 = 81 := by decide +kernel
theorem dX7_goAsking_81 : decode bX7_goAsking 81 = .ok (.aload_n 0, 1) ∧ 81 + 1 = 82 := by decide +kernel
theorem dX7_goAsking_82 : decode bX7_goAsking 82 = .ok (.getfield 41, 3) ∧ 82 + 3 = 85 := by decide +kernel
theorem dX7_goAsking_85 : decode bX7_goAsking 85 = .ok (.iload_n 1, 1) ∧ 85 + 1 = 86 := by decide +kernel
theorem dX7_goAsking_86 : decode bX7_goAsking 86 = .ok (.iaload, 1) ∧ 86 + 1 = 87 := by decide +kernel
theorem dX7_goAsking_87 : decode bX7_goAsking 87 = .ok (.iconst 1, 1) ∧ 87 + 1 = 88 := by decide +kernel
theorem dX7_goAsking_88 : decode bX7_goAsking 88 = .ok (.iadd, 1) ∧ 88 + 1 = 89 := by decide +kernel
theorem dX7_goAsking_89 : decode bX7_goAsking 89 = .ok (.aload_n 0, 1) ∧ 89 + 1 = 90 := by decide +kernel
theorem dX7_goAsking_90 : decode bX7_goAsking 90 = .ok (.getfield 111, 3) ∧ 90 + 3 = 93 := by decide +kernel
theorem dX7_goAsking_93 : decode bX7_goAsking 93 = .ok (.invokevirtual 284, 3) ∧ 93 + 3 = 96 := by decide +kernel
theorem dX7_goAsking_96 : decode bX7_goAsking 96 = .ok (.iastore, 1) ∧ 96 + 1 = 97 := by decide +kernel
theorem dX7_goAsking_97 : decode bX7_goAsking 97 = .ok (.aload_n 0, 1) ∧ 97 + 1 = 98 := by decide +kernel
theorem dX7_goAsking_98 : decode bX7_goAsking 98 = .ok (.dup, 1) ∧ 98 + 1 = 99 := by decide +kernel
theorem dX7_goAsking_99 : decode bX7_goAsking 99 = .ok (.getfield 114, 3) ∧ 99 + 3 = 102 := by decide +kernel
theorem dX7_goAsking_102 : decode bX7_goAsking 102 = .ok (.iconst 1, 1) ∧ 102 + 1 = 103 := by decide +kernel
theorem dX7_goAsking_103 : decode bX7_goAsking 103 = .ok (.iadd, 1) ∧ 103 + 1 = 104 := by decide +kernel
theorem dX7_goAsking_104 : decode bX7_goAsking 104 = .ok (.putfield 114, 3) ∧ 104 + 3 = 107 := by decide +kernel
theorem dX7_goAsking_107 : decode bX7_goAsking 107 = .ok (.aload_n 0, 1) ∧ 107 + 1 = 108 := by decide +kernel
theorem dX7_goAsking_108 : decode bX7_goAsking 108 = .ok (.getfield 38, 3) ∧ 108 + 3 = 111 := by decide +kernel
theorem dX7_goAsking_111 : decode bX7_goAsking 111 = .ok (.iload_n 1, 1) ∧ 111 + 1 = 112 := by decide +kernel
theorem dX7_goAsking_112 : decode bX7_goAsking 112 = .ok (.aload_n 0, 1) ∧ 112 + 1 = 113 := by decide +kernel
theorem dX7_goAsking_113 : decode bX7_goAsking 113 = .ok (.aload_n 0, 1) ∧ 113 + 1 = 114 := by decide +kernel
theorem dX7_goAsking_114 : decode bX7_goAsking 114 = .ok (.getfield 38, 3) ∧ 114 + 3 = 117 := by decide +kernel
theorem dX7_goAsking_117 : decode bX7_goAsking 117 = .ok (.iload_n 1, 1) ∧ 117 + 1 = 118 := by decide +kernel
theorem dX7_goAsking_118 : decode bX7_goAsking 118 = .ok (.iaload, 1) ∧ 118 + 1 = 119 := by decide +kernel
theorem dX7_goAsking_119 : decode bX7_goAsking 119 = .ok (.aload_n 0, 1) ∧ 119 + 1 = 120 := by decide +kernel
theorem dX7_goAsking_120 : decode bX7_goAsking 120 = .ok (.iconst 4, 1) ∧ 120 + 1 = 121 := by decide +kernel
theorem dX7_goAsking_121 : decode bX7_goAsking 121 = .ok (.iconst 0, 1) ∧ 121 + 1 = 122 := by decide +kernel
theorem dX7_goAsking_122 : decode bX7_goAsking 122 = .ok (.invokevirtual 344, 3) ∧ 122 + 3 = 125 := by decide +kernel
theorem dX7_goAsking_125 : decode bX7_goAsking 125 = .ok (.isub, 1) ∧ 125 + 1 = 126 := by decide +kernel
theorem dX7_goAsking_126 : decode bX7_goAsking 126 = .ok (.ldc_w 374, 3) ∧ 126 + 3 = 129 := by decide +kernel
theorem dX7_goAsking_129 : decode bX7_goAsking 129 = .ok (.invokevirtual 284, 3) ∧ 129 + 3 = 132 := by decide +kernel
theorem dX7_goAsking_132 : decode bX7_goAsking 132 = .ok (.iastore, 1) ∧ 132 + 1 = 133 := by decide +kernel
theorem dX7_goAsking_133 : decode bX7_goAsking 133 = .ok (.return_, 1) := by decide +kernel
theorem dX7_goDay_0 : decode bX7_goDay 0 = .ok (.iconst 0, 1) ∧ 0 + 1 = 1 := by decide +kernel
theorem dX7_goDay_1 : decode bX7_goDay 1 = .ok (.istore_n 1, 1) ∧ 1 + 1 = 2 := by decide +kernel
theorem dX7_goDay_2 : decode bX7_goDay 2 = .ok (.iload_n 1, 1) ∧ 2 + 1 = 3 := by decide +kernel
theorem dX7_goDay_3 : decode bX7_goDay 3 = .ok (.aload_n 0, 1) ∧ 3 + 1 = 4 := by decide +kernel
theorem dX7_goDay_4 : decode bX7_goDay 4 = .ok (.getfield 13, 3) ∧ 4 + 3 = 7 := by decide +kernel
theorem dX7_goDay_7 : decode bX7_goDay 7 = .ok (.if_icmp .ge 46, 3) ∧ 7 + 3 = 10 ∧ ((7 : Nat) : Int) + (46) = ((53 : Nat) : Int) := by decide +kernel
theorem dX7_goDay_10 : decode bX7_goDay 10 = .ok (.aload_n 0, 1) ∧ 10 + 1 = 11 := by decide +kernel
theorem dX7_goDay_11 : decode bX7_goDay 11 = .ok (.getfield 32, 3) ∧ 11 + 3 = 14 := by decide +kernel
theorem dX7_goDay_14 : decode bX7_goDay 14 = .ok (.aload_n 0, 1) ∧ 14 + 1 = 15 := by decide +kernel
theorem dX7_goDay_15 : decode bX7_goDay 15 = .ok (.getfield 47, 3) ∧ 15 + 3 = 18 := by decide +kernel
theorem dX7_goDay_18 : decode bX7_goDay 18 = .ok (.iload_n 1, 1) ∧ 18 + 1 = 19 := by decide +kernel
theorem dX7_goDay_19 : decode bX7_goDay 19 = .ok (.iaload, 1) ∧ 19 + 1 = 20 := by decide +kernel
theorem dX7_goDay_20 : decode bX7_goDay 20 = .ok (.iaload, 1) ∧ 20 + 1 = 21 := by decide +kernel
theorem dX7_goDay_21 : decode bX7_goDay 21 = .ok (.ifCond .le 16, 3) ∧ 21 + 3 = 24 ∧ ((21 : Nat) : Int) + (16) = ((37 : Nat) : Int) := by decide +kernel
theorem dX7_goDay_24 : decode bX7_goDay 24 = .ok (.aload_n 0, 1) ∧ 24 + 1 = 25 := by decide +kernel
theorem dX7_goDay_25 : decode bX7_goDay 25 = .ok (.aload_n 0, 1) ∧ 25 + 1 = 26 := by decide +kernel
theorem dX7_goDay_26 : decode bX7_goDay 26 = .ok (.getfield 47, 3) ∧ 26 + 3 = 29 := by decide +kernel
theorem dX7_goDay_29 : decode bX7_goDay 29 = .ok (.iload_n 1, 1) ∧ 29 + 1 = 30 := by decide +kernel
theorem dX7_goDay_30 : decode bX7_goDay 30 = .ok (.iaload, 1) ∧ 30 + 1 = 31 := by decide +kernel
theorem dX7_goDay_31 : decode bX7_goDay 31 = .ok (.invokevirtual 375, 3) ∧ 31 + 3 = 34 := by decide +kernel
theorem dX7_goDay_34 : decode bX7_goDay 34 = .ok (.goto 13, 3) ∧ ((34 : Nat) : Int) + (13) = ((47 : Nat) : Int) := by decide +kernel
theorem dX7_goDay_37 : decode bX7_goDay 37 = .ok (.aload_n 0, 1) ∧ 37 + 1 = 38 := by decide +kernel
theorem dX7_goDay_38 : decode bX7_goDay 38 = .ok (.aload_n 0, 1) ∧ 38 + 1 = 39 := by decide +kernel
theorem dX7_goDay_39 : decode bX7_goDay 39 = .ok (.getfield 47, 3) ∧ 39 + 3 = 42 := by decide +kernel
theorem dX7_goDay_42 : decode bX7_goDay 42 = .ok (.iload_n 1, 1) ∧ 42 + 1 = 43 := by decide +kernel
theorem dX7_goDay_43 : decode bX7_goDay 43 = .ok (.iaload, 1) ∧ 43 + 1 = 44 := by decide +kernel
theorem dX7_goDay_44 : decode bX7_goDay 44 = .ok (.invokevirtual 378, 3) ∧ 44 + 3 = 47 := by decide +kernel
theorem dX7_goDay_47 : decode bX7_goDay 47 = .ok (.iinc 1 1, 3) ∧ 47 + 3 = 50 := by decide +kernel
theorem dX7_goDay_50 : decode bX7_goDay 50 = .ok (.goto (-48), 3) ∧ ((50 : Nat) : Int) + (-48) = ((2 : Nat) : Int) := by decide +kernel
theorem dX7_goDay_53 : decode bX7_goDay 53 = .ok (.aload_n 0, 1) ∧ 53 + 1 = 54 := by decide +kernel
theorem dX7_goDay_54 : decode bX7_goDay 54 = .ok (.aload_n 0, 1) ∧ 54 + 1 = 55 := by decide +kernel
theorem dX7_goDay_55 : decode bX7_goDay 55 = .ok (.aload_n 0, 1) ∧ 55 + 1 = 56 := by decide +kernel
theorem dX7_goDay_56 : decode bX7_goDay 56 = .ok (.getfield 7, 3) ∧ 56 + 3 = 59 := by decide +kernel
theorem dX7_goDay_59 : decode bX7_goDay 59 = .ok (.aload_n 0, 1) ∧ 59 + 1 = 60 := by decide +kernel
theorem dX7_goDay_60 : decode bX7_goDay 60 = .ok (.iconst 3, 1) ∧ 60 + 1 = 61 := by decide +kernel
theorem dX7_goDay_61 : decode bX7_goDay 61 = .ok (.iconst 0, 1) ∧ 61 + 1 = 62 := by decide +kernel
theorem dX7_goDay_62 : decode bX7_goDay 62 = .ok (.invokevirtual 344, 3) ∧ 62 + 3 = 65 := by decide +kernel
theorem dX7_goDay_65 : decode bX7_goDay 65 = .ok (.iadd, 1) ∧ 65 + 1 = 66 := by decide +kernel
theorem dX7_goDay_66 : decode bX7_goDay 66 = .ok (.sipush 9999, 3) ∧ 66 + 3 = 69 := by decide +kernel
theorem dX7_goDay_69 : decode bX7_goDay 69 = .ok (.invokevirtual 284, 3) ∧ 69 + 3 = 72 := by decide +kernel
theorem dX7_goDay_72 : decode bX7_goDay 72 = .ok (.putfield 7, 3) ∧ 72 + 3 = 75 := by decide +kernel
theorem dX7_goDay_75 : decode bX7_goDay 75 = .ok (.aload_n 0, 1) ∧ 75 + 1 = 76 := by decide +kernel
theorem dX7_goDay_76 : decode bX7_goDay 76 = .ok (.dup, 1) ∧ 76 + 1 = 77 := by decide +kernel
theorem dX7_goDay_77 : decode bX7_goDay 77 = .ok (.getfield 16, 3) ∧ 77 + 3 = 80 := by decide +kernel
theorem dX7_goDay_80 : decode bX7_goDay 80 = .ok (.iconst 1, 1) ∧ 80 + 1 = 81 := by decide +kernel
theorem dX7_goDay_81 : decode bX7_goDay 81 = .ok (.iadd, 1) ∧ 81 + 1 = 82 := by decide +kernel
theorem dX7_goDay_82 : decode bX7_goDay 82 = .ok (.putfield 16, 3) ∧ 82 + 3 = 85 := by decide +kernel
theorem dX7_goDay_85 : decode bX7_goDay 85 = .ok (.return_, 1) := by decide +kernel
