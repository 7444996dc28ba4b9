/-! the instructions as they are decoded; written by wip/whole/gen_code.py -/
theorem dX0_forget_0 : decode bX0_forget 0 = .ok (.aload_n 0, 1) ∧ 0 + 1 = 1 := by decide +kernel
theorem dX0_forget_1 : decode bX0_forget 1 = .ok (.iconst 0, 1) ∧ 1 + 1 = 2 := by decide +kernel
theorem dX0_forget_2 : decode bX0_forget 2 = .ok (.putfield 9, 3) ∧ 2 + 3 = 5 := by decide +kernel
theorem dX0_forget_5 : decode bX0_forget 5 = .ok (.return_, 1) := by decide +kernel
theorem dX0_traced_0 : decode bX0_traced 0 = .ok (.iload_n 1, 1) ∧ 0 + 1 = 1 := by decide +kernel
theorem dX0_traced_1 : decode bX0_traced 1 = .ok (.ifCond .lt 26, 3) ∧ 1 + 3 = 4 ∧ ((1 : Nat) : Int) + (26) = ((27 : Nat) : Int) := by decide +kernel
theorem dX0_traced_4 : decode bX0_traced 4 = .ok (.iload_n 1, 1) ∧ 4 + 1 = 5 := by decide +kernel
theorem dX0_traced_5 : decode bX0_traced 5 = .ok (.aload_n 0, 1) ∧ 5 + 1 = 6 := by decide +kernel
theorem dX0_traced_6 : decode bX0_traced 6 = .ok (.getfield 9, 3) ∧ 6 + 3 = 9 := by decide +kernel
theorem dX0_traced_9 : decode bX0_traced 9 = .ok (.if_icmp .ge 18, 3) ∧ 9 + 3 = 12 ∧ ((9 : Nat) : Int) + (18) = ((27 : Nat) : Int) := by decide +kernel
theorem dX0_traced_12 : decode bX0_traced 12 = .ok (.iload_n 1, 1) ∧ 12 + 1 = 13 := by decide +kernel
theorem dX0_traced_13 : decode bX0_traced 13 = .ok (.bipush 20, 2) ∧ 13 + 2 = 15 := by decide +kernel
theorem dX0_traced_15 : decode bX0_traced 15 = .ok (.if_icmp .ge 12, 3) ∧ 15 + 3 = 18 ∧ ((15 : Nat) : Int) + (12) = ((27 : Nat) : Int) := by decide +kernel
theorem dX0_traced_18 : decode bX0_traced 18 = .ok (.aload_n 0, 1) ∧ 18 + 1 = 19 := by decide +kernel
theorem dX0_traced_19 : decode bX0_traced 19 = .ok (.getfield 15, 3) ∧ 19 + 3 = 22 := by decide +kernel
theorem dX0_traced_22 : decode bX0_traced 22 = .ok (.iload_n 1, 1) ∧ 22 + 1 = 23 := by decide +kernel
theorem dX0_traced_23 : decode bX0_traced 23 = .ok (.iaload, 1) ∧ 23 + 1 = 24 := by decide +kernel
theorem dX0_traced_24 : decode bX0_traced 24 = .ok (.goto 4, 3) ∧ ((24 : Nat) : Int) + (4) = ((28 : Nat) : Int) := by decide +kernel
theorem dX0_traced_27 : decode bX0_traced 27 = .ok (.iconst (-1), 1) ∧ 27 + 1 = 28 := by decide +kernel
theorem dX0_traced_28 : decode bX0_traced 28 = .ok (.ireturn, 1) := by decide +kernel
theorem dX0_perform_0 : decode bX0_perform 0 = .ok (.aload_n 0, 1) ∧ 0 + 1 = 1 := by decide +kernel
theorem dX0_perform_1 : decode bX0_perform 1 = .ok (.iload_n 2, 1) ∧ 1 + 1 = 2 := by decide +kernel
theorem dX0_perform_2 : decode bX0_perform 2 = .ok (.putfield 19, 3) ∧ 2 + 3 = 5 := by decide +kernel
theorem dX0_perform_5 : decode bX0_perform 5 = .ok (.aload_n 0, 1) ∧ 5 + 1 = 6 := by decide +kernel
theorem dX0_perform_6 : decode bX0_perform 6 = .ok (.aload_n 1, 1) ∧ 6 + 1 = 7 := by decide +kernel
theorem dX0_perform_7 : decode bX0_perform 7 = .ok (.getfield 28, 3) ∧ 7 + 3 = 10 := by decide +kernel
theorem dX0_perform_10 : decode bX0_perform 10 = .ok (.iload_n 2, 1) ∧ 10 + 1 = 11 := by decide +kernel
theorem dX0_perform_11 : decode bX0_perform 11 = .ok (.iaload, 1) ∧ 11 + 1 = 12 := by decide +kernel
theorem dX0_perform_12 : decode bX0_perform 12 = .ok (.putfield 22, 3) ∧ 12 + 3 = 15 := by decide +kernel
theorem dX0_perform_15 : decode bX0_perform 15 = .ok (.aload_n 0, 1) ∧ 15 + 1 = 16 := by decide +kernel
theorem dX0_perform_16 : decode bX0_perform 16 = .ok (.aload_n 1, 1) ∧ 16 + 1 = 17 := by decide +kernel
theorem dX0_perform_17 : decode bX0_perform 17 = .ok (.getfield 32, 3) ∧ 17 + 3 = 20 := by decide +kernel
theorem dX0_perform_20 : decode bX0_perform 20 = .ok (.iload_n 2, 1) ∧ 20 + 1 = 21 := by decide +kernel
theorem dX0_perform_21 : decode bX0_perform 21 = .ok (.iaload, 1) ∧ 21 + 1 = 22 := by decide +kernel
theorem dX0_perform_22 : decode bX0_perform 22 = .ok (.putfield 25, 3) ∧ 22 + 3 = 25 := by decide +kernel
theorem dX0_perform_25 : decode bX0_perform 25 = .ok (.aload_n 0, 1) ∧ 25 + 1 = 26 := by decide +kernel
theorem dX0_perform_26 : decode bX0_perform 26 = .ok (.aload_n 0, 1) ∧ 26 + 1 = 27 := by decide +kernel
theorem dX0_perform_27 : decode bX0_perform 27 = .ok (.getfield 22, 3) ∧ 27 + 3 = 30 := by decide +kernel
theorem dX0_perform_30 : decode bX0_perform 30 = .ok (.iload_n 3, 1) ∧ 30 + 1 = 31 := by decide +kernel
theorem dX0_perform_31 : decode bX0_perform 31 = .ok (.iload 4, 2) ∧ 31 + 2 = 33 := by decide +kernel
theorem dX0_perform_33 : decode bX0_perform 33 = .ok (.iconst 0, 1) ∧ 33 + 1 = 34 := by decide +kernel
theorem dX0_perform_34 : decode bX0_perform 34 = .ok (.invokevirtual 34, 3) ∧ 34 + 3 = 37 := by decide +kernel
theorem dX0_perform_37 : decode bX0_perform 37 = .ok (.ireturn, 1) := by decide +kernel
theorem dX0_from_0 : decode bX0_from 0 = .ok (.iload 4, 2) ∧ 0 + 2 = 2 := by decide +kernel
theorem dX0_from_2 : decode bX0_from 2 = .ok (.bipush 40, 2) ∧ 2 + 2 = 4 := by decide +kernel
theorem dX0_from_4 : decode bX0_from 4 = .ok (.if_icmp .le 5, 3) ∧ 4 + 3 = 7 ∧ ((4 : Nat) : Int) + (5) = ((9 : Nat) : Int) := by decide +kernel
theorem dX0_from_7 : decode bX0_from 7 = .ok (.iconst 0, 1) ∧ 7 + 1 = 8 := by decide +kernel
theorem dX0_from_8 : decode bX0_from 8 = .ok (.ireturn, 1) := by decide +kernel
theorem dX0_from_9 : decode bX0_from 9 = .ok (.iload_n 1, 1) ∧ 9 + 1 = 10 := by decide +kernel
theorem dX0_from_10 : decode bX0_from 10 = .ok (.istore 5, 2) ∧ 10 + 2 = 12 := by decide +kernel
theorem dX0_from_12 : decode bX0_from 12 = .ok (.iconst 0, 1) ∧ 12 + 1 = 13 := by decide +kernel
theorem dX0_from_13 : decode bX0_from 13 = .ok (.istore 6, 2) ∧ 13 + 2 = 15 := by decide +kernel
theorem dX0_from_15 : decode bX0_from 15 = .ok (.iload 6, 2) ∧ 15 + 2 = 17 := by decide +kernel
theorem dX0_from_17 : decode bX0_from 17 = .ok (.bipush 7, 2) ∧ 17 + 2 = 19 := by decide +kernel
theorem dX0_from_19 : decode bX0_from 19 = .ok (.if_icmp .ge 35, 3) ∧ 19 + 3 = 22 ∧ ((19 : Nat) : Int) + (35) = ((54 : Nat) : Int) := by decide +kernel
theorem dX0_from_22 : decode bX0_from 22 = .ok (.iload 5, 2) ∧ 22 + 2 = 24 := by decide +kernel
theorem dX0_from_24 : decode bX0_from 24 = .ok (.ifCond .le 30, 3) ∧ 24 + 3 = 27 ∧ ((24 : Nat) : Int) + (30) = ((54 : Nat) : Int) := by decide +kernel
theorem dX0_from_27 : decode bX0_from 27 = .ok (.getstatic 38, 3) ∧ 27 + 3 = 30 := by decide +kernel
theorem dX0_from_30 : decode bX0_from 30 = .ok (.iload 5, 2) ∧ 30 + 2 = 32 := by decide +kernel
theorem dX0_from_32 : decode bX0_from 32 = .ok (.iconst 3, 1) ∧ 32 + 1 = 33 := by decide +kernel
theorem dX0_from_33 : decode bX0_from 33 = .ok (.imul, 1) ∧ 33 + 1 = 34 := by decide +kernel
theorem dX0_from_34 : decode bX0_from 34 = .ok (.iload_n 2, 1) ∧ 34 + 1 = 35 := by decide +kernel
theorem dX0_from_35 : decode bX0_from 35 = .ok (.iadd, 1) ∧ 35 + 1 = 36 := by decide +kernel
theorem dX0_from_36 : decode bX0_from 36 = .ok (.iaload, 1) ∧ 36 + 1 = 37 := by decide +kernel
theorem dX0_from_37 : decode bX0_from 37 = .ok (.ifCond .ne 17, 3) ∧ 37 + 3 = 40 ∧ ((37 : Nat) : Int) + (17) = ((54 : Nat) : Int) := by decide +kernel
theorem dX0_from_40 : decode bX0_from 40 = .ok (.getstatic 41, 3) ∧ 40 + 3 = 43 := by decide +kernel
theorem dX0_from_43 : decode bX0_from 43 = .ok (.iload 5, 2) ∧ 43 + 2 = 45 := by decide +kernel
theorem dX0_from_45 : decode bX0_from 45 = .ok (.iaload, 1) ∧ 45 + 1 = 46 := by decide +kernel
theorem dX0_from_46 : decode bX0_from 46 = .ok (.istore 5, 2) ∧ 46 + 2 = 48 := by decide +kernel
theorem dX0_from_48 : decode bX0_from 48 = .ok (.iinc 6 1, 3) ∧ 48 + 3 = 51 := by decide +kernel
theorem dX0_from_51 : decode bX0_from 51 = .ok (.goto (-36), 3) ∧ ((51 : Nat) : Int) + (-36) = ((15 : Nat) : Int) := by decide +kernel
theorem dX0_from_54 : decode bX0_from 54 = .ok (.iload 5, 2) ∧ 54 + 2 = 56 := by decide +kernel
theorem dX0_from_56 : decode bX0_from 56 = .ok (.ifCond .lt 10, 3) ∧ 56 + 3 = 59 ∧ ((56 : Nat) : Int) + (10) = ((66 : Nat) : Int) := by decide +kernel
theorem dX0_from_59 : decode bX0_from 59 = .ok (.iload 5, 2) ∧ 59 + 2 = 61 := by decide +kernel
theorem dX0_from_61 : decode bX0_from 61 = .ok (.bipush 7, 2) ∧ 61 + 2 = 63 := by decide +kernel
theorem dX0_from_63 : decode bX0_from 63 = .ok (.if_icmp .lt 5, 3) ∧ 63 + 3 = 66 ∧ ((63 : Nat) : Int) + (5) = ((68 : Nat) : Int) := by decide +kernel
theorem dX0_from_66 : decode bX0_from 66 = .ok (.iconst 0, 1) ∧ 66 + 1 = 67 := by decide +kernel
theorem dX0_from_67 : decode bX0_from 67 = .ok (.ireturn, 1) := by decide +kernel
theorem dX0_from_68 : decode bX0_from 68 = .ok (.getstatic 38, 3) ∧ 68 + 3 = 71 := by decide +kernel
theorem dX0_from_71 : decode bX0_from 71 = .ok (.iload 5, 2) ∧ 71 + 2 = 73 := by decide +kernel
theorem dX0_from_73 : decode bX0_from 73 = .ok (.iconst 3, 1) ∧ 73 + 1 = 74 := by decide +kernel
theorem dX0_from_74 : decode bX0_from 74 = .ok (.imul, 1) ∧ 74 + 1 = 75 := by decide +kernel
theorem dX0_from_75 : decode bX0_from 75 = .ok (.iload_n 2, 1) ∧ 75 + 1 = 76 := by decide +kernel
theorem dX0_from_76 : decode bX0_from 76 = .ok (.iadd, 1) ∧ 76 + 1 = 77 := by decide +kernel
theorem dX0_from_77 : decode bX0_from 77 = .ok (.iaload, 1) ∧ 77 + 1 = 78 := by decide +kernel
theorem dX0_from_78 : decode bX0_from 78 = .ok (.istore 6, 2) ∧ 78 + 2 = 80 := by decide +kernel
theorem dX0_from_80 : decode bX0_from 80 = .ok (.aload_n 0, 1) ∧ 80 + 1 = 81 := by decide +kernel
theorem dX0_from_81 : decode bX0_from 81 = .ok (.getfield 9, 3) ∧ 81 + 3 = 84 := by decide +kernel
theorem dX0_from_84 : decode bX0_from 84 = .ok (.bipush 20, 2) ∧ 84 + 2 = 86 := by decide +kernel
theorem dX0_from_86 : decode bX0_from 86 = .ok (.if_icmp .ge 14, 3) ∧ 86 + 3 = 89 ∧ ((86 : Nat) : Int) + (14) = ((100 : Nat) : Int) := by decide +kernel
theorem dX0_from_89 : decode bX0_from 89 = .ok (.aload_n 0, 1) ∧ 89 + 1 = 90 := by decide +kernel
theorem dX0_from_90 : decode bX0_from 90 = .ok (.getfield 15, 3) ∧ 90 + 3 = 93 := by decide +kernel
theorem dX0_from_93 : decode bX0_from 93 = .ok (.aload_n 0, 1) ∧ 93 + 1 = 94 := by decide +kernel
theorem dX0_from_94 : decode bX0_from 94 = .ok (.getfield 9, 3) ∧ 94 + 3 = 97 := by decide +kernel
theorem dX0_from_97 : decode bX0_from 97 = .ok (.iload 6, 2) ∧ 97 + 2 = 99 := by decide +kernel
theorem dX0_from_99 : decode bX0_from 99 = .ok (.iastore, 1) ∧ 99 + 1 = 100 := by decide +kernel
theorem dX0_from_100 : decode bX0_from 100 = .ok (.aload_n 0, 1) ∧ 100 + 1 = 101 := by decide +kernel
theorem dX0_from_101 : decode bX0_from 101 = .ok (.dup, 1) ∧ 101 + 1 = 102 := by decide +kernel
theorem dX0_from_102 : decode bX0_from 102 = .ok (.getfield 9, 3) ∧ 102 + 3 = 105 := by decide +kernel
theorem dX0_from_105 : decode bX0_from 105 = .ok (.iconst 1, 1) ∧ 105 + 1 = 106 := by decide +kernel
theorem dX0_from_106 : decode bX0_from 106 = .ok (.iadd, 1) ∧ 106 + 1 = 107 := by decide +kernel
theorem dX0_from_107 : decode bX0_from 107 = .ok (.putfield 9, 3) ∧ 107 + 3 = 110 := by decide +kernel
theorem dX0_from_110 : decode bX0_from 110 = .ok (.aload_n 0, 1) ∧ 110 + 1 = 111 := by decide +kernel
theorem dX0_from_111 : decode bX0_from 111 = .ok (.iload 6, 2) ∧ 111 + 2 = 113 := by decide +kernel
theorem dX0_from_113 : decode bX0_from 113 = .ok (.getstatic 41, 3) ∧ 113 + 3 = 116 := by decide +kernel
theorem dX0_from_116 : decode bX0_from 116 = .ok (.iload 5, 2) ∧ 116 + 2 = 118 := by decide +kernel
theorem dX0_from_118 : decode bX0_from 118 = .ok (.iaload, 1) ∧ 118 + 1 = 119 := by decide +kernel
theorem dX0_from_119 : decode bX0_from 119 = .ok (.iload_n 3, 1) ∧ 119 + 1 = 120 := by decide +kernel
theorem dX0_from_120 : decode bX0_from 120 = .ok (.iload 4, 2) ∧ 120 + 2 = 122 := by decide +kernel
theorem dX0_from_122 : decode bX0_from 122 = .ok (.iconst 1, 1) ∧ 122 + 1 = 123 := by decide +kernel
theorem dX0_from_123 : decode bX0_from 123 = .ok (.iadd, 1) ∧ 123 + 1 = 124 := by decide +kernel
theorem dX0_from_124 : decode bX0_from 124 = .ok (.invokevirtual 44, 3) ∧ 124 + 3 = 127 := by decide +kernel
theorem dX0_from_127 : decode bX0_from 127 = .ok (.ireturn, 1) := by decide +kernel
theorem dX0_run_0 : decode bX0_run 0 = .ok (.iload_n 1, 1) ∧ 0 + 1 = 1 := by decide +kernel
theorem dX0_run_1 : decode bX0_run 1 = .ok (.lookupswitch 260 #[(10, 99), (11, 106), (12, 124), (20, 139), (30, 152), (40, 164), (50, 187), (51, 198), (60, 210), (70, 225), (71, 245)], 99) := by decide +kernel
theorem dX0_run_100 : decode bX0_run 100 = .ok (.iload_n 3, 1) ∧ 100 + 1 = 101 := by decide +kernel
theorem dX0_run_101 : decode bX0_run 101 = .ok (.aload_n 0, 1) ∧ 101 + 1 = 102 := by decide +kernel
theorem dX0_run_102 : decode bX0_run 102 = .ok (.getfield 19, 3) ∧ 102 + 3 = 105 := by decide +kernel
theorem dX0_run_105 : decode bX0_run 105 = .ok (.iadd, 1) ∧ 105 + 1 = 106 := by decide +kernel
theorem dX0_run_106 : decode bX0_run 106 = .ok (.ireturn, 1) := by decide +kernel
theorem dX0_run_107 : decode bX0_run 107 = .ok (.aload_n 0, 1) ∧ 107 + 1 = 108 := by decide +kernel
theorem dX0_run_108 : decode bX0_run 108 = .ok (.aload_n 0, 1) ∧ 108 + 1 = 109 := by decide +kernel
theorem dX0_run_109 : decode bX0_run 109 = .ok (.getfield 22, 3) ∧ 109 + 3 = 112 := by decide +kernel
theorem dX0_run_112 : decode bX0_run 112 = .ok (.iconst 0, 1) ∧ 112 + 1 = 113 := by decide +kernel
theorem dX0_run_113 : decode bX0_run 113 = .ok (.iload_n 3, 1) ∧ 113 + 1 = 114 := by decide +kernel
theorem dX0_run_114 : decode bX0_run 114 = .ok (.iload 4, 2) ∧ 114 + 2 = 116 := by decide +kernel
theorem dX0_run_116 : decode bX0_run 116 = .ok (.invokevirtual 34, 3) ∧ 116 + 3 = 119 := by decide +kernel
theorem dX0_run_119 : decode bX0_run 119 = .ok (.aload_n 0, 1) ∧ 119 + 1 = 120 := by decide +kernel
theorem dX0_run_120 : decode bX0_run 120 = .ok (.getfield 25, 3) ∧ 120 + 3 = 123 := by decide +kernel
theorem dX0_run_123 : decode bX0_run 123 = .ok (.isub, 1) ∧ 123 + 1 = 124 := by decide +kernel
theorem dX0_run_124 : decode bX0_run 124 = .ok (.ireturn, 1) := by decide +kernel
theorem dX0_run_125 : decode bX0_run 125 = .ok (.aload_n 0, 1) ∧ 125 + 1 = 126 := by decide +kernel
theorem dX0_run_126 : decode bX0_run 126 = .ok (.aload_n 0, 1) ∧ 126 + 1 = 127 := by decide +kernel
theorem dX0_run_127 : decode bX0_run 127 = .ok (.getfield 22, 3) ∧ 127 + 3 = 130 := by decide +kernel
theorem dX0_run_130 : decode bX0_run 130 = .ok (.iconst 1, 1) ∧ 130 + 1 = 131 := by decide +kernel
theorem dX0_run_131 : decode bX0_run 131 = .ok (.iload_n 3, 1) ∧ 131 + 1 = 132 := by decide +kernel
theorem dX0_run_132 : decode bX0_run 132 = .ok (.iload 4, 2) ∧ 132 + 2 = 134 := by decide +kernel
theorem dX0_run_134 : decode bX0_run 134 = .ok (.invokevirtual 34, 3) ∧ 134 + 3 = 137 := by decide +kernel
theorem dX0_run_137 : decode bX0_run 137 = .ok (.iconst 2, 1) ∧ 137 + 1 = 138 := by decide +kernel
theorem dX0_run_138 : decode bX0_run 138 = .ok (.imul, 1) ∧ 138 + 1 = 139 := by decide +kernel
theorem dX0_run_139 : decode bX0_run 139 = .ok (.ireturn, 1) := by decide +kernel
theorem dX0_run_140 : decode bX0_run 140 = .ok (.aload_n 0, 1) ∧ 140 + 1 = 141 := by decide +kernel
theorem dX0_run_141 : decode bX0_run 141 = .ok (.iload_n 2, 1) ∧ 141 + 1 = 142 := by decide +kernel
theorem dX0_run_142 : decode bX0_run 142 = .ok (.iconst 1, 1) ∧ 142 + 1 = 143 := by decide +kernel
theorem dX0_run_143 : decode bX0_run 143 = .ok (.iload_n 3, 1) ∧ 143 + 1 = 144 := by decide +kernel
theorem dX0_run_144 : decode bX0_run 144 = .ok (.iload 4, 2) ∧ 144 + 2 = 146 := by decide +kernel
theorem dX0_run_146 : decode bX0_run 146 = .ok (.invokevirtual 34, 3) ∧ 146 + 3 = 149 := by decide +kernel
theorem dX0_run_149 : decode bX0_run 149 = .ok (.bipush 6, 2) ∧ 149 + 2 = 151 := by decide +kernel
theorem dX0_run_151 : decode bX0_run 151 = .ok (.ixor, 1) ∧ 151 + 1 = 152 := by decide +kernel
theorem dX0_run_152 : decode bX0_run 152 = .ok (.ireturn, 1) := by decide +kernel
theorem dX0_run_153 : decode bX0_run 153 = .ok (.aload_n 0, 1) ∧ 153 + 1 = 154 := by decide +kernel
theorem dX0_run_154 : decode bX0_run 154 = .ok (.iload_n 2, 1) ∧ 154 + 1 = 155 := by decide +kernel
theorem dX0_run_155 : decode bX0_run 155 = .ok (.iconst 0, 1) ∧ 155 + 1 = 156 := by decide +kernel
theorem dX0_run_156 : decode bX0_run 156 = .ok (.iload_n 3, 1) ∧ 156 + 1 = 157 := by decide +kernel
theorem dX0_run_157 : decode bX0_run 157 = .ok (.iconst 3, 1) ∧ 157 + 1 = 158 := by decide +kernel
theorem dX0_run_158 : decode bX0_run 158 = .ok (.imul, 1) ∧ 158 + 1 = 159 := by decide +kernel
theorem dX0_run_159 : decode bX0_run 159 = .ok (.iload 4, 2) ∧ 159 + 2 = 161 := by decide +kernel
theorem dX0_run_161 : decode bX0_run 161 = .ok (.invokevirtual 34, 3) ∧ 161 + 3 = 164 := by decide +kernel
theorem dX0_run_164 : decode bX0_run 164 = .ok (.ireturn, 1) := by decide +kernel
theorem dX0_run_165 : decode bX0_run 165 = .ok (.aload_n 0, 1) ∧ 165 + 1 = 166 := by decide +kernel
theorem dX0_run_166 : decode bX0_run 166 = .ok (.iload_n 2, 1) ∧ 166 + 1 = 167 := by decide +kernel
theorem dX0_run_167 : decode bX0_run 167 = .ok (.iconst 2, 1) ∧ 167 + 1 = 168 := by decide +kernel
theorem dX0_run_168 : decode bX0_run 168 = .ok (.iload_n 3, 1) ∧ 168 + 1 = 169 := by decide +kernel
theorem dX0_run_169 : decode bX0_run 169 = .ok (.iload 4, 2) ∧ 169 + 2 = 171 := by decide +kernel
theorem dX0_run_171 : decode bX0_run 171 = .ok (.invokevirtual 34, 3) ∧ 171 + 3 = 174 := by decide +kernel
theorem dX0_run_174 : decode bX0_run 174 = .ok (.aload_n 0, 1) ∧ 174 + 1 = 175 := by decide +kernel
theorem dX0_run_175 : decode bX0_run 175 = .ok (.aload_n 0, 1) ∧ 175 + 1 = 176 := by decide +kernel
theorem dX0_run_176 : decode bX0_run 176 = .ok (.getfield 22, 3) ∧ 176 + 3 = 179 := by decide +kernel
theorem dX0_run_179 : decode bX0_run 179 = .ok (.iconst 1, 1) ∧ 179 + 1 = 180 := by decide +kernel
theorem dX0_run_180 : decode bX0_run 180 = .ok (.iconst 1, 1) ∧ 180 + 1 = 181 := by decide +kernel
theorem dX0_run_181 : decode bX0_run 181 = .ok (.iload 4, 2) ∧ 181 + 2 = 183 := by decide +kernel
theorem dX0_run_183 : decode bX0_run 183 = .ok (.invokevirtual 34, 3) ∧ 183 + 3 = 186 := by decide +kernel
theorem dX0_run_186 : decode bX0_run 186 = .ok (.iadd, 1) ∧ 186 + 1 = 187 := by decide +kernel
theorem dX0_run_187 : decode bX0_run 187 = .ok (.ireturn, 1) := by decide +kernel
theorem dX0_run_188 : decode bX0_run 188 = .ok (.aload_n 0, 1) ∧ 188 + 1 = 189 := by decide +kernel
theorem dX0_run_189 : decode bX0_run 189 = .ok (.iload_n 2, 1) ∧ 189 + 1 = 190 := by decide +kernel
theorem dX0_run_190 : decode bX0_run 190 = .ok (.iconst 0, 1) ∧ 190 + 1 = 191 := by decide +kernel
theorem dX0_run_191 : decode bX0_run 191 = .ok (.iload_n 3, 1) ∧ 191 + 1 = 192 := by decide +kernel
theorem dX0_run_192 : decode bX0_run 192 = .ok (.iload 4, 2) ∧ 192 + 2 = 194 := by decide +kernel
theorem dX0_run_194 : decode bX0_run 194 = .ok (.invokevirtual 34, 3) ∧ 194 + 3 = 197 := by decide +kernel
theorem dX0_run_197 : decode bX0_run 197 = .ok (.ineg, 1) ∧ 197 + 1 = 198 := by decide +kernel
theorem dX0_run_198 : decode bX0_run 198 = .ok (.ireturn, 1) := by decide +kernel
theorem dX0_run_199 : decode bX0_run 199 = .ok (.aload_n 0, 1) ∧ 199 + 1 = 200 := by decide +kernel
theorem dX0_run_200 : decode bX0_run 200 = .ok (.iload_n 2, 1) ∧ 200 + 1 = 201 := by decide +kernel
theorem dX0_run_201 : decode bX0_run 201 = .ok (.iconst 1, 1) ∧ 201 + 1 = 202 := by decide +kernel
theorem dX0_run_202 : decode bX0_run 202 = .ok (.iload_n 3, 1) ∧ 202 + 1 = 203 := by decide +kernel
theorem dX0_run_203 : decode bX0_run 203 = .ok (.iconst 1, 1) ∧ 203 + 1 = 204 := by decide +kernel
theorem dX0_run_204 : decode bX0_run 204 = .ok (.iadd, 1) ∧ 204 + 1 = 205 := by decide +kernel
theorem dX0_run_205 : decode bX0_run 205 = .ok (.iload 4, 2) ∧ 205 + 2 = 207 := by decide +kernel
theorem dX0_run_207 : decode bX0_run 207 = .ok (.invokevirtual 34, 3) ∧ 207 + 3 = 210 := by decide +kernel
theorem dX0_run_210 : decode bX0_run 210 = .ok (.ireturn, 1) := by decide +kernel
theorem dX0_run_211 : decode bX0_run 211 = .ok (.aload_n 0, 1) ∧ 211 + 1 = 212 := by decide +kernel
theorem dX0_run_212 : decode bX0_run 212 = .ok (.iload_n 2, 1) ∧ 212 + 1 = 213 := by decide +kernel
theorem dX0_run_213 : decode bX0_run 213 = .ok (.iconst 2, 1) ∧ 213 + 1 = 214 := by decide +kernel
theorem dX0_run_214 : decode bX0_run 214 = .ok (.iload_n 3, 1) ∧ 214 + 1 = 215 := by decide +kernel
theorem dX0_run_215 : decode bX0_run 215 = .ok (.aload_n 0, 1) ∧ 215 + 1 = 216 := by decide +kernel
theorem dX0_run_216 : decode bX0_run 216 = .ok (.getfield 19, 3) ∧ 216 + 3 = 219 := by decide +kernel
theorem dX0_run_219 : decode bX0_run 219 = .ok (.isub, 1) ∧ 219 + 1 = 220 := by decide +kernel
theorem dX0_run_220 : decode bX0_run 220 = .ok (.iload 4, 2) ∧ 220 + 2 = 222 := by decide +kernel
theorem dX0_run_222 : decode bX0_run 222 = .ok (.invokevirtual 34, 3) ∧ 222 + 3 = 225 := by decide +kernel
theorem dX0_run_225 : decode bX0_run 225 = .ok (.ireturn, 1) := by decide +kernel
theorem dX0_run_226 : decode bX0_run 226 = .ok (.aload_n 0, 1) ∧ 226 + 1 = 227 := by decide +kernel
theorem dX0_run_227 : decode bX0_run 227 = .ok (.iload_n 2, 1) ∧ 227 + 1 = 228 := by decide +kernel
theorem dX0_run_228 : decode bX0_run 228 = .ok (.iconst 1, 1) ∧ 228 + 1 = 229 := by decide +kernel
theorem dX0_run_229 : decode bX0_run 229 = .ok (.iload_n 3, 1) ∧ 229 + 1 = 230 := by decide +kernel
theorem dX0_run_230 : decode bX0_run 230 = .ok (.iload 4, 2) ∧ 230 + 2 = 232 := by decide +kernel
theorem dX0_run_232 : decode bX0_run 232 = .ok (.invokevirtual 34, 3) ∧ 232 + 3 = 235 := by decide +kernel
theorem dX0_run_235 : decode bX0_run 235 = .ok (.aload_n 0, 1) ∧ 235 + 1 = 236 := by decide +kernel
theorem dX0_run_236 : decode bX0_run 236 = .ok (.iload_n 2, 1) ∧ 236 + 1 = 237 := by decide +kernel
theorem dX0_run_237 : decode bX0_run 237 = .ok (.iconst 0, 1) ∧ 237 + 1 = 238 := by decide +kernel
theorem dX0_run_238 : decode bX0_run 238 = .ok (.iconst 2, 1) ∧ 238 + 1 = 239 := by decide +kernel
theorem dX0_run_239 : decode bX0_run 239 = .ok (.iload 4, 2) ∧ 239 + 2 = 241 := by decide +kernel
theorem dX0_run_241 : decode bX0_run 241 = .ok (.invokevirtual 34, 3) ∧ 241 + 3 = 244 := by decide +kernel
theorem dX0_run_244 : decode bX0_run 244 = .ok (.iadd, 1) ∧ 244 + 1 = 245 := by decide +kernel
theorem dX0_run_245 : decode bX0_run 245 = .ok (.ireturn, 1) := by decide +kernel
theorem dX0_run_246 : decode bX0_run 246 = .ok (.aload_n 0, 1) ∧ 246 + 1 = 247 := by decide +kernel
theorem dX0_run_247 : decode bX0_run 247 = .ok (.iload_n 2, 1) ∧ 247 + 1 = 248 := by decide +kernel
theorem dX0_run_248 : decode bX0_run 248 = .ok (.iconst 0, 1) ∧ 248 + 1 = 249 := by decide +kernel
theorem dX0_run_249 : decode bX0_run 249 = .ok (.iload_n 3, 1) ∧ 249 + 1 = 250 := by decide +kernel
theorem dX0_run_250 : decode bX0_run 250 = .ok (.iload 4, 2) ∧ 250 + 2 = 252 := by decide +kernel
theorem dX0_run_252 : decode bX0_run 252 = .ok (.invokevirtual 34, 3) ∧ 252 + 3 = 255 := by decide +kernel
theorem dX0_run_255 : decode bX0_run 255 = .ok (.aload_n 0, 1) ∧ 255 + 1 = 256 := by decide +kernel
theorem dX0_run_256 : decode bX0_run 256 = .ok (.getfield 25, 3) ∧ 256 + 3 = 259 := by decide +kernel
theorem dX0_run_259 : decode bX0_run 259 = .ok (.ixor, 1) ∧ 259 + 1 = 260 := by decide +kernel
theorem dX0_run_260 : decode bX0_run 260 = .ok (.ireturn, 1) := by decide +kernel
theorem dX0_run_261 : decode bX0_run 261 = .ok (.iconst 0, 1) ∧ 261 + 1 = 262 := by decide +kernel
theorem dX0_run_262 : decode bX0_run 262 = .ok (.ireturn, 1) := by decide +kernel
theorem dX1_clear_0 : decode bX1_clear 0 = .ok (.aload_n 0, 1) ∧ 0 + 1 = 1 := by decide +kernel
theorem dX1_clear_1 : decode bX1_clear 1 = .ok (.bipush 10, 2) ∧ 1 + 2 = 3 := by decide +kernel
theorem dX1_clear_3 : decode bX1_clear 3 = .ok (.putfield 9, 3) ∧ 3 + 3 = 6 := by decide +kernel
theorem dX1_clear_6 : decode bX1_clear 6 = .ok (.aload_n 0, 1) ∧ 6 + 1 = 7 := by decide +kernel
theorem dX1_clear_7 : decode bX1_clear 7 = .ok (.iconst 0, 1) ∧ 7 + 1 = 8 := by decide +kernel
theorem dX1_clear_8 : decode bX1_clear 8 = .ok (.putfield 13, 3) ∧ 8 + 3 = 11 := by decide +kernel
theorem dX1_clear_11 : decode bX1_clear 11 = .ok (.aload_n 0, 1) ∧ 11 + 1 = 12 := by decide +kernel
theorem dX1_clear_12 : decode bX1_clear 12 = .ok (.iconst 0, 1) ∧ 12 + 1 = 13 := by decide +kernel
theorem dX1_clear_13 : decode bX1_clear 13 = .ok (.putfield 16, 3) ∧ 13 + 3 = 16 := by decide +kernel
theorem dX1_clear_16 : decode bX1_clear 16 = .ok (.aload_n 0, 1) ∧ 16 + 1 = 17 := by decide +kernel
theorem dX1_clear_17 : decode bX1_clear 17 = .ok (.iconst 0, 1) ∧ 17 + 1 = 18 := by decide +kernel
theorem dX1_clear_18 : decode bX1_clear 18 = .ok (.putfield 19, 3) ∧ 18 + 3 = 21 := by decide +kernel
theorem dX1_clear_21 : decode bX1_clear 21 = .ok (.aload_n 0, 1) ∧ 21 + 1 = 22 := by decide +kernel
theorem dX1_clear_22 : decode bX1_clear 22 = .ok (.iconst 0, 1) ∧ 22 + 1 = 23 := by decide +kernel
theorem dX1_clear_23 : decode bX1_clear 23 = .ok (.putfield 22, 3) ∧ 23 + 3 = 26 := by decide +kernel
theorem dX1_clear_26 : decode bX1_clear 26 = .ok (.return_, 1) := by decide +kernel
theorem dX1_addStep_0 : decode bX1_addStep 0 = .ok (.aload_n 0, 1) ∧ 0 + 1 = 1 := by decide +kernel
theorem dX1_addStep_1 : decode bX1_addStep 1 = .ok (.getfield 22, 3) ∧ 1 + 3 = 4 := by decide +kernel
theorem dX1_addStep_4 : decode bX1_addStep 4 = .ok (.bipush 100, 2) ∧ 4 + 2 = 6 := by decide +kernel
theorem dX1_addStep_6 : decode bX1_addStep 6 = .ok (.if_icmp .ge 43, 3) ∧ 6 + 3 = 9 ∧ ((6 : Nat) : Int) + (43) = ((49 : Nat) : Int) := by decide +kernel
theorem dX1_addStep_9 : decode bX1_addStep 9 = .ok (.aload_n 0, 1) ∧ 9 + 1 = 10 := by decide +kernel
theorem dX1_addStep_10 : decode bX1_addStep 10 = .ok (.getfield 34, 3) ∧ 10 + 3 = 13 := by decide +kernel
theorem dX1_addStep_13 : decode bX1_addStep 13 = .ok (.aload_n 0, 1) ∧ 13 + 1 = 14 := by decide +kernel
theorem dX1_addStep_14 : decode bX1_addStep 14 = .ok (.getfield 22, 3) ∧ 14 + 3 = 17 := by decide +kernel
theorem dX1_addStep_17 : decode bX1_addStep 17 = .ok (.iload_n 1, 1) ∧ 17 + 1 = 18 := by decide +kernel
theorem dX1_addStep_18 : decode bX1_addStep 18 = .ok (.iastore, 1) ∧ 18 + 1 = 19 := by decide +kernel
theorem dX1_addStep_19 : decode bX1_addStep 19 = .ok (.aload_n 0, 1) ∧ 19 + 1 = 20 := by decide +kernel
theorem dX1_addStep_20 : decode bX1_addStep 20 = .ok (.getfield 37, 3) ∧ 20 + 3 = 23 := by decide +kernel
theorem dX1_addStep_23 : decode bX1_addStep 23 = .ok (.aload_n 0, 1) ∧ 23 + 1 = 24 := by decide +kernel
theorem dX1_addStep_24 : decode bX1_addStep 24 = .ok (.getfield 22, 3) ∧ 24 + 3 = 27 := by decide +kernel
theorem dX1_addStep_27 : decode bX1_addStep 27 = .ok (.iload_n 2, 1) ∧ 27 + 1 = 28 := by decide +kernel
theorem dX1_addStep_28 : decode bX1_addStep 28 = .ok (.iastore, 1) ∧ 28 + 1 = 29 := by decide +kernel
theorem dX1_addStep_29 : decode bX1_addStep 29 = .ok (.aload_n 0, 1) ∧ 29 + 1 = 30 := by decide +kernel
theorem dX1_addStep_30 : decode bX1_addStep 30 = .ok (.getfield 40, 3) ∧ 30 + 3 = 33 := by decide +kernel
theorem dX1_addStep_33 : decode bX1_addStep 33 = .ok (.aload_n 0, 1) ∧ 33 + 1 = 34 := by decide +kernel
theorem dX1_addStep_34 : decode bX1_addStep 34 = .ok (.getfield 22, 3) ∧ 34 + 3 = 37 := by decide +kernel
theorem dX1_addStep_37 : decode bX1_addStep 37 = .ok (.iload_n 3, 1) ∧ 37 + 1 = 38 := by decide +kernel
theorem dX1_addStep_38 : decode bX1_addStep 38 = .ok (.iastore, 1) ∧ 38 + 1 = 39 := by decide +kernel
theorem dX1_addStep_39 : decode bX1_addStep 39 = .ok (.aload_n 0, 1) ∧ 39 + 1 = 40 := by decide +kernel
theorem dX1_addStep_40 : decode bX1_addStep 40 = .ok (.dup, 1) ∧ 40 + 1 = 41 := by decide +kernel
theorem dX1_addStep_41 : decode bX1_addStep 41 = .ok (.getfield 22, 3) ∧ 41 + 3 = 44 := by decide +kernel
theorem dX1_addStep_44 : decode bX1_addStep 44 = .ok (.iconst 1, 1) ∧ 44 + 1 = 45 := by decide +kernel
theorem dX1_addStep_45 : decode bX1_addStep 45 = .ok (.iadd, 1) ∧ 45 + 1 = 46 := by decide +kernel
theorem dX1_addStep_46 : decode bX1_addStep 46 = .ok (.putfield 22, 3) ∧ 46 + 3 = 49 := by decide +kernel
theorem dX1_addStep_49 : decode bX1_addStep 49 = .ok (.return_, 1) := by decide +kernel
theorem dX1_addPrice_0 : decode bX1_addPrice 0 = .ok (.aload_n 0, 1) ∧ 0 + 1 = 1 := by decide +kernel
theorem dX1_addPrice_1 : decode bX1_addPrice 1 = .ok (.getfield 19, 3) ∧ 1 + 3 = 4 := by decide +kernel
theorem dX1_addPrice_4 : decode bX1_addPrice 4 = .ok (.bipush 10, 2) ∧ 4 + 2 = 6 := by decide +kernel
theorem dX1_addPrice_6 : decode bX1_addPrice 6 = .ok (.if_icmp .ge 36, 3) ∧ 6 + 3 = 9 ∧ ((6 : Nat) : Int) + (36) = ((42 : Nat) : Int) := by decide +kernel
theorem dX1_addPrice_9 : decode bX1_addPrice 9 = .ok (.aload_n 0, 1) ∧ 9 + 1 = 10 := by decide +kernel
theorem dX1_addPrice_10 : decode bX1_addPrice 10 = .ok (.getfield 25, 3) ∧ 10 + 3 = 13 := by decide +kernel
theorem dX1_addPrice_13 : decode bX1_addPrice 13 = .ok (.aload_n 0, 1) ∧ 13 + 1 = 14 := by decide +kernel
theorem dX1_addPrice_14 : decode bX1_addPrice 14 = .ok (.getfield 19, 3) ∧ 14 + 3 = 17 := by decide +kernel
theorem dX1_addPrice_17 : decode bX1_addPrice 17 = .ok (.iload_n 1, 1) ∧ 17 + 1 = 18 := by decide +kernel
theorem dX1_addPrice_18 : decode bX1_addPrice 18 = .ok (.iastore, 1) ∧ 18 + 1 = 19 := by decide +kernel
theorem dX1_addPrice_19 : decode bX1_addPrice 19 = .ok (.aload_n 0, 1) ∧ 19 + 1 = 20 := by decide +kernel
theorem dX1_addPrice_20 : decode bX1_addPrice 20 = .ok (.getfield 29, 3) ∧ 20 + 3 = 23 := by decide +kernel
theorem dX1_addPrice_23 : decode bX1_addPrice 23 = .ok (.aload_n 0, 1) ∧ 23 + 1 = 24 := by decide +kernel
theorem dX1_addPrice_24 : decode bX1_addPrice 24 = .ok (.getfield 19, 3) ∧ 24 + 3 = 27 := by decide +kernel
theorem dX1_addPrice_27 : decode bX1_addPrice 27 = .ok (.aload_n 0, 1) ∧ 27 + 1 = 28 := by decide +kernel
theorem dX1_addPrice_28 : decode bX1_addPrice 28 = .ok (.getfield 22, 3) ∧ 28 + 3 = 31 := by decide +kernel
theorem dX1_addPrice_31 : decode bX1_addPrice 31 = .ok (.iastore, 1) ∧ 31 + 1 = 32 := by decide +kernel
theorem dX1_addPrice_32 : decode bX1_addPrice 32 = .ok (.aload_n 0, 1) ∧ 32 + 1 = 33 := by decide +kernel
theorem dX1_addPrice_33 : decode bX1_addPrice 33 = .ok (.dup, 1) ∧ 33 + 1 = 34 := by decide +kernel
theorem dX1_addPrice_34 : decode bX1_addPrice 34 = .ok (.getfield 19, 3) ∧ 34 + 3 = 37 := by decide +kernel
theorem dX1_addPrice_37 : decode bX1_addPrice 37 = .ok (.iconst 1, 1) ∧ 37 + 1 = 38 := by decide +kernel
theorem dX1_addPrice_38 : decode bX1_addPrice 38 = .ok (.iadd, 1) ∧ 38 + 1 = 39 := by decide +kernel
theorem dX1_addPrice_39 : decode bX1_addPrice 39 = .ok (.putfield 19, 3) ∧ 39 + 3 = 42 := by decide +kernel
theorem dX1_addPrice_42 : decode bX1_addPrice 42 = .ok (.return_, 1) := by decide +kernel
theorem dX1_rate_0 : decode bX1_rate 0 = .ok (.aload_n 0, 1) ∧ 0 + 1 = 1 := by decide +kernel
theorem dX1_rate_1 : decode bX1_rate 1 = .ok (.getfield 43, 3) ∧ 1 + 3 = 4 := by decide +kernel
theorem dX1_rate_4 : decode bX1_rate 4 = .ok (.iconst 0, 1) ∧ 4 + 1 = 5 := by decide +kernel
theorem dX1_rate_5 : decode bX1_rate 5 = .ok (.iload_n 2, 1) ∧ 5 + 1 = 6 := by decide +kernel
theorem dX1_rate_6 : decode bX1_rate 6 = .ok (.iastore, 1) ∧ 6 + 1 = 7 := by decide +kernel
theorem dX1_rate_7 : decode bX1_rate 7 = .ok (.aload_n 0, 1) ∧ 7 + 1 = 8 := by decide +kernel
theorem dX1_rate_8 : decode bX1_rate 8 = .ok (.getfield 43, 3) ∧ 8 + 3 = 11 := by decide +kernel
theorem dX1_rate_11 : decode bX1_rate 11 = .ok (.iconst 1, 1) ∧ 11 + 1 = 12 := by decide +kernel
theorem dX1_rate_12 : decode bX1_rate 12 = .ok (.aload_n 1, 1) ∧ 12 + 1 = 13 := by decide +kernel
theorem dX1_rate_13 : decode bX1_rate 13 = .ok (.getfield 46, 3) ∧ 13 + 3 = 16 := by decide +kernel
theorem dX1_rate_16 : decode bX1_rate 16 = .ok (.iload_n 2, 1) ∧ 16 + 1 = 17 := by decide +kernel
theorem dX1_rate_17 : decode bX1_rate 17 = .ok (.iaload, 1) ∧ 17 + 1 = 18 := by decide +kernel
theorem dX1_rate_18 : decode bX1_rate 18 = .ok (.iastore, 1) ∧ 18 + 1 = 19 := by decide +kernel
theorem dX1_rate_19 : decode bX1_rate 19 = .ok (.aload_n 0, 1) ∧ 19 + 1 = 20 := by decide +kernel
theorem dX1_rate_20 : decode bX1_rate 20 = .ok (.getfield 43, 3) ∧ 20 + 3 = 23 := by decide +kernel
theorem dX1_rate_23 : decode bX1_rate 23 = .ok (.iconst 2, 1) ∧ 23 + 1 = 24 := by decide +kernel
theorem dX1_rate_24 : decode bX1_rate 24 = .ok (.aload_n 1, 1) ∧ 24 + 1 = 25 := by decide +kernel
theorem dX1_rate_25 : decode bX1_rate 25 = .ok (.getfield 51, 3) ∧ 25 + 3 = 28 := by decide +kernel
theorem dX1_rate_28 : decode bX1_rate 28 = .ok (.iload_n 2, 1) ∧ 28 + 1 = 29 := by decide +kernel
theorem dX1_rate_29 : decode bX1_rate 29 = .ok (.iaload, 1) ∧ 29 + 1 = 30 := by decide +kernel
theorem dX1_rate_30 : decode bX1_rate 30 = .ok (.iastore, 1) ∧ 30 + 1 = 31 := by decide +kernel
theorem dX1_rate_31 : decode bX1_rate 31 = .ok (.aload_n 0, 1) ∧ 31 + 1 = 32 := by decide +kernel
theorem dX1_rate_32 : decode bX1_rate 32 = .ok (.getfield 43, 3) ∧ 32 + 3 = 35 := by decide +kernel
theorem dX1_rate_35 : decode bX1_rate 35 = .ok (.iconst 3, 1) ∧ 35 + 1 = 36 := by decide +kernel
theorem dX1_rate_36 : decode bX1_rate 36 = .ok (.aload_n 1, 1) ∧ 36 + 1 = 37 := by decide +kernel
theorem dX1_rate_37 : decode bX1_rate 37 = .ok (.getfield 54, 3) ∧ 37 + 3 = 40 := by decide +kernel
theorem dX1_rate_40 : decode bX1_rate 40 = .ok (.iload_n 2, 1) ∧ 40 + 1 = 41 := by decide +kernel
theorem dX1_rate_41 : decode bX1_rate 41 = .ok (.iaload, 1) ∧ 41 + 1 = 42 := by decide +kernel
theorem dX1_rate_42 : decode bX1_rate 42 = .ok (.bipush 10, 2) ∧ 42 + 2 = 44 := by decide +kernel
theorem dX1_rate_44 : decode bX1_rate 44 = .ok (.idiv, 1) ∧ 44 + 1 = 45 := by decide +kernel
theorem dX1_rate_45 : decode bX1_rate 45 = .ok (.iastore, 1) ∧ 45 + 1 = 46 := by decide +kernel
theorem dX1_rate_46 : decode bX1_rate 46 = .ok (.aload_n 0, 1) ∧ 46 + 1 = 47 := by decide +kernel
theorem dX1_rate_47 : decode bX1_rate 47 = .ok (.getfield 43, 3) ∧ 47 + 3 = 50 := by decide +kernel
theorem dX1_rate_50 : decode bX1_rate 50 = .ok (.iconst 4, 1) ∧ 50 + 1 = 51 := by decide +kernel
theorem dX1_rate_51 : decode bX1_rate 51 = .ok (.aload_n 1, 1) ∧ 51 + 1 = 52 := by decide +kernel
theorem dX1_rate_52 : decode bX1_rate 52 = .ok (.getfield 57, 3) ∧ 52 + 3 = 55 := by decide +kernel
theorem dX1_rate_55 : decode bX1_rate 55 = .ok (.iload_n 2, 1) ∧ 55 + 1 = 56 := by decide +kernel
theorem dX1_rate_56 : decode bX1_rate 56 = .ok (.iaload, 1) ∧ 56 + 1 = 57 := by decide +kernel
theorem dX1_rate_57 : decode bX1_rate 57 = .ok (.iastore, 1) ∧ 57 + 1 = 58 := by decide +kernel
theorem dX1_rate_58 : decode bX1_rate 58 = .ok (.aload_n 0, 1) ∧ 58 + 1 = 59 := by decide +kernel
theorem dX1_rate_59 : decode bX1_rate 59 = .ok (.getfield 43, 3) ∧ 59 + 3 = 62 := by decide +kernel
theorem dX1_rate_62 : decode bX1_rate 62 = .ok (.iconst 5, 1) ∧ 62 + 1 = 63 := by decide +kernel
theorem dX1_rate_63 : decode bX1_rate 63 = .ok (.aload_n 1, 1) ∧ 63 + 1 = 64 := by decide +kernel
theorem dX1_rate_64 : decode bX1_rate 64 = .ok (.getfield 60, 3) ∧ 64 + 3 = 67 := by decide +kernel
theorem dX1_rate_67 : decode bX1_rate 67 = .ok (.bipush 10, 2) ∧ 67 + 2 = 69 := by decide +kernel
theorem dX1_rate_69 : decode bX1_rate 69 = .ok (.irem, 1) ∧ 69 + 1 = 70 := by decide +kernel
theorem dX1_rate_70 : decode bX1_rate 70 = .ok (.iastore, 1) ∧ 70 + 1 = 71 := by decide +kernel
theorem dX1_rate_71 : decode bX1_rate 71 = .ok (.iconst 1, 1) ∧ 71 + 1 = 72 := by decide +kernel
theorem dX1_rate_72 : decode bX1_rate 72 = .ok (.istore_n 3, 1) ∧ 72 + 1 = 73 := by decide +kernel
theorem dX1_rate_73 : decode bX1_rate 73 = .ok (.iconst 0, 1) ∧ 73 + 1 = 74 := by decide +kernel
theorem dX1_rate_74 : decode bX1_rate 74 = .ok (.istore 4, 2) ∧ 74 + 2 = 76 := by decide +kernel
theorem dX1_rate_76 : decode bX1_rate 76 = .ok (.iconst 0, 1) ∧ 76 + 1 = 77 := by decide +kernel
theorem dX1_rate_77 : decode bX1_rate 77 = .ok (.istore 5, 2) ∧ 77 + 2 = 79 := by decide +kernel
theorem dX1_rate_79 : decode bX1_rate 79 = .ok (.iload 5, 2) ∧ 79 + 2 = 81 := by decide +kernel
theorem dX1_rate_81 : decode bX1_rate 81 = .ok (.aload_n 0, 1) ∧ 81 + 1 = 82 := by decide +kernel
theorem dX1_rate_82 : decode bX1_rate 82 = .ok (.getfield 19, 3) ∧ 82 + 3 = 85 := by decide +kernel
theorem dX1_rate_85 : decode bX1_rate 85 = .ok (.if_icmp .ge 44, 3) ∧ 85 + 3 = 88 ∧ ((85 : Nat) : Int) + (44) = ((129 : Nat) : Int) := by decide +kernel
theorem dX1_rate_88 : decode bX1_rate 88 = .ok (.aload_n 0, 1) ∧ 88 + 1 = 89 := by decide +kernel
theorem dX1_rate_89 : decode bX1_rate 89 = .ok (.iload 4, 2) ∧ 89 + 2 = 91 := by decide +kernel
theorem dX1_rate_91 : decode bX1_rate 91 = .ok (.aload_n 0, 1) ∧ 91 + 1 = 92 := by decide +kernel
theorem dX1_rate_92 : decode bX1_rate 92 = .ok (.getfield 29, 3) ∧ 92 + 3 = 95 := by decide +kernel
theorem dX1_rate_95 : decode bX1_rate 95 = .ok (.iload 5, 2) ∧ 95 + 2 = 97 := by decide +kernel
theorem dX1_rate_97 : decode bX1_rate 97 = .ok (.iaload, 1) ∧ 97 + 1 = 98 := by decide +kernel
theorem dX1_rate_98 : decode bX1_rate 98 = .ok (.invokevirtual 63, 3) ∧ 98 + 3 = 101 := by decide +kernel
theorem dX1_rate_101 : decode bX1_rate 101 = .ok (.ifCond .eq 13, 3) ∧ 101 + 3 = 104 ∧ ((101 : Nat) : Int) + (13) = ((114 : Nat) : Int) := by decide +kernel
theorem dX1_rate_104 : decode bX1_rate 104 = .ok (.iload_n 3, 1) ∧ 104 + 1 = 105 := by decide +kernel
theorem dX1_rate_105 : decode bX1_rate 105 = .ok (.aload_n 0, 1) ∧ 105 + 1 = 106 := by decide +kernel
theorem dX1_rate_106 : decode bX1_rate 106 = .ok (.getfield 25, 3) ∧ 106 + 3 = 109 := by decide +kernel
theorem dX1_rate_109 : decode bX1_rate 109 = .ok (.iload 5, 2) ∧ 109 + 2 = 111 := by decide +kernel
theorem dX1_rate_111 : decode bX1_rate 111 = .ok (.iaload, 1) ∧ 111 + 1 = 112 := by decide +kernel
theorem dX1_rate_112 : decode bX1_rate 112 = .ok (.iadd, 1) ∧ 112 + 1 = 113 := by decide +kernel
theorem dX1_rate_113 : decode bX1_rate 113 = .ok (.istore_n 3, 1) ∧ 113 + 1 = 114 := by decide +kernel
theorem dX1_rate_114 : decode bX1_rate 114 = .ok (.aload_n 0, 1) ∧ 114 + 1 = 115 := by decide +kernel
theorem dX1_rate_115 : decode bX1_rate 115 = .ok (.getfield 29, 3) ∧ 115 + 3 = 118 := by decide +kernel
theorem dX1_rate_118 : decode bX1_rate 118 = .ok (.iload 5, 2) ∧ 118 + 2 = 120 := by decide +kernel
theorem dX1_rate_120 : decode bX1_rate 120 = .ok (.iaload, 1) ∧ 120 + 1 = 121 := by decide +kernel
theorem dX1_rate_121 : decode bX1_rate 121 = .ok (.istore 4, 2) ∧ 121 + 2 = 123 := by decide +kernel
theorem dX1_rate_123 : decode bX1_rate 123 = .ok (.iinc 5 1, 3) ∧ 123 + 3 = 126 := by decide +kernel
theorem dX1_rate_126 : decode bX1_rate 126 = .ok (.goto (-47), 3) ∧ ((126 : Nat) : Int) + (-47) = ((79 : Nat) : Int) := by decide +kernel
theorem dX1_rate_129 : decode bX1_rate 129 = .ok (.iconst 0, 1) ∧ 129 + 1 = 130 := by decide +kernel
theorem dX1_rate_130 : decode bX1_rate 130 = .ok (.iload_n 3, 1) ∧ 130 + 1 = 131 := by decide +kernel
theorem dX1_rate_131 : decode bX1_rate 131 = .ok (.invokestatic 67, 3) ∧ 131 + 3 = 134 := by decide +kernel
theorem dX1_rate_134 : decode bX1_rate 134 = .ok (.ireturn, 1) := by decide +kernel
theorem dX1_conditionHolds_0 : decode bX1_conditionHolds 0 = .ok (.iconst 0, 1) ∧ 0 + 1 = 1 := by decide +kernel
theorem dX1_conditionHolds_1 : decode bX1_conditionHolds 1 = .ok (.istore_n 3, 1) ∧ 1 + 1 = 2 := by decide +kernel
theorem dX1_conditionHolds_2 : decode bX1_conditionHolds 2 = .ok (.iload_n 1, 1) ∧ 2 + 1 = 3 := by decide +kernel
theorem dX1_conditionHolds_3 : decode bX1_conditionHolds 3 = .ok (.istore 4, 2) ∧ 3 + 2 = 5 := by decide +kernel
theorem dX1_conditionHolds_5 : decode bX1_conditionHolds 5 = .ok (.iload 4, 2) ∧ 5 + 2 = 7 := by decide +kernel
theorem dX1_conditionHolds_7 : decode bX1_conditionHolds 7 = .ok (.iload_n 2, 1) ∧ 7 + 1 = 8 := by decide +kernel
theorem dX1_conditionHolds_8 : decode bX1_conditionHolds 8 = .ok (.if_icmp .ge 168, 3) ∧ 8 + 3 = 11 ∧ ((8 : Nat) : Int) + (168) = ((176 : Nat) : Int) := by decide +kernel
theorem dX1_conditionHolds_11 : decode bX1_conditionHolds 11 = .ok (.aload_n 0, 1) ∧ 11 + 1 = 12 := by decide +kernel
theorem dX1_conditionHolds_12 : decode bX1_conditionHolds 12 = .ok (.getfield 43, 3) ∧ 12 + 3 = 15 := by decide +kernel
theorem dX1_conditionHolds_15 : decode bX1_conditionHolds 15 = .ok (.aload_n 0, 1) ∧ 15 + 1 = 16 := by decide +kernel
theorem dX1_conditionHolds_16 : decode bX1_conditionHolds 16 = .ok (.getfield 37, 3) ∧ 16 + 3 = 19 := by decide +kernel
theorem dX1_conditionHolds_19 : decode bX1_conditionHolds 19 = .ok (.iload 4, 2) ∧ 19 + 2 = 21 := by decide +kernel
theorem dX1_conditionHolds_21 : decode bX1_conditionHolds 21 = .ok (.iaload, 1) ∧ 21 + 1 = 22 := by decide +kernel
theorem dX1_conditionHolds_22 : decode bX1_conditionHolds 22 = .ok (.iaload, 1) ∧ 22 + 1 = 23 := by decide +kernel
theorem dX1_conditionHolds_23 : decode bX1_conditionHolds 23 = .ok (.istore 5, 2) ∧ 23 + 2 = 25 := by decide +kernel
theorem dX1_conditionHolds_25 : decode bX1_conditionHolds 25 = .ok (.aload_n 0, 1) ∧ 25 + 1 = 26 := by decide +kernel
theorem dX1_conditionHolds_26 : decode bX1_conditionHolds 26 = .ok (.getfield 34, 3) ∧ 26 + 3 = 29 := by decide +kernel
theorem dX1_conditionHolds_29 : decode bX1_conditionHolds 29 = .ok (.iload 4, 2) ∧ 29 + 2 = 31 := by decide +kernel
theorem dX1_conditionHolds_31 : decode bX1_conditionHolds 31 = .ok (.iaload, 1) ∧ 31 + 1 = 32 := by decide +kernel
theorem dX1_conditionHolds_32 : decode bX1_conditionHolds 32 = .ok (.tableswitch 130 0 4 #[36, 61, 86, 111, 118], 36) := by decide +kernel
theorem dX1_conditionHolds_68 : decode bX1_conditionHolds 68 = .ok (.iload_n 3, 1) ∧ 68 + 1 = 69 := by decide +kernel
theorem dX1_conditionHolds_69 : decode bX1_conditionHolds 69 = .ok (.iconst 1, 1) ∧ 69 + 1 = 70 := by decide +kernel
theorem dX1_conditionHolds_70 : decode bX1_conditionHolds 70 = .ok (.ishl, 1) ∧ 70 + 1 = 71 := by decide +kernel
theorem dX1_conditionHolds_71 : decode bX1_conditionHolds 71 = .ok (.iload 5, 2) ∧ 71 + 2 = 73 := by decide +kernel
theorem dX1_conditionHolds_73 : decode bX1_conditionHolds 73 = .ok (.aload_n 0, 1) ∧ 73 + 1 = 74 := by decide +kernel
theorem dX1_conditionHolds_74 : decode bX1_conditionHolds 74 = .ok (.getfield 40, 3) ∧ 74 + 3 = 77 := by decide +kernel
theorem dX1_conditionHolds_77 : decode bX1_conditionHolds 77 = .ok (.iload 4, 2) ∧ 77 + 2 = 79 := by decide +kernel
theorem dX1_conditionHolds_79 : decode bX1_conditionHolds 79 = .ok (.iaload, 1) ∧ 79 + 1 = 80 := by decide +kernel
theorem dX1_conditionHolds_80 : decode bX1_conditionHolds 80 = .ok (.if_icmp .ge 7, 3) ∧ 80 + 3 = 83 ∧ ((80 : Nat) : Int) + (7) = ((87 : Nat) : Int) := by decide +kernel
theorem dX1_conditionHolds_83 : decode bX1_conditionHolds 83 = .ok (.iconst 1, 1) ∧ 83 + 1 = 84 := by decide +kernel
theorem dX1_conditionHolds_84 : decode bX1_conditionHolds 84 = .ok (.goto 4, 3) ∧ ((84 : Nat) : Int) + (4) = ((88 : Nat) : Int) := by decide +kernel
theorem dX1_conditionHolds_87 : decode bX1_conditionHolds 87 = .ok (.iconst 0, 1) ∧ 87 + 1 = 88 := by decide +kernel
theorem dX1_conditionHolds_88 : decode bX1_conditionHolds 88 = .ok (.ior, 1) ∧ 88 + 1 = 89 := by decide +kernel
theorem dX1_conditionHolds_89 : decode bX1_conditionHolds 89 = .ok (.istore_n 3, 1) ∧ 89 + 1 = 90 := by decide +kernel
theorem dX1_conditionHolds_90 : decode bX1_conditionHolds 90 = .ok (.goto 80, 3) ∧ ((90 : Nat) : Int) + (80) = ((170 : Nat) : Int) := by decide +kernel
theorem dX1_conditionHolds_93 : decode bX1_conditionHolds 93 = .ok (.iload_n 3, 1) ∧ 93 + 1 = 94 := by decide +kernel
theorem dX1_conditionHolds_94 : decode bX1_conditionHolds 94 = .ok (.iconst 1, 1) ∧ 94 + 1 = 95 := by decide +kernel
theorem dX1_conditionHolds_95 : decode bX1_conditionHolds 95 = .ok (.ishl, 1) ∧ 95 + 1 = 96 := by decide +kernel
theorem dX1_conditionHolds_96 : decode bX1_conditionHolds 96 = .ok (.iload 5, 2) ∧ 96 + 2 = 98 := by decide +kernel
theorem dX1_conditionHolds_98 : decode bX1_conditionHolds 98 = .ok (.aload_n 0, 1) ∧ 98 + 1 = 99 := by decide +kernel
theorem dX1_conditionHolds_99 : decode bX1_conditionHolds 99 = .ok (.getfield 40, 3) ∧ 99 + 3 = 102 := by decide +kernel
theorem dX1_conditionHolds_102 : decode bX1_conditionHolds 102 = .ok (.iload 4, 2) ∧ 102 + 2 = 104 := by decide +kernel
theorem dX1_conditionHolds_104 : decode bX1_conditionHolds 104 = .ok (.iaload, 1) ∧ 104 + 1 = 105 := by decide +kernel
theorem dX1_conditionHolds_105 : decode bX1_conditionHolds 105 = .ok (.if_icmp .ne 7, 3) ∧ 105 + 3 = 108 ∧ ((105 : Nat) : Int) + (7) = ((112 : Nat) : Int) := by decide +kernel
theorem dX1_conditionHolds_108 : decode bX1_conditionHolds 108 = .ok (.iconst 1, 1) ∧ 108 + 1 = 109 := by decide +kernel
theorem dX1_conditionHolds_109 : decode bX1_conditionHolds 109 = .ok (.goto 4, 3) ∧ ((109 : Nat) : Int) + (4) = ((113 : Nat) : Int) := by decide +kernel
theorem dX1_conditionHolds_112 : decode bX1_conditionHolds 112 = .ok (.iconst 0, 1) ∧ 112 + 1 = 113 := by decide +kernel
theorem dX1_conditionHolds_113 : decode bX1_conditionHolds 113 = .ok (.ior, 1) ∧ 113 + 1 = 114 := by decide +kernel
theorem dX1_conditionHolds_114 : decode bX1_conditionHolds 114 = .ok (.istore_n 3, 1) ∧ 114 + 1 = 115 := by decide +kernel
theorem dX1_conditionHolds_115 : decode bX1_conditionHolds 115 = .ok (.goto 55, 3) ∧ ((115 : Nat) : Int) + (55) = ((170 : Nat) : Int) := by decide +kernel
theorem dX1_conditionHolds_118 : decode bX1_conditionHolds 118 = .ok (.iload_n 3, 1) ∧ 118 + 1 = 119 := by decide +kernel
theorem dX1_conditionHolds_119 : decode bX1_conditionHolds 119 = .ok (.iconst 1, 1) ∧ 119 + 1 = 120 := by decide +kernel
theorem dX1_conditionHolds_120 : decode bX1_conditionHolds 120 = .ok (.ishl, 1) ∧ 120 + 1 = 121 := by decide +kernel
theorem dX1_conditionHolds_121 : decode bX1_conditionHolds 121 = .ok (.iload 5, 2) ∧ 121 + 2 = 123 := by decide +kernel
theorem dX1_conditionHolds_123 : decode bX1_conditionHolds 123 = .ok (.aload_n 0, 1) ∧ 123 + 1 = 124 := by decide +kernel
theorem dX1_conditionHolds_124 : decode bX1_conditionHolds 124 = .ok (.getfield 40, 3) ∧ 124 + 3 = 127 := by decide +kernel
theorem dX1_conditionHolds_127 : decode bX1_conditionHolds 127 = .ok (.iload 4, 2) ∧ 127 + 2 = 129 := by decide +kernel
theorem dX1_conditionHolds_129 : decode bX1_conditionHolds 129 = .ok (.iaload, 1) ∧ 129 + 1 = 130 := by decide +kernel
theorem dX1_conditionHolds_130 : decode bX1_conditionHolds 130 = .ok (.if_icmp .le 7, 3) ∧ 130 + 3 = 133 ∧ ((130 : Nat) : Int) + (7) = ((137 : Nat) : Int) := by decide +kernel
theorem dX1_conditionHolds_133 : decode bX1_conditionHolds 133 = .ok (.iconst 1, 1) ∧ 133 + 1 = 134 := by decide +kernel
theorem dX1_conditionHolds_134 : decode bX1_conditionHolds 134 = .ok (.goto 4, 3) ∧ ((134 : Nat) : Int) + (4) = ((138 : Nat) : Int) := by decide +kernel
theorem dX1_conditionHolds_137 : decode bX1_conditionHolds 137 = .ok (.iconst 0, 1) ∧ 137 + 1 = 138 := by decide +kernel
theorem dX1_conditionHolds_138 : decode bX1_conditionHolds 138 = .ok (.ior, 1) ∧ 138 + 1 = 139 := by decide +kernel
theorem dX1_conditionHolds_139 : decode bX1_conditionHolds 139 = .ok (.istore_n 3, 1) ∧ 139 + 1 = 140 := by decide +kernel
theorem dX1_conditionHolds_140 : decode bX1_conditionHolds 140 = .ok (.goto 30, 3) ∧ ((140 : Nat) : Int) + (30) = ((170 : Nat) : Int) := by decide +kernel
theorem dX1_conditionHolds_143 : decode bX1_conditionHolds 143 = .ok (.iload_n 3, 1) ∧ 143 + 1 = 144 := by decide +kernel
theorem dX1_conditionHolds_144 : decode bX1_conditionHolds 144 = .ok (.iconst 1, 1) ∧ 144 + 1 = 145 := by decide +kernel
theorem dX1_conditionHolds_145 : decode bX1_conditionHolds 145 = .ok (.ixor, 1) ∧ 145 + 1 = 146 := by decide +kernel
theorem dX1_conditionHolds_146 : decode bX1_conditionHolds 146 = .ok (.istore_n 3, 1) ∧ 146 + 1 = 147 := by decide +kernel
theorem dX1_conditionHolds_147 : decode bX1_conditionHolds 147 = .ok (.goto 23, 3) ∧ ((147 : Nat) : Int) + (23) = ((170 : Nat) : Int) := by decide +kernel
theorem dX1_conditionHolds_150 : decode bX1_conditionHolds 150 = .ok (.iload_n 3, 1) ∧ 150 + 1 = 151 := by decide +kernel
theorem dX1_conditionHolds_151 : decode bX1_conditionHolds 151 = .ok (.iconst 1, 1) ∧ 151 + 1 = 152 := by decide +kernel
theorem dX1_conditionHolds_152 : decode bX1_conditionHolds 152 = .ok (.ishr, 1) ∧ 152 + 1 = 153 := by decide +kernel
theorem dX1_conditionHolds_153 : decode bX1_conditionHolds 153 = .ok (.iload_n 3, 1) ∧ 153 + 1 = 154 := by decide +kernel
theorem dX1_conditionHolds_154 : decode bX1_conditionHolds 154 = .ok (.bipush (-2), 2) ∧ 154 + 2 = 156 := by decide +kernel
theorem dX1_conditionHolds_156 : decode bX1_conditionHolds 156 = .ok (.ior, 1) ∧ 156 + 1 = 157 := by decide +kernel
theorem dX1_conditionHolds_157 : decode bX1_conditionHolds 157 = .ok (.iand, 1) ∧ 157 + 1 = 158 := by decide +kernel
theorem dX1_conditionHolds_158 : decode bX1_conditionHolds 158 = .ok (.istore_n 3, 1) ∧ 158 + 1 = 159 := by decide +kernel
theorem dX1_conditionHolds_159 : decode bX1_conditionHolds 159 = .ok (.goto 11, 3) ∧ ((159 : Nat) : Int) + (11) = ((170 : Nat) : Int) := by decide +kernel
theorem dX1_conditionHolds_162 : decode bX1_conditionHolds 162 = .ok (.iload_n 3, 1) ∧ 162 + 1 = 163 := by decide +kernel
theorem dX1_conditionHolds_163 : decode bX1_conditionHolds 163 = .ok (.iconst 1, 1) ∧ 163 + 1 = 164 := by decide +kernel
theorem dX1_conditionHolds_164 : decode bX1_conditionHolds 164 = .ok (.ishr, 1) ∧ 164 + 1 = 165 := by decide +kernel
theorem dX1_conditionHolds_165 : decode bX1_conditionHolds 165 = .ok (.iload_n 3, 1) ∧ 165 + 1 = 166 := by decide +kernel
theorem dX1_conditionHolds_166 : decode bX1_conditionHolds 166 = .ok (.iconst 1, 1) ∧ 166 + 1 = 167 := by decide +kernel
theorem dX1_conditionHolds_167 : decode bX1_conditionHolds 167 = .ok (.iand, 1) ∧ 167 + 1 = 168 := by decide +kernel
theorem dX1_conditionHolds_168 : decode bX1_conditionHolds 168 = .ok (.ior, 1) ∧ 168 + 1 = 169 := by decide +kernel
theorem dX1_conditionHolds_169 : decode bX1_conditionHolds 169 = .ok (.istore_n 3, 1) ∧ 169 + 1 = 170 := by decide +kernel
theorem dX1_conditionHolds_170 : decode bX1_conditionHolds 170 = .ok (.iinc 4 1, 3) ∧ 170 + 3 = 173 := by decide +kernel
theorem dX1_conditionHolds_173 : decode bX1_conditionHolds 173 = .ok (.goto (-168), 3) ∧ ((173 : Nat) : Int) + (-168) = ((5 : Nat) : Int) := by decide +kernel
theorem dX1_conditionHolds_176 : decode bX1_conditionHolds 176 = .ok (.iload_n 3, 1) ∧ 176 + 1 = 177 := by decide +kernel
theorem dX1_conditionHolds_177 : decode bX1_conditionHolds 177 = .ok (.iconst 1, 1) ∧ 177 + 1 = 178 := by decide +kernel
theorem dX1_conditionHolds_178 : decode bX1_conditionHolds 178 = .ok (.iand, 1) ∧ 178 + 1 = 179 := by decide +kernel
theorem dX1_conditionHolds_179 : decode bX1_conditionHolds 179 = .ok (.iconst 1, 1) ∧ 179 + 1 = 180 := by decide +kernel
theorem dX1_conditionHolds_180 : decode bX1_conditionHolds 180 = .ok (.if_icmp .ne 7, 3) ∧ 180 + 3 = 183 ∧ ((180 : Nat) : Int) + (7) = ((187 : Nat) : Int) := by decide +kernel
theorem dX1_conditionHolds_183 : decode bX1_conditionHolds 183 = .ok (.iconst 1, 1) ∧ 183 + 1 = 184 := by decide +kernel
theorem dX1_conditionHolds_184 : decode bX1_conditionHolds 184 = .ok (.goto 4, 3) ∧ ((184 : Nat) : Int) + (4) = ((188 : Nat) : Int) := by decide +kernel
theorem dX1_conditionHolds_187 : decode bX1_conditionHolds 187 = .ok (.iconst 0, 1) ∧ 187 + 1 = 188 := by decide +kernel
theorem dX1_conditionHolds_188 : decode bX1_conditionHolds 188 = .ok (.ireturn, 1) := by decide +kernel
theorem dX2_copyFrom_0 : decode bX2_copyFrom 0 = .ok (.aload_n 0, 1) ∧ 0 + 1 = 1 := by decide +kernel
theorem dX2_copyFrom_1 : decode bX2_copyFrom 1 = .ok (.aload_n 1, 1) ∧ 1 + 1 = 2 := by decide +kernel
theorem dX2_copyFrom_2 : decode bX2_copyFrom 2 = .ok (.getfield 7, 3) ∧ 2 + 3 = 5 := by decide +kernel
theorem dX2_copyFrom_5 : decode bX2_copyFrom 5 = .ok (.putfield 7, 3) ∧ 5 + 3 = 8 := by decide +kernel
theorem dX2_copyFrom_8 : decode bX2_copyFrom 8 = .ok (.aload_n 0, 1) ∧ 8 + 1 = 9 := by decide +kernel
theorem dX2_copyFrom_9 : decode bX2_copyFrom 9 = .ok (.aload_n 1, 1) ∧ 9 + 1 = 10 := by decide +kernel
theorem dX2_copyFrom_10 : decode bX2_copyFrom 10 = .ok (.getfield 13, 3) ∧ 10 + 3 = 13 := by decide +kernel
theorem dX2_copyFrom_13 : decode bX2_copyFrom 13 = .ok (.putfield 13, 3) ∧ 13 + 3 = 16 := by decide +kernel
theorem dX2_copyFrom_16 : decode bX2_copyFrom 16 = .ok (.aload_n 0, 1) ∧ 16 + 1 = 17 := by decide +kernel
theorem dX2_copyFrom_17 : decode bX2_copyFrom 17 = .ok (.aload_n 1, 1) ∧ 17 + 1 = 18 := by decide +kernel
theorem dX2_copyFrom_18 : decode bX2_copyFrom 18 = .ok (.getfield 16, 3) ∧ 18 + 3 = 21 := by decide +kernel
theorem dX2_copyFrom_21 : decode bX2_copyFrom 21 = .ok (.putfield 16, 3) ∧ 21 + 3 = 24 := by decide +kernel
theorem dX2_copyFrom_24 : decode bX2_copyFrom 24 = .ok (.aload_n 1, 1) ∧ 24 + 1 = 25 := by decide +kernel
theorem dX2_copyFrom_25 : decode bX2_copyFrom 25 = .ok (.getfield 19, 3) ∧ 25 + 3 = 28 := by decide +kernel
theorem dX2_copyFrom_28 : decode bX2_copyFrom 28 = .ok (.iconst 0, 1) ∧ 28 + 1 = 29 := by decide +kernel
theorem dX2_copyFrom_29 : decode bX2_copyFrom 29 = .ok (.aload_n 0, 1) ∧ 29 + 1 = 30 := by decide +kernel
theorem dX2_copyFrom_30 : decode bX2_copyFrom 30 = .ok (.getfield 19, 3) ∧ 30 + 3 = 33 := by decide +kernel
theorem dX2_copyFrom_33 : decode bX2_copyFrom 33 = .ok (.iconst 0, 1) ∧ 33 + 1 = 34 := by decide +kernel
theorem dX2_copyFrom_34 : decode bX2_copyFrom 34 = .ok (.iconst 5, 1) ∧ 34 + 1 = 35 := by decide +kernel
theorem dX2_copyFrom_35 : decode bX2_copyFrom 35 = .ok (.invokestatic 38, 3) ∧ 35 + 3 = 38 := by decide +kernel
theorem dX2_copyFrom_38 : decode bX2_copyFrom 38 = .ok (.aload_n 1, 1) ∧ 38 + 1 = 39 := by decide +kernel
theorem dX2_copyFrom_39 : decode bX2_copyFrom 39 = .ok (.getfield 23, 3) ∧ 39 + 3 = 42 := by decide +kernel
theorem dX2_copyFrom_42 : decode bX2_copyFrom 42 = .ok (.iconst 0, 1) ∧ 42 + 1 = 43 := by decide +kernel
theorem dX2_copyFrom_43 : decode bX2_copyFrom 43 = .ok (.aload_n 0, 1) ∧ 43 + 1 = 44 := by decide +kernel
theorem dX2_copyFrom_44 : decode bX2_copyFrom 44 = .ok (.getfield 23, 3) ∧ 44 + 3 = 47 := by decide +kernel
theorem dX2_copyFrom_47 : decode bX2_copyFrom 47 = .ok (.iconst 0, 1) ∧ 47 + 1 = 48 := by decide +kernel
theorem dX2_copyFrom_48 : decode bX2_copyFrom 48 = .ok (.iconst 5, 1) ∧ 48 + 1 = 49 := by decide +kernel
theorem dX2_copyFrom_49 : decode bX2_copyFrom 49 = .ok (.invokestatic 38, 3) ∧ 49 + 3 = 52 := by decide +kernel
theorem dX2_copyFrom_52 : decode bX2_copyFrom 52 = .ok (.aload_n 1, 1) ∧ 52 + 1 = 53 := by decide +kernel
theorem dX2_copyFrom_53 : decode bX2_copyFrom 53 = .ok (.getfield 26, 3) ∧ 53 + 3 = 56 := by decide +kernel
theorem dX2_copyFrom_56 : decode bX2_copyFrom 56 = .ok (.iconst 0, 1) ∧ 56 + 1 = 57 := by decide +kernel
theorem dX2_copyFrom_57 : decode bX2_copyFrom 57 = .ok (.aload_n 0, 1) ∧ 57 + 1 = 58 := by decide +kernel
theorem dX2_copyFrom_58 : decode bX2_copyFrom 58 = .ok (.getfield 26, 3) ∧ 58 + 3 = 61 := by decide +kernel
theorem dX2_copyFrom_61 : decode bX2_copyFrom 61 = .ok (.iconst 0, 1) ∧ 61 + 1 = 62 := by decide +kernel
theorem dX2_copyFrom_62 : decode bX2_copyFrom 62 = .ok (.bipush 10, 2) ∧ 62 + 2 = 64 := by decide +kernel
theorem dX2_copyFrom_64 : decode bX2_copyFrom 64 = .ok (.invokestatic 38, 3) ∧ 64 + 3 = 67 := by decide +kernel
theorem dX2_copyFrom_67 : decode bX2_copyFrom 67 = .ok (.aload_n 1, 1) ∧ 67 + 1 = 68 := by decide +kernel
theorem dX2_copyFrom_68 : decode bX2_copyFrom 68 = .ok (.getfield 29, 3) ∧ 68 + 3 = 71 := by decide +kernel
theorem dX2_copyFrom_71 : decode bX2_copyFrom 71 = .ok (.iconst 0, 1) ∧ 71 + 1 = 72 := by decide +kernel
theorem dX2_copyFrom_72 : decode bX2_copyFrom 72 = .ok (.aload_n 0, 1) ∧ 72 + 1 = 73 := by decide +kernel
theorem dX2_copyFrom_73 : decode bX2_copyFrom 73 = .ok (.getfield 29, 3) ∧ 73 + 3 = 76 := by decide +kernel
theorem dX2_copyFrom_76 : decode bX2_copyFrom 76 = .ok (.iconst 0, 1) ∧ 76 + 1 = 77 := by decide +kernel
theorem dX2_copyFrom_77 : decode bX2_copyFrom 77 = .ok (.bipush 10, 2) ∧ 77 + 2 = 79 := by decide +kernel
theorem dX2_copyFrom_79 : decode bX2_copyFrom 79 = .ok (.invokestatic 38, 3) ∧ 79 + 3 = 82 := by decide +kernel
theorem dX2_copyFrom_82 : decode bX2_copyFrom 82 = .ok (.aload_n 1, 1) ∧ 82 + 1 = 83 := by decide +kernel
theorem dX2_copyFrom_83 : decode bX2_copyFrom 83 = .ok (.getfield 32, 3) ∧ 83 + 3 = 86 := by decide +kernel
theorem dX2_copyFrom_86 : decode bX2_copyFrom 86 = .ok (.iconst 0, 1) ∧ 86 + 1 = 87 := by decide +kernel
theorem dX2_copyFrom_87 : decode bX2_copyFrom 87 = .ok (.aload_n 0, 1) ∧ 87 + 1 = 88 := by decide +kernel
theorem dX2_copyFrom_88 : decode bX2_copyFrom 88 = .ok (.getfield 32, 3) ∧ 88 + 3 = 91 := by decide +kernel
theorem dX2_copyFrom_91 : decode bX2_copyFrom 91 = .ok (.iconst 0, 1) ∧ 91 + 1 = 92 := by decide +kernel
theorem dX2_copyFrom_92 : decode bX2_copyFrom 92 = .ok (.bipush 8, 2) ∧ 92 + 2 = 94 := by decide +kernel
theorem dX2_copyFrom_94 : decode bX2_copyFrom 94 = .ok (.invokestatic 38, 3) ∧ 94 + 3 = 97 := by decide +kernel
theorem dX2_copyFrom_97 : decode bX2_copyFrom 97 = .ok (.aload_n 1, 1) ∧ 97 + 1 = 98 := by decide +kernel
theorem dX2_copyFrom_98 : decode bX2_copyFrom 98 = .ok (.getfield 35, 3) ∧ 98 + 3 = 101 := by decide +kernel
theorem dX2_copyFrom_101 : decode bX2_copyFrom 101 = .ok (.iconst 0, 1) ∧ 101 + 1 = 102 := by decide +kernel
theorem dX2_copyFrom_102 : decode bX2_copyFrom 102 = .ok (.aload_n 0, 1) ∧ 102 + 1 = 103 := by decide +kernel
theorem dX2_copyFrom_103 : decode bX2_copyFrom 103 = .ok (.getfield 35, 3) ∧ 103 + 3 = 106 := by decide +kernel
theorem dX2_copyFrom_106 : decode bX2_copyFrom 106 = .ok (.iconst 0, 1) ∧ 106 + 1 = 107 := by decide +kernel
theorem dX2_copyFrom_107 : decode bX2_copyFrom 107 = .ok (.bipush 8, 2) ∧ 107 + 2 = 109 := by decide +kernel
theorem dX2_copyFrom_109 : decode bX2_copyFrom 109 = .ok (.invokestatic 38, 3) ∧ 109 + 3 = 112 := by decide +kernel
theorem dX2_copyFrom_112 : decode bX2_copyFrom 112 = .ok (.return_, 1) := by decide +kernel
theorem dX2_addSeen_0 : decode bX2_addSeen 0 = .ok (.aload_n 0, 1) ∧ 0 + 1 = 1 := by decide +kernel
theorem dX2_addSeen_1 : decode bX2_addSeen 1 = .ok (.getfield 7, 3) ∧ 1 + 3 = 4 := by decide +kernel
theorem dX2_addSeen_4 : decode bX2_addSeen 4 = .ok (.iconst 5, 1) ∧ 4 + 1 = 5 := by decide +kernel
theorem dX2_addSeen_5 : decode bX2_addSeen 5 = .ok (.if_icmp .ge 33, 3) ∧ 5 + 3 = 8 ∧ ((5 : Nat) : Int) + (33) = ((38 : Nat) : Int) := by decide +kernel
theorem dX2_addSeen_8 : decode bX2_addSeen 8 = .ok (.aload_n 0, 1) ∧ 8 + 1 = 9 := by decide +kernel
theorem dX2_addSeen_9 : decode bX2_addSeen 9 = .ok (.getfield 19, 3) ∧ 9 + 3 = 12 := by decide +kernel
theorem dX2_addSeen_12 : decode bX2_addSeen 12 = .ok (.aload_n 0, 1) ∧ 12 + 1 = 13 := by decide +kernel
theorem dX2_addSeen_13 : decode bX2_addSeen 13 = .ok (.getfield 7, 3) ∧ 13 + 3 = 16 := by decide +kernel
theorem dX2_addSeen_16 : decode bX2_addSeen 16 = .ok (.iload_n 1, 1) ∧ 16 + 1 = 17 := by decide +kernel
theorem dX2_addSeen_17 : decode bX2_addSeen 17 = .ok (.iastore, 1) ∧ 17 + 1 = 18 := by decide +kernel
theorem dX2_addSeen_18 : decode bX2_addSeen 18 = .ok (.aload_n 0, 1) ∧ 18 + 1 = 19 := by decide +kernel
theorem dX2_addSeen_19 : decode bX2_addSeen 19 = .ok (.getfield 23, 3) ∧ 19 + 3 = 22 := by decide +kernel
theorem dX2_addSeen_22 : decode bX2_addSeen 22 = .ok (.aload_n 0, 1) ∧ 22 + 1 = 23 := by decide +kernel
theorem dX2_addSeen_23 : decode bX2_addSeen 23 = .ok (.getfield 7, 3) ∧ 23 + 3 = 26 := by decide +kernel
theorem dX2_addSeen_26 : decode bX2_addSeen 26 = .ok (.iload_n 2, 1) ∧ 26 + 1 = 27 := by decide +kernel
theorem dX2_addSeen_27 : decode bX2_addSeen 27 = .ok (.iastore, 1) ∧ 27 + 1 = 28 := by decide +kernel
theorem dX2_addSeen_28 : decode bX2_addSeen 28 = .ok (.aload_n 0, 1) ∧ 28 + 1 = 29 := by decide +kernel
theorem dX2_addSeen_29 : decode bX2_addSeen 29 = .ok (.dup, 1) ∧ 29 + 1 = 30 := by decide +kernel
theorem dX2_addSeen_30 : decode bX2_addSeen 30 = .ok (.getfield 7, 3) ∧ 30 + 3 = 33 := by decide +kernel
theorem dX2_addSeen_33 : decode bX2_addSeen 33 = .ok (.iconst 1, 1) ∧ 33 + 1 = 34 := by decide +kernel
theorem dX2_addSeen_34 : decode bX2_addSeen 34 = .ok (.iadd, 1) ∧ 34 + 1 = 35 := by decide +kernel
theorem dX2_addSeen_35 : decode bX2_addSeen 35 = .ok (.putfield 7, 3) ∧ 35 + 3 = 38 := by decide +kernel
theorem dX2_addSeen_38 : decode bX2_addSeen 38 = .ok (.aload_n 0, 1) ∧ 38 + 1 = 39 := by decide +kernel
theorem dX2_addSeen_39 : decode bX2_addSeen 39 = .ok (.getfield 7, 3) ∧ 39 + 3 = 42 := by decide +kernel
theorem dX2_addSeen_42 : decode bX2_addSeen 42 = .ok (.ireturn, 1) := by decide +kernel
theorem dX2_addYear_0 : decode bX2_addYear 0 = .ok (.aload_n 0, 1) ∧ 0 + 1 = 1 := by decide +kernel
theorem dX2_addYear_1 : decode bX2_addYear 1 = .ok (.getfield 13, 3) ∧ 1 + 3 = 4 := by decide +kernel
theorem dX2_addYear_4 : decode bX2_addYear 4 = .ok (.bipush 10, 2) ∧ 4 + 2 = 6 := by decide +kernel
theorem dX2_addYear_6 : decode bX2_addYear 6 = .ok (.if_icmp .ge 33, 3) ∧ 6 + 3 = 9 ∧ ((6 : Nat) : Int) + (33) = ((39 : Nat) : Int) := by decide +kernel
theorem dX2_addYear_9 : decode bX2_addYear 9 = .ok (.aload_n 0, 1) ∧ 9 + 1 = 10 := by decide +kernel
theorem dX2_addYear_10 : decode bX2_addYear 10 = .ok (.getfield 26, 3) ∧ 10 + 3 = 13 := by decide +kernel
theorem dX2_addYear_13 : decode bX2_addYear 13 = .ok (.aload_n 0, 1) ∧ 13 + 1 = 14 := by decide +kernel
theorem dX2_addYear_14 : decode bX2_addYear 14 = .ok (.getfield 13, 3) ∧ 14 + 3 = 17 := by decide +kernel
theorem dX2_addYear_17 : decode bX2_addYear 17 = .ok (.iload_n 1, 1) ∧ 17 + 1 = 18 := by decide +kernel
theorem dX2_addYear_18 : decode bX2_addYear 18 = .ok (.iastore, 1) ∧ 18 + 1 = 19 := by decide +kernel
theorem dX2_addYear_19 : decode bX2_addYear 19 = .ok (.aload_n 0, 1) ∧ 19 + 1 = 20 := by decide +kernel
theorem dX2_addYear_20 : decode bX2_addYear 20 = .ok (.getfield 29, 3) ∧ 20 + 3 = 23 := by decide +kernel
theorem dX2_addYear_23 : decode bX2_addYear 23 = .ok (.aload_n 0, 1) ∧ 23 + 1 = 24 := by decide +kernel
theorem dX2_addYear_24 : decode bX2_addYear 24 = .ok (.getfield 13, 3) ∧ 24 + 3 = 27 := by decide +kernel
theorem dX2_addYear_27 : decode bX2_addYear 27 = .ok (.iload_n 2, 1) ∧ 27 + 1 = 28 := by decide +kernel
theorem dX2_addYear_28 : decode bX2_addYear 28 = .ok (.iastore, 1) ∧ 28 + 1 = 29 := by decide +kernel
theorem dX2_addYear_29 : decode bX2_addYear 29 = .ok (.aload_n 0, 1) ∧ 29 + 1 = 30 := by decide +kernel
theorem dX2_addYear_30 : decode bX2_addYear 30 = .ok (.dup, 1) ∧ 30 + 1 = 31 := by decide +kernel
theorem dX2_addYear_31 : decode bX2_addYear 31 = .ok (.getfield 13, 3) ∧ 31 + 3 = 34 := by decide +kernel
theorem dX2_addYear_34 : decode bX2_addYear 34 = .ok (.iconst 1, 1) ∧ 34 + 1 = 35 := by decide +kernel
theorem dX2_addYear_35 : decode bX2_addYear 35 = .ok (.iadd, 1) ∧ 35 + 1 = 36 := by decide +kernel
theorem dX2_addYear_36 : decode bX2_addYear 36 = .ok (.putfield 13, 3) ∧ 36 + 3 = 39 := by decide +kernel
theorem dX2_addYear_39 : decode bX2_addYear 39 = .ok (.aload_n 0, 1) ∧ 39 + 1 = 40 := by decide +kernel
theorem dX2_addYear_40 : decode bX2_addYear 40 = .ok (.getfield 13, 3) ∧ 40 + 3 = 43 := by decide +kernel
theorem dX2_addYear_43 : decode bX2_addYear 43 = .ok (.ireturn, 1) := by decide +kernel
theorem dX2_addBook_0 : decode bX2_addBook 0 = .ok (.aload_n 0, 1) ∧ 0 + 1 = 1 := by decide +kernel
theorem dX2_addBook_1 : decode bX2_addBook 1 = .ok (.getfield 16, 3) ∧ 1 + 3 = 4 := by decide +kernel
theorem dX2_addBook_4 : decode bX2_addBook 4 = .ok (.bipush 8, 2) ∧ 4 + 2 = 6 := by decide +kernel
theorem dX2_addBook_6 : decode bX2_addBook 6 = .ok (.if_icmp .ge 33, 3) ∧ 6 + 3 = 9 ∧ ((6 : Nat) : Int) + (33) = ((39 : Nat) : Int) := by decide +kernel
theorem dX2_addBook_9 : decode bX2_addBook 9 = .ok (.aload_n 0, 1) ∧ 9 + 1 = 10 := by decide +kernel
theorem dX2_addBook_10 : decode bX2_addBook 10 = .ok (.getfield 32, 3) ∧ 10 + 3 = 13 := by decide +kernel
theorem dX2_addBook_13 : decode bX2_addBook 13 = .ok (.aload_n 0, 1) ∧ 13 + 1 = 14 := by decide +kernel
theorem dX2_addBook_14 : decode bX2_addBook 14 = .ok (.getfield 16, 3) ∧ 14 + 3 = 17 := by decide +kernel
theorem dX2_addBook_17 : decode bX2_addBook 17 = .ok (.iload_n 1, 1) ∧ 17 + 1 = 18 := by decide +kernel
theorem dX2_addBook_18 : decode bX2_addBook 18 = .ok (.iastore, 1) ∧ 18 + 1 = 19 := by decide +kernel
theorem dX2_addBook_19 : decode bX2_addBook 19 = .ok (.aload_n 0, 1) ∧ 19 + 1 = 20 := by decide +kernel
theorem dX2_addBook_20 : decode bX2_addBook 20 = .ok (.getfield 35, 3) ∧ 20 + 3 = 23 := by decide +kernel
theorem dX2_addBook_23 : decode bX2_addBook 23 = .ok (.aload_n 0, 1) ∧ 23 + 1 = 24 := by decide +kernel
theorem dX2_addBook_24 : decode bX2_addBook 24 = .ok (.getfield 16, 3) ∧ 24 + 3 = 27 := by decide +kernel
theorem dX2_addBook_27 : decode bX2_addBook 27 = .ok (.iload_n 2, 1) ∧ 27 + 1 = 28 := by decide +kernel
theorem dX2_addBook_28 : decode bX2_addBook 28 = .ok (.iastore, 1) ∧ 28 + 1 = 29 := by decide +kernel
theorem dX2_addBook_29 : decode bX2_addBook 29 = .ok (.aload_n 0, 1) ∧ 29 + 1 = 30 := by decide +kernel
theorem dX2_addBook_30 : decode bX2_addBook 30 = .ok (.dup, 1) ∧ 30 + 1 = 31 := by decide +kernel
theorem dX2_addBook_31 : decode bX2_addBook 31 = .ok (.getfield 16, 3) ∧ 31 + 3 = 34 := by decide +kernel
theorem dX2_addBook_34 : decode bX2_addBook 34 = .ok (.iconst 1, 1) ∧ 34 + 1 = 35 := by decide +kernel
theorem dX2_addBook_35 : decode bX2_addBook 35 = .ok (.iadd, 1) ∧ 35 + 1 = 36 := by decide +kernel
theorem dX2_addBook_36 : decode bX2_addBook 36 = .ok (.putfield 16, 3) ∧ 36 + 3 = 39 := by decide +kernel
theorem dX2_addBook_39 : decode bX2_addBook 39 = .ok (.aload_n 0, 1) ∧ 39 + 1 = 40 := by decide +kernel
theorem dX2_addBook_40 : decode bX2_addBook 40 = .ok (.getfield 16, 3) ∧ 40 + 3 = 43 := by decide +kernel
theorem dX2_addBook_43 : decode bX2_addBook 43 = .ok (.ireturn, 1) := by decide +kernel
theorem dX2_farthestSeen_0 : decode bX2_farthestSeen 0 = .ok (.iconst (-1), 1) ∧ 0 + 1 = 1 := by decide +kernel
theorem dX2_farthestSeen_1 : decode bX2_farthestSeen 1 = .ok (.istore_n 1, 1) ∧ 1 + 1 = 2 := by decide +kernel
theorem dX2_farthestSeen_2 : decode bX2_farthestSeen 2 = .ok (.iconst 0, 1) ∧ 2 + 1 = 3 := by decide +kernel
theorem dX2_farthestSeen_3 : decode bX2_farthestSeen 3 = .ok (.istore_n 2, 1) ∧ 3 + 1 = 4 := by decide +kernel
theorem dX2_farthestSeen_4 : decode bX2_farthestSeen 4 = .ok (.iload_n 2, 1) ∧ 4 + 1 = 5 := by decide +kernel
theorem dX2_farthestSeen_5 : decode bX2_farthestSeen 5 = .ok (.aload_n 0, 1) ∧ 5 + 1 = 6 := by decide +kernel
theorem dX2_farthestSeen_6 : decode bX2_farthestSeen 6 = .ok (.getfield 7, 3) ∧ 6 + 3 = 9 := by decide +kernel
theorem dX2_farthestSeen_9 : decode bX2_farthestSeen 9 = .ok (.if_icmp .ge 20, 3) ∧ 9 + 3 = 12 ∧ ((9 : Nat) : Int) + (20) = ((29 : Nat) : Int) := by decide +kernel
theorem dX2_farthestSeen_12 : decode bX2_farthestSeen 12 = .ok (.iload_n 1, 1) ∧ 12 + 1 = 13 := by decide +kernel
theorem dX2_farthestSeen_13 : decode bX2_farthestSeen 13 = .ok (.aload_n 0, 1) ∧ 13 + 1 = 14 := by decide +kernel
theorem dX2_farthestSeen_14 : decode bX2_farthestSeen 14 = .ok (.getfield 23, 3) ∧ 14 + 3 = 17 := by decide +kernel
theorem dX2_farthestSeen_17 : decode bX2_farthestSeen 17 = .ok (.iload_n 2, 1) ∧ 17 + 1 = 18 := by decide +kernel
theorem dX2_farthestSeen_18 : decode bX2_farthestSeen 18 = .ok (.iaload, 1) ∧ 18 + 1 = 19 := by decide +kernel
theorem dX2_farthestSeen_19 : decode bX2_farthestSeen 19 = .ok (.invokestatic 44, 3) ∧ 19 + 3 = 22 := by decide +kernel
theorem dX2_farthestSeen_22 : decode bX2_farthestSeen 22 = .ok (.istore_n 1, 1) ∧ 22 + 1 = 23 := by decide +kernel
theorem dX2_farthestSeen_23 : decode bX2_farthestSeen 23 = .ok (.iinc 2 1, 3) ∧ 23 + 3 = 26 := by decide +kernel
theorem dX2_farthestSeen_26 : decode bX2_farthestSeen 26 = .ok (.goto (-22), 3) ∧ ((26 : Nat) : Int) + (-22) = ((4 : Nat) : Int) := by decide +kernel
theorem dX2_farthestSeen_29 : decode bX2_farthestSeen 29 = .ok (.iload_n 1, 1) ∧ 29 + 1 = 30 := by decide +kernel
theorem dX2_farthestSeen_30 : decode bX2_farthestSeen 30 = .ok (.ireturn, 1) := by decide +kernel
theorem dX2_seenFits_0 : decode bX2_seenFits 0 = .ok (.iconst 0, 1) ∧ 0 + 1 = 1 := by decide +kernel
theorem dX2_seenFits_1 : decode bX2_seenFits 1 = .ok (.istore_n 3, 1) ∧ 1 + 1 = 2 := by decide +kernel
theorem dX2_seenFits_2 : decode bX2_seenFits 2 = .ok (.iload_n 3, 1) ∧ 2 + 1 = 3 := by decide +kernel
theorem dX2_seenFits_3 : decode bX2_seenFits 3 = .ok (.aload_n 0, 1) ∧ 3 + 1 = 4 := by decide +kernel
theorem dX2_seenFits_4 : decode bX2_seenFits 4 = .ok (.getfield 7, 3) ∧ 4 + 3 = 7 := by decide +kernel
theorem dX2_seenFits_7 : decode bX2_seenFits 7 = .ok (.if_icmp .ge 31, 3) ∧ 7 + 3 = 10 ∧ ((7 : Nat) : Int) + (31) = ((38 : Nat) : Int) := by decide +kernel
theorem dX2_seenFits_10 : decode bX2_seenFits 10 = .ok (.aload_n 0, 1) ∧ 10 + 1 = 11 := by decide +kernel
theorem dX2_seenFits_11 : decode bX2_seenFits 11 = .ok (.getfield 23, 3) ∧ 11 + 3 = 14 := by decide +kernel
theorem dX2_seenFits_14 : decode bX2_seenFits 14 = .ok (.iload_n 3, 1) ∧ 14 + 1 = 15 := by decide +kernel
theorem dX2_seenFits_15 : decode bX2_seenFits 15 = .ok (.iaload, 1) ∧ 15 + 1 = 16 := by decide +kernel
theorem dX2_seenFits_16 : decode bX2_seenFits 16 = .ok (.iload_n 1, 1) ∧ 16 + 1 = 17 := by decide +kernel
theorem dX2_seenFits_17 : decode bX2_seenFits 17 = .ok (.if_icmp .ne 15, 3) ∧ 17 + 3 = 20 ∧ ((17 : Nat) : Int) + (15) = ((32 : Nat) : Int) := by decide +kernel
theorem dX2_seenFits_20 : decode bX2_seenFits 20 = .ok (.aload_n 0, 1) ∧ 20 + 1 = 21 := by decide +kernel
theorem dX2_seenFits_21 : decode bX2_seenFits 21 = .ok (.getfield 19, 3) ∧ 21 + 3 = 24 := by decide +kernel
theorem dX2_seenFits_24 : decode bX2_seenFits 24 = .ok (.iload_n 3, 1) ∧ 24 + 1 = 25 := by decide +kernel
theorem dX2_seenFits_25 : decode bX2_seenFits 25 = .ok (.iaload, 1) ∧ 25 + 1 = 26 := by decide +kernel
theorem dX2_seenFits_26 : decode bX2_seenFits 26 = .ok (.iload_n 2, 1) ∧ 26 + 1 = 27 := by decide +kernel
theorem dX2_seenFits_27 : decode bX2_seenFits 27 = .ok (.if_icmp .eq 5, 3) ∧ 27 + 3 = 30 ∧ ((27 : Nat) : Int) + (5) = ((32 : Nat) : Int) := by decide +kernel
theorem dX2_seenFits_30 : decode bX2_seenFits 30 = .ok (.iconst 0, 1) ∧ 30 + 1 = 31 := by decide +kernel
theorem dX2_seenFits_31 : decode bX2_seenFits 31 = .ok (.ireturn, 1) := by decide +kernel
theorem dX2_seenFits_32 : decode bX2_seenFits 32 = .ok (.iinc 3 1, 3) ∧ 32 + 3 = 35 := by decide +kernel
theorem dX2_seenFits_35 : decode bX2_seenFits 35 = .ok (.goto (-33), 3) ∧ ((35 : Nat) : Int) + (-33) = ((2 : Nat) : Int) := by decide +kernel
theorem dX2_seenFits_38 : decode bX2_seenFits 38 = .ok (.iconst 1, 1) ∧ 38 + 1 = 39 := by decide +kernel
theorem dX2_seenFits_39 : decode bX2_seenFits 39 = .ok (.ireturn, 1) := by decide +kernel
theorem dX3_take_0 : decode bX3_take 0 = .ok (.aload_n 0, 1) ∧ 0 + 1 = 1 := by decide +kernel
theorem dX3_take_1 : decode bX3_take 1 = .ok (.getfield 7, 3) ∧ 1 + 3 = 4 := by decide +kernel
theorem dX3_take_4 : decode bX3_take 4 = .ok (.bipush 100, 2) ∧ 4 + 2 = 6 := by decide +kernel
theorem dX3_take_6 : decode bX3_take 6 = .ok (.if_icmp .ge 23, 3) ∧ 6 + 3 = 9 ∧ ((6 : Nat) : Int) + (23) = ((29 : Nat) : Int) := by decide +kernel
theorem dX3_take_9 : decode bX3_take 9 = .ok (.aload_n 0, 1) ∧ 9 + 1 = 10 := by decide +kernel
theorem dX3_take_10 : decode bX3_take 10 = .ok (.getfield 20, 3) ∧ 10 + 3 = 13 := by decide +kernel
theorem dX3_take_13 : decode bX3_take 13 = .ok (.aload_n 0, 1) ∧ 13 + 1 = 14 := by decide +kernel
theorem dX3_take_14 : decode bX3_take 14 = .ok (.getfield 7, 3) ∧ 14 + 3 = 17 := by decide +kernel
theorem dX3_take_17 : decode bX3_take 17 = .ok (.iload_n 1, 1) ∧ 17 + 1 = 18 := by decide +kernel
theorem dX3_take_18 : decode bX3_take 18 = .ok (.iastore, 1) ∧ 18 + 1 = 19 := by decide +kernel
theorem dX3_take_19 : decode bX3_take 19 = .ok (.aload_n 0, 1) ∧ 19 + 1 = 20 := by decide +kernel
theorem dX3_take_20 : decode bX3_take 20 = .ok (.dup, 1) ∧ 20 + 1 = 21 := by decide +kernel
theorem dX3_take_21 : decode bX3_take 21 = .ok (.getfield 7, 3) ∧ 21 + 3 = 24 := by decide +kernel
theorem dX3_take_24 : decode bX3_take 24 = .ok (.iconst 1, 1) ∧ 24 + 1 = 25 := by decide +kernel
theorem dX3_take_25 : decode bX3_take 25 = .ok (.iadd, 1) ∧ 25 + 1 = 26 := by decide +kernel
theorem dX3_take_26 : decode bX3_take 26 = .ok (.putfield 7, 3) ∧ 26 + 3 = 29 := by decide +kernel
theorem dX3_take_29 : decode bX3_take 29 = .ok (.return_, 1) := by decide +kernel
theorem dX3_readInto_0 : decode bX3_readInto 0 = .ok (.aload_n 0, 1) ∧ 0 + 1 = 1 := by decide +kernel
theorem dX3_readInto_1 : decode bX3_readInto 1 = .ok (.aload_n 1, 1) ∧ 1 + 1 = 2 := by decide +kernel
theorem dX3_readInto_2 : decode bX3_readInto 2 = .ok (.putfield 27, 3) ∧ 2 + 3 = 5 := by decide +kernel
theorem dX3_readInto_5 : decode bX3_readInto 5 = .ok (.aload_n 0, 1) ∧ 5 + 1 = 6 := by decide +kernel
theorem dX3_readInto_6 : decode bX3_readInto 6 = .ok (.getfield 27, 3) ∧ 6 + 3 = 9 := by decide +kernel
theorem dX3_readInto_9 : decode bX3_readInto 9 = .ok (.invokevirtual 31, 3) ∧ 9 + 3 = 12 := by decide +kernel
theorem dX3_readInto_12 : decode bX3_readInto 12 = .ok (.aload_n 0, 1) ∧ 12 + 1 = 13 := by decide +kernel
theorem dX3_readInto_13 : decode bX3_readInto 13 = .ok (.iconst 0, 1) ∧ 13 + 1 = 14 := by decide +kernel
theorem dX3_readInto_14 : decode bX3_readInto 14 = .ok (.putfield 13, 3) ∧ 14 + 3 = 17 := by decide +kernel
theorem dX3_readInto_17 : decode bX3_readInto 17 = .ok (.aload_n 0, 1) ∧ 17 + 1 = 18 := by decide +kernel
theorem dX3_readInto_18 : decode bX3_readInto 18 = .ok (.iconst 0, 1) ∧ 18 + 1 = 19 := by decide +kernel
theorem dX3_readInto_19 : decode bX3_readInto 19 = .ok (.putfield 16, 3) ∧ 19 + 3 = 22 := by decide +kernel
theorem dX3_readInto_22 : decode bX3_readInto 22 = .ok (.aload_n 0, 1) ∧ 22 + 1 = 23 := by decide +kernel
theorem dX3_readInto_23 : decode bX3_readInto 23 = .ok (.invokevirtual 34, 3) ∧ 23 + 3 = 26 := by decide +kernel
theorem dX3_readInto_26 : decode bX3_readInto 26 = .ok (.iconst 1, 1) ∧ 26 + 1 = 27 := by decide +kernel
theorem dX3_readInto_27 : decode bX3_readInto 27 = .ok (.istore_n 2, 1) ∧ 27 + 1 = 28 := by decide +kernel
theorem dX3_readInto_28 : decode bX3_readInto 28 = .ok (.iload_n 2, 1) ∧ 28 + 1 = 29 := by decide +kernel
theorem dX3_readInto_29 : decode bX3_readInto 29 = .ok (.bipush 10, 2) ∧ 29 + 2 = 31 := by decide +kernel
theorem dX3_readInto_31 : decode bX3_readInto 31 = .ok (.if_icmp .ge 39, 3) ∧ 31 + 3 = 34 ∧ ((31 : Nat) : Int) + (39) = ((70 : Nat) : Int) := by decide +kernel
theorem dX3_readInto_34 : decode bX3_readInto 34 = .ok (.aload_n 0, 1) ∧ 34 + 1 = 35 := by decide +kernel
theorem dX3_readInto_35 : decode bX3_readInto 35 = .ok (.getfield 16, 3) ∧ 35 + 3 = 38 := by decide +kernel
theorem dX3_readInto_38 : decode bX3_readInto 38 = .ok (.ifCond .ne 32, 3) ∧ 38 + 3 = 41 ∧ ((38 : Nat) : Int) + (32) = ((70 : Nat) : Int) := by decide +kernel
theorem dX3_readInto_41 : decode bX3_readInto 41 = .ok (.aload_n 0, 1) ∧ 41 + 1 = 42 := by decide +kernel
theorem dX3_readInto_42 : decode bX3_readInto 42 = .ok (.invokevirtual 37, 3) ∧ 42 + 3 = 45 := by decide +kernel
theorem dX3_readInto_45 : decode bX3_readInto 45 = .ok (.bipush 59, 2) ∧ 45 + 2 = 47 := by decide +kernel
theorem dX3_readInto_47 : decode bX3_readInto 47 = .ok (.if_icmp .ne 23, 3) ∧ 47 + 3 = 50 ∧ ((47 : Nat) : Int) + (23) = ((70 : Nat) : Int) := by decide +kernel
theorem dX3_readInto_50 : decode bX3_readInto 50 = .ok (.aload_n 0, 1) ∧ 50 + 1 = 51 := by decide +kernel
theorem dX3_readInto_51 : decode bX3_readInto 51 = .ok (.dup, 1) ∧ 51 + 1 = 52 := by decide +kernel
theorem dX3_readInto_52 : decode bX3_readInto 52 = .ok (.getfield 13, 3) ∧ 52 + 3 = 55 := by decide +kernel
theorem dX3_readInto_55 : decode bX3_readInto 55 = .ok (.iconst 1, 1) ∧ 55 + 1 = 56 := by decide +kernel
theorem dX3_readInto_56 : decode bX3_readInto 56 = .ok (.iadd, 1) ∧ 56 + 1 = 57 := by decide +kernel
theorem dX3_readInto_57 : decode bX3_readInto 57 = .ok (.putfield 13, 3) ∧ 57 + 3 = 60 := by decide +kernel
theorem dX3_readInto_60 : decode bX3_readInto 60 = .ok (.aload_n 0, 1) ∧ 60 + 1 = 61 := by decide +kernel
theorem dX3_readInto_61 : decode bX3_readInto 61 = .ok (.invokevirtual 34, 3) ∧ 61 + 3 = 64 := by decide +kernel
theorem dX3_readInto_64 : decode bX3_readInto 64 = .ok (.iinc 2 1, 3) ∧ 64 + 3 = 67 := by decide +kernel
theorem dX3_readInto_67 : decode bX3_readInto 67 = .ok (.goto (-39), 3) ∧ ((67 : Nat) : Int) + (-39) = ((28 : Nat) : Int) := by decide +kernel
theorem dX3_readInto_70 : decode bX3_readInto 70 = .ok (.aload_n 0, 1) ∧ 70 + 1 = 71 := by decide +kernel
theorem dX3_readInto_71 : decode bX3_readInto 71 = .ok (.getfield 16, 3) ∧ 71 + 3 = 74 := by decide +kernel
theorem dX3_readInto_74 : decode bX3_readInto 74 = .ok (.ifCond .ne 14, 3) ∧ 74 + 3 = 77 ∧ ((74 : Nat) : Int) + (14) = ((88 : Nat) : Int) := by decide +kernel
theorem dX3_readInto_77 : decode bX3_readInto 77 = .ok (.aload_n 0, 1) ∧ 77 + 1 = 78 := by decide +kernel
theorem dX3_readInto_78 : decode bX3_readInto 78 = .ok (.getfield 13, 3) ∧ 78 + 3 = 81 := by decide +kernel
theorem dX3_readInto_81 : decode bX3_readInto 81 = .ok (.aload_n 0, 1) ∧ 81 + 1 = 82 := by decide +kernel
theorem dX3_readInto_82 : decode bX3_readInto 82 = .ok (.getfield 7, 3) ∧ 82 + 3 = 85 := by decide +kernel
theorem dX3_readInto_85 : decode bX3_readInto 85 = .ok (.if_icmp .ge 10, 3) ∧ 85 + 3 = 88 ∧ ((85 : Nat) : Int) + (10) = ((95 : Nat) : Int) := by decide +kernel
theorem dX3_readInto_88 : decode bX3_readInto 88 = .ok (.aload_n 0, 1) ∧ 88 + 1 = 89 := by decide +kernel
theorem dX3_readInto_89 : decode bX3_readInto 89 = .ok (.getfield 13, 3) ∧ 89 + 3 = 92 := by decide +kernel
theorem dX3_readInto_92 : decode bX3_readInto 92 = .ok (.goto 4, 3) ∧ ((92 : Nat) : Int) + (4) = ((96 : Nat) : Int) := by decide +kernel
theorem dX3_readInto_95 : decode bX3_readInto 95 = .ok (.iconst (-1), 1) ∧ 95 + 1 = 96 := by decide +kernel
theorem dX3_readInto_96 : decode bX3_readInto 96 = .ok (.ireturn, 1) := by decide +kernel
theorem dX3_sign_0 : decode bX3_sign 0 = .ok (.aload_n 0, 1) ∧ 0 + 1 = 1 := by decide +kernel
theorem dX3_sign_1 : decode bX3_sign 1 = .ok (.getfield 13, 3) ∧ 1 + 3 = 4 := by decide +kernel
theorem dX3_sign_4 : decode bX3_sign 4 = .ok (.aload_n 0, 1) ∧ 4 + 1 = 5 := by decide +kernel
theorem dX3_sign_5 : decode bX3_sign 5 = .ok (.getfield 7, 3) ∧ 5 + 3 = 8 := by decide +kernel
theorem dX3_sign_8 : decode bX3_sign 8 = .ok (.if_icmp .ge 24, 3) ∧ 8 + 3 = 11 ∧ ((8 : Nat) : Int) + (24) = ((32 : Nat) : Int) := by decide +kernel
theorem dX3_sign_11 : decode bX3_sign 11 = .ok (.aload_n 0, 1) ∧ 11 + 1 = 12 := by decide +kernel
theorem dX3_sign_12 : decode bX3_sign 12 = .ok (.getfield 13, 3) ∧ 12 + 3 = 15 := by decide +kernel
theorem dX3_sign_15 : decode bX3_sign 15 = .ok (.bipush 100, 2) ∧ 15 + 2 = 17 := by decide +kernel
theorem dX3_sign_17 : decode bX3_sign 17 = .ok (.if_icmp .ge 15, 3) ∧ 17 + 3 = 20 ∧ ((17 : Nat) : Int) + (15) = ((32 : Nat) : Int) := by decide +kernel
theorem dX3_sign_20 : decode bX3_sign 20 = .ok (.aload_n 0, 1) ∧ 20 + 1 = 21 := by decide +kernel
theorem dX3_sign_21 : decode bX3_sign 21 = .ok (.getfield 20, 3) ∧ 21 + 3 = 24 := by decide +kernel
theorem dX3_sign_24 : decode bX3_sign 24 = .ok (.aload_n 0, 1) ∧ 24 + 1 = 25 := by decide +kernel
theorem dX3_sign_25 : decode bX3_sign 25 = .ok (.getfield 13, 3) ∧ 25 + 3 = 28 := by decide +kernel
theorem dX3_sign_28 : decode bX3_sign 28 = .ok (.iaload, 1) ∧ 28 + 1 = 29 := by decide +kernel
theorem dX3_sign_29 : decode bX3_sign 29 = .ok (.goto 4, 3) ∧ ((29 : Nat) : Int) + (4) = ((33 : Nat) : Int) := by decide +kernel
theorem dX3_sign_32 : decode bX3_sign 32 = .ok (.iconst (-1), 1) ∧ 32 + 1 = 33 := by decide +kernel
theorem dX3_sign_33 : decode bX3_sign 33 = .ok (.ireturn, 1) := by decide +kernel
theorem dX3_expect_0 : decode bX3_expect 0 = .ok (.aload_n 0, 1) ∧ 0 + 1 = 1 := by decide +kernel
theorem dX3_expect_1 : decode bX3_expect 1 = .ok (.getfield 16, 3) ∧ 1 + 3 = 4 := by decide +kernel
theorem dX3_expect_4 : decode bX3_expect 4 = .ok (.ifCond .ne 11, 3) ∧ 4 + 3 = 7 ∧ ((4 : Nat) : Int) + (11) = ((15 : Nat) : Int) := by decide +kernel
theorem dX3_expect_7 : decode bX3_expect 7 = .ok (.aload_n 0, 1) ∧ 7 + 1 = 8 := by decide +kernel
theorem dX3_expect_8 : decode bX3_expect 8 = .ok (.invokevirtual 37, 3) ∧ 8 + 3 = 11 := by decide +kernel
theorem dX3_expect_11 : decode bX3_expect 11 = .ok (.iload_n 1, 1) ∧ 11 + 1 = 12 := by decide +kernel
theorem dX3_expect_12 : decode bX3_expect 12 = .ok (.if_icmp .eq 11, 3) ∧ 12 + 3 = 15 ∧ ((12 : Nat) : Int) + (11) = ((23 : Nat) : Int) := by decide +kernel
theorem dX3_expect_15 : decode bX3_expect 15 = .ok (.aload_n 0, 1) ∧ 15 + 1 = 16 := by decide +kernel
theorem dX3_expect_16 : decode bX3_expect 16 = .ok (.iconst 1, 1) ∧ 16 + 1 = 17 := by decide +kernel
theorem dX3_expect_17 : decode bX3_expect 17 = .ok (.putfield 16, 3) ∧ 17 + 3 = 20 := by decide +kernel
theorem dX3_expect_20 : decode bX3_expect 20 = .ok (.goto 13, 3) ∧ ((20 : Nat) : Int) + (13) = ((33 : Nat) : Int) := by decide +kernel
theorem dX3_expect_23 : decode bX3_expect 23 = .ok (.aload_n 0, 1) ∧ 23 + 1 = 24 := by decide +kernel
theorem dX3_expect_24 : decode bX3_expect 24 = .ok (.dup, 1) ∧ 24 + 1 = 25 := by decide +kernel
theorem dX3_expect_25 : decode bX3_expect 25 = .ok (.getfield 13, 3) ∧ 25 + 3 = 28 := by decide +kernel
theorem dX3_expect_28 : decode bX3_expect 28 = .ok (.iconst 1, 1) ∧ 28 + 1 = 29 := by decide +kernel
theorem dX3_expect_29 : decode bX3_expect 29 = .ok (.iadd, 1) ∧ 29 + 1 = 30 := by decide +kernel
theorem dX3_expect_30 : decode bX3_expect 30 = .ok (.putfield 13, 3) ∧ 30 + 3 = 33 := by decide +kernel
theorem dX3_expect_33 : decode bX3_expect 33 = .ok (.return_, 1) := by decide +kernel
theorem dX3_expectWord_0 : decode bX3_expectWord 0 = .ok (.iconst 0, 1) ∧ 0 + 1 = 1 := by decide +kernel
theorem dX3_expectWord_1 : decode bX3_expectWord 1 = .ok (.istore_n 2, 1) ∧ 1 + 1 = 2 := by decide +kernel
theorem dX3_expectWord_2 : decode bX3_expectWord 2 = .ok (.iload_n 2, 1) ∧ 2 + 1 = 3 := by decide +kernel
theorem dX3_expectWord_3 : decode bX3_expectWord 3 = .ok (.aload_n 1, 1) ∧ 3 + 1 = 4 := by decide +kernel
theorem dX3_expectWord_4 : decode bX3_expectWord 4 = .ok (.invokevirtual 41, 3) ∧ 4 + 3 = 7 := by decide +kernel
theorem dX3_expectWord_7 : decode bX3_expectWord 7 = .ok (.if_icmp .ge 18, 3) ∧ 7 + 3 = 10 ∧ ((7 : Nat) : Int) + (18) = ((25 : Nat) : Int) := by decide +kernel
theorem dX3_expectWord_10 : decode bX3_expectWord 10 = .ok (.aload_n 0, 1) ∧ 10 + 1 = 11 := by decide +kernel
theorem dX3_expectWord_11 : decode bX3_expectWord 11 = .ok (.aload_n 1, 1) ∧ 11 + 1 = 12 := by decide +kernel
theorem dX3_expectWord_12 : decode bX3_expectWord 12 = .ok (.iload_n 2, 1) ∧ 12 + 1 = 13 := by decide +kernel
theorem dX3_expectWord_13 : decode bX3_expectWord 13 = .ok (.invokevirtual 45, 3) ∧ 13 + 3 = 16 := by decide +kernel
theorem dX3_expectWord_16 : decode bX3_expectWord 16 = .ok (.invokevirtual 49, 3) ∧ 16 + 3 = 19 := by decide +kernel
theorem dX3_expectWord_19 : decode bX3_expectWord 19 = .ok (.iinc 2 1, 3) ∧ 19 + 3 = 22 := by decide +kernel
theorem dX3_expectWord_22 : decode bX3_expectWord 22 = .ok (.goto (-20), 3) ∧ ((22 : Nat) : Int) + (-20) = ((2 : Nat) : Int) := by decide +kernel
theorem dX3_expectWord_25 : decode bX3_expectWord 25 = .ok (.return_, 1) := by decide +kernel
theorem dX3_readClause_0 : decode bX3_readClause 0 = .ok (.aload_n 0, 1) ∧ 0 + 1 = 1 := by decide +kernel
theorem dX3_readClause_1 : decode bX3_readClause 1 = .ok (.invokevirtual 37, 3) ∧ 1 + 3 = 4 := by decide +kernel
theorem dX3_readClause_4 : decode bX3_readClause 4 = .ok (.istore_n 1, 1) ∧ 4 + 1 = 5 := by decide +kernel
theorem dX3_readClause_5 : decode bX3_readClause 5 = .ok (.aload_n 0, 1) ∧ 5 + 1 = 6 := by decide +kernel
theorem dX3_readClause_6 : decode bX3_readClause 6 = .ok (.iload_n 1, 1) ∧ 6 + 1 = 7 := by decide +kernel
theorem dX3_readClause_7 : decode bX3_readClause 7 = .ok (.invokestatic 53, 3) ∧ 7 + 3 = 10 := by decide +kernel
theorem dX3_readClause_10 : decode bX3_readClause 10 = .ok (.invokevirtual 57, 3) ∧ 10 + 3 = 13 := by decide +kernel
theorem dX3_readClause_13 : decode bX3_readClause 13 = .ok (.aload_n 0, 1) ∧ 13 + 1 = 14 := by decide +kernel
theorem dX3_readClause_14 : decode bX3_readClause 14 = .ok (.invokevirtual 61, 3) ∧ 14 + 3 = 17 := by decide +kernel
theorem dX3_readClause_17 : decode bX3_readClause 17 = .ok (.istore_n 2, 1) ∧ 17 + 1 = 18 := by decide +kernel
theorem dX3_readClause_18 : decode bX3_readClause 18 = .ok (.iload_n 1, 1) ∧ 18 + 1 = 19 := by decide +kernel
theorem dX3_readClause_19 : decode bX3_readClause 19 = .ok (.lookupswitch 66 #[(102, 55), (109, 33), (115, 44)], 33) := by decide +kernel
theorem dX3_readClause_52 : decode bX3_readClause 52 = .ok (.aload_n 0, 1) ∧ 52 + 1 = 53 := by decide +kernel
theorem dX3_readClause_53 : decode bX3_readClause 53 = .ok (.getfield 27, 3) ∧ 53 + 3 = 56 := by decide +kernel
theorem dX3_readClause_56 : decode bX3_readClause 56 = .ok (.iload_n 2, 1) ∧ 56 + 1 = 57 := by decide +kernel
theorem dX3_readClause_57 : decode bX3_readClause 57 = .ok (.putfield 64, 3) ∧ 57 + 3 = 60 := by decide +kernel
theorem dX3_readClause_60 : decode bX3_readClause 60 = .ok (.goto 55, 3) ∧ ((60 : Nat) : Int) + (55) = ((115 : Nat) : Int) := by decide +kernel
theorem dX3_readClause_63 : decode bX3_readClause 63 = .ok (.aload_n 0, 1) ∧ 63 + 1 = 64 := by decide +kernel
theorem dX3_readClause_64 : decode bX3_readClause 64 = .ok (.getfield 27, 3) ∧ 64 + 3 = 67 := by decide +kernel
theorem dX3_readClause_67 : decode bX3_readClause 67 = .ok (.iload_n 2, 1) ∧ 67 + 1 = 68 := by decide +kernel
theorem dX3_readClause_68 : decode bX3_readClause 68 = .ok (.putfield 67, 3) ∧ 68 + 3 = 71 := by decide +kernel
theorem dX3_readClause_71 : decode bX3_readClause 71 = .ok (.goto 44, 3) ∧ ((71 : Nat) : Int) + (44) = ((115 : Nat) : Int) := by decide +kernel
theorem dX3_readClause_74 : decode bX3_readClause 74 = .ok (.aload_n 0, 1) ∧ 74 + 1 = 75 := by decide +kernel
theorem dX3_readClause_75 : decode bX3_readClause 75 = .ok (.getfield 27, 3) ∧ 75 + 3 = 78 := by decide +kernel
theorem dX3_readClause_78 : decode bX3_readClause 78 = .ok (.iload_n 2, 1) ∧ 78 + 1 = 79 := by decide +kernel
theorem dX3_readClause_79 : decode bX3_readClause 79 = .ok (.putfield 70, 3) ∧ 79 + 3 = 82 := by decide +kernel
theorem dX3_readClause_82 : decode bX3_readClause 82 = .ok (.goto 33, 3) ∧ ((82 : Nat) : Int) + (33) = ((115 : Nat) : Int) := by decide +kernel
theorem dX3_readClause_85 : decode bX3_readClause 85 = .ok (.aload_n 0, 1) ∧ 85 + 1 = 86 := by decide +kernel
theorem dX3_readClause_86 : decode bX3_readClause 86 = .ok (.bipush 32, 2) ∧ 86 + 2 = 88 := by decide +kernel
theorem dX3_readClause_88 : decode bX3_readClause 88 = .ok (.invokevirtual 49, 3) ∧ 88 + 3 = 91 := by decide +kernel
theorem dX3_readClause_91 : decode bX3_readClause 91 = .ok (.aload_n 0, 1) ∧ 91 + 1 = 92 := by decide +kernel
theorem dX3_readClause_92 : decode bX3_readClause 92 = .ok (.iconst 0, 1) ∧ 92 + 1 = 93 := by decide +kernel
theorem dX3_readClause_93 : decode bX3_readClause 93 = .ok (.invokevirtual 73, 3) ∧ 93 + 3 = 96 := by decide +kernel
theorem dX3_readClause_96 : decode bX3_readClause 96 = .ok (.aload_n 0, 1) ∧ 96 + 1 = 97 := by decide +kernel
theorem dX3_readClause_97 : decode bX3_readClause 97 = .ok (.getfield 27, 3) ∧ 97 + 3 = 100 := by decide +kernel
theorem dX3_readClause_100 : decode bX3_readClause 100 = .ok (.iload_n 1, 1) ∧ 100 + 1 = 101 := by decide +kernel
theorem dX3_readClause_101 : decode bX3_readClause 101 = .ok (.bipush 100, 2) ∧ 101 + 2 = 103 := by decide +kernel
theorem dX3_readClause_103 : decode bX3_readClause 103 = .ok (.if_icmp .ne 7, 3) ∧ 103 + 3 = 106 ∧ ((103 : Nat) : Int) + (7) = ((110 : Nat) : Int) := by decide +kernel
theorem dX3_readClause_106 : decode bX3_readClause 106 = .ok (.iload_n 2, 1) ∧ 106 + 1 = 107 := by decide +kernel
theorem dX3_readClause_107 : decode bX3_readClause 107 = .ok (.goto 5, 3) ∧ ((107 : Nat) : Int) + (5) = ((112 : Nat) : Int) := by decide +kernel
theorem dX3_readClause_110 : decode bX3_readClause 110 = .ok (.iload_n 2, 1) ∧ 110 + 1 = 111 := by decide +kernel
theorem dX3_readClause_111 : decode bX3_readClause 111 = .ok (.ineg, 1) ∧ 111 + 1 = 112 := by decide +kernel
theorem dX3_readClause_112 : decode bX3_readClause 112 = .ok (.invokevirtual 76, 3) ∧ 112 + 3 = 115 := by decide +kernel
theorem dX3_readClause_115 : decode bX3_readClause 115 = .ok (.return_, 1) := by decide +kernel
theorem dX3_wordOf_0 : decode bX3_wordOf 0 = .ok (.iload_n 0, 1) ∧ 0 + 1 = 1 := by decide +kernel
theorem dX3_wordOf_1 : decode bX3_wordOf 1 = .ok (.lookupswitch 55 #[(99, 43), (102, 52), (109, 46), (115, 49)], 43) := by decide +kernel
theorem dX3_wordOf_44 : decode bX3_wordOf 44 = .ok (.ldc 79, 2) ∧ 44 + 2 = 46 := by decide +kernel
theorem dX3_wordOf_46 : decode bX3_wordOf 46 = .ok (.areturn, 1) := by decide +kernel
theorem dX3_wordOf_47 : decode bX3_wordOf 47 = .ok (.ldc 81, 2) ∧ 47 + 2 = 49 := by decide +kernel
theorem dX3_wordOf_49 : decode bX3_wordOf 49 = .ok (.areturn, 1) := by decide +kernel
theorem dX3_wordOf_50 : decode bX3_wordOf 50 = .ok (.ldc 83, 2) ∧ 50 + 2 = 52 := by decide +kernel
theorem dX3_wordOf_52 : decode bX3_wordOf 52 = .ok (.areturn, 1) := by decide +kernel
theorem dX3_wordOf_53 : decode bX3_wordOf 53 = .ok (.ldc 85, 2) ∧ 53 + 2 = 55 := by decide +kernel
theorem dX3_wordOf_55 : decode bX3_wordOf 55 = .ok (.areturn, 1) := by decide +kernel
theorem dX3_wordOf_56 : decode bX3_wordOf 56 = .ok (.ldc 87, 2) ∧ 56 + 2 = 58 := by decide +kernel
theorem dX3_wordOf_58 : decode bX3_wordOf 58 = .ok (.areturn, 1) := by decide +kernel
theorem dX3_readNumber_0 : decode bX3_readNumber 0 = .ok (.iconst 0, 1) ∧ 0 + 1 = 1 := by decide +kernel
theorem dX3_readNumber_1 : decode bX3_readNumber 1 = .ok (.istore_n 1, 1) ∧ 1 + 1 = 2 := by decide +kernel
theorem dX3_readNumber_2 : decode bX3_readNumber 2 = .ok (.iconst 0, 1) ∧ 2 + 1 = 3 := by decide +kernel
theorem dX3_readNumber_3 : decode bX3_readNumber 3 = .ok (.istore_n 2, 1) ∧ 3 + 1 = 4 := by decide +kernel
theorem dX3_readNumber_4 : decode bX3_readNumber 4 = .ok (.iload_n 2, 1) ∧ 4 + 1 = 5 := by decide +kernel
theorem dX3_readNumber_5 : decode bX3_readNumber 5 = .ok (.iconst 2, 1) ∧ 5 + 1 = 6 := by decide +kernel
theorem dX3_readNumber_6 : decode bX3_readNumber 6 = .ok (.if_icmp .ge 57, 3) ∧ 6 + 3 = 9 ∧ ((6 : Nat) : Int) + (57) = ((63 : Nat) : Int) := by decide +kernel
theorem dX3_readNumber_9 : decode bX3_readNumber 9 = .ok (.aload_n 0, 1) ∧ 9 + 1 = 10 := by decide +kernel
theorem dX3_readNumber_10 : decode bX3_readNumber 10 = .ok (.getfield 16, 3) ∧ 10 + 3 = 13 := by decide +kernel
theorem dX3_readNumber_13 : decode bX3_readNumber 13 = .ok (.ifCond .ne 50, 3) ∧ 13 + 3 = 16 ∧ ((13 : Nat) : Int) + (50) = ((63 : Nat) : Int) := by decide +kernel
theorem dX3_readNumber_16 : decode bX3_readNumber 16 = .ok (.aload_n 0, 1) ∧ 16 + 1 = 17 := by decide +kernel
theorem dX3_readNumber_17 : decode bX3_readNumber 17 = .ok (.invokevirtual 37, 3) ∧ 17 + 3 = 20 := by decide +kernel
theorem dX3_readNumber_20 : decode bX3_readNumber 20 = .ok (.bipush 48, 2) ∧ 20 + 2 = 22 := by decide +kernel
theorem dX3_readNumber_22 : decode bX3_readNumber 22 = .ok (.if_icmp .lt 41, 3) ∧ 22 + 3 = 25 ∧ ((22 : Nat) : Int) + (41) = ((63 : Nat) : Int) := by decide +kernel
theorem dX3_readNumber_25 : decode bX3_readNumber 25 = .ok (.aload_n 0, 1) ∧ 25 + 1 = 26 := by decide +kernel
theorem dX3_readNumber_26 : decode bX3_readNumber 26 = .ok (.invokevirtual 37, 3) ∧ 26 + 3 = 29 := by decide +kernel
theorem dX3_readNumber_29 : decode bX3_readNumber 29 = .ok (.bipush 57, 2) ∧ 29 + 2 = 31 := by decide +kernel
theorem dX3_readNumber_31 : decode bX3_readNumber 31 = .ok (.if_icmp .gt 32, 3) ∧ 31 + 3 = 34 ∧ ((31 : Nat) : Int) + (32) = ((63 : Nat) : Int) := by decide +kernel
theorem dX3_readNumber_34 : decode bX3_readNumber 34 = .ok (.iload_n 1, 1) ∧ 34 + 1 = 35 := by decide +kernel
theorem dX3_readNumber_35 : decode bX3_readNumber 35 = .ok (.bipush 10, 2) ∧ 35 + 2 = 37 := by decide +kernel
theorem dX3_readNumber_37 : decode bX3_readNumber 37 = .ok (.imul, 1) ∧ 37 + 1 = 38 := by decide +kernel
theorem dX3_readNumber_38 : decode bX3_readNumber 38 = .ok (.aload_n 0, 1) ∧ 38 + 1 = 39 := by decide +kernel
theorem dX3_readNumber_39 : decode bX3_readNumber 39 = .ok (.invokevirtual 37, 3) ∧ 39 + 3 = 42 := by decide +kernel
theorem dX3_readNumber_42 : decode bX3_readNumber 42 = .ok (.iadd, 1) ∧ 42 + 1 = 43 := by decide +kernel
theorem dX3_readNumber_43 : decode bX3_readNumber 43 = .ok (.bipush 48, 2) ∧ 43 + 2 = 45 := by decide +kernel
theorem dX3_readNumber_45 : decode bX3_readNumber 45 = .ok (.isub, 1) ∧ 45 + 1 = 46 := by decide +kernel
theorem dX3_readNumber_46 : decode bX3_readNumber 46 = .ok (.istore_n 1, 1) ∧ 46 + 1 = 47 := by decide +kernel
theorem dX3_readNumber_47 : decode bX3_readNumber 47 = .ok (.aload_n 0, 1) ∧ 47 + 1 = 48 := by decide +kernel
theorem dX3_readNumber_48 : decode bX3_readNumber 48 = .ok (.dup, 1) ∧ 48 + 1 = 49 := by decide +kernel
theorem dX3_readNumber_49 : decode bX3_readNumber 49 = .ok (.getfield 13, 3) ∧ 49 + 3 = 52 := by decide +kernel
theorem dX3_readNumber_52 : decode bX3_readNumber 52 = .ok (.iconst 1, 1) ∧ 52 + 1 = 53 := by decide +kernel
theorem dX3_readNumber_53 : decode bX3_readNumber 53 = .ok (.iadd, 1) ∧ 53 + 1 = 54 := by decide +kernel
theorem dX3_readNumber_54 : decode bX3_readNumber 54 = .ok (.putfield 13, 3) ∧ 54 + 3 = 57 := by decide +kernel
theorem dX3_readNumber_57 : decode bX3_readNumber 57 = .ok (.iinc 2 1, 3) ∧ 57 + 3 = 60 := by decide +kernel
theorem dX3_readNumber_60 : decode bX3_readNumber 60 = .ok (.goto (-56), 3) ∧ ((60 : Nat) : Int) + (-56) = ((4 : Nat) : Int) := by decide +kernel
theorem dX3_readNumber_63 : decode bX3_readNumber 63 = .ok (.aload_n 0, 1) ∧ 63 + 1 = 64 := by decide +kernel
theorem dX3_readNumber_64 : decode bX3_readNumber 64 = .ok (.aload_n 0, 1) ∧ 64 + 1 = 65 := by decide +kernel
theorem dX3_readNumber_65 : decode bX3_readNumber 65 = .ok (.getfield 16, 3) ∧ 65 + 3 = 68 := by decide +kernel
theorem dX3_readNumber_68 : decode bX3_readNumber 68 = .ok (.ifCond .ne 7, 3) ∧ 68 + 3 = 71 ∧ ((68 : Nat) : Int) + (7) = ((75 : Nat) : Int) := by decide +kernel
theorem dX3_readNumber_71 : decode bX3_readNumber 71 = .ok (.iload_n 2, 1) ∧ 71 + 1 = 72 := by decide +kernel
theorem dX3_readNumber_72 : decode bX3_readNumber 72 = .ok (.ifCond .ne 7, 3) ∧ 72 + 3 = 75 ∧ ((72 : Nat) : Int) + (7) = ((79 : Nat) : Int) := by decide +kernel
theorem dX3_readNumber_75 : decode bX3_readNumber 75 = .ok (.iconst 1, 1) ∧ 75 + 1 = 76 := by decide +kernel
theorem dX3_readNumber_76 : decode bX3_readNumber 76 = .ok (.goto 4, 3) ∧ ((76 : Nat) : Int) + (4) = ((80 : Nat) : Int) := by decide +kernel
theorem dX3_readNumber_79 : decode bX3_readNumber 79 = .ok (.iconst 0, 1) ∧ 79 + 1 = 80 := by decide +kernel
theorem dX3_readNumber_80 : decode bX3_readNumber 80 = .ok (.putfield 16, 3) ∧ 80 + 3 = 83 := by decide +kernel
theorem dX3_readNumber_83 : decode bX3_readNumber 83 = .ok (.iload_n 1, 1) ∧ 83 + 1 = 84 := by decide +kernel
theorem dX3_readNumber_84 : decode bX3_readNumber 84 = .ok (.ireturn, 1) := by decide +kernel
theorem dX3_readEither_0 : decode bX3_readEither 0 = .ok (.iconst 1, 1) ∧ 0 + 1 = 1 := by decide +kernel
theorem dX3_readEither_1 : decode bX3_readEither 1 = .ok (.istore_n 2, 1) ∧ 1 + 1 = 2 := by decide +kernel
theorem dX3_readEither_2 : decode bX3_readEither 2 = .ok (.iconst 0, 1) ∧ 2 + 1 = 3 := by decide +kernel
theorem dX3_readEither_3 : decode bX3_readEither 3 = .ok (.istore_n 3, 1) ∧ 3 + 1 = 4 := by decide +kernel
theorem dX3_readEither_4 : decode bX3_readEither 4 = .ok (.iload_n 3, 1) ∧ 4 + 1 = 5 := by decide +kernel
theorem dX3_readEither_5 : decode bX3_readEither 5 = .ok (.bipush 100, 2) ∧ 5 + 2 = 7 := by decide +kernel
theorem dX3_readEither_7 : decode bX3_readEither 7 = .ok (.if_icmp .ge 129, 3) ∧ 7 + 3 = 10 ∧ ((7 : Nat) : Int) + (129) = ((136 : Nat) : Int) := by decide +kernel
theorem dX3_readEither_10 : decode bX3_readEither 10 = .ok (.iload_n 2, 1) ∧ 10 + 1 = 11 := by decide +kernel
theorem dX3_readEither_11 : decode bX3_readEither 11 = .ok (.ifCond .eq 125, 3) ∧ 11 + 3 = 14 ∧ ((11 : Nat) : Int) + (125) = ((136 : Nat) : Int) := by decide +kernel
theorem dX3_readEither_14 : decode bX3_readEither 14 = .ok (.aload_n 0, 1) ∧ 14 + 1 = 15 := by decide +kernel
theorem dX3_readEither_15 : decode bX3_readEither 15 = .ok (.iload_n 1, 1) ∧ 15 + 1 = 16 := by decide +kernel
theorem dX3_readEither_16 : decode bX3_readEither 16 = .ok (.invokevirtual 89, 3) ∧ 16 + 3 = 19 := by decide +kernel
theorem dX3_readEither_19 : decode bX3_readEither 19 = .ok (.iconst 0, 1) ∧ 19 + 1 = 20 := by decide +kernel
theorem dX3_readEither_20 : decode bX3_readEither 20 = .ok (.istore 4, 2) ∧ 20 + 2 = 22 := by decide +kernel
theorem dX3_readEither_22 : decode bX3_readEither 22 = .ok (.iload 4, 2) ∧ 22 + 2 = 24 := by decide +kernel
theorem dX3_readEither_24 : decode bX3_readEither 24 = .ok (.bipush 100, 2) ∧ 24 + 2 = 26 := by decide +kernel
theorem dX3_readEither_26 : decode bX3_readEither 26 = .ok (.if_icmp .ge 50, 3) ∧ 26 + 3 = 29 ∧ ((26 : Nat) : Int) + (50) = ((76 : Nat) : Int) := by decide +kernel
theorem dX3_readEither_29 : decode bX3_readEither 29 = .ok (.aload_n 0, 1) ∧ 29 + 1 = 30 := by decide +kernel
theorem dX3_readEither_30 : decode bX3_readEither 30 = .ok (.getfield 16, 3) ∧ 30 + 3 = 33 := by decide +kernel
theorem dX3_readEither_33 : decode bX3_readEither 33 = .ok (.ifCond .ne 43, 3) ∧ 33 + 3 = 36 ∧ ((33 : Nat) : Int) + (43) = ((76 : Nat) : Int) := by decide +kernel
theorem dX3_readEither_36 : decode bX3_readEither 36 = .ok (.aload_n 0, 1) ∧ 36 + 1 = 37 := by decide +kernel
theorem dX3_readEither_37 : decode bX3_readEither 37 = .ok (.invokevirtual 37, 3) ∧ 37 + 3 = 40 := by decide +kernel
theorem dX3_readEither_40 : decode bX3_readEither 40 = .ok (.bipush 38, 2) ∧ 40 + 2 = 42 := by decide +kernel
theorem dX3_readEither_42 : decode bX3_readEither 42 = .ok (.if_icmp .ne 34, 3) ∧ 42 + 3 = 45 ∧ ((42 : Nat) : Int) + (34) = ((76 : Nat) : Int) := by decide +kernel
theorem dX3_readEither_45 : decode bX3_readEither 45 = .ok (.aload_n 0, 1) ∧ 45 + 1 = 46 := by decide +kernel
theorem dX3_readEither_46 : decode bX3_readEither 46 = .ok (.dup, 1) ∧ 46 + 1 = 47 := by decide +kernel
theorem dX3_readEither_47 : decode bX3_readEither 47 = .ok (.getfield 13, 3) ∧ 47 + 3 = 50 := by decide +kernel
theorem dX3_readEither_50 : decode bX3_readEither 50 = .ok (.iconst 1, 1) ∧ 50 + 1 = 51 := by decide +kernel
theorem dX3_readEither_51 : decode bX3_readEither 51 = .ok (.iadd, 1) ∧ 51 + 1 = 52 := by decide +kernel
theorem dX3_readEither_52 : decode bX3_readEither 52 = .ok (.putfield 13, 3) ∧ 52 + 3 = 55 := by decide +kernel
theorem dX3_readEither_55 : decode bX3_readEither 55 = .ok (.aload_n 0, 1) ∧ 55 + 1 = 56 := by decide +kernel
theorem dX3_readEither_56 : decode bX3_readEither 56 = .ok (.iload_n 1, 1) ∧ 56 + 1 = 57 := by decide +kernel
theorem dX3_readEither_57 : decode bX3_readEither 57 = .ok (.invokevirtual 89, 3) ∧ 57 + 3 = 60 := by decide +kernel
theorem dX3_readEither_60 : decode bX3_readEither 60 = .ok (.aload_n 0, 1) ∧ 60 + 1 = 61 := by decide +kernel
theorem dX3_readEither_61 : decode bX3_readEither 61 = .ok (.getfield 27, 3) ∧ 61 + 3 = 64 := by decide +kernel
theorem dX3_readEither_64 : decode bX3_readEither 64 = .ok (.iconst 4, 1) ∧ 64 + 1 = 65 := by decide +kernel
theorem dX3_readEither_65 : decode bX3_readEither 65 = .ok (.iconst 0, 1) ∧ 65 + 1 = 66 := by decide +kernel
theorem dX3_readEither_66 : decode bX3_readEither 66 = .ok (.iconst 0, 1) ∧ 66 + 1 = 67 := by decide +kernel
theorem dX3_readEither_67 : decode bX3_readEither 67 = .ok (.invokevirtual 92, 3) ∧ 67 + 3 = 70 := by decide +kernel
theorem dX3_readEither_70 : decode bX3_readEither 70 = .ok (.iinc 4 1, 3) ∧ 70 + 3 = 73 := by decide +kernel
theorem dX3_readEither_73 : decode bX3_readEither 73 = .ok (.goto (-51), 3) ∧ ((73 : Nat) : Int) + (-51) = ((22 : Nat) : Int) := by decide +kernel
theorem dX3_readEither_76 : decode bX3_readEither 76 = .ok (.iload_n 3, 1) ∧ 76 + 1 = 77 := by decide +kernel
theorem dX3_readEither_77 : decode bX3_readEither 77 = .ok (.ifCond .le 13, 3) ∧ 77 + 3 = 80 ∧ ((77 : Nat) : Int) + (13) = ((90 : Nat) : Int) := by decide +kernel
theorem dX3_readEither_80 : decode bX3_readEither 80 = .ok (.aload_n 0, 1) ∧ 80 + 1 = 81 := by decide +kernel
theorem dX3_readEither_81 : decode bX3_readEither 81 = .ok (.getfield 27, 3) ∧ 81 + 3 = 84 := by decide +kernel
theorem dX3_readEither_84 : decode bX3_readEither 84 = .ok (.iconst 5, 1) ∧ 84 + 1 = 85 := by decide +kernel
theorem dX3_readEither_85 : decode bX3_readEither 85 = .ok (.iconst 0, 1) ∧ 85 + 1 = 86 := by decide +kernel
theorem dX3_readEither_86 : decode bX3_readEither 86 = .ok (.iconst 0, 1) ∧ 86 + 1 = 87 := by decide +kernel
theorem dX3_readEither_87 : decode bX3_readEither 87 = .ok (.invokevirtual 92, 3) ∧ 87 + 3 = 90 := by decide +kernel
theorem dX3_readEither_90 : decode bX3_readEither 90 = .ok (.aload_n 0, 1) ∧ 90 + 1 = 91 := by decide +kernel
theorem dX3_readEither_91 : decode bX3_readEither 91 = .ok (.getfield 16, 3) ∧ 91 + 3 = 94 := by decide +kernel
theorem dX3_readEither_94 : decode bX3_readEither 94 = .ok (.ifCond .ne 16, 3) ∧ 94 + 3 = 97 ∧ ((94 : Nat) : Int) + (16) = ((110 : Nat) : Int) := by decide +kernel
theorem dX3_readEither_97 : decode bX3_readEither 97 = .ok (.aload_n 0, 1) ∧ 97 + 1 = 98 := by decide +kernel
theorem dX3_readEither_98 : decode bX3_readEither 98 = .ok (.invokevirtual 37, 3) ∧ 98 + 3 = 101 := by decide +kernel
theorem dX3_readEither_101 : decode bX3_readEither 101 = .ok (.bipush 124, 2) ∧ 101 + 2 = 103 := by decide +kernel
theorem dX3_readEither_103 : decode bX3_readEither 103 = .ok (.if_icmp .ne 7, 3) ∧ 103 + 3 = 106 ∧ ((103 : Nat) : Int) + (7) = ((110 : Nat) : Int) := by decide +kernel
theorem dX3_readEither_106 : decode bX3_readEither 106 = .ok (.iconst 1, 1) ∧ 106 + 1 = 107 := by decide +kernel
theorem dX3_readEither_107 : decode bX3_readEither 107 = .ok (.goto 4, 3) ∧ ((107 : Nat) : Int) + (4) = ((111 : Nat) : Int) := by decide +kernel
theorem dX3_readEither_110 : decode bX3_readEither 110 = .ok (.iconst 0, 1) ∧ 110 + 1 = 111 := by decide +kernel
theorem dX3_readEither_111 : decode bX3_readEither 111 = .ok (.istore_n 2, 1) ∧ 111 + 1 = 112 := by decide +kernel
theorem dX3_readEither_112 : decode bX3_readEither 112 = .ok (.aload_n 0, 1) ∧ 112 + 1 = 113 := by decide +kernel
theorem dX3_readEither_113 : decode bX3_readEither 113 = .ok (.dup, 1) ∧ 113 + 1 = 114 := by decide +kernel
theorem dX3_readEither_114 : decode bX3_readEither 114 = .ok (.getfield 13, 3) ∧ 114 + 3 = 117 := by decide +kernel
theorem dX3_readEither_117 : decode bX3_readEither 117 = .ok (.iload_n 2, 1) ∧ 117 + 1 = 118 := by decide +kernel
theorem dX3_readEither_118 : decode bX3_readEither 118 = .ok (.ifCond .eq 7, 3) ∧ 118 + 3 = 121 ∧ ((118 : Nat) : Int) + (7) = ((125 : Nat) : Int) := by decide +kernel
theorem dX3_readEither_121 : decode bX3_readEither 121 = .ok (.iconst 1, 1) ∧ 121 + 1 = 122 := by decide +kernel
theorem dX3_readEither_122 : decode bX3_readEither 122 = .ok (.goto 4, 3) ∧ ((122 : Nat) : Int) + (4) = ((126 : Nat) : Int) := by decide +kernel
theorem dX3_readEither_125 : decode bX3_readEither 125 = .ok (.iconst 0, 1) ∧ 125 + 1 = 126 := by decide +kernel
theorem dX3_readEither_126 : decode bX3_readEither 126 = .ok (.iadd, 1) ∧ 126 + 1 = 127 := by decide +kernel
theorem dX3_readEither_127 : decode bX3_readEither 127 = .ok (.putfield 13, 3) ∧ 127 + 3 = 130 := by decide +kernel
theorem dX3_readEither_130 : decode bX3_readEither 130 = .ok (.iinc 3 1, 3) ∧ 130 + 3 = 133 := by decide +kernel
theorem dX3_readEither_133 : decode bX3_readEither 133 = .ok (.goto (-129), 3) ∧ ((133 : Nat) : Int) + (-129) = ((4 : Nat) : Int) := by decide +kernel
theorem dX3_readEither_136 : decode bX3_readEither 136 = .ok (.return_, 1) := by decide +kernel
theorem dX3_readPart_0 : decode bX3_readPart 0 = .ok (.aload_n 0, 1) ∧ 0 + 1 = 1 := by decide +kernel
theorem dX3_readPart_1 : decode bX3_readPart 1 = .ok (.getfield 16, 3) ∧ 1 + 3 = 4 := by decide +kernel
theorem dX3_readPart_4 : decode bX3_readPart 4 = .ok (.ifCond .eq 4, 3) ∧ 4 + 3 = 7 ∧ ((4 : Nat) : Int) + (4) = ((8 : Nat) : Int) := by decide +kernel
theorem dX3_readPart_7 : decode bX3_readPart 7 = .ok (.return_, 1) := by decide +kernel
theorem dX3_readPart_8 : decode bX3_readPart 8 = .ok (.aload_n 0, 1) ∧ 8 + 1 = 9 := by decide +kernel
theorem dX3_readPart_9 : decode bX3_readPart 9 = .ok (.invokevirtual 37, 3) ∧ 9 + 3 = 12 := by decide +kernel
theorem dX3_readPart_12 : decode bX3_readPart 12 = .ok (.bipush 33, 2) ∧ 12 + 2 = 14 := by decide +kernel
theorem dX3_readPart_14 : decode bX3_readPart 14 = .ok (.if_icmp .ne 38, 3) ∧ 14 + 3 = 17 ∧ ((14 : Nat) : Int) + (38) = ((52 : Nat) : Int) := by decide +kernel
theorem dX3_readPart_17 : decode bX3_readPart 17 = .ok (.iload_n 1, 1) ∧ 17 + 1 = 18 := by decide +kernel
theorem dX3_readPart_18 : decode bX3_readPart 18 = .ok (.iconst 4, 1) ∧ 18 + 1 = 19 := by decide +kernel
theorem dX3_readPart_19 : decode bX3_readPart 19 = .ok (.if_icmp .ge 33, 3) ∧ 19 + 3 = 22 ∧ ((19 : Nat) : Int) + (33) = ((52 : Nat) : Int) := by decide +kernel
theorem dX3_readPart_22 : decode bX3_readPart 22 = .ok (.aload_n 0, 1) ∧ 22 + 1 = 23 := by decide +kernel
theorem dX3_readPart_23 : decode bX3_readPart 23 = .ok (.dup, 1) ∧ 23 + 1 = 24 := by decide +kernel
theorem dX3_readPart_24 : decode bX3_readPart 24 = .ok (.getfield 13, 3) ∧ 24 + 3 = 27 := by decide +kernel
theorem dX3_readPart_27 : decode bX3_readPart 27 = .ok (.iconst 1, 1) ∧ 27 + 1 = 28 := by decide +kernel
theorem dX3_readPart_28 : decode bX3_readPart 28 = .ok (.iadd, 1) ∧ 28 + 1 = 29 := by decide +kernel
theorem dX3_readPart_29 : decode bX3_readPart 29 = .ok (.putfield 13, 3) ∧ 29 + 3 = 32 := by decide +kernel
theorem dX3_readPart_32 : decode bX3_readPart 32 = .ok (.aload_n 0, 1) ∧ 32 + 1 = 33 := by decide +kernel
theorem dX3_readPart_33 : decode bX3_readPart 33 = .ok (.iload_n 1, 1) ∧ 33 + 1 = 34 := by decide +kernel
theorem dX3_readPart_34 : decode bX3_readPart 34 = .ok (.iconst 1, 1) ∧ 34 + 1 = 35 := by decide +kernel
theorem dX3_readPart_35 : decode bX3_readPart 35 = .ok (.iadd, 1) ∧ 35 + 1 = 36 := by decide +kernel
theorem dX3_readPart_36 : decode bX3_readPart 36 = .ok (.invokevirtual 89, 3) ∧ 36 + 3 = 39 := by decide +kernel
theorem dX3_readPart_39 : decode bX3_readPart 39 = .ok (.aload_n 0, 1) ∧ 39 + 1 = 40 := by decide +kernel
theorem dX3_readPart_40 : decode bX3_readPart 40 = .ok (.getfield 27, 3) ∧ 40 + 3 = 43 := by decide +kernel
theorem dX3_readPart_43 : decode bX3_readPart 43 = .ok (.iconst 3, 1) ∧ 43 + 1 = 44 := by decide +kernel
theorem dX3_readPart_44 : decode bX3_readPart 44 = .ok (.iconst 0, 1) ∧ 44 + 1 = 45 := by decide +kernel
theorem dX3_readPart_45 : decode bX3_readPart 45 = .ok (.iconst 0, 1) ∧ 45 + 1 = 46 := by decide +kernel
theorem dX3_readPart_46 : decode bX3_readPart 46 = .ok (.invokevirtual 92, 3) ∧ 46 + 3 = 49 := by decide +kernel
theorem dX3_readPart_49 : decode bX3_readPart 49 = .ok (.goto 47, 3) ∧ ((49 : Nat) : Int) + (47) = ((96 : Nat) : Int) := by decide +kernel
theorem dX3_readPart_52 : decode bX3_readPart 52 = .ok (.aload_n 0, 1) ∧ 52 + 1 = 53 := by decide +kernel
theorem dX3_readPart_53 : decode bX3_readPart 53 = .ok (.invokevirtual 37, 3) ∧ 53 + 3 = 56 := by decide +kernel
theorem dX3_readPart_56 : decode bX3_readPart 56 = .ok (.bipush 40, 2) ∧ 56 + 2 = 58 := by decide +kernel
theorem dX3_readPart_58 : decode bX3_readPart 58 = .ok (.if_icmp .ne 34, 3) ∧ 58 + 3 = 61 ∧ ((58 : Nat) : Int) + (34) = ((92 : Nat) : Int) := by decide +kernel
theorem dX3_readPart_61 : decode bX3_readPart 61 = .ok (.iload_n 1, 1) ∧ 61 + 1 = 62 := by decide +kernel
theorem dX3_readPart_62 : decode bX3_readPart 62 = .ok (.iconst 4, 1) ∧ 62 + 1 = 63 := by decide +kernel
theorem dX3_readPart_63 : decode bX3_readPart 63 = .ok (.if_icmp .ge 29, 3) ∧ 63 + 3 = 66 ∧ ((63 : Nat) : Int) + (29) = ((92 : Nat) : Int) := by decide +kernel
theorem dX3_readPart_66 : decode bX3_readPart 66 = .ok (.aload_n 0, 1) ∧ 66 + 1 = 67 := by decide +kernel
theorem dX3_readPart_67 : decode bX3_readPart 67 = .ok (.dup, 1) ∧ 67 + 1 = 68 := by decide +kernel
theorem dX3_readPart_68 : decode bX3_readPart 68 = .ok (.getfield 13, 3) ∧ 68 + 3 = 71 := by decide +kernel
theorem dX3_readPart_71 : decode bX3_readPart 71 = .ok (.iconst 1, 1) ∧ 71 + 1 = 72 := by decide +kernel
theorem dX3_readPart_72 : decode bX3_readPart 72 = .ok (.iadd, 1) ∧ 72 + 1 = 73 := by decide +kernel
theorem dX3_readPart_73 : decode bX3_readPart 73 = .ok (.putfield 13, 3) ∧ 73 + 3 = 76 := by decide +kernel
theorem dX3_readPart_76 : decode bX3_readPart 76 = .ok (.aload_n 0, 1) ∧ 76 + 1 = 77 := by decide +kernel
theorem dX3_readPart_77 : decode bX3_readPart 77 = .ok (.iload_n 1, 1) ∧ 77 + 1 = 78 := by decide +kernel
theorem dX3_readPart_78 : decode bX3_readPart 78 = .ok (.iconst 1, 1) ∧ 78 + 1 = 79 := by decide +kernel
theorem dX3_readPart_79 : decode bX3_readPart 79 = .ok (.iadd, 1) ∧ 79 + 1 = 80 := by decide +kernel
theorem dX3_readPart_80 : decode bX3_readPart 80 = .ok (.invokevirtual 73, 3) ∧ 80 + 3 = 83 := by decide +kernel
theorem dX3_readPart_83 : decode bX3_readPart 83 = .ok (.aload_n 0, 1) ∧ 83 + 1 = 84 := by decide +kernel
theorem dX3_readPart_84 : decode bX3_readPart 84 = .ok (.bipush 41, 2) ∧ 84 + 2 = 86 := by decide +kernel
theorem dX3_readPart_86 : decode bX3_readPart 86 = .ok (.invokevirtual 49, 3) ∧ 86 + 3 = 89 := by decide +kernel
theorem dX3_readPart_89 : decode bX3_readPart 89 = .ok (.goto 7, 3) ∧ ((89 : Nat) : Int) + (7) = ((96 : Nat) : Int) := by decide +kernel
theorem dX3_readPart_92 : decode bX3_readPart 92 = .ok (.aload_n 0, 1) ∧ 92 + 1 = 93 := by decide +kernel
theorem dX3_readPart_93 : decode bX3_readPart 93 = .ok (.invokevirtual 96, 3) ∧ 93 + 3 = 96 := by decide +kernel
theorem dX3_readPart_96 : decode bX3_readPart 96 = .ok (.return_, 1) := by decide +kernel
theorem dX3_readTest_0 : decode bX3_readTest 0 = .ok (.aload_n 0, 1) ∧ 0 + 1 = 1 := by decide +kernel
theorem dX3_readTest_1 : decode bX3_readTest 1 = .ok (.invokevirtual 37, 3) ∧ 1 + 3 = 4 := by decide +kernel
theorem dX3_readTest_4 : decode bX3_readTest 4 = .ok (.ldc 99, 2) ∧ 4 + 2 = 6 := by decide +kernel
theorem dX3_readTest_6 : decode bX3_readTest 6 = .ok (.invokestatic 101, 3) ∧ 6 + 3 = 9 := by decide +kernel
theorem dX3_readTest_9 : decode bX3_readTest 9 = .ok (.istore_n 1, 1) ∧ 9 + 1 = 10 := by decide +kernel
theorem dX3_readTest_10 : decode bX3_readTest 10 = .ok (.iload_n 1, 1) ∧ 10 + 1 = 11 := by decide +kernel
theorem dX3_readTest_11 : decode bX3_readTest 11 = .ok (.ifCond .ge 9, 3) ∧ 11 + 3 = 14 ∧ ((11 : Nat) : Int) + (9) = ((20 : Nat) : Int) := by decide +kernel
theorem dX3_readTest_14 : decode bX3_readTest 14 = .ok (.aload_n 0, 1) ∧ 14 + 1 = 15 := by decide +kernel
theorem dX3_readTest_15 : decode bX3_readTest 15 = .ok (.iconst 1, 1) ∧ 15 + 1 = 16 := by decide +kernel
theorem dX3_readTest_16 : decode bX3_readTest 16 = .ok (.putfield 16, 3) ∧ 16 + 3 = 19 := by decide +kernel
theorem dX3_readTest_19 : decode bX3_readTest 19 = .ok (.return_, 1) := by decide +kernel
theorem dX3_readTest_20 : decode bX3_readTest 20 = .ok (.aload_n 0, 1) ∧ 20 + 1 = 21 := by decide +kernel
theorem dX3_readTest_21 : decode bX3_readTest 21 = .ok (.dup, 1) ∧ 21 + 1 = 22 := by decide +kernel
theorem dX3_readTest_22 : decode bX3_readTest 22 = .ok (.getfield 13, 3) ∧ 22 + 3 = 25 := by decide +kernel
theorem dX3_readTest_25 : decode bX3_readTest 25 = .ok (.iconst 1, 1) ∧ 25 + 1 = 26 := by decide +kernel
theorem dX3_readTest_26 : decode bX3_readTest 26 = .ok (.iadd, 1) ∧ 26 + 1 = 27 := by decide +kernel
theorem dX3_readTest_27 : decode bX3_readTest 27 = .ok (.putfield 13, 3) ∧ 27 + 3 = 30 := by decide +kernel
theorem dX3_readTest_30 : decode bX3_readTest 30 = .ok (.aload_n 0, 1) ∧ 30 + 1 = 31 := by decide +kernel
theorem dX3_readTest_31 : decode bX3_readTest 31 = .ok (.invokevirtual 37, 3) ∧ 31 + 3 = 34 := by decide +kernel
theorem dX3_readTest_34 : decode bX3_readTest 34 = .ok (.ldc 105, 2) ∧ 34 + 2 = 36 := by decide +kernel
theorem dX3_readTest_36 : decode bX3_readTest 36 = .ok (.invokestatic 101, 3) ∧ 36 + 3 = 39 := by decide +kernel
theorem dX3_readTest_39 : decode bX3_readTest 39 = .ok (.istore_n 2, 1) ∧ 39 + 1 = 40 := by decide +kernel
theorem dX3_readTest_40 : decode bX3_readTest 40 = .ok (.iload_n 2, 1) ∧ 40 + 1 = 41 := by decide +kernel
theorem dX3_readTest_41 : decode bX3_readTest 41 = .ok (.ifCond .ge 9, 3) ∧ 41 + 3 = 44 ∧ ((41 : Nat) : Int) + (9) = ((50 : Nat) : Int) := by decide +kernel
theorem dX3_readTest_44 : decode bX3_readTest 44 = .ok (.aload_n 0, 1) ∧ 44 + 1 = 45 := by decide +kernel
theorem dX3_readTest_45 : decode bX3_readTest 45 = .ok (.iconst 1, 1) ∧ 45 + 1 = 46 := by decide +kernel
theorem dX3_readTest_46 : decode bX3_readTest 46 = .ok (.putfield 16, 3) ∧ 46 + 3 = 49 := by decide +kernel
theorem dX3_readTest_49 : decode bX3_readTest 49 = .ok (.return_, 1) := by decide +kernel
theorem dX3_readTest_50 : decode bX3_readTest 50 = .ok (.aload_n 0, 1) ∧ 50 + 1 = 51 := by decide +kernel
theorem dX3_readTest_51 : decode bX3_readTest 51 = .ok (.dup, 1) ∧ 51 + 1 = 52 := by decide +kernel
theorem dX3_readTest_52 : decode bX3_readTest 52 = .ok (.getfield 13, 3) ∧ 52 + 3 = 55 := by decide +kernel
theorem dX3_readTest_55 : decode bX3_readTest 55 = .ok (.iconst 1, 1) ∧ 55 + 1 = 56 := by decide +kernel
theorem dX3_readTest_56 : decode bX3_readTest 56 = .ok (.iadd, 1) ∧ 56 + 1 = 57 := by decide +kernel
theorem dX3_readTest_57 : decode bX3_readTest 57 = .ok (.putfield 13, 3) ∧ 57 + 3 = 60 := by decide +kernel
theorem dX3_readTest_60 : decode bX3_readTest 60 = .ok (.aload_n 0, 1) ∧ 60 + 1 = 61 := by decide +kernel
theorem dX3_readTest_61 : decode bX3_readTest 61 = .ok (.getfield 27, 3) ∧ 61 + 3 = 64 := by decide +kernel
theorem dX3_readTest_64 : decode bX3_readTest 64 = .ok (.iload_n 2, 1) ∧ 64 + 1 = 65 := by decide +kernel
theorem dX3_readTest_65 : decode bX3_readTest 65 = .ok (.iload_n 1, 1) ∧ 65 + 1 = 66 := by decide +kernel
theorem dX3_readTest_66 : decode bX3_readTest 66 = .ok (.aload_n 0, 1) ∧ 66 + 1 = 67 := by decide +kernel
theorem dX3_readTest_67 : decode bX3_readTest 67 = .ok (.invokevirtual 61, 3) ∧ 67 + 3 = 70 := by decide +kernel
theorem dX3_readTest_70 : decode bX3_readTest 70 = .ok (.invokevirtual 92, 3) ∧ 70 + 3 = 73 := by decide +kernel
theorem dX3_readTest_73 : decode bX3_readTest 73 = .ok (.return_, 1) := by decide +kernel
theorem dX3_placeOf_0 : decode bX3_placeOf 0 = .ok (.iconst 0, 1) ∧ 0 + 1 = 1 := by decide +kernel
theorem dX3_placeOf_1 : decode bX3_placeOf 1 = .ok (.istore_n 2, 1) ∧ 1 + 1 = 2 := by decide +kernel
theorem dX3_placeOf_2 : decode bX3_placeOf 2 = .ok (.iload_n 2, 1) ∧ 2 + 1 = 3 := by decide +kernel
theorem dX3_placeOf_3 : decode bX3_placeOf 3 = .ok (.aload_n 1, 1) ∧ 3 + 1 = 4 := by decide +kernel
theorem dX3_placeOf_4 : decode bX3_placeOf 4 = .ok (.invokevirtual 41, 3) ∧ 4 + 3 = 7 := by decide +kernel
theorem dX3_placeOf_7 : decode bX3_placeOf 7 = .ok (.if_icmp .ge 20, 3) ∧ 7 + 3 = 10 ∧ ((7 : Nat) : Int) + (20) = ((27 : Nat) : Int) := by decide +kernel
theorem dX3_placeOf_10 : decode bX3_placeOf 10 = .ok (.aload_n 1, 1) ∧ 10 + 1 = 11 := by decide +kernel
theorem dX3_placeOf_11 : decode bX3_placeOf 11 = .ok (.iload_n 2, 1) ∧ 11 + 1 = 12 := by decide +kernel
theorem dX3_placeOf_12 : decode bX3_placeOf 12 = .ok (.invokevirtual 45, 3) ∧ 12 + 3 = 15 := by decide +kernel
theorem dX3_placeOf_15 : decode bX3_placeOf 15 = .ok (.iload_n 0, 1) ∧ 15 + 1 = 16 := by decide +kernel
theorem dX3_placeOf_16 : decode bX3_placeOf 16 = .ok (.if_icmp .ne 5, 3) ∧ 16 + 3 = 19 ∧ ((16 : Nat) : Int) + (5) = ((21 : Nat) : Int) := by decide +kernel
theorem dX3_placeOf_19 : decode bX3_placeOf 19 = .ok (.iload_n 2, 1) ∧ 19 + 1 = 20 := by decide +kernel
theorem dX3_placeOf_20 : decode bX3_placeOf 20 = .ok (.ireturn, 1) := by decide +kernel
theorem dX3_placeOf_21 : decode bX3_placeOf 21 = .ok (.iinc 2 1, 3) ∧ 21 + 3 = 24 := by decide +kernel
theorem dX3_placeOf_24 : decode bX3_placeOf 24 = .ok (.goto (-22), 3) ∧ ((24 : Nat) : Int) + (-22) = ((2 : Nat) : Int) := by decide +kernel
theorem dX3_placeOf_27 : decode bX3_placeOf 27 = .ok (.iconst (-1), 1) ∧ 27 + 1 = 28 := by decide +kernel
theorem dX3_placeOf_28 : decode bX3_placeOf 28 = .ok (.ireturn, 1) := by decide +kernel
theorem dX4_known_0 : decode bX4_known 0 = .ok (.iload_n 1, 1) ∧ 0 + 1 = 1 := by decide +kernel
theorem dX4_known_1 : decode bX4_known 1 = .ok (.ifCond .lt 13, 3) ∧ 1 + 3 = 4 ∧ ((1 : Nat) : Int) + (13) = ((14 : Nat) : Int) := by decide +kernel
theorem dX4_known_4 : decode bX4_known 4 = .ok (.iload_n 1, 1) ∧ 4 + 1 = 5 := by decide +kernel
theorem dX4_known_5 : decode bX4_known 5 = .ok (.bipush 6, 2) ∧ 5 + 2 = 7 := by decide +kernel
theorem dX4_known_7 : decode bX4_known 7 = .ok (.if_icmp .ge 7, 3) ∧ 7 + 3 = 10 ∧ ((7 : Nat) : Int) + (7) = ((14 : Nat) : Int) := by decide +kernel
theorem dX4_known_10 : decode bX4_known 10 = .ok (.iconst 1, 1) ∧ 10 + 1 = 11 := by decide +kernel
theorem dX4_known_11 : decode bX4_known 11 = .ok (.goto 4, 3) ∧ ((11 : Nat) : Int) + (4) = ((15 : Nat) : Int) := by decide +kernel
theorem dX4_known_14 : decode bX4_known 14 = .ok (.iconst 0, 1) ∧ 14 + 1 = 15 := by decide +kernel
theorem dX4_known_15 : decode bX4_known 15 = .ok (.ireturn, 1) := by decide +kernel
theorem dX4_holds_0 : decode bX4_holds 0 = .ok (.aload_n 0, 1) ∧ 0 + 1 = 1 := by decide +kernel
theorem dX4_holds_1 : decode bX4_holds 1 = .ok (.getfield 9, 3) ∧ 1 + 3 = 4 := by decide +kernel
theorem dX4_holds_4 : decode bX4_holds 4 = .ok (.iload_n 1, 1) ∧ 4 + 1 = 5 := by decide +kernel
theorem dX4_holds_5 : decode bX4_holds 5 = .ok (.iaload, 1) ∧ 5 + 1 = 6 := by decide +kernel
theorem dX4_holds_6 : decode bX4_holds 6 = .ok (.iconst (-1), 1) ∧ 6 + 1 = 7 := by decide +kernel
theorem dX4_holds_7 : decode bX4_holds 7 = .ok (.if_icmp .eq 7, 3) ∧ 7 + 3 = 10 ∧ ((7 : Nat) : Int) + (7) = ((14 : Nat) : Int) := by decide +kernel
theorem dX4_holds_10 : decode bX4_holds 10 = .ok (.iconst 1, 1) ∧ 10 + 1 = 11 := by decide +kernel
theorem dX4_holds_11 : decode bX4_holds 11 = .ok (.goto 4, 3) ∧ ((11 : Nat) : Int) + (4) = ((15 : Nat) : Int) := by decide +kernel
theorem dX4_holds_14 : decode bX4_holds 14 = .ok (.iconst 0, 1) ∧ 14 + 1 = 15 := by decide +kernel
theorem dX4_holds_15 : decode bX4_holds 15 = .ok (.ireturn, 1) := by decide +kernel
theorem dX4_hasPlace_0 : decode bX4_hasPlace 0 = .ok (.aload_n 0, 1) ∧ 0 + 1 = 1 := by decide +kernel
theorem dX4_hasPlace_1 : decode bX4_hasPlace 1 = .ok (.iload_n 1, 1) ∧ 1 + 1 = 2 := by decide +kernel
theorem dX4_hasPlace_2 : decode bX4_hasPlace 2 = .ok (.invokevirtual 21, 3) ∧ 2 + 3 = 5 := by decide +kernel
theorem dX4_hasPlace_5 : decode bX4_hasPlace 5 = .ok (.ifCond .eq 25, 3) ∧ 5 + 3 = 8 ∧ ((5 : Nat) : Int) + (25) = ((30 : Nat) : Int) := by decide +kernel
theorem dX4_hasPlace_8 : decode bX4_hasPlace 8 = .ok (.lload_n 2, 1) ∧ 8 + 1 = 9 := by decide +kernel
theorem dX4_hasPlace_9 : decode bX4_hasPlace 9 = .ok (.lconst 0, 1) ∧ 9 + 1 = 10 := by decide +kernel
theorem dX4_hasPlace_10 : decode bX4_hasPlace 10 = .ok (.lcmp, 1) ∧ 10 + 1 = 11 := by decide +kernel
theorem dX4_hasPlace_11 : decode bX4_hasPlace 11 = .ok (.ifCond .lt 19, 3) ∧ 11 + 3 = 14 ∧ ((11 : Nat) : Int) + (19) = ((30 : Nat) : Int) := by decide +kernel
theorem dX4_hasPlace_14 : decode bX4_hasPlace 14 = .ok (.lload_n 2, 1) ∧ 14 + 1 = 15 := by decide +kernel
theorem dX4_hasPlace_15 : decode bX4_hasPlace 15 = .ok (.aload_n 0, 1) ∧ 15 + 1 = 16 := by decide +kernel
theorem dX4_hasPlace_16 : decode bX4_hasPlace 16 = .ok (.getfield 13, 3) ∧ 16 + 3 = 19 := by decide +kernel
theorem dX4_hasPlace_19 : decode bX4_hasPlace 19 = .ok (.iload_n 1, 1) ∧ 19 + 1 = 20 := by decide +kernel
theorem dX4_hasPlace_20 : decode bX4_hasPlace 20 = .ok (.iaload, 1) ∧ 20 + 1 = 21 := by decide +kernel
theorem dX4_hasPlace_21 : decode bX4_hasPlace 21 = .ok (.i2l, 1) ∧ 21 + 1 = 22 := by decide +kernel
theorem dX4_hasPlace_22 : decode bX4_hasPlace 22 = .ok (.lcmp, 1) ∧ 22 + 1 = 23 := by decide +kernel
theorem dX4_hasPlace_23 : decode bX4_hasPlace 23 = .ok (.ifCond .ge 7, 3) ∧ 23 + 3 = 26 ∧ ((23 : Nat) : Int) + (7) = ((30 : Nat) : Int) := by decide +kernel
theorem dX4_hasPlace_26 : decode bX4_hasPlace 26 = .ok (.iconst 1, 1) ∧ 26 + 1 = 27 := by decide +kernel
theorem dX4_hasPlace_27 : decode bX4_hasPlace 27 = .ok (.goto 4, 3) ∧ ((27 : Nat) : Int) + (4) = ((31 : Nat) : Int) := by decide +kernel
theorem dX4_hasPlace_30 : decode bX4_hasPlace 30 = .ok (.iconst 0, 1) ∧ 30 + 1 = 31 := by decide +kernel
theorem dX4_hasPlace_31 : decode bX4_hasPlace 31 = .ok (.ireturn, 1) := by decide +kernel
theorem dX4_hasRoom_0 : decode bX4_hasRoom 0 = .ok (.iload_n 2, 1) ∧ 0 + 1 = 1 := by decide +kernel
theorem dX4_hasRoom_1 : decode bX4_hasRoom 1 = .ok (.ifCond .lt 27, 3) ∧ 1 + 3 = 4 ∧ ((1 : Nat) : Int) + (27) = ((28 : Nat) : Int) := by decide +kernel
theorem dX4_hasRoom_4 : decode bX4_hasRoom 4 = .ok (.iload_n 3, 1) ∧ 4 + 1 = 5 := by decide +kernel
theorem dX4_hasRoom_5 : decode bX4_hasRoom 5 = .ok (.ifCond .lt 23, 3) ∧ 5 + 3 = 8 ∧ ((5 : Nat) : Int) + (23) = ((28 : Nat) : Int) := by decide +kernel
theorem dX4_hasRoom_8 : decode bX4_hasRoom 8 = .ok (.iload_n 2, 1) ∧ 8 + 1 = 9 := by decide +kernel
theorem dX4_hasRoom_9 : decode bX4_hasRoom 9 = .ok (.i2l, 1) ∧ 9 + 1 = 10 := by decide +kernel
theorem dX4_hasRoom_10 : decode bX4_hasRoom 10 = .ok (.iload_n 3, 1) ∧ 10 + 1 = 11 := by decide +kernel
theorem dX4_hasRoom_11 : decode bX4_hasRoom 11 = .ok (.i2l, 1) ∧ 11 + 1 = 12 := by decide +kernel
theorem dX4_hasRoom_12 : decode bX4_hasRoom 12 = .ok (.ladd, 1) ∧ 12 + 1 = 13 := by decide +kernel
theorem dX4_hasRoom_13 : decode bX4_hasRoom 13 = .ok (.aload_n 0, 1) ∧ 13 + 1 = 14 := by decide +kernel
theorem dX4_hasRoom_14 : decode bX4_hasRoom 14 = .ok (.getfield 13, 3) ∧ 14 + 3 = 17 := by decide +kernel
theorem dX4_hasRoom_17 : decode bX4_hasRoom 17 = .ok (.iload_n 1, 1) ∧ 17 + 1 = 18 := by decide +kernel
theorem dX4_hasRoom_18 : decode bX4_hasRoom 18 = .ok (.iaload, 1) ∧ 18 + 1 = 19 := by decide +kernel
theorem dX4_hasRoom_19 : decode bX4_hasRoom 19 = .ok (.i2l, 1) ∧ 19 + 1 = 20 := by decide +kernel
theorem dX4_hasRoom_20 : decode bX4_hasRoom 20 = .ok (.lcmp, 1) ∧ 20 + 1 = 21 := by decide +kernel
theorem dX4_hasRoom_21 : decode bX4_hasRoom 21 = .ok (.ifCond .gt 7, 3) ∧ 21 + 3 = 24 ∧ ((21 : Nat) : Int) + (7) = ((28 : Nat) : Int) := by decide +kernel
theorem dX4_hasRoom_24 : decode bX4_hasRoom 24 = .ok (.iconst 1, 1) ∧ 24 + 1 = 25 := by decide +kernel
theorem dX4_hasRoom_25 : decode bX4_hasRoom 25 = .ok (.goto 4, 3) ∧ ((25 : Nat) : Int) + (4) = ((29 : Nat) : Int) := by decide +kernel
theorem dX4_hasRoom_28 : decode bX4_hasRoom 28 = .ok (.iconst 0, 1) ∧ 28 + 1 = 29 := by decide +kernel
theorem dX4_hasRoom_29 : decode bX4_hasRoom 29 = .ok (.ireturn, 1) := by decide +kernel
theorem dX4_make_0 : decode bX4_make 0 = .ok (.aload_n 0, 1) ∧ 0 + 1 = 1 := by decide +kernel
theorem dX4_make_1 : decode bX4_make 1 = .ok (.getfield 9, 3) ∧ 1 + 3 = 4 := by decide +kernel
theorem dX4_make_4 : decode bX4_make 4 = .ok (.iload_n 1, 1) ∧ 4 + 1 = 5 := by decide +kernel
theorem dX4_make_5 : decode bX4_make 5 = .ok (.iload_n 2, 1) ∧ 5 + 1 = 6 := by decide +kernel
theorem dX4_make_6 : decode bX4_make 6 = .ok (.iastore, 1) ∧ 6 + 1 = 7 := by decide +kernel
theorem dX4_make_7 : decode bX4_make 7 = .ok (.aload_n 0, 1) ∧ 7 + 1 = 8 := by decide +kernel
theorem dX4_make_8 : decode bX4_make 8 = .ok (.getfield 13, 3) ∧ 8 + 3 = 11 := by decide +kernel
theorem dX4_make_11 : decode bX4_make 11 = .ok (.iload_n 1, 1) ∧ 11 + 1 = 12 := by decide +kernel
theorem dX4_make_12 : decode bX4_make 12 = .ok (.iload_n 3, 1) ∧ 12 + 1 = 13 := by decide +kernel
theorem dX4_make_13 : decode bX4_make 13 = .ok (.iastore, 1) ∧ 13 + 1 = 14 := by decide +kernel
theorem dX4_make_14 : decode bX4_make 14 = .ok (.iconst 0, 1) ∧ 14 + 1 = 15 := by decide +kernel
theorem dX4_make_15 : decode bX4_make 15 = .ok (.istore 4, 2) ∧ 15 + 2 = 17 := by decide +kernel
theorem dX4_make_17 : decode bX4_make 17 = .ok (.iload 4, 2) ∧ 17 + 2 = 19 := by decide +kernel
theorem dX4_make_19 : decode bX4_make 19 = .ok (.bipush 60, 2) ∧ 19 + 2 = 21 := by decide +kernel
theorem dX4_make_21 : decode bX4_make 21 = .ok (.if_icmp .ge 19, 3) ∧ 21 + 3 = 24 ∧ ((21 : Nat) : Int) + (19) = ((40 : Nat) : Int) := by decide +kernel
theorem dX4_make_24 : decode bX4_make 24 = .ok (.aload_n 0, 1) ∧ 24 + 1 = 25 := by decide +kernel
theorem dX4_make_25 : decode bX4_make 25 = .ok (.getfield 18, 3) ∧ 25 + 3 = 28 := by decide +kernel
theorem dX4_make_28 : decode bX4_make 28 = .ok (.iload_n 1, 1) ∧ 28 + 1 = 29 := by decide +kernel
theorem dX4_make_29 : decode bX4_make 29 = .ok (.aaload, 1) ∧ 29 + 1 = 30 := by decide +kernel
theorem dX4_make_30 : decode bX4_make 30 = .ok (.iload 4, 2) ∧ 30 + 2 = 32 := by decide +kernel
theorem dX4_make_32 : decode bX4_make 32 = .ok (.lconst 0, 1) ∧ 32 + 1 = 33 := by decide +kernel
theorem dX4_make_33 : decode bX4_make 33 = .ok (.lastore, 1) ∧ 33 + 1 = 34 := by decide +kernel
theorem dX4_make_34 : decode bX4_make 34 = .ok (.iinc 4 1, 3) ∧ 34 + 3 = 37 := by decide +kernel
theorem dX4_make_37 : decode bX4_make 37 = .ok (.goto (-20), 3) ∧ ((37 : Nat) : Int) + (-20) = ((17 : Nat) : Int) := by decide +kernel
theorem dX4_make_40 : decode bX4_make 40 = .ok (.return_, 1) := by decide +kernel
theorem dX4_cut_0 : decode bX4_cut 0 = .ok (.iload_n 0, 1) ∧ 0 + 1 = 1 := by decide +kernel
theorem dX4_cut_1 : decode bX4_cut 1 = .ok (.tableswitch 61 0 4 #[35, 40, 45, 61, 49], 35) := by decide +kernel
theorem dX4_cut_36 : decode bX4_cut 36 = .ok (.lload_n 1, 1) ∧ 36 + 1 = 37 := by decide +kernel
theorem dX4_cut_37 : decode bX4_cut 37 = .ok (.l2i, 1) ∧ 37 + 1 = 38 := by decide +kernel
theorem dX4_cut_38 : decode bX4_cut 38 = .ok (.i2b, 1) ∧ 38 + 1 = 39 := by decide +kernel
theorem dX4_cut_39 : decode bX4_cut 39 = .ok (.i2l, 1) ∧ 39 + 1 = 40 := by decide +kernel
theorem dX4_cut_40 : decode bX4_cut 40 = .ok (.lreturn, 1) := by decide +kernel
theorem dX4_cut_41 : decode bX4_cut 41 = .ok (.lload_n 1, 1) ∧ 41 + 1 = 42 := by decide +kernel
theorem dX4_cut_42 : decode bX4_cut 42 = .ok (.l2i, 1) ∧ 42 + 1 = 43 := by decide +kernel
theorem dX4_cut_43 : decode bX4_cut 43 = .ok (.i2s, 1) ∧ 43 + 1 = 44 := by decide +kernel
theorem dX4_cut_44 : decode bX4_cut 44 = .ok (.i2l, 1) ∧ 44 + 1 = 45 := by decide +kernel
theorem dX4_cut_45 : decode bX4_cut 45 = .ok (.lreturn, 1) := by decide +kernel
theorem dX4_cut_46 : decode bX4_cut 46 = .ok (.lload_n 1, 1) ∧ 46 + 1 = 47 := by decide +kernel
theorem dX4_cut_47 : decode bX4_cut 47 = .ok (.l2i, 1) ∧ 47 + 1 = 48 := by decide +kernel
theorem dX4_cut_48 : decode bX4_cut 48 = .ok (.i2l, 1) ∧ 48 + 1 = 49 := by decide +kernel
theorem dX4_cut_49 : decode bX4_cut 49 = .ok (.lreturn, 1) := by decide +kernel
theorem dX4_cut_50 : decode bX4_cut 50 = .ok (.lload_n 1, 1) ∧ 50 + 1 = 51 := by decide +kernel
theorem dX4_cut_51 : decode bX4_cut 51 = .ok (.lconst 0, 1) ∧ 51 + 1 = 52 := by decide +kernel
theorem dX4_cut_52 : decode bX4_cut 52 = .ok (.lcmp, 1) ∧ 52 + 1 = 53 := by decide +kernel
theorem dX4_cut_53 : decode bX4_cut 53 = .ok (.ifCond .eq 7, 3) ∧ 53 + 3 = 56 ∧ ((53 : Nat) : Int) + (7) = ((60 : Nat) : Int) := by decide +kernel
theorem dX4_cut_56 : decode bX4_cut 56 = .ok (.lconst 1, 1) ∧ 56 + 1 = 57 := by decide +kernel
theorem dX4_cut_57 : decode bX4_cut 57 = .ok (.goto 4, 3) ∧ ((57 : Nat) : Int) + (4) = ((61 : Nat) : Int) := by decide +kernel
theorem dX4_cut_60 : decode bX4_cut 60 = .ok (.lconst 0, 1) ∧ 60 + 1 = 61 := by decide +kernel
theorem dX4_cut_61 : decode bX4_cut 61 = .ok (.lreturn, 1) := by decide +kernel
theorem dX4_cut_62 : decode bX4_cut 62 = .ok (.lload_n 1, 1) ∧ 62 + 1 = 63 := by decide +kernel
theorem dX4_cut_63 : decode bX4_cut 63 = .ok (.lreturn, 1) := by decide +kernel
theorem dX5_copyFrom_0 : decode bX5_copyFrom 0 = .ok (.aload_n 0, 1) ∧ 0 + 1 = 1 := by decide +kernel
theorem dX5_copyFrom_1 : decode bX5_copyFrom 1 = .ok (.aload_n 1, 1) ∧ 1 + 1 = 2 := by decide +kernel
theorem dX5_copyFrom_2 : decode bX5_copyFrom 2 = .ok (.getfield 9, 3) ∧ 2 + 3 = 5 := by decide +kernel
theorem dX5_copyFrom_5 : decode bX5_copyFrom 5 = .ok (.putfield 9, 3) ∧ 5 + 3 = 8 := by decide +kernel
theorem dX5_copyFrom_8 : decode bX5_copyFrom 8 = .ok (.aload_n 0, 1) ∧ 8 + 1 = 9 := by decide +kernel
theorem dX5_copyFrom_9 : decode bX5_copyFrom 9 = .ok (.aload_n 1, 1) ∧ 9 + 1 = 10 := by decide +kernel
theorem dX5_copyFrom_10 : decode bX5_copyFrom 10 = .ok (.getfield 15, 3) ∧ 10 + 3 = 13 := by decide +kernel
theorem dX5_copyFrom_13 : decode bX5_copyFrom 13 = .ok (.putfield 15, 3) ∧ 13 + 3 = 16 := by decide +kernel
theorem dX5_copyFrom_16 : decode bX5_copyFrom 16 = .ok (.aload_n 0, 1) ∧ 16 + 1 = 17 := by decide +kernel
theorem dX5_copyFrom_17 : decode bX5_copyFrom 17 = .ok (.aload_n 1, 1) ∧ 17 + 1 = 18 := by decide +kernel
theorem dX5_copyFrom_18 : decode bX5_copyFrom 18 = .ok (.getfield 18, 3) ∧ 18 + 3 = 21 := by decide +kernel
theorem dX5_copyFrom_21 : decode bX5_copyFrom 21 = .ok (.putfield 18, 3) ∧ 21 + 3 = 24 := by decide +kernel
theorem dX5_copyFrom_24 : decode bX5_copyFrom 24 = .ok (.aload_n 0, 1) ∧ 24 + 1 = 25 := by decide +kernel
theorem dX5_copyFrom_25 : decode bX5_copyFrom 25 = .ok (.iconst 0, 1) ∧ 25 + 1 = 26 := by decide +kernel
theorem dX5_copyFrom_26 : decode bX5_copyFrom 26 = .ok (.putfield 21, 3) ∧ 26 + 3 = 29 := by decide +kernel
theorem dX5_copyFrom_29 : decode bX5_copyFrom 29 = .ok (.iconst 0, 1) ∧ 29 + 1 = 30 := by decide +kernel
theorem dX5_copyFrom_30 : decode bX5_copyFrom 30 = .ok (.istore_n 2, 1) ∧ 30 + 1 = 31 := by decide +kernel
theorem dX5_copyFrom_31 : decode bX5_copyFrom 31 = .ok (.iload_n 2, 1) ∧ 31 + 1 = 32 := by decide +kernel
theorem dX5_copyFrom_32 : decode bX5_copyFrom 32 = .ok (.bipush 6, 2) ∧ 32 + 2 = 34 := by decide +kernel
theorem dX5_copyFrom_34 : decode bX5_copyFrom 34 = .ok (.if_icmp .ge 117, 3) ∧ 34 + 3 = 37 ∧ ((34 : Nat) : Int) + (117) = ((151 : Nat) : Int) := by decide +kernel
theorem dX5_copyFrom_37 : decode bX5_copyFrom 37 = .ok (.aload_n 0, 1) ∧ 37 + 1 = 38 := by decide +kernel
theorem dX5_copyFrom_38 : decode bX5_copyFrom 38 = .ok (.getfield 24, 3) ∧ 38 + 3 = 41 := by decide +kernel
theorem dX5_copyFrom_41 : decode bX5_copyFrom 41 = .ok (.iload_n 2, 1) ∧ 41 + 1 = 42 := by decide +kernel
theorem dX5_copyFrom_42 : decode bX5_copyFrom 42 = .ok (.aload_n 1, 1) ∧ 42 + 1 = 43 := by decide +kernel
theorem dX5_copyFrom_43 : decode bX5_copyFrom 43 = .ok (.getfield 24, 3) ∧ 43 + 3 = 46 := by decide +kernel
theorem dX5_copyFrom_46 : decode bX5_copyFrom 46 = .ok (.iload_n 2, 1) ∧ 46 + 1 = 47 := by decide +kernel
theorem dX5_copyFrom_47 : decode bX5_copyFrom 47 = .ok (.iaload, 1) ∧ 47 + 1 = 48 := by decide +kernel
theorem dX5_copyFrom_48 : decode bX5_copyFrom 48 = .ok (.iastore, 1) ∧ 48 + 1 = 49 := by decide +kernel
theorem dX5_copyFrom_49 : decode bX5_copyFrom 49 = .ok (.aload_n 0, 1) ∧ 49 + 1 = 50 := by decide +kernel
theorem dX5_copyFrom_50 : decode bX5_copyFrom 50 = .ok (.getfield 28, 3) ∧ 50 + 3 = 53 := by decide +kernel
theorem dX5_copyFrom_53 : decode bX5_copyFrom 53 = .ok (.iload_n 2, 1) ∧ 53 + 1 = 54 := by decide +kernel
theorem dX5_copyFrom_54 : decode bX5_copyFrom 54 = .ok (.aload_n 1, 1) ∧ 54 + 1 = 55 := by decide +kernel
theorem dX5_copyFrom_55 : decode bX5_copyFrom 55 = .ok (.getfield 28, 3) ∧ 55 + 3 = 58 := by decide +kernel
theorem dX5_copyFrom_58 : decode bX5_copyFrom 58 = .ok (.iload_n 2, 1) ∧ 58 + 1 = 59 := by decide +kernel
theorem dX5_copyFrom_59 : decode bX5_copyFrom 59 = .ok (.iaload, 1) ∧ 59 + 1 = 60 := by decide +kernel
theorem dX5_copyFrom_60 : decode bX5_copyFrom 60 = .ok (.iastore, 1) ∧ 60 + 1 = 61 := by decide +kernel
theorem dX5_copyFrom_61 : decode bX5_copyFrom 61 = .ok (.aload_n 0, 1) ∧ 61 + 1 = 62 := by decide +kernel
theorem dX5_copyFrom_62 : decode bX5_copyFrom 62 = .ok (.getfield 31, 3) ∧ 62 + 3 = 65 := by decide +kernel
theorem dX5_copyFrom_65 : decode bX5_copyFrom 65 = .ok (.iload_n 2, 1) ∧ 65 + 1 = 66 := by decide +kernel
theorem dX5_copyFrom_66 : decode bX5_copyFrom 66 = .ok (.aload_n 1, 1) ∧ 66 + 1 = 67 := by decide +kernel
theorem dX5_copyFrom_67 : decode bX5_copyFrom 67 = .ok (.getfield 31, 3) ∧ 67 + 3 = 70 := by decide +kernel
theorem dX5_copyFrom_70 : decode bX5_copyFrom 70 = .ok (.iload_n 2, 1) ∧ 70 + 1 = 71 := by decide +kernel
theorem dX5_copyFrom_71 : decode bX5_copyFrom 71 = .ok (.iaload, 1) ∧ 71 + 1 = 72 := by decide +kernel
theorem dX5_copyFrom_72 : decode bX5_copyFrom 72 = .ok (.iastore, 1) ∧ 72 + 1 = 73 := by decide +kernel
theorem dX5_copyFrom_73 : decode bX5_copyFrom 73 = .ok (.aload_n 0, 1) ∧ 73 + 1 = 74 := by decide +kernel
theorem dX5_copyFrom_74 : decode bX5_copyFrom 74 = .ok (.getfield 34, 3) ∧ 74 + 3 = 77 := by decide +kernel
theorem dX5_copyFrom_77 : decode bX5_copyFrom 77 = .ok (.iload_n 2, 1) ∧ 77 + 1 = 78 := by decide +kernel
theorem dX5_copyFrom_78 : decode bX5_copyFrom 78 = .ok (.aload_n 1, 1) ∧ 78 + 1 = 79 := by decide +kernel
theorem dX5_copyFrom_79 : decode bX5_copyFrom 79 = .ok (.getfield 34, 3) ∧ 79 + 3 = 82 := by decide +kernel
theorem dX5_copyFrom_82 : decode bX5_copyFrom 82 = .ok (.iload_n 2, 1) ∧ 82 + 1 = 83 := by decide +kernel
theorem dX5_copyFrom_83 : decode bX5_copyFrom 83 = .ok (.iaload, 1) ∧ 83 + 1 = 84 := by decide +kernel
theorem dX5_copyFrom_84 : decode bX5_copyFrom 84 = .ok (.iastore, 1) ∧ 84 + 1 = 85 := by decide +kernel
theorem dX5_copyFrom_85 : decode bX5_copyFrom 85 = .ok (.aload_n 0, 1) ∧ 85 + 1 = 86 := by decide +kernel
theorem dX5_copyFrom_86 : decode bX5_copyFrom 86 = .ok (.getfield 37, 3) ∧ 86 + 3 = 89 := by decide +kernel
theorem dX5_copyFrom_89 : decode bX5_copyFrom 89 = .ok (.iload_n 2, 1) ∧ 89 + 1 = 90 := by decide +kernel
theorem dX5_copyFrom_90 : decode bX5_copyFrom 90 = .ok (.aload_n 1, 1) ∧ 90 + 1 = 91 := by decide +kernel
theorem dX5_copyFrom_91 : decode bX5_copyFrom 91 = .ok (.getfield 37, 3) ∧ 91 + 3 = 94 := by decide +kernel
theorem dX5_copyFrom_94 : decode bX5_copyFrom 94 = .ok (.iload_n 2, 1) ∧ 94 + 1 = 95 := by decide +kernel
theorem dX5_copyFrom_95 : decode bX5_copyFrom 95 = .ok (.iaload, 1) ∧ 95 + 1 = 96 := by decide +kernel
theorem dX5_copyFrom_96 : decode bX5_copyFrom 96 = .ok (.iastore, 1) ∧ 96 + 1 = 97 := by decide +kernel
theorem dX5_copyFrom_97 : decode bX5_copyFrom 97 = .ok (.aload_n 0, 1) ∧ 97 + 1 = 98 := by decide +kernel
theorem dX5_copyFrom_98 : decode bX5_copyFrom 98 = .ok (.getfield 40, 3) ∧ 98 + 3 = 101 := by decide +kernel
theorem dX5_copyFrom_101 : decode bX5_copyFrom 101 = .ok (.iload_n 2, 1) ∧ 101 + 1 = 102 := by decide +kernel
theorem dX5_copyFrom_102 : decode bX5_copyFrom 102 = .ok (.aload_n 1, 1) ∧ 102 + 1 = 103 := by decide +kernel
theorem dX5_copyFrom_103 : decode bX5_copyFrom 103 = .ok (.getfield 40, 3) ∧ 103 + 3 = 106 := by decide +kernel
theorem dX5_copyFrom_106 : decode bX5_copyFrom 106 = .ok (.iload_n 2, 1) ∧ 106 + 1 = 107 := by decide +kernel
theorem dX5_copyFrom_107 : decode bX5_copyFrom 107 = .ok (.iaload, 1) ∧ 107 + 1 = 108 := by decide +kernel
theorem dX5_copyFrom_108 : decode bX5_copyFrom 108 = .ok (.iastore, 1) ∧ 108 + 1 = 109 := by decide +kernel
theorem dX5_copyFrom_109 : decode bX5_copyFrom 109 = .ok (.aload_n 0, 1) ∧ 109 + 1 = 110 := by decide +kernel
theorem dX5_copyFrom_110 : decode bX5_copyFrom 110 = .ok (.getfield 43, 3) ∧ 110 + 3 = 113 := by decide +kernel
theorem dX5_copyFrom_113 : decode bX5_copyFrom 113 = .ok (.iload_n 2, 1) ∧ 113 + 1 = 114 := by decide +kernel
theorem dX5_copyFrom_114 : decode bX5_copyFrom 114 = .ok (.aload_n 1, 1) ∧ 114 + 1 = 115 := by decide +kernel
theorem dX5_copyFrom_115 : decode bX5_copyFrom 115 = .ok (.getfield 43, 3) ∧ 115 + 3 = 118 := by decide +kernel
theorem dX5_copyFrom_118 : decode bX5_copyFrom 118 = .ok (.iload_n 2, 1) ∧ 118 + 1 = 119 := by decide +kernel
theorem dX5_copyFrom_119 : decode bX5_copyFrom 119 = .ok (.iaload, 1) ∧ 119 + 1 = 120 := by decide +kernel
theorem dX5_copyFrom_120 : decode bX5_copyFrom 120 = .ok (.iastore, 1) ∧ 120 + 1 = 121 := by decide +kernel
theorem dX5_copyFrom_121 : decode bX5_copyFrom 121 = .ok (.aload_n 0, 1) ∧ 121 + 1 = 122 := by decide +kernel
theorem dX5_copyFrom_122 : decode bX5_copyFrom 122 = .ok (.getfield 46, 3) ∧ 122 + 3 = 125 := by decide +kernel
theorem dX5_copyFrom_125 : decode bX5_copyFrom 125 = .ok (.iload_n 2, 1) ∧ 125 + 1 = 126 := by decide +kernel
theorem dX5_copyFrom_126 : decode bX5_copyFrom 126 = .ok (.aload_n 1, 1) ∧ 126 + 1 = 127 := by decide +kernel
theorem dX5_copyFrom_127 : decode bX5_copyFrom 127 = .ok (.getfield 46, 3) ∧ 127 + 3 = 130 := by decide +kernel
theorem dX5_copyFrom_130 : decode bX5_copyFrom 130 = .ok (.iload_n 2, 1) ∧ 130 + 1 = 131 := by decide +kernel
theorem dX5_copyFrom_131 : decode bX5_copyFrom 131 = .ok (.iaload, 1) ∧ 131 + 1 = 132 := by decide +kernel
theorem dX5_copyFrom_132 : decode bX5_copyFrom 132 = .ok (.iastore, 1) ∧ 132 + 1 = 133 := by decide +kernel
theorem dX5_copyFrom_133 : decode bX5_copyFrom 133 = .ok (.aload_n 0, 1) ∧ 133 + 1 = 134 := by decide +kernel
theorem dX5_copyFrom_134 : decode bX5_copyFrom 134 = .ok (.getfield 49, 3) ∧ 134 + 3 = 137 := by decide +kernel
theorem dX5_copyFrom_137 : decode bX5_copyFrom 137 = .ok (.iload_n 2, 1) ∧ 137 + 1 = 138 := by decide +kernel
theorem dX5_copyFrom_138 : decode bX5_copyFrom 138 = .ok (.aload_n 1, 1) ∧ 138 + 1 = 139 := by decide +kernel
theorem dX5_copyFrom_139 : decode bX5_copyFrom 139 = .ok (.getfield 49, 3) ∧ 139 + 3 = 142 := by decide +kernel
theorem dX5_copyFrom_142 : decode bX5_copyFrom 142 = .ok (.iload_n 2, 1) ∧ 142 + 1 = 143 := by decide +kernel
theorem dX5_copyFrom_143 : decode bX5_copyFrom 143 = .ok (.iaload, 1) ∧ 143 + 1 = 144 := by decide +kernel
theorem dX5_copyFrom_144 : decode bX5_copyFrom 144 = .ok (.iastore, 1) ∧ 144 + 1 = 145 := by decide +kernel
theorem dX5_copyFrom_145 : decode bX5_copyFrom 145 = .ok (.iinc 2 1, 3) ∧ 145 + 3 = 148 := by decide +kernel
theorem dX5_copyFrom_148 : decode bX5_copyFrom 148 = .ok (.goto (-117), 3) ∧ ((148 : Nat) : Int) + (-117) = ((31 : Nat) : Int) := by decide +kernel
theorem dX5_copyFrom_151 : decode bX5_copyFrom 151 = .ok (.aload_n 1, 1) ∧ 151 + 1 = 152 := by decide +kernel
theorem dX5_copyFrom_152 : decode bX5_copyFrom 152 = .ok (.getfield 52, 3) ∧ 152 + 3 = 155 := by decide +kernel
theorem dX5_copyFrom_155 : decode bX5_copyFrom 155 = .ok (.iconst 0, 1) ∧ 155 + 1 = 156 := by decide +kernel
theorem dX5_copyFrom_156 : decode bX5_copyFrom 156 = .ok (.aload_n 0, 1) ∧ 156 + 1 = 157 := by decide +kernel
theorem dX5_copyFrom_157 : decode bX5_copyFrom 157 = .ok (.getfield 52, 3) ∧ 157 + 3 = 160 := by decide +kernel
theorem dX5_copyFrom_160 : decode bX5_copyFrom 160 = .ok (.iconst 0, 1) ∧ 160 + 1 = 161 := by decide +kernel
theorem dX5_copyFrom_161 : decode bX5_copyFrom 161 = .ok (.bipush 24, 2) ∧ 161 + 2 = 163 := by decide +kernel
theorem dX5_copyFrom_163 : decode bX5_copyFrom 163 = .ok (.invokestatic 55, 3) ∧ 163 + 3 = 166 := by decide +kernel
theorem dX5_copyFrom_166 : decode bX5_copyFrom 166 = .ok (.return_, 1) := by decide +kernel
theorem dX5_join_0 : decode bX5_join 0 = .ok (.aload_n 0, 1) ∧ 0 + 1 = 1 := by decide +kernel
theorem dX5_join_1 : decode bX5_join 1 = .ok (.getfield 18, 3) ∧ 1 + 3 = 4 := by decide +kernel
theorem dX5_join_4 : decode bX5_join 4 = .ok (.istore 5, 2) ∧ 4 + 2 = 6 := by decide +kernel
theorem dX5_join_6 : decode bX5_join 6 = .ok (.iload 5, 2) ∧ 6 + 2 = 8 := by decide +kernel
theorem dX5_join_8 : decode bX5_join 8 = .ok (.bipush 6, 2) ∧ 8 + 2 = 10 := by decide +kernel
theorem dX5_join_10 : decode bX5_join 10 = .ok (.if_icmp .lt 6, 3) ∧ 10 + 3 = 13 ∧ ((10 : Nat) : Int) + (6) = ((16 : Nat) : Int) := by decide +kernel
theorem dX5_join_13 : decode bX5_join 13 = .ok (.bipush (-4), 2) ∧ 13 + 2 = 15 := by decide +kernel
theorem dX5_join_15 : decode bX5_join 15 = .ok (.ireturn, 1) := by decide +kernel
theorem dX5_join_16 : decode bX5_join 16 = .ok (.aload_n 0, 1) ∧ 16 + 1 = 17 := by decide +kernel
theorem dX5_join_17 : decode bX5_join 17 = .ok (.getfield 24, 3) ∧ 17 + 3 = 20 := by decide +kernel
theorem dX5_join_20 : decode bX5_join 20 = .ok (.iload 5, 2) ∧ 20 + 2 = 22 := by decide +kernel
theorem dX5_join_22 : decode bX5_join 22 = .ok (.iload_n 1, 1) ∧ 22 + 1 = 23 := by decide +kernel
theorem dX5_join_23 : decode bX5_join 23 = .ok (.iastore, 1) ∧ 23 + 1 = 24 := by decide +kernel
theorem dX5_join_24 : decode bX5_join 24 = .ok (.aload_n 0, 1) ∧ 24 + 1 = 25 := by decide +kernel
theorem dX5_join_25 : decode bX5_join 25 = .ok (.getfield 28, 3) ∧ 25 + 3 = 28 := by decide +kernel
theorem dX5_join_28 : decode bX5_join 28 = .ok (.iload 5, 2) ∧ 28 + 2 = 30 := by decide +kernel
theorem dX5_join_30 : decode bX5_join 30 = .ok (.iload_n 2, 1) ∧ 30 + 1 = 31 := by decide +kernel
theorem dX5_join_31 : decode bX5_join 31 = .ok (.iastore, 1) ∧ 31 + 1 = 32 := by decide +kernel
theorem dX5_join_32 : decode bX5_join 32 = .ok (.aload_n 0, 1) ∧ 32 + 1 = 33 := by decide +kernel
theorem dX5_join_33 : decode bX5_join 33 = .ok (.getfield 31, 3) ∧ 33 + 3 = 36 := by decide +kernel
theorem dX5_join_36 : decode bX5_join 36 = .ok (.iload 5, 2) ∧ 36 + 2 = 38 := by decide +kernel
theorem dX5_join_38 : decode bX5_join 38 = .ok (.iload_n 3, 1) ∧ 38 + 1 = 39 := by decide +kernel
theorem dX5_join_39 : decode bX5_join 39 = .ok (.iastore, 1) ∧ 39 + 1 = 40 := by decide +kernel
theorem dX5_join_40 : decode bX5_join 40 = .ok (.aload_n 0, 1) ∧ 40 + 1 = 41 := by decide +kernel
theorem dX5_join_41 : decode bX5_join 41 = .ok (.getfield 34, 3) ∧ 41 + 3 = 44 := by decide +kernel
theorem dX5_join_44 : decode bX5_join 44 = .ok (.iload 5, 2) ∧ 44 + 2 = 46 := by decide +kernel
theorem dX5_join_46 : decode bX5_join 46 = .ok (.iload 4, 2) ∧ 46 + 2 = 48 := by decide +kernel
theorem dX5_join_48 : decode bX5_join 48 = .ok (.iastore, 1) ∧ 48 + 1 = 49 := by decide +kernel
theorem dX5_join_49 : decode bX5_join 49 = .ok (.aload_n 0, 1) ∧ 49 + 1 = 50 := by decide +kernel
theorem dX5_join_50 : decode bX5_join 50 = .ok (.getfield 37, 3) ∧ 50 + 3 = 53 := by decide +kernel
theorem dX5_join_53 : decode bX5_join 53 = .ok (.iload 5, 2) ∧ 53 + 2 = 55 := by decide +kernel
theorem dX5_join_55 : decode bX5_join 55 = .ok (.iconst 0, 1) ∧ 55 + 1 = 56 := by decide +kernel
theorem dX5_join_56 : decode bX5_join 56 = .ok (.iastore, 1) ∧ 56 + 1 = 57 := by decide +kernel
theorem dX5_join_57 : decode bX5_join 57 = .ok (.aload_n 0, 1) ∧ 57 + 1 = 58 := by decide +kernel
theorem dX5_join_58 : decode bX5_join 58 = .ok (.getfield 40, 3) ∧ 58 + 3 = 61 := by decide +kernel
theorem dX5_join_61 : decode bX5_join 61 = .ok (.iload 5, 2) ∧ 61 + 2 = 63 := by decide +kernel
theorem dX5_join_63 : decode bX5_join 63 = .ok (.iconst 0, 1) ∧ 63 + 1 = 64 := by decide +kernel
theorem dX5_join_64 : decode bX5_join 64 = .ok (.iastore, 1) ∧ 64 + 1 = 65 := by decide +kernel
theorem dX5_join_65 : decode bX5_join 65 = .ok (.aload_n 0, 1) ∧ 65 + 1 = 66 := by decide +kernel
theorem dX5_join_66 : decode bX5_join 66 = .ok (.getfield 43, 3) ∧ 66 + 3 = 69 := by decide +kernel
theorem dX5_join_69 : decode bX5_join 69 = .ok (.iload 5, 2) ∧ 69 + 2 = 71 := by decide +kernel
theorem dX5_join_71 : decode bX5_join 71 = .ok (.iconst 0, 1) ∧ 71 + 1 = 72 := by decide +kernel
theorem dX5_join_72 : decode bX5_join 72 = .ok (.iastore, 1) ∧ 72 + 1 = 73 := by decide +kernel
theorem dX5_join_73 : decode bX5_join 73 = .ok (.aload_n 0, 1) ∧ 73 + 1 = 74 := by decide +kernel
theorem dX5_join_74 : decode bX5_join 74 = .ok (.getfield 46, 3) ∧ 74 + 3 = 77 := by decide +kernel
theorem dX5_join_77 : decode bX5_join 77 = .ok (.iload 5, 2) ∧ 77 + 2 = 79 := by decide +kernel
theorem dX5_join_79 : decode bX5_join 79 = .ok (.iconst 0, 1) ∧ 79 + 1 = 80 := by decide +kernel
theorem dX5_join_80 : decode bX5_join 80 = .ok (.iastore, 1) ∧ 80 + 1 = 81 := by decide +kernel
theorem dX5_join_81 : decode bX5_join 81 = .ok (.aload_n 0, 1) ∧ 81 + 1 = 82 := by decide +kernel
theorem dX5_join_82 : decode bX5_join 82 = .ok (.getfield 49, 3) ∧ 82 + 3 = 85 := by decide +kernel
theorem dX5_join_85 : decode bX5_join 85 = .ok (.iload 5, 2) ∧ 85 + 2 = 87 := by decide +kernel
theorem dX5_join_87 : decode bX5_join 87 = .ok (.iload 5, 2) ∧ 87 + 2 = 89 := by decide +kernel
theorem dX5_join_89 : decode bX5_join 89 = .ok (.iastore, 1) ∧ 89 + 1 = 90 := by decide +kernel
theorem dX5_join_90 : decode bX5_join 90 = .ok (.iconst 0, 1) ∧ 90 + 1 = 91 := by decide +kernel
theorem dX5_join_91 : decode bX5_join 91 = .ok (.istore 6, 2) ∧ 91 + 2 = 93 := by decide +kernel
theorem dX5_join_93 : decode bX5_join 93 = .ok (.iload 6, 2) ∧ 93 + 2 = 95 := by decide +kernel
theorem dX5_join_95 : decode bX5_join 95 = .ok (.iconst 4, 1) ∧ 95 + 1 = 96 := by decide +kernel
theorem dX5_join_96 : decode bX5_join 96 = .ok (.if_icmp .ge 22, 3) ∧ 96 + 3 = 99 ∧ ((96 : Nat) : Int) + (22) = ((118 : Nat) : Int) := by decide +kernel
theorem dX5_join_99 : decode bX5_join 99 = .ok (.aload_n 0, 1) ∧ 99 + 1 = 100 := by decide +kernel
theorem dX5_join_100 : decode bX5_join 100 = .ok (.getfield 52, 3) ∧ 100 + 3 = 103 := by decide +kernel
theorem dX5_join_103 : decode bX5_join 103 = .ok (.iload 5, 2) ∧ 103 + 2 = 105 := by decide +kernel
theorem dX5_join_105 : decode bX5_join 105 = .ok (.iconst 4, 1) ∧ 105 + 1 = 106 := by decide +kernel
theorem dX5_join_106 : decode bX5_join 106 = .ok (.imul, 1) ∧ 106 + 1 = 107 := by decide +kernel
theorem dX5_join_107 : decode bX5_join 107 = .ok (.iload 6, 2) ∧ 107 + 2 = 109 := by decide +kernel
theorem dX5_join_109 : decode bX5_join 109 = .ok (.iadd, 1) ∧ 109 + 1 = 110 := by decide +kernel
theorem dX5_join_110 : decode bX5_join 110 = .ok (.iconst 0, 1) ∧ 110 + 1 = 111 := by decide +kernel
theorem dX5_join_111 : decode bX5_join 111 = .ok (.iastore, 1) ∧ 111 + 1 = 112 := by decide +kernel
theorem dX5_join_112 : decode bX5_join 112 = .ok (.iinc 6 1, 3) ∧ 112 + 3 = 115 := by decide +kernel
theorem dX5_join_115 : decode bX5_join 115 = .ok (.goto (-22), 3) ∧ ((115 : Nat) : Int) + (-22) = ((93 : Nat) : Int) := by decide +kernel
theorem dX5_join_118 : decode bX5_join 118 = .ok (.aload_n 0, 1) ∧ 118 + 1 = 119 := by decide +kernel
theorem dX5_join_119 : decode bX5_join 119 = .ok (.dup, 1) ∧ 119 + 1 = 120 := by decide +kernel
theorem dX5_join_120 : decode bX5_join 120 = .ok (.getfield 18, 3) ∧ 120 + 3 = 123 := by decide +kernel
theorem dX5_join_123 : decode bX5_join 123 = .ok (.iconst 1, 1) ∧ 123 + 1 = 124 := by decide +kernel
theorem dX5_join_124 : decode bX5_join 124 = .ok (.iadd, 1) ∧ 124 + 1 = 125 := by decide +kernel
theorem dX5_join_125 : decode bX5_join 125 = .ok (.putfield 18, 3) ∧ 125 + 3 = 128 := by decide +kernel
theorem dX5_join_128 : decode bX5_join 128 = .ok (.iload 5, 2) ∧ 128 + 2 = 130 := by decide +kernel
theorem dX5_join_130 : decode bX5_join 130 = .ok (.ireturn, 1) := by decide +kernel
theorem dX5_trade_0 : decode bX5_trade 0 = .ok (.aload_n 0, 1) ∧ 0 + 1 = 1 := by decide +kernel
theorem dX5_trade_1 : decode bX5_trade 1 = .ok (.getfield 49, 3) ∧ 1 + 3 = 4 := by decide +kernel
theorem dX5_trade_4 : decode bX5_trade 4 = .ok (.iload_n 1, 1) ∧ 4 + 1 = 5 := by decide +kernel
theorem dX5_trade_5 : decode bX5_trade 5 = .ok (.iaload, 1) ∧ 5 + 1 = 6 := by decide +kernel
theorem dX5_trade_6 : decode bX5_trade 6 = .ok (.istore_n 3, 1) ∧ 6 + 1 = 7 := by decide +kernel
theorem dX5_trade_7 : decode bX5_trade 7 = .ok (.aload_n 0, 1) ∧ 7 + 1 = 8 := by decide +kernel
theorem dX5_trade_8 : decode bX5_trade 8 = .ok (.getfield 49, 3) ∧ 8 + 3 = 11 := by decide +kernel
theorem dX5_trade_11 : decode bX5_trade 11 = .ok (.iload_n 1, 1) ∧ 11 + 1 = 12 := by decide +kernel
theorem dX5_trade_12 : decode bX5_trade 12 = .ok (.aload_n 0, 1) ∧ 12 + 1 = 13 := by decide +kernel
theorem dX5_trade_13 : decode bX5_trade 13 = .ok (.getfield 49, 3) ∧ 13 + 3 = 16 := by decide +kernel
theorem dX5_trade_16 : decode bX5_trade 16 = .ok (.iload_n 2, 1) ∧ 16 + 1 = 17 := by decide +kernel
theorem dX5_trade_17 : decode bX5_trade 17 = .ok (.iaload, 1) ∧ 17 + 1 = 18 := by decide +kernel
theorem dX5_trade_18 : decode bX5_trade 18 = .ok (.iastore, 1) ∧ 18 + 1 = 19 := by decide +kernel
theorem dX5_trade_19 : decode bX5_trade 19 = .ok (.aload_n 0, 1) ∧ 19 + 1 = 20 := by decide +kernel
theorem dX5_trade_20 : decode bX5_trade 20 = .ok (.getfield 49, 3) ∧ 20 + 3 = 23 := by decide +kernel
theorem dX5_trade_23 : decode bX5_trade 23 = .ok (.iload_n 2, 1) ∧ 23 + 1 = 24 := by decide +kernel
theorem dX5_trade_24 : decode bX5_trade 24 = .ok (.iload_n 3, 1) ∧ 24 + 1 = 25 := by decide +kernel
theorem dX5_trade_25 : decode bX5_trade 25 = .ok (.iastore, 1) ∧ 25 + 1 = 26 := by decide +kernel
theorem dX5_trade_26 : decode bX5_trade 26 = .ok (.return_, 1) := by decide +kernel
theorem dX5_rise_0 : decode bX5_rise 0 = .ok (.aload_n 0, 1) ∧ 0 + 1 = 1 := by decide +kernel
theorem dX5_rise_1 : decode bX5_rise 1 = .ok (.sipush 9999, 3) ∧ 1 + 3 = 4 := by decide +kernel
theorem dX5_rise_4 : decode bX5_rise 4 = .ok (.aload_n 0, 1) ∧ 4 + 1 = 5 := by decide +kernel
theorem dX5_rise_5 : decode bX5_rise 5 = .ok (.getfield 9, 3) ∧ 5 + 3 = 8 := by decide +kernel
theorem dX5_rise_8 : decode bX5_rise 8 = .ok (.iload_n 1, 1) ∧ 8 + 1 = 9 := by decide +kernel
theorem dX5_rise_9 : decode bX5_rise 9 = .ok (.iadd, 1) ∧ 9 + 1 = 10 := by decide +kernel
theorem dX5_rise_10 : decode bX5_rise 10 = .ok (.invokestatic 61, 3) ∧ 10 + 3 = 13 := by decide +kernel
theorem dX5_rise_13 : decode bX5_rise 13 = .ok (.putfield 9, 3) ∧ 13 + 3 = 16 := by decide +kernel
theorem dX5_rise_16 : decode bX5_rise 16 = .ok (.return_, 1) := by decide +kernel
theorem dX5_callIn_0 : decode bX5_callIn 0 = .ok (.aload_n 0, 1) ∧ 0 + 1 = 1 := by decide +kernel
theorem dX5_callIn_1 : decode bX5_callIn 1 = .ok (.aload_n 0, 1) ∧ 1 + 1 = 2 := by decide +kernel
theorem dX5_callIn_2 : decode bX5_callIn 2 = .ok (.getfield 37, 3) ∧ 2 + 3 = 5 := by decide +kernel
theorem dX5_callIn_5 : decode bX5_callIn 5 = .ok (.iload_n 1, 1) ∧ 5 + 1 = 6 := by decide +kernel
theorem dX5_callIn_6 : decode bX5_callIn 6 = .ok (.iaload, 1) ∧ 6 + 1 = 7 := by decide +kernel
theorem dX5_callIn_7 : decode bX5_callIn 7 = .ok (.invokevirtual 67, 3) ∧ 7 + 3 = 10 := by decide +kernel
theorem dX5_callIn_10 : decode bX5_callIn 10 = .ok (.aload_n 0, 1) ∧ 10 + 1 = 11 := by decide +kernel
theorem dX5_callIn_11 : decode bX5_callIn 11 = .ok (.getfield 37, 3) ∧ 11 + 3 = 14 := by decide +kernel
theorem dX5_callIn_14 : decode bX5_callIn 14 = .ok (.iload_n 1, 1) ∧ 14 + 1 = 15 := by decide +kernel
theorem dX5_callIn_15 : decode bX5_callIn 15 = .ok (.iconst 0, 1) ∧ 15 + 1 = 16 := by decide +kernel
theorem dX5_callIn_16 : decode bX5_callIn 16 = .ok (.iastore, 1) ∧ 16 + 1 = 17 := by decide +kernel
theorem dX5_callIn_17 : decode bX5_callIn 17 = .ok (.aload_n 0, 1) ∧ 17 + 1 = 18 := by decide +kernel
theorem dX5_callIn_18 : decode bX5_callIn 18 = .ok (.getfield 40, 3) ∧ 18 + 3 = 21 := by decide +kernel
theorem dX5_callIn_21 : decode bX5_callIn 21 = .ok (.iload_n 1, 1) ∧ 21 + 1 = 22 := by decide +kernel
theorem dX5_callIn_22 : decode bX5_callIn 22 = .ok (.iconst 0, 1) ∧ 22 + 1 = 23 := by decide +kernel
theorem dX5_callIn_23 : decode bX5_callIn 23 = .ok (.iastore, 1) ∧ 23 + 1 = 24 := by decide +kernel
theorem dX5_callIn_24 : decode bX5_callIn 24 = .ok (.return_, 1) := by decide +kernel
theorem dX5_owesOfAll_0 : decode bX5_owesOfAll 0 = .ok (.iconst 0, 1) ∧ 0 + 1 = 1 := by decide +kernel
theorem dX5_owesOfAll_1 : decode bX5_owesOfAll 1 = .ok (.istore_n 1, 1) ∧ 1 + 1 = 2 := by decide +kernel
theorem dX5_owesOfAll_2 : decode bX5_owesOfAll 2 = .ok (.iconst 0, 1) ∧ 2 + 1 = 3 := by decide +kernel
theorem dX5_owesOfAll_3 : decode bX5_owesOfAll 3 = .ok (.istore_n 2, 1) ∧ 3 + 1 = 4 := by decide +kernel
theorem dX5_owesOfAll_4 : decode bX5_owesOfAll 4 = .ok (.iload_n 2, 1) ∧ 4 + 1 = 5 := by decide +kernel
theorem dX5_owesOfAll_5 : decode bX5_owesOfAll 5 = .ok (.aload_n 0, 1) ∧ 5 + 1 = 6 := by decide +kernel
theorem dX5_owesOfAll_6 : decode bX5_owesOfAll 6 = .ok (.getfield 18, 3) ∧ 6 + 3 = 9 := by decide +kernel
theorem dX5_owesOfAll_9 : decode bX5_owesOfAll 9 = .ok (.if_icmp .ge 18, 3) ∧ 9 + 3 = 12 ∧ ((9 : Nat) : Int) + (18) = ((27 : Nat) : Int) := by decide +kernel
theorem dX5_owesOfAll_12 : decode bX5_owesOfAll 12 = .ok (.iload_n 1, 1) ∧ 12 + 1 = 13 := by decide +kernel
theorem dX5_owesOfAll_13 : decode bX5_owesOfAll 13 = .ok (.aload_n 0, 1) ∧ 13 + 1 = 14 := by decide +kernel
theorem dX5_owesOfAll_14 : decode bX5_owesOfAll 14 = .ok (.getfield 43, 3) ∧ 14 + 3 = 17 := by decide +kernel
theorem dX5_owesOfAll_17 : decode bX5_owesOfAll 17 = .ok (.iload_n 2, 1) ∧ 17 + 1 = 18 := by decide +kernel
theorem dX5_owesOfAll_18 : decode bX5_owesOfAll 18 = .ok (.iaload, 1) ∧ 18 + 1 = 19 := by decide +kernel
theorem dX5_owesOfAll_19 : decode bX5_owesOfAll 19 = .ok (.iadd, 1) ∧ 19 + 1 = 20 := by decide +kernel
theorem dX5_owesOfAll_20 : decode bX5_owesOfAll 20 = .ok (.istore_n 1, 1) ∧ 20 + 1 = 21 := by decide +kernel
theorem dX5_owesOfAll_21 : decode bX5_owesOfAll 21 = .ok (.iinc 2 1, 3) ∧ 21 + 3 = 24 := by decide +kernel
theorem dX5_owesOfAll_24 : decode bX5_owesOfAll 24 = .ok (.goto (-20), 3) ∧ ((24 : Nat) : Int) + (-20) = ((4 : Nat) : Int) := by decide +kernel
theorem dX5_owesOfAll_27 : decode bX5_owesOfAll 27 = .ok (.iload_n 1, 1) ∧ 27 + 1 = 28 := by decide +kernel
theorem dX5_owesOfAll_28 : decode bX5_owesOfAll 28 = .ok (.ireturn, 1) := by decide +kernel
theorem dX5_asks_0 : decode bX5_asks 0 = .ok (.aload_n 0, 1) ∧ 0 + 1 = 1 := by decide +kernel
theorem dX5_asks_1 : decode bX5_asks 1 = .ok (.getfield 24, 3) ∧ 1 + 3 = 4 := by decide +kernel
theorem dX5_asks_4 : decode bX5_asks 4 = .ok (.iload_n 1, 1) ∧ 4 + 1 = 5 := by decide +kernel
theorem dX5_asks_5 : decode bX5_asks 5 = .ok (.iaload, 1) ∧ 5 + 1 = 6 := by decide +kernel
theorem dX5_asks_6 : decode bX5_asks 6 = .ok (.tableswitch 90 2 6 #[34, 90, 90, 43, 65], 34) := by decide +kernel
theorem dX5_asks_40 : decode bX5_asks 40 = .ok (.iconst 2, 1) ∧ 40 + 1 = 41 := by decide +kernel
theorem dX5_asks_41 : decode bX5_asks 41 = .ok (.aload_n 0, 1) ∧ 41 + 1 = 42 := by decide +kernel
theorem dX5_asks_42 : decode bX5_asks 42 = .ok (.getfield 31, 3) ∧ 42 + 3 = 45 := by decide +kernel
theorem dX5_asks_45 : decode bX5_asks 45 = .ok (.iload_n 1, 1) ∧ 45 + 1 = 46 := by decide +kernel
theorem dX5_asks_46 : decode bX5_asks 46 = .ok (.iaload, 1) ∧ 46 + 1 = 47 := by decide +kernel
theorem dX5_asks_47 : decode bX5_asks 47 = .ok (.imul, 1) ∧ 47 + 1 = 48 := by decide +kernel
theorem dX5_asks_48 : decode bX5_asks 48 = .ok (.ireturn, 1) := by decide +kernel
theorem dX5_asks_49 : decode bX5_asks 49 = .ok (.iconst 2, 1) ∧ 49 + 1 = 50 := by decide +kernel
theorem dX5_asks_50 : decode bX5_asks 50 = .ok (.aload_n 0, 1) ∧ 50 + 1 = 51 := by decide +kernel
theorem dX5_asks_51 : decode bX5_asks 51 = .ok (.getfield 31, 3) ∧ 51 + 3 = 54 := by decide +kernel
theorem dX5_asks_54 : decode bX5_asks 54 = .ok (.iload_n 1, 1) ∧ 54 + 1 = 55 := by decide +kernel
theorem dX5_asks_55 : decode bX5_asks 55 = .ok (.iaload, 1) ∧ 55 + 1 = 56 := by decide +kernel
theorem dX5_asks_56 : decode bX5_asks 56 = .ok (.imul, 1) ∧ 56 + 1 = 57 := by decide +kernel
theorem dX5_asks_57 : decode bX5_asks 57 = .ok (.iconst 0, 1) ∧ 57 + 1 = 58 := by decide +kernel
theorem dX5_asks_58 : decode bX5_asks 58 = .ok (.aload_n 0, 1) ∧ 58 + 1 = 59 := by decide +kernel
theorem dX5_asks_59 : decode bX5_asks 59 = .ok (.getfield 9, 3) ∧ 59 + 3 = 62 := by decide +kernel
theorem dX5_asks_62 : decode bX5_asks 62 = .ok (.iload_n 2, 1) ∧ 62 + 1 = 63 := by decide +kernel
theorem dX5_asks_63 : decode bX5_asks 63 = .ok (.isub, 1) ∧ 63 + 1 = 64 := by decide +kernel
theorem dX5_asks_64 : decode bX5_asks 64 = .ok (.invokestatic 71, 3) ∧ 64 + 3 = 67 := by decide +kernel
theorem dX5_asks_67 : decode bX5_asks 67 = .ok (.invokestatic 61, 3) ∧ 67 + 3 = 70 := by decide +kernel
theorem dX5_asks_70 : decode bX5_asks 70 = .ok (.ireturn, 1) := by decide +kernel
theorem dX5_asks_71 : decode bX5_asks 71 = .ok (.aload_n 0, 1) ∧ 71 + 1 = 72 := by decide +kernel
theorem dX5_asks_72 : decode bX5_asks 72 = .ok (.getfield 31, 3) ∧ 72 + 3 = 75 := by decide +kernel
theorem dX5_asks_75 : decode bX5_asks 75 = .ok (.iload_n 1, 1) ∧ 75 + 1 = 76 := by decide +kernel
theorem dX5_asks_76 : decode bX5_asks 76 = .ok (.iaload, 1) ∧ 76 + 1 = 77 := by decide +kernel
theorem dX5_asks_77 : decode bX5_asks 77 = .ok (.aload_n 0, 1) ∧ 77 + 1 = 78 := by decide +kernel
theorem dX5_asks_78 : decode bX5_asks 78 = .ok (.getfield 52, 3) ∧ 78 + 3 = 81 := by decide +kernel
theorem dX5_asks_81 : decode bX5_asks 81 = .ok (.iload_n 1, 1) ∧ 81 + 1 = 82 := by decide +kernel
theorem dX5_asks_82 : decode bX5_asks 82 = .ok (.iconst 4, 1) ∧ 82 + 1 = 83 := by decide +kernel
theorem dX5_asks_83 : decode bX5_asks 83 = .ok (.imul, 1) ∧ 83 + 1 = 84 := by decide +kernel
theorem dX5_asks_84 : decode bX5_asks 84 = .ok (.aload_n 0, 1) ∧ 84 + 1 = 85 := by decide +kernel
theorem dX5_asks_85 : decode bX5_asks 85 = .ok (.getfield 15, 3) ∧ 85 + 3 = 88 := by decide +kernel
theorem dX5_asks_88 : decode bX5_asks 88 = .ok (.iconst 4, 1) ∧ 88 + 1 = 89 := by decide +kernel
theorem dX5_asks_89 : decode bX5_asks 89 = .ok (.invokestatic 74, 3) ∧ 89 + 3 = 92 := by decide +kernel
theorem dX5_asks_92 : decode bX5_asks 92 = .ok (.iadd, 1) ∧ 92 + 1 = 93 := by decide +kernel
theorem dX5_asks_93 : decode bX5_asks 93 = .ok (.iaload, 1) ∧ 93 + 1 = 94 := by decide +kernel
theorem dX5_asks_94 : decode bX5_asks 94 = .ok (.iadd, 1) ∧ 94 + 1 = 95 := by decide +kernel
theorem dX5_asks_95 : decode bX5_asks 95 = .ok (.ireturn, 1) := by decide +kernel
theorem dX5_asks_96 : decode bX5_asks 96 = .ok (.aload_n 0, 1) ∧ 96 + 1 = 97 := by decide +kernel
theorem dX5_asks_97 : decode bX5_asks 97 = .ok (.getfield 31, 3) ∧ 97 + 3 = 100 := by decide +kernel
theorem dX5_asks_100 : decode bX5_asks 100 = .ok (.iload_n 1, 1) ∧ 100 + 1 = 101 := by decide +kernel
theorem dX5_asks_101 : decode bX5_asks 101 = .ok (.iaload, 1) ∧ 101 + 1 = 102 := by decide +kernel
theorem dX5_asks_102 : decode bX5_asks 102 = .ok (.ireturn, 1) := by decide +kernel
theorem dX5_keeps_0 : decode bX5_keeps 0 = .ok (.aload_n 0, 1) ∧ 0 + 1 = 1 := by decide +kernel
theorem dX5_keeps_1 : decode bX5_keeps 1 = .ok (.getfield 24, 3) ∧ 1 + 3 = 4 := by decide +kernel
theorem dX5_keeps_4 : decode bX5_keeps 4 = .ok (.iload_n 1, 1) ∧ 4 + 1 = 5 := by decide +kernel
theorem dX5_keeps_5 : decode bX5_keeps 5 = .ok (.iaload, 1) ∧ 5 + 1 = 6 := by decide +kernel
theorem dX5_keeps_6 : decode bX5_keeps 6 = .ok (.iconst 1, 1) ∧ 6 + 1 = 7 := by decide +kernel
theorem dX5_keeps_7 : decode bX5_keeps 7 = .ok (.if_icmp .eq 13, 3) ∧ 7 + 3 = 10 ∧ ((7 : Nat) : Int) + (13) = ((20 : Nat) : Int) := by decide +kernel
theorem dX5_keeps_10 : decode bX5_keeps 10 = .ok (.aload_n 0, 1) ∧ 10 + 1 = 11 := by decide +kernel
theorem dX5_keeps_11 : decode bX5_keeps 11 = .ok (.getfield 24, 3) ∧ 11 + 3 = 14 := by decide +kernel
theorem dX5_keeps_14 : decode bX5_keeps 14 = .ok (.iload_n 1, 1) ∧ 14 + 1 = 15 := by decide +kernel
theorem dX5_keeps_15 : decode bX5_keeps 15 = .ok (.iaload, 1) ∧ 15 + 1 = 16 := by decide +kernel
theorem dX5_keeps_16 : decode bX5_keeps 16 = .ok (.iconst 4, 1) ∧ 16 + 1 = 17 := by decide +kernel
theorem dX5_keeps_17 : decode bX5_keeps 17 = .ok (.if_icmp .ne 14, 3) ∧ 17 + 3 = 20 ∧ ((17 : Nat) : Int) + (14) = ((31 : Nat) : Int) := by decide +kernel
theorem dX5_keeps_20 : decode bX5_keeps 20 = .ok (.iconst 3, 1) ∧ 20 + 1 = 21 := by decide +kernel
theorem dX5_keeps_21 : decode bX5_keeps 21 = .ok (.aload_n 0, 1) ∧ 21 + 1 = 22 := by decide +kernel
theorem dX5_keeps_22 : decode bX5_keeps 22 = .ok (.getfield 28, 3) ∧ 22 + 3 = 25 := by decide +kernel
theorem dX5_keeps_25 : decode bX5_keeps 25 = .ok (.iload_n 1, 1) ∧ 25 + 1 = 26 := by decide +kernel
theorem dX5_keeps_26 : decode bX5_keeps 26 = .ok (.iaload, 1) ∧ 26 + 1 = 27 := by decide +kernel
theorem dX5_keeps_27 : decode bX5_keeps 27 = .ok (.iadd, 1) ∧ 27 + 1 = 28 := by decide +kernel
theorem dX5_keeps_28 : decode bX5_keeps 28 = .ok (.goto 4, 3) ∧ ((28 : Nat) : Int) + (4) = ((32 : Nat) : Int) := by decide +kernel
theorem dX5_keeps_31 : decode bX5_keeps 31 = .ok (.iconst 3, 1) ∧ 31 + 1 = 32 := by decide +kernel
theorem dX5_keeps_32 : decode bX5_keeps 32 = .ok (.ireturn, 1) := by decide +kernel
theorem dX5_staysAway_0 : decode bX5_staysAway 0 = .ok (.aload_n 0, 1) ∧ 0 + 1 = 1 := by decide +kernel
theorem dX5_staysAway_1 : decode bX5_staysAway 1 = .ok (.getfield 24, 3) ∧ 1 + 3 = 4 := by decide +kernel
theorem dX5_staysAway_4 : decode bX5_staysAway 4 = .ok (.iload_n 1, 1) ∧ 4 + 1 = 5 := by decide +kernel
theorem dX5_staysAway_5 : decode bX5_staysAway 5 = .ok (.iaload, 1) ∧ 5 + 1 = 6 := by decide +kernel
theorem dX5_staysAway_6 : decode bX5_staysAway 6 = .ok (.iconst 4, 1) ∧ 6 + 1 = 7 := by decide +kernel
theorem dX5_staysAway_7 : decode bX5_staysAway 7 = .ok (.if_icmp .ne 18, 3) ∧ 7 + 3 = 10 ∧ ((7 : Nat) : Int) + (18) = ((25 : Nat) : Int) := by decide +kernel
theorem dX5_staysAway_10 : decode bX5_staysAway 10 = .ok (.aload_n 0, 1) ∧ 10 + 1 = 11 := by decide +kernel
theorem dX5_staysAway_11 : decode bX5_staysAway 11 = .ok (.getfield 43, 3) ∧ 11 + 3 = 14 := by decide +kernel
theorem dX5_staysAway_14 : decode bX5_staysAway 14 = .ok (.iload_n 1, 1) ∧ 14 + 1 = 15 := by decide +kernel
theorem dX5_staysAway_15 : decode bX5_staysAway 15 = .ok (.iaload, 1) ∧ 15 + 1 = 16 := by decide +kernel
theorem dX5_staysAway_16 : decode bX5_staysAway 16 = .ok (.bipush 30, 2) ∧ 16 + 2 = 18 := by decide +kernel
theorem dX5_staysAway_18 : decode bX5_staysAway 18 = .ok (.if_icmp .le 7, 3) ∧ 18 + 3 = 21 ∧ ((18 : Nat) : Int) + (7) = ((25 : Nat) : Int) := by decide +kernel
theorem dX5_staysAway_21 : decode bX5_staysAway 21 = .ok (.iconst 1, 1) ∧ 21 + 1 = 22 := by decide +kernel
theorem dX5_staysAway_22 : decode bX5_staysAway 22 = .ok (.goto 4, 3) ∧ ((22 : Nat) : Int) + (4) = ((26 : Nat) : Int) := by decide +kernel
theorem dX5_staysAway_25 : decode bX5_staysAway 25 = .ok (.iconst 0, 1) ∧ 25 + 1 = 26 := by decide +kernel
theorem dX5_staysAway_26 : decode bX5_staysAway 26 = .ok (.ireturn, 1) := by decide +kernel
theorem dX5_bringsBack_0 : decode bX5_bringsBack 0 = .ok (.aload_n 0, 1) ∧ 0 + 1 = 1 := by decide +kernel
theorem dX5_bringsBack_1 : decode bX5_bringsBack 1 = .ok (.getfield 24, 3) ∧ 1 + 3 = 4 := by decide +kernel
theorem dX5_bringsBack_4 : decode bX5_bringsBack 4 = .ok (.iload_n 1, 1) ∧ 4 + 1 = 5 := by decide +kernel
theorem dX5_bringsBack_5 : decode bX5_bringsBack 5 = .ok (.iaload, 1) ∧ 5 + 1 = 6 := by decide +kernel
theorem dX5_bringsBack_6 : decode bX5_bringsBack 6 = .ok (.iconst 3, 1) ∧ 6 + 1 = 7 := by decide +kernel
theorem dX5_bringsBack_7 : decode bX5_bringsBack 7 = .ok (.if_icmp .eq 14, 3) ∧ 7 + 3 = 10 ∧ ((7 : Nat) : Int) + (14) = ((21 : Nat) : Int) := by decide +kernel
theorem dX5_bringsBack_10 : decode bX5_bringsBack 10 = .ok (.aload_n 0, 1) ∧ 10 + 1 = 11 := by decide +kernel
theorem dX5_bringsBack_11 : decode bX5_bringsBack 11 = .ok (.getfield 24, 3) ∧ 11 + 3 = 14 := by decide +kernel
theorem dX5_bringsBack_14 : decode bX5_bringsBack 14 = .ok (.iload_n 1, 1) ∧ 14 + 1 = 15 := by decide +kernel
theorem dX5_bringsBack_15 : decode bX5_bringsBack 15 = .ok (.iaload, 1) ∧ 15 + 1 = 16 := by decide +kernel
theorem dX5_bringsBack_16 : decode bX5_bringsBack 16 = .ok (.bipush 6, 2) ∧ 16 + 2 = 18 := by decide +kernel
theorem dX5_bringsBack_18 : decode bX5_bringsBack 18 = .ok (.if_icmp .ne 22, 3) ∧ 18 + 3 = 21 ∧ ((18 : Nat) : Int) + (22) = ((40 : Nat) : Int) := by decide +kernel
theorem dX5_bringsBack_21 : decode bX5_bringsBack 21 = .ok (.aload_n 0, 1) ∧ 21 + 1 = 22 := by decide +kernel
theorem dX5_bringsBack_22 : decode bX5_bringsBack 22 = .ok (.getfield 37, 3) ∧ 22 + 3 = 25 := by decide +kernel
theorem dX5_bringsBack_25 : decode bX5_bringsBack 25 = .ok (.iload_n 1, 1) ∧ 25 + 1 = 26 := by decide +kernel
theorem dX5_bringsBack_26 : decode bX5_bringsBack 26 = .ok (.iaload, 1) ∧ 26 + 1 = 27 := by decide +kernel
theorem dX5_bringsBack_27 : decode bX5_bringsBack 27 = .ok (.aload_n 0, 1) ∧ 27 + 1 = 28 := by decide +kernel
theorem dX5_bringsBack_28 : decode bX5_bringsBack 28 = .ok (.getfield 37, 3) ∧ 28 + 3 = 31 := by decide +kernel
theorem dX5_bringsBack_31 : decode bX5_bringsBack 31 = .ok (.iload_n 1, 1) ∧ 31 + 1 = 32 := by decide +kernel
theorem dX5_bringsBack_32 : decode bX5_bringsBack 32 = .ok (.iaload, 1) ∧ 32 + 1 = 33 := by decide +kernel
theorem dX5_bringsBack_33 : decode bX5_bringsBack 33 = .ok (.bipush 10, 2) ∧ 33 + 2 = 35 := by decide +kernel
theorem dX5_bringsBack_35 : decode bX5_bringsBack 35 = .ok (.idiv, 1) ∧ 35 + 1 = 36 := by decide +kernel
theorem dX5_bringsBack_36 : decode bX5_bringsBack 36 = .ok (.isub, 1) ∧ 36 + 1 = 37 := by decide +kernel
theorem dX5_bringsBack_37 : decode bX5_bringsBack 37 = .ok (.goto 9, 3) ∧ ((37 : Nat) : Int) + (9) = ((46 : Nat) : Int) := by decide +kernel
theorem dX5_bringsBack_40 : decode bX5_bringsBack 40 = .ok (.aload_n 0, 1) ∧ 40 + 1 = 41 := by decide +kernel
theorem dX5_bringsBack_41 : decode bX5_bringsBack 41 = .ok (.getfield 37, 3) ∧ 41 + 3 = 44 := by decide +kernel
theorem dX5_bringsBack_44 : decode bX5_bringsBack 44 = .ok (.iload_n 1, 1) ∧ 44 + 1 = 45 := by decide +kernel
theorem dX5_bringsBack_45 : decode bX5_bringsBack 45 = .ok (.iaload, 1) ∧ 45 + 1 = 46 := by decide +kernel
theorem dX5_bringsBack_46 : decode bX5_bringsBack 46 = .ok (.ireturn, 1) := by decide +kernel
theorem dX5_goDay_0 : decode bX5_goDay 0 = .ok (.iconst 0, 1) ∧ 0 + 1 = 1 := by decide +kernel
theorem dX5_goDay_1 : decode bX5_goDay 1 = .ok (.istore 4, 2) ∧ 1 + 2 = 3 := by decide +kernel
theorem dX5_goDay_3 : decode bX5_goDay 3 = .ok (.iload 4, 2) ∧ 3 + 2 = 5 := by decide +kernel
theorem dX5_goDay_5 : decode bX5_goDay 5 = .ok (.aload_n 0, 1) ∧ 5 + 1 = 6 := by decide +kernel
theorem dX5_goDay_6 : decode bX5_goDay 6 = .ok (.getfield 18, 3) ∧ 6 + 3 = 9 := by decide +kernel
theorem dX5_goDay_9 : decode bX5_goDay 9 = .ok (.if_icmp .ge 80, 3) ∧ 9 + 3 = 12 ∧ ((9 : Nat) : Int) + (80) = ((89 : Nat) : Int) := by decide +kernel
theorem dX5_goDay_12 : decode bX5_goDay 12 = .ok (.aload_n 0, 1) ∧ 12 + 1 = 13 := by decide +kernel
theorem dX5_goDay_13 : decode bX5_goDay 13 = .ok (.getfield 49, 3) ∧ 13 + 3 = 16 := by decide +kernel
theorem dX5_goDay_16 : decode bX5_goDay 16 = .ok (.iload 4, 2) ∧ 16 + 2 = 18 := by decide +kernel
theorem dX5_goDay_18 : decode bX5_goDay 18 = .ok (.iaload, 1) ∧ 18 + 1 = 19 := by decide +kernel
theorem dX5_goDay_19 : decode bX5_goDay 19 = .ok (.istore 5, 2) ∧ 19 + 2 = 21 := by decide +kernel
theorem dX5_goDay_21 : decode bX5_goDay 21 = .ok (.aload_n 0, 1) ∧ 21 + 1 = 22 := by decide +kernel
theorem dX5_goDay_22 : decode bX5_goDay 22 = .ok (.getfield 37, 3) ∧ 22 + 3 = 25 := by decide +kernel
theorem dX5_goDay_25 : decode bX5_goDay 25 = .ok (.iload 5, 2) ∧ 25 + 2 = 27 := by decide +kernel
theorem dX5_goDay_27 : decode bX5_goDay 27 = .ok (.iaload, 1) ∧ 27 + 1 = 28 := by decide +kernel
theorem dX5_goDay_28 : decode bX5_goDay 28 = .ok (.ifCond .le 13, 3) ∧ 28 + 3 = 31 ∧ ((28 : Nat) : Int) + (13) = ((41 : Nat) : Int) := by decide +kernel
theorem dX5_goDay_31 : decode bX5_goDay 31 = .ok (.aload_n 0, 1) ∧ 31 + 1 = 32 := by decide +kernel
theorem dX5_goDay_32 : decode bX5_goDay 32 = .ok (.iload 5, 2) ∧ 32 + 2 = 34 := by decide +kernel
theorem dX5_goDay_34 : decode bX5_goDay 34 = .ok (.aload_n 1, 1) ∧ 34 + 1 = 35 := by decide +kernel
theorem dX5_goDay_35 : decode bX5_goDay 35 = .ok (.invokevirtual 77, 3) ∧ 35 + 3 = 38 := by decide +kernel
theorem dX5_goDay_38 : decode bX5_goDay 38 = .ok (.goto 45, 3) ∧ ((38 : Nat) : Int) + (45) = ((83 : Nat) : Int) := by decide +kernel
theorem dX5_goDay_41 : decode bX5_goDay 41 = .ok (.iload 5, 2) ∧ 41 + 2 = 43 := by decide +kernel
theorem dX5_goDay_43 : decode bX5_goDay 43 = .ok (.iload_n 3, 1) ∧ 43 + 1 = 44 := by decide +kernel
theorem dX5_goDay_44 : decode bX5_goDay 44 = .ok (.if_icmp .eq 39, 3) ∧ 44 + 3 = 47 ∧ ((44 : Nat) : Int) + (39) = ((83 : Nat) : Int) := by decide +kernel
theorem dX5_goDay_47 : decode bX5_goDay 47 = .ok (.aload_n 0, 1) ∧ 47 + 1 = 48 := by decide +kernel
theorem dX5_goDay_48 : decode bX5_goDay 48 = .ok (.getfield 34, 3) ∧ 48 + 3 = 51 := by decide +kernel
theorem dX5_goDay_51 : decode bX5_goDay 51 = .ok (.iload 5, 2) ∧ 51 + 2 = 53 := by decide +kernel
theorem dX5_goDay_53 : decode bX5_goDay 53 = .ok (.iaload, 1) ∧ 53 + 1 = 54 := by decide +kernel
theorem dX5_goDay_54 : decode bX5_goDay 54 = .ok (.ifCond .le 29, 3) ∧ 54 + 3 = 57 ∧ ((54 : Nat) : Int) + (29) = ((83 : Nat) : Int) := by decide +kernel
theorem dX5_goDay_57 : decode bX5_goDay 57 = .ok (.aload_n 0, 1) ∧ 57 + 1 = 58 := by decide +kernel
theorem dX5_goDay_58 : decode bX5_goDay 58 = .ok (.getfield 15, 3) ∧ 58 + 3 = 61 := by decide +kernel
theorem dX5_goDay_61 : decode bX5_goDay 61 = .ok (.aload_n 0, 1) ∧ 61 + 1 = 62 := by decide +kernel
theorem dX5_goDay_62 : decode bX5_goDay 62 = .ok (.getfield 34, 3) ∧ 62 + 3 = 65 := by decide +kernel
theorem dX5_goDay_65 : decode bX5_goDay 65 = .ok (.iload 5, 2) ∧ 65 + 2 = 67 := by decide +kernel
theorem dX5_goDay_67 : decode bX5_goDay 67 = .ok (.iaload, 1) ∧ 67 + 1 = 68 := by decide +kernel
theorem dX5_goDay_68 : decode bX5_goDay 68 = .ok (.irem, 1) ∧ 68 + 1 = 69 := by decide +kernel
theorem dX5_goDay_69 : decode bX5_goDay 69 = .ok (.ifCond .ne 14, 3) ∧ 69 + 3 = 72 ∧ ((69 : Nat) : Int) + (14) = ((83 : Nat) : Int) := by decide +kernel
theorem dX5_goDay_72 : decode bX5_goDay 72 = .ok (.aload_n 0, 1) ∧ 72 + 1 = 73 := by decide +kernel
theorem dX5_goDay_73 : decode bX5_goDay 73 = .ok (.iload 5, 2) ∧ 73 + 2 = 75 := by decide +kernel
theorem dX5_goDay_75 : decode bX5_goDay 75 = .ok (.iload_n 2, 1) ∧ 75 + 1 = 76 := by decide +kernel
theorem dX5_goDay_76 : decode bX5_goDay 76 = .ok (.aload_n 1, 1) ∧ 76 + 1 = 77 := by decide +kernel
theorem dX5_goDay_77 : decode bX5_goDay 77 = .ok (.getfield 81, 3) ∧ 77 + 3 = 80 := by decide +kernel
theorem dX5_goDay_80 : decode bX5_goDay 80 = .ok (.invokevirtual 86, 3) ∧ 80 + 3 = 83 := by decide +kernel
theorem dX5_goDay_83 : decode bX5_goDay 83 = .ok (.iinc 4 1, 3) ∧ 83 + 3 = 86 := by decide +kernel
theorem dX5_goDay_86 : decode bX5_goDay 86 = .ok (.goto (-83), 3) ∧ ((86 : Nat) : Int) + (-83) = ((3 : Nat) : Int) := by decide +kernel
theorem dX5_goDay_89 : decode bX5_goDay 89 = .ok (.aload_n 0, 1) ∧ 89 + 1 = 90 := by decide +kernel
theorem dX5_goDay_90 : decode bX5_goDay 90 = .ok (.aload_n 1, 1) ∧ 90 + 1 = 91 := by decide +kernel
theorem dX5_goDay_91 : decode bX5_goDay 91 = .ok (.getfield 90, 3) ∧ 91 + 3 = 94 := by decide +kernel
theorem dX5_goDay_94 : decode bX5_goDay 94 = .ok (.invokevirtual 67, 3) ∧ 94 + 3 = 97 := by decide +kernel
theorem dX5_goDay_97 : decode bX5_goDay 97 = .ok (.aload_n 0, 1) ∧ 97 + 1 = 98 := by decide +kernel
theorem dX5_goDay_98 : decode bX5_goDay 98 = .ok (.dup, 1) ∧ 98 + 1 = 99 := by decide +kernel
theorem dX5_goDay_99 : decode bX5_goDay 99 = .ok (.getfield 15, 3) ∧ 99 + 3 = 102 := by decide +kernel
theorem dX5_goDay_102 : decode bX5_goDay 102 = .ok (.iconst 1, 1) ∧ 102 + 1 = 103 := by decide +kernel
theorem dX5_goDay_103 : decode bX5_goDay 103 = .ok (.iadd, 1) ∧ 103 + 1 = 104 := by decide +kernel
theorem dX5_goDay_104 : decode bX5_goDay 104 = .ok (.putfield 15, 3) ∧ 104 + 3 = 107 := by decide +kernel
theorem dX5_goDay_107 : decode bX5_goDay 107 = .ok (.return_, 1) := by decide +kernel
theorem dX5_keepOn_0 : decode bX5_keepOn 0 = .ok (.aload_n 0, 1) ∧ 0 + 1 = 1 := by decide +kernel
theorem dX5_keepOn_1 : decode bX5_keepOn 1 = .ok (.getfield 43, 3) ∧ 1 + 3 = 4 := by decide +kernel
theorem dX5_keepOn_4 : decode bX5_keepOn 4 = .ok (.iload_n 1, 1) ∧ 4 + 1 = 5 := by decide +kernel
theorem dX5_keepOn_5 : decode bX5_keepOn 5 = .ok (.ldc 93, 2) ∧ 5 + 2 = 7 := by decide +kernel
theorem dX5_keepOn_7 : decode bX5_keepOn 7 = .ok (.aload_n 0, 1) ∧ 7 + 1 = 8 := by decide +kernel
theorem dX5_keepOn_8 : decode bX5_keepOn 8 = .ok (.getfield 43, 3) ∧ 8 + 3 = 11 := by decide +kernel
theorem dX5_keepOn_11 : decode bX5_keepOn 11 = .ok (.iload_n 1, 1) ∧ 11 + 1 = 12 := by decide +kernel
theorem dX5_keepOn_12 : decode bX5_keepOn 12 = .ok (.iaload, 1) ∧ 12 + 1 = 13 := by decide +kernel
theorem dX5_keepOn_13 : decode bX5_keepOn 13 = .ok (.aload_n 2, 1) ∧ 13 + 1 = 14 := by decide +kernel
theorem dX5_keepOn_14 : decode bX5_keepOn 14 = .ok (.aload_n 0, 1) ∧ 14 + 1 = 15 := by decide +kernel
theorem dX5_keepOn_15 : decode bX5_keepOn 15 = .ok (.iload_n 1, 1) ∧ 15 + 1 = 16 := by decide +kernel
theorem dX5_keepOn_16 : decode bX5_keepOn 16 = .ok (.invokevirtual 94, 3) ∧ 16 + 3 = 19 := by decide +kernel
theorem dX5_keepOn_19 : decode bX5_keepOn 19 = .ok (.aload_n 0, 1) ∧ 19 + 1 = 20 := by decide +kernel
theorem dX5_keepOn_20 : decode bX5_keepOn 20 = .ok (.getfield 37, 3) ∧ 20 + 3 = 23 := by decide +kernel
theorem dX5_keepOn_23 : decode bX5_keepOn 23 = .ok (.iload_n 1, 1) ∧ 23 + 1 = 24 := by decide +kernel
theorem dX5_keepOn_24 : decode bX5_keepOn 24 = .ok (.iaload, 1) ∧ 24 + 1 = 25 := by decide +kernel
theorem dX5_keepOn_25 : decode bX5_keepOn 25 = .ok (.imul, 1) ∧ 25 + 1 = 26 := by decide +kernel
theorem dX5_keepOn_26 : decode bX5_keepOn 26 = .ok (.bipush 10, 2) ∧ 26 + 2 = 28 := by decide +kernel
theorem dX5_keepOn_28 : decode bX5_keepOn 28 = .ok (.idiv, 1) ∧ 28 + 1 = 29 := by decide +kernel
theorem dX5_keepOn_29 : decode bX5_keepOn 29 = .ok (.iadd, 1) ∧ 29 + 1 = 30 := by decide +kernel
theorem dX5_keepOn_30 : decode bX5_keepOn 30 = .ok (.invokestatic 61, 3) ∧ 30 + 3 = 33 := by decide +kernel
theorem dX5_keepOn_33 : decode bX5_keepOn 33 = .ok (.iastore, 1) ∧ 33 + 1 = 34 := by decide +kernel
theorem dX5_keepOn_34 : decode bX5_keepOn 34 = .ok (.aload_n 0, 1) ∧ 34 + 1 = 35 := by decide +kernel
theorem dX5_keepOn_35 : decode bX5_keepOn 35 = .ok (.getfield 40, 3) ∧ 35 + 3 = 38 := by decide +kernel
theorem dX5_keepOn_38 : decode bX5_keepOn 38 = .ok (.iload_n 1, 1) ∧ 38 + 1 = 39 := by decide +kernel
theorem dX5_keepOn_39 : decode bX5_keepOn 39 = .ok (.iconst 0, 1) ∧ 39 + 1 = 40 := by decide +kernel
theorem dX5_keepOn_40 : decode bX5_keepOn 40 = .ok (.aload_n 0, 1) ∧ 40 + 1 = 41 := by decide +kernel
theorem dX5_keepOn_41 : decode bX5_keepOn 41 = .ok (.getfield 40, 3) ∧ 41 + 3 = 44 := by decide +kernel
theorem dX5_keepOn_44 : decode bX5_keepOn 44 = .ok (.iload_n 1, 1) ∧ 44 + 1 = 45 := by decide +kernel
theorem dX5_keepOn_45 : decode bX5_keepOn 45 = .ok (.iaload, 1) ∧ 45 + 1 = 46 := by decide +kernel
theorem dX5_keepOn_46 : decode bX5_keepOn 46 = .ok (.iconst 1, 1) ∧ 46 + 1 = 47 := by decide +kernel
theorem dX5_keepOn_47 : decode bX5_keepOn 47 = .ok (.isub, 1) ∧ 47 + 1 = 48 := by decide +kernel
theorem dX5_keepOn_48 : decode bX5_keepOn 48 = .ok (.invokestatic 71, 3) ∧ 48 + 3 = 51 := by decide +kernel
theorem dX5_keepOn_51 : decode bX5_keepOn 51 = .ok (.iastore, 1) ∧ 51 + 1 = 52 := by decide +kernel
theorem dX5_keepOn_52 : decode bX5_keepOn 52 = .ok (.aload_n 0, 1) ∧ 52 + 1 = 53 := by decide +kernel
theorem dX5_keepOn_53 : decode bX5_keepOn 53 = .ok (.getfield 40, 3) ∧ 53 + 3 = 56 := by decide +kernel
theorem dX5_keepOn_56 : decode bX5_keepOn 56 = .ok (.iload_n 1, 1) ∧ 56 + 1 = 57 := by decide +kernel
theorem dX5_keepOn_57 : decode bX5_keepOn 57 = .ok (.iaload, 1) ∧ 57 + 1 = 58 := by decide +kernel
theorem dX5_keepOn_58 : decode bX5_keepOn 58 = .ok (.ifCond .le 4, 3) ∧ 58 + 3 = 61 ∧ ((58 : Nat) : Int) + (4) = ((62 : Nat) : Int) := by decide +kernel
theorem dX5_keepOn_61 : decode bX5_keepOn 61 = .ok (.return_, 1) := by decide +kernel
theorem dX5_keepOn_62 : decode bX5_keepOn 62 = .ok (.aload_n 0, 1) ∧ 62 + 1 = 63 := by decide +kernel
theorem dX5_keepOn_63 : decode bX5_keepOn 63 = .ok (.iload_n 1, 1) ∧ 63 + 1 = 64 := by decide +kernel
theorem dX5_keepOn_64 : decode bX5_keepOn 64 = .ok (.invokevirtual 98, 3) ∧ 64 + 3 = 67 := by decide +kernel
theorem dX5_keepOn_67 : decode bX5_keepOn 67 = .ok (.ifCond .eq 17, 3) ∧ 67 + 3 = 70 ∧ ((67 : Nat) : Int) + (17) = ((84 : Nat) : Int) := by decide +kernel
theorem dX5_keepOn_70 : decode bX5_keepOn 70 = .ok (.aload_n 0, 1) ∧ 70 + 1 = 71 := by decide +kernel
theorem dX5_keepOn_71 : decode bX5_keepOn 71 = .ok (.getfield 40, 3) ∧ 71 + 3 = 74 := by decide +kernel
theorem dX5_keepOn_74 : decode bX5_keepOn 74 = .ok (.iload_n 1, 1) ∧ 74 + 1 = 75 := by decide +kernel
theorem dX5_keepOn_75 : decode bX5_keepOn 75 = .ok (.aload_n 0, 1) ∧ 75 + 1 = 76 := by decide +kernel
theorem dX5_keepOn_76 : decode bX5_keepOn 76 = .ok (.iload_n 1, 1) ∧ 76 + 1 = 77 := by decide +kernel
theorem dX5_keepOn_77 : decode bX5_keepOn 77 = .ok (.invokevirtual 102, 3) ∧ 77 + 3 = 80 := by decide +kernel
theorem dX5_keepOn_80 : decode bX5_keepOn 80 = .ok (.iastore, 1) ∧ 80 + 1 = 81 := by decide +kernel
theorem dX5_keepOn_81 : decode bX5_keepOn 81 = .ok (.goto 19, 3) ∧ ((81 : Nat) : Int) + (19) = ((100 : Nat) : Int) := by decide +kernel
theorem dX5_keepOn_84 : decode bX5_keepOn 84 = .ok (.aload_n 0, 1) ∧ 84 + 1 = 85 := by decide +kernel
theorem dX5_keepOn_85 : decode bX5_keepOn 85 = .ok (.aload_n 0, 1) ∧ 85 + 1 = 86 := by decide +kernel
theorem dX5_keepOn_86 : decode bX5_keepOn 86 = .ok (.iload_n 1, 1) ∧ 86 + 1 = 87 := by decide +kernel
theorem dX5_keepOn_87 : decode bX5_keepOn 87 = .ok (.invokevirtual 106, 3) ∧ 87 + 3 = 90 := by decide +kernel
theorem dX5_keepOn_90 : decode bX5_keepOn 90 = .ok (.invokevirtual 67, 3) ∧ 90 + 3 = 93 := by decide +kernel
theorem dX5_keepOn_93 : decode bX5_keepOn 93 = .ok (.aload_n 0, 1) ∧ 93 + 1 = 94 := by decide +kernel
theorem dX5_keepOn_94 : decode bX5_keepOn 94 = .ok (.getfield 37, 3) ∧ 94 + 3 = 97 := by decide +kernel
theorem dX5_keepOn_97 : decode bX5_keepOn 97 = .ok (.iload_n 1, 1) ∧ 97 + 1 = 98 := by decide +kernel
theorem dX5_keepOn_98 : decode bX5_keepOn 98 = .ok (.iconst 0, 1) ∧ 98 + 1 = 99 := by decide +kernel
theorem dX5_keepOn_99 : decode bX5_keepOn 99 = .ok (.iastore, 1) ∧ 99 + 1 = 100 := by decide +kernel
theorem dX5_keepOn_100 : decode bX5_keepOn 100 = .ok (.return_, 1) := by decide +kernel
theorem dX5_comeAsking_0 : decode bX5_comeAsking 0 = .ok (.aload_n 0, 1) ∧ 0 + 1 = 1 := by decide +kernel
theorem dX5_comeAsking_1 : decode bX5_comeAsking 1 = .ok (.iload_n 1, 1) ∧ 1 + 1 = 2 := by decide +kernel
theorem dX5_comeAsking_2 : decode bX5_comeAsking 2 = .ok (.iload_n 2, 1) ∧ 2 + 1 = 3 := by decide +kernel
theorem dX5_comeAsking_3 : decode bX5_comeAsking 3 = .ok (.invokevirtual 109, 3) ∧ 3 + 3 = 6 := by decide +kernel
theorem dX5_comeAsking_6 : decode bX5_comeAsking 6 = .ok (.istore 4, 2) ∧ 6 + 2 = 8 := by decide +kernel
theorem dX5_comeAsking_8 : decode bX5_comeAsking 8 = .ok (.iload 4, 2) ∧ 8 + 2 = 10 := by decide +kernel
theorem dX5_comeAsking_10 : decode bX5_comeAsking 10 = .ok (.ifCond .le 47, 3) ∧ 10 + 3 = 13 ∧ ((10 : Nat) : Int) + (47) = ((57 : Nat) : Int) := by decide +kernel
theorem dX5_comeAsking_13 : decode bX5_comeAsking 13 = .ok (.aload_n 0, 1) ∧ 13 + 1 = 14 := by decide +kernel
theorem dX5_comeAsking_14 : decode bX5_comeAsking 14 = .ok (.getfield 9, 3) ∧ 14 + 3 = 17 := by decide +kernel
theorem dX5_comeAsking_17 : decode bX5_comeAsking 17 = .ok (.iload 4, 2) ∧ 17 + 2 = 19 := by decide +kernel
theorem dX5_comeAsking_19 : decode bX5_comeAsking 19 = .ok (.isub, 1) ∧ 19 + 1 = 20 := by decide +kernel
theorem dX5_comeAsking_20 : decode bX5_comeAsking 20 = .ok (.iload_n 2, 1) ∧ 20 + 1 = 21 := by decide +kernel
theorem dX5_comeAsking_21 : decode bX5_comeAsking 21 = .ok (.if_icmp .lt 36, 3) ∧ 21 + 3 = 24 ∧ ((21 : Nat) : Int) + (36) = ((57 : Nat) : Int) := by decide +kernel
theorem dX5_comeAsking_24 : decode bX5_comeAsking 24 = .ok (.aload_n 0, 1) ∧ 24 + 1 = 25 := by decide +kernel
theorem dX5_comeAsking_25 : decode bX5_comeAsking 25 = .ok (.getfield 37, 3) ∧ 25 + 3 = 28 := by decide +kernel
theorem dX5_comeAsking_28 : decode bX5_comeAsking 28 = .ok (.iload_n 1, 1) ∧ 28 + 1 = 29 := by decide +kernel
theorem dX5_comeAsking_29 : decode bX5_comeAsking 29 = .ok (.iload 4, 2) ∧ 29 + 2 = 31 := by decide +kernel
theorem dX5_comeAsking_31 : decode bX5_comeAsking 31 = .ok (.iastore, 1) ∧ 31 + 1 = 32 := by decide +kernel
theorem dX5_comeAsking_32 : decode bX5_comeAsking 32 = .ok (.aload_n 0, 1) ∧ 32 + 1 = 33 := by decide +kernel
theorem dX5_comeAsking_33 : decode bX5_comeAsking 33 = .ok (.dup, 1) ∧ 33 + 1 = 34 := by decide +kernel
theorem dX5_comeAsking_34 : decode bX5_comeAsking 34 = .ok (.getfield 9, 3) ∧ 34 + 3 = 37 := by decide +kernel
theorem dX5_comeAsking_37 : decode bX5_comeAsking 37 = .ok (.iload 4, 2) ∧ 37 + 2 = 39 := by decide +kernel
theorem dX5_comeAsking_39 : decode bX5_comeAsking 39 = .ok (.isub, 1) ∧ 39 + 1 = 40 := by decide +kernel
theorem dX5_comeAsking_40 : decode bX5_comeAsking 40 = .ok (.putfield 9, 3) ∧ 40 + 3 = 43 := by decide +kernel
theorem dX5_comeAsking_43 : decode bX5_comeAsking 43 = .ok (.aload_n 0, 1) ∧ 43 + 1 = 44 := by decide +kernel
theorem dX5_comeAsking_44 : decode bX5_comeAsking 44 = .ok (.getfield 40, 3) ∧ 44 + 3 = 47 := by decide +kernel
theorem dX5_comeAsking_47 : decode bX5_comeAsking 47 = .ok (.iload_n 1, 1) ∧ 47 + 1 = 48 := by decide +kernel
theorem dX5_comeAsking_48 : decode bX5_comeAsking 48 = .ok (.aload_n 0, 1) ∧ 48 + 1 = 49 := by decide +kernel
theorem dX5_comeAsking_49 : decode bX5_comeAsking 49 = .ok (.iload_n 1, 1) ∧ 49 + 1 = 50 := by decide +kernel
theorem dX5_comeAsking_50 : decode bX5_comeAsking 50 = .ok (.invokevirtual 102, 3) ∧ 50 + 3 = 53 := by decide +kernel
theorem dX5_comeAsking_53 : decode bX5_comeAsking 53 = .ok (.iastore, 1) ∧ 53 + 1 = 54 := by decide +kernel
theorem dX5_comeAsking_54 : decode bX5_comeAsking 54 = .ok (.goto 41, 3) ∧ ((54 : Nat) : Int) + (41) = ((95 : Nat) : Int) := by decide +kernel
theorem dX5_comeAsking_57 : decode bX5_comeAsking 57 = .ok (.aload_n 0, 1) ∧ 57 + 1 = 58 := by decide +kernel
theorem dX5_comeAsking_58 : decode bX5_comeAsking 58 = .ok (.getfield 46, 3) ∧ 58 + 3 = 61 := by decide +kernel
theorem dX5_comeAsking_61 : decode bX5_comeAsking 61 = .ok (.iload_n 1, 1) ∧ 61 + 1 = 62 := by decide +kernel
theorem dX5_comeAsking_62 : decode bX5_comeAsking 62 = .ok (.dup2, 1) ∧ 62 + 1 = 63 := by decide +kernel
theorem dX5_comeAsking_63 : decode bX5_comeAsking 63 = .ok (.iaload, 1) ∧ 63 + 1 = 64 := by decide +kernel
theorem dX5_comeAsking_64 : decode bX5_comeAsking 64 = .ok (.iconst 1, 1) ∧ 64 + 1 = 65 := by decide +kernel
theorem dX5_comeAsking_65 : decode bX5_comeAsking 65 = .ok (.iadd, 1) ∧ 65 + 1 = 66 := by decide +kernel
theorem dX5_comeAsking_66 : decode bX5_comeAsking 66 = .ok (.iastore, 1) ∧ 66 + 1 = 67 := by decide +kernel
theorem dX5_comeAsking_67 : decode bX5_comeAsking 67 = .ok (.aload_n 0, 1) ∧ 67 + 1 = 68 := by decide +kernel
theorem dX5_comeAsking_68 : decode bX5_comeAsking 68 = .ok (.dup, 1) ∧ 68 + 1 = 69 := by decide +kernel
theorem dX5_comeAsking_69 : decode bX5_comeAsking 69 = .ok (.getfield 21, 3) ∧ 69 + 3 = 72 := by decide +kernel
theorem dX5_comeAsking_72 : decode bX5_comeAsking 72 = .ok (.iconst 1, 1) ∧ 72 + 1 = 73 := by decide +kernel
theorem dX5_comeAsking_73 : decode bX5_comeAsking 73 = .ok (.iadd, 1) ∧ 73 + 1 = 74 := by decide +kernel
theorem dX5_comeAsking_74 : decode bX5_comeAsking 74 = .ok (.putfield 21, 3) ∧ 74 + 3 = 77 := by decide +kernel
theorem dX5_comeAsking_77 : decode bX5_comeAsking 77 = .ok (.aload_n 0, 1) ∧ 77 + 1 = 78 := by decide +kernel
theorem dX5_comeAsking_78 : decode bX5_comeAsking 78 = .ok (.getfield 43, 3) ∧ 78 + 3 = 81 := by decide +kernel
theorem dX5_comeAsking_81 : decode bX5_comeAsking 81 = .ok (.iload_n 1, 1) ∧ 81 + 1 = 82 := by decide +kernel
theorem dX5_comeAsking_82 : decode bX5_comeAsking 82 = .ok (.iconst 0, 1) ∧ 82 + 1 = 83 := by decide +kernel
theorem dX5_comeAsking_83 : decode bX5_comeAsking 83 = .ok (.aload_n 0, 1) ∧ 83 + 1 = 84 := by decide +kernel
theorem dX5_comeAsking_84 : decode bX5_comeAsking 84 = .ok (.getfield 43, 3) ∧ 84 + 3 = 87 := by decide +kernel
theorem dX5_comeAsking_87 : decode bX5_comeAsking 87 = .ok (.iload_n 1, 1) ∧ 87 + 1 = 88 := by decide +kernel
theorem dX5_comeAsking_88 : decode bX5_comeAsking 88 = .ok (.iaload, 1) ∧ 88 + 1 = 89 := by decide +kernel
theorem dX5_comeAsking_89 : decode bX5_comeAsking 89 = .ok (.iload_n 3, 1) ∧ 89 + 1 = 90 := by decide +kernel
theorem dX5_comeAsking_90 : decode bX5_comeAsking 90 = .ok (.isub, 1) ∧ 90 + 1 = 91 := by decide +kernel
theorem dX5_comeAsking_91 : decode bX5_comeAsking 91 = .ok (.invokestatic 71, 3) ∧ 91 + 3 = 94 := by decide +kernel
theorem dX5_comeAsking_94 : decode bX5_comeAsking 94 = .ok (.iastore, 1) ∧ 94 + 1 = 95 := by decide +kernel
theorem dX5_comeAsking_95 : decode bX5_comeAsking 95 = .ok (.return_, 1) := by decide +kernel
theorem dJ9_floorMod_7cf53_0 : decode bJ9_floorMod_7cf53 0 = .ok (.iload_n 0, 1) ∧ 0 + 1 = 1 := by decide +kernel
theorem dJ9_floorMod_7cf53_1 : decode bJ9_floorMod_7cf53 1 = .ok (.iload_n 1, 1) ∧ 1 + 1 = 2 := by decide +kernel
theorem dJ9_floorMod_7cf53_2 : decode bJ9_floorMod_7cf53 2 = .ok (.irem, 1) ∧ 2 + 1 = 3 := by decide +kernel
theorem dJ9_floorMod_7cf53_3 : decode bJ9_floorMod_7cf53 3 = .ok (.istore_n 2, 1) ∧ 3 + 1 = 4 := by decide +kernel
theorem dJ9_floorMod_7cf53_4 : decode bJ9_floorMod_7cf53 4 = .ok (.iload_n 0, 1) ∧ 4 + 1 = 5 := by decide +kernel
theorem dJ9_floorMod_7cf53_5 : decode bJ9_floorMod_7cf53 5 = .ok (.iload_n 1, 1) ∧ 5 + 1 = 6 := by decide +kernel
theorem dJ9_floorMod_7cf53_6 : decode bJ9_floorMod_7cf53 6 = .ok (.ixor, 1) ∧ 6 + 1 = 7 := by decide +kernel
theorem dJ9_floorMod_7cf53_7 : decode bJ9_floorMod_7cf53 7 = .ok (.ifCond .ge 11, 3) ∧ 7 + 3 = 10 ∧ ((7 : Nat) : Int) + (11) = ((18 : Nat) : Int) := by decide +kernel
theorem dJ9_floorMod_7cf53_10 : decode bJ9_floorMod_7cf53 10 = .ok (.iload_n 2, 1) ∧ 10 + 1 = 11 := by decide +kernel
theorem dJ9_floorMod_7cf53_11 : decode bJ9_floorMod_7cf53 11 = .ok (.ifCond .eq 7, 3) ∧ 11 + 3 = 14 ∧ ((11 : Nat) : Int) + (7) = ((18 : Nat) : Int) := by decide +kernel
theorem dJ9_floorMod_7cf53_14 : decode bJ9_floorMod_7cf53 14 = .ok (.iload_n 2, 1) ∧ 14 + 1 = 15 := by decide +kernel
theorem dJ9_floorMod_7cf53_15 : decode bJ9_floorMod_7cf53 15 = .ok (.iload_n 1, 1) ∧ 15 + 1 = 16 := by decide +kernel
theorem dJ9_floorMod_7cf53_16 : decode bJ9_floorMod_7cf53 16 = .ok (.iadd, 1) ∧ 16 + 1 = 17 := by decide +kernel
theorem dJ9_floorMod_7cf53_17 : decode bJ9_floorMod_7cf53 17 = .ok (.ireturn, 1) := by decide +kernel
theorem dJ9_floorMod_7cf53_18 : decode bJ9_floorMod_7cf53 18 = .ok (.iload_n 2, 1) ∧ 18 + 1 = 19 := by decide +kernel
theorem dJ9_floorMod_7cf53_19 : decode bJ9_floorMod_7cf53 19 = .ok (.ireturn, 1) := by decide +kernel
theorem dJ9_max_7cf53_0 : decode bJ9_max_7cf53 0 = .ok (.iload_n 0, 1) ∧ 0 + 1 = 1 := by decide +kernel
theorem dJ9_max_7cf53_1 : decode bJ9_max_7cf53 1 = .ok (.iload_n 1, 1) ∧ 1 + 1 = 2 := by decide +kernel
theorem dJ9_max_7cf53_2 : decode bJ9_max_7cf53 2 = .ok (.if_icmp .lt 7, 3) ∧ 2 + 3 = 5 ∧ ((2 : Nat) : Int) + (7) = ((9 : Nat) : Int) := by decide +kernel
theorem dJ9_max_7cf53_5 : decode bJ9_max_7cf53 5 = .ok (.iload_n 0, 1) ∧ 5 + 1 = 6 := by decide +kernel
theorem dJ9_max_7cf53_6 : decode bJ9_max_7cf53 6 = .ok (.goto 4, 3) ∧ ((6 : Nat) : Int) + (4) = ((10 : Nat) : Int) := by decide +kernel
theorem dJ9_max_7cf53_9 : decode bJ9_max_7cf53 9 = .ok (.iload_n 1, 1) ∧ 9 + 1 = 10 := by decide +kernel
theorem dJ9_max_7cf53_10 : decode bJ9_max_7cf53 10 = .ok (.ireturn, 1) := by decide +kernel
theorem dJ9_min_7cf53_0 : decode bJ9_min_7cf53 0 = .ok (.iload_n 0, 1) ∧ 0 + 1 = 1 := by decide +kernel
theorem dJ9_min_7cf53_1 : decode bJ9_min_7cf53 1 = .ok (.iload_n 1, 1) ∧ 1 + 1 = 2 := by decide +kernel
theorem dJ9_min_7cf53_2 : decode bJ9_min_7cf53 2 = .ok (.if_icmp .gt 7, 3) ∧ 2 + 3 = 5 ∧ ((2 : Nat) : Int) + (7) = ((9 : Nat) : Int) := by decide +kernel
theorem dJ9_min_7cf53_5 : decode bJ9_min_7cf53 5 = .ok (.iload_n 0, 1) ∧ 5 + 1 = 6 := by decide +kernel
theorem dJ9_min_7cf53_6 : decode bJ9_min_7cf53 6 = .ok (.goto 4, 3) ∧ ((6 : Nat) : Int) + (4) = ((10 : Nat) : Int) := by decide +kernel
theorem dJ9_min_7cf53_9 : decode bJ9_min_7cf53 9 = .ok (.iload_n 1, 1) ∧ 9 + 1 = 10 := by decide +kernel
theorem dJ9_min_7cf53_10 : decode bJ9_min_7cf53 10 = .ok (.ireturn, 1) := by decide +kernel
