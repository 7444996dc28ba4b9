/-! the instructions as they are decoded; written by wip/whole/gen_code.py -/
theorem dX6_borrower_0 : decode bX6_borrower 0 = .ok (.iload_n 1, 1) ∧ 0 + 1 = 1 := by decide +kernel
theorem dX6_borrower_1 : decode bX6_borrower 1 = .ok (.iconst 0, 1) ∧ 1 + 1 = 2 := by decide +kernel
theorem dX6_borrower_2 : decode bX6_borrower 2 = .ok (.bipush 6, 2) ∧ 2 + 2 = 4 := by decide +kernel
theorem dX6_borrower_4 : decode bX6_borrower 4 = .ok (.invokestatic 80, 3) ∧ 4 + 3 = 7 := by decide +kernel
theorem dX6_borrower_7 : decode bX6_borrower 7 = .ok (.ifCond .ne 5, 3) ∧ 7 + 3 = 10 ∧ ((7 : Nat) : Int) + (5) = ((12 : Nat) : Int) := by decide +kernel
theorem dX6_borrower_10 : decode bX6_borrower 10 = .ok (.iconst (-1), 1) ∧ 10 + 1 = 11 := by decide +kernel
theorem dX6_borrower_11 : decode bX6_borrower 11 = .ok (.ireturn, 1) := by decide +kernel
theorem dX6_borrower_12 : decode bX6_borrower 12 = .ok (.iload_n 2, 1) ∧ 12 + 1 = 13 := by decide +kernel
theorem dX6_borrower_13 : decode bX6_borrower 13 = .ok (.iconst 0, 1) ∧ 13 + 1 = 14 := by decide +kernel
theorem dX6_borrower_14 : decode bX6_borrower 14 = .ok (.bipush 9, 2) ∧ 14 + 2 = 16 := by decide +kernel
theorem dX6_borrower_16 : decode bX6_borrower 16 = .ok (.invokestatic 80, 3) ∧ 16 + 3 = 19 := by decide +kernel
theorem dX6_borrower_19 : decode bX6_borrower 19 = .ok (.ifCond .eq 24, 3) ∧ 19 + 3 = 22 ∧ ((19 : Nat) : Int) + (24) = ((43 : Nat) : Int) := by decide +kernel
theorem dX6_borrower_22 : decode bX6_borrower 22 = .ok (.iload_n 3, 1) ∧ 22 + 1 = 23 := by decide +kernel
theorem dX6_borrower_23 : decode bX6_borrower 23 = .ok (.iconst 1, 1) ∧ 23 + 1 = 24 := by decide +kernel
theorem dX6_borrower_24 : decode bX6_borrower 24 = .ok (.bipush 99, 2) ∧ 24 + 2 = 26 := by decide +kernel
theorem dX6_borrower_26 : decode bX6_borrower 26 = .ok (.invokestatic 80, 3) ∧ 26 + 3 = 29 := by decide +kernel
theorem dX6_borrower_29 : decode bX6_borrower 29 = .ok (.ifCond .eq 14, 3) ∧ 29 + 3 = 32 ∧ ((29 : Nat) : Int) + (14) = ((43 : Nat) : Int) := by decide +kernel
theorem dX6_borrower_32 : decode bX6_borrower 32 = .ok (.iload 4, 2) ∧ 32 + 2 = 34 := by decide +kernel
theorem dX6_borrower_34 : decode bX6_borrower 34 = .ok (.iconst 1, 1) ∧ 34 + 1 = 35 := by decide +kernel
theorem dX6_borrower_35 : decode bX6_borrower 35 = .ok (.bipush 20, 2) ∧ 35 + 2 = 37 := by decide +kernel
theorem dX6_borrower_37 : decode bX6_borrower 37 = .ok (.invokestatic 80, 3) ∧ 37 + 3 = 40 := by decide +kernel
theorem dX6_borrower_40 : decode bX6_borrower 40 = .ok (.ifCond .ne 6, 3) ∧ 40 + 3 = 43 ∧ ((40 : Nat) : Int) + (6) = ((46 : Nat) : Int) := by decide +kernel
theorem dX6_borrower_43 : decode bX6_borrower 43 = .ok (.bipush (-2), 2) ∧ 43 + 2 = 45 := by decide +kernel
theorem dX6_borrower_45 : decode bX6_borrower 45 = .ok (.ireturn, 1) := by decide +kernel
theorem dX6_borrower_46 : decode bX6_borrower 46 = .ok (.aload_n 0, 1) ∧ 46 + 1 = 47 := by decide +kernel
theorem dX6_borrower_47 : decode bX6_borrower 47 = .ok (.getfield 12, 3) ∧ 47 + 3 = 50 := by decide +kernel
theorem dX6_borrower_50 : decode bX6_borrower 50 = .ok (.getfield 84, 3) ∧ 50 + 3 = 53 := by decide +kernel
theorem dX6_borrower_53 : decode bX6_borrower 53 = .ok (.bipush 6, 2) ∧ 53 + 2 = 55 := by decide +kernel
theorem dX6_borrower_55 : decode bX6_borrower 55 = .ok (.if_icmp .lt 6, 3) ∧ 55 + 3 = 58 ∧ ((55 : Nat) : Int) + (6) = ((61 : Nat) : Int) := by decide +kernel
theorem dX6_borrower_58 : decode bX6_borrower 58 = .ok (.bipush (-4), 2) ∧ 58 + 2 = 60 := by decide +kernel
theorem dX6_borrower_60 : decode bX6_borrower 60 = .ok (.ireturn, 1) := by decide +kernel
theorem dX6_borrower_61 : decode bX6_borrower 61 = .ok (.aload_n 0, 1) ∧ 61 + 1 = 62 := by decide +kernel
theorem dX6_borrower_62 : decode bX6_borrower 62 = .ok (.getfield 12, 3) ∧ 62 + 3 = 65 := by decide +kernel
theorem dX6_borrower_65 : decode bX6_borrower 65 = .ok (.iload_n 1, 1) ∧ 65 + 1 = 66 := by decide +kernel
theorem dX6_borrower_66 : decode bX6_borrower 66 = .ok (.iload_n 2, 1) ∧ 66 + 1 = 67 := by decide +kernel
theorem dX6_borrower_67 : decode bX6_borrower 67 = .ok (.iload_n 3, 1) ∧ 67 + 1 = 68 := by decide +kernel
theorem dX6_borrower_68 : decode bX6_borrower 68 = .ok (.iload 4, 2) ∧ 68 + 2 = 70 := by decide +kernel
theorem dX6_borrower_70 : decode bX6_borrower 70 = .ok (.invokevirtual 87, 3) ∧ 70 + 3 = 73 := by decide +kernel
theorem dX6_borrower_73 : decode bX6_borrower 73 = .ok (.ireturn, 1) := by decide +kernel
theorem dX6_of_0 : decode bX6_of 0 = .ok (.aload_n 0, 1) ∧ 0 + 1 = 1 := by decide +kernel
theorem dX6_of_1 : decode bX6_of 1 = .ok (.iload_n 1, 1) ∧ 1 + 1 = 2 := by decide +kernel
theorem dX6_of_2 : decode bX6_of 2 = .ok (.invokevirtual 91, 3) ∧ 2 + 3 = 5 := by decide +kernel
theorem dX6_of_5 : decode bX6_of 5 = .ok (.ifCond .ne 5, 3) ∧ 5 + 3 = 8 ∧ ((5 : Nat) : Int) + (5) = ((10 : Nat) : Int) := by decide +kernel
theorem dX6_of_8 : decode bX6_of 8 = .ok (.iconst (-1), 1) ∧ 8 + 1 = 9 := by decide +kernel
theorem dX6_of_9 : decode bX6_of 9 = .ok (.ireturn, 1) := by decide +kernel
theorem dX6_of_10 : decode bX6_of 10 = .ok (.iload_n 2, 1) ∧ 10 + 1 = 11 := by decide +kernel
theorem dX6_of_11 : decode bX6_of 11 = .ok (.tableswitch 209 0 12 #[65, 75, 85, 95, 105, 115, 125, 135, 145, 158, 174, 183, 200], 65) := by decide +kernel
theorem dX6_of_76 : decode bX6_of 76 = .ok (.aload_n 0, 1) ∧ 76 + 1 = 77 := by decide +kernel
theorem dX6_of_77 : decode bX6_of 77 = .ok (.getfield 12, 3) ∧ 77 + 3 = 80 := by decide +kernel
theorem dX6_of_80 : decode bX6_of 80 = .ok (.getfield 95, 3) ∧ 80 + 3 = 83 := by decide +kernel
theorem dX6_of_83 : decode bX6_of 83 = .ok (.iload_n 1, 1) ∧ 83 + 1 = 84 := by decide +kernel
theorem dX6_of_84 : decode bX6_of 84 = .ok (.iaload, 1) ∧ 84 + 1 = 85 := by decide +kernel
theorem dX6_of_85 : decode bX6_of 85 = .ok (.ireturn, 1) := by decide +kernel
theorem dX6_of_86 : decode bX6_of 86 = .ok (.aload_n 0, 1) ∧ 86 + 1 = 87 := by decide +kernel
theorem dX6_of_87 : decode bX6_of 87 = .ok (.getfield 12, 3) ∧ 87 + 3 = 90 := by decide +kernel
theorem dX6_of_90 : decode bX6_of 90 = .ok (.getfield 99, 3) ∧ 90 + 3 = 93 := by decide +kernel
theorem dX6_of_93 : decode bX6_of 93 = .ok (.iload_n 1, 1) ∧ 93 + 1 = 94 := by decide +kernel
theorem dX6_of_94 : decode bX6_of 94 = .ok (.iaload, 1) ∧ 94 + 1 = 95 := by decide +kernel
theorem dX6_of_95 : decode bX6_of 95 = .ok (.ireturn, 1) := by decide +kernel
theorem dX6_of_96 : decode bX6_of 96 = .ok (.aload_n 0, 1) ∧ 96 + 1 = 97 := by decide +kernel
theorem dX6_of_97 : decode bX6_of 97 = .ok (.getfield 12, 3) ∧ 97 + 3 = 100 := by decide +kernel
theorem dX6_of_100 : decode bX6_of 100 = .ok (.getfield 102, 3) ∧ 100 + 3 = 103 := by decide +kernel
theorem dX6_of_103 : decode bX6_of 103 = .ok (.iload_n 1, 1) ∧ 103 + 1 = 104 := by decide +kernel
theorem dX6_of_104 : decode bX6_of 104 = .ok (.iaload, 1) ∧ 104 + 1 = 105 := by decide +kernel
theorem dX6_of_105 : decode bX6_of 105 = .ok (.ireturn, 1) := by decide +kernel
theorem dX6_of_106 : decode bX6_of 106 = .ok (.aload_n 0, 1) ∧ 106 + 1 = 107 := by decide +kernel
theorem dX6_of_107 : decode bX6_of 107 = .ok (.getfield 12, 3) ∧ 107 + 3 = 110 := by decide +kernel
theorem dX6_of_110 : decode bX6_of 110 = .ok (.getfield 105, 3) ∧ 110 + 3 = 113 := by decide +kernel
theorem dX6_of_113 : decode bX6_of 113 = .ok (.iload_n 1, 1) ∧ 113 + 1 = 114 := by decide +kernel
theorem dX6_of_114 : decode bX6_of 114 = .ok (.iaload, 1) ∧ 114 + 1 = 115 := by decide +kernel
theorem dX6_of_115 : decode bX6_of 115 = .ok (.ireturn, 1) := by decide +kernel
theorem dX6_of_116 : decode bX6_of 116 = .ok (.aload_n 0, 1) ∧ 116 + 1 = 117 := by decide +kernel
theorem dX6_of_117 : decode bX6_of 117 = .ok (.getfield 12, 3) ∧ 117 + 3 = 120 := by decide +kernel
theorem dX6_of_120 : decode bX6_of 120 = .ok (.getfield 108, 3) ∧ 120 + 3 = 123 := by decide +kernel
theorem dX6_of_123 : decode bX6_of 123 = .ok (.iload_n 1, 1) ∧ 123 + 1 = 124 := by decide +kernel
theorem dX6_of_124 : decode bX6_of 124 = .ok (.iaload, 1) ∧ 124 + 1 = 125 := by decide +kernel
theorem dX6_of_125 : decode bX6_of 125 = .ok (.ireturn, 1) := by decide +kernel
theorem dX6_of_126 : decode bX6_of 126 = .ok (.aload_n 0, 1) ∧ 126 + 1 = 127 := by decide +kernel
theorem dX6_of_127 : decode bX6_of 127 = .ok (.getfield 12, 3) ∧ 127 + 3 = 130 := by decide +kernel
theorem dX6_of_130 : decode bX6_of 130 = .ok (.getfield 111, 3) ∧ 130 + 3 = 133 := by decide +kernel
theorem dX6_of_133 : decode bX6_of 133 = .ok (.iload_n 1, 1) ∧ 133 + 1 = 134 := by decide +kernel
theorem dX6_of_134 : decode bX6_of 134 = .ok (.iaload, 1) ∧ 134 + 1 = 135 := by decide +kernel
theorem dX6_of_135 : decode bX6_of 135 = .ok (.ireturn, 1) := by decide +kernel
theorem dX6_of_136 : decode bX6_of 136 = .ok (.aload_n 0, 1) ∧ 136 + 1 = 137 := by decide +kernel
theorem dX6_of_137 : decode bX6_of 137 = .ok (.getfield 12, 3) ∧ 137 + 3 = 140 := by decide +kernel
theorem dX6_of_140 : decode bX6_of 140 = .ok (.getfield 114, 3) ∧ 140 + 3 = 143 := by decide +kernel
theorem dX6_of_143 : decode bX6_of 143 = .ok (.iload_n 1, 1) ∧ 143 + 1 = 144 := by decide +kernel
theorem dX6_of_144 : decode bX6_of 144 = .ok (.iaload, 1) ∧ 144 + 1 = 145 := by decide +kernel
theorem dX6_of_145 : decode bX6_of 145 = .ok (.ireturn, 1) := by decide +kernel
theorem dX6_of_146 : decode bX6_of 146 = .ok (.aload_n 0, 1) ∧ 146 + 1 = 147 := by decide +kernel
theorem dX6_of_147 : decode bX6_of 147 = .ok (.getfield 12, 3) ∧ 147 + 3 = 150 := by decide +kernel
theorem dX6_of_150 : decode bX6_of 150 = .ok (.getfield 117, 3) ∧ 150 + 3 = 153 := by decide +kernel
theorem dX6_of_153 : decode bX6_of 153 = .ok (.iload_n 1, 1) ∧ 153 + 1 = 154 := by decide +kernel
theorem dX6_of_154 : decode bX6_of 154 = .ok (.iaload, 1) ∧ 154 + 1 = 155 := by decide +kernel
theorem dX6_of_155 : decode bX6_of 155 = .ok (.ireturn, 1) := by decide +kernel
theorem dX6_of_156 : decode bX6_of 156 = .ok (.aload_n 0, 1) ∧ 156 + 1 = 157 := by decide +kernel
theorem dX6_of_157 : decode bX6_of 157 = .ok (.invokevirtual 120, 3) ∧ 157 + 3 = 160 := by decide +kernel
theorem dX6_of_160 : decode bX6_of 160 = .ok (.aload_n 0, 1) ∧ 160 + 1 = 161 := by decide +kernel
theorem dX6_of_161 : decode bX6_of 161 = .ok (.getfield 12, 3) ∧ 161 + 3 = 164 := by decide +kernel
theorem dX6_of_164 : decode bX6_of 164 = .ok (.iload_n 1, 1) ∧ 164 + 1 = 165 := by decide +kernel
theorem dX6_of_165 : decode bX6_of 165 = .ok (.invokevirtual 124, 3) ∧ 165 + 3 = 168 := by decide +kernel
theorem dX6_of_168 : decode bX6_of 168 = .ok (.ireturn, 1) := by decide +kernel
theorem dX6_of_169 : decode bX6_of 169 = .ok (.aload_n 0, 1) ∧ 169 + 1 = 170 := by decide +kernel
theorem dX6_of_170 : decode bX6_of 170 = .ok (.getfield 12, 3) ∧ 170 + 3 = 173 := by decide +kernel
theorem dX6_of_173 : decode bX6_of 173 = .ok (.iload_n 1, 1) ∧ 173 + 1 = 174 := by decide +kernel
theorem dX6_of_174 : decode bX6_of 174 = .ok (.aload_n 0, 1) ∧ 174 + 1 = 175 := by decide +kernel
theorem dX6_of_175 : decode bX6_of 175 = .ok (.invokevirtual 120, 3) ∧ 175 + 3 = 178 := by decide +kernel
theorem dX6_of_178 : decode bX6_of 178 = .ok (.getfield 128, 3) ∧ 178 + 3 = 181 := by decide +kernel
theorem dX6_of_181 : decode bX6_of 181 = .ok (.invokevirtual 131, 3) ∧ 181 + 3 = 184 := by decide +kernel
theorem dX6_of_184 : decode bX6_of 184 = .ok (.ireturn, 1) := by decide +kernel
theorem dX6_of_185 : decode bX6_of 185 = .ok (.aload_n 0, 1) ∧ 185 + 1 = 186 := by decide +kernel
theorem dX6_of_186 : decode bX6_of 186 = .ok (.getfield 12, 3) ∧ 186 + 3 = 189 := by decide +kernel
theorem dX6_of_189 : decode bX6_of 189 = .ok (.iload_n 1, 1) ∧ 189 + 1 = 190 := by decide +kernel
theorem dX6_of_190 : decode bX6_of 190 = .ok (.invokevirtual 135, 3) ∧ 190 + 3 = 193 := by decide +kernel
theorem dX6_of_193 : decode bX6_of 193 = .ok (.ireturn, 1) := by decide +kernel
theorem dX6_of_194 : decode bX6_of 194 = .ok (.aload_n 0, 1) ∧ 194 + 1 = 195 := by decide +kernel
theorem dX6_of_195 : decode bX6_of 195 = .ok (.getfield 12, 3) ∧ 195 + 3 = 198 := by decide +kernel
theorem dX6_of_198 : decode bX6_of 198 = .ok (.iload_n 1, 1) ∧ 198 + 1 = 199 := by decide +kernel
theorem dX6_of_199 : decode bX6_of 199 = .ok (.invokevirtual 139, 3) ∧ 199 + 3 = 202 := by decide +kernel
theorem dX6_of_202 : decode bX6_of 202 = .ok (.ifCond .eq 7, 3) ∧ 202 + 3 = 205 ∧ ((202 : Nat) : Int) + (7) = ((209 : Nat) : Int) := by decide +kernel
theorem dX6_of_205 : decode bX6_of 205 = .ok (.iconst 1, 1) ∧ 205 + 1 = 206 := by decide +kernel
theorem dX6_of_206 : decode bX6_of 206 = .ok (.goto 4, 3) ∧ ((206 : Nat) : Int) + (4) = ((210 : Nat) : Int) := by decide +kernel
theorem dX6_of_209 : decode bX6_of 209 = .ok (.iconst 0, 1) ∧ 209 + 1 = 210 := by decide +kernel
theorem dX6_of_210 : decode bX6_of 210 = .ok (.ireturn, 1) := by decide +kernel
theorem dX6_of_211 : decode bX6_of 211 = .ok (.aload_n 0, 1) ∧ 211 + 1 = 212 := by decide +kernel
theorem dX6_of_212 : decode bX6_of 212 = .ok (.getfield 12, 3) ∧ 212 + 3 = 215 := by decide +kernel
theorem dX6_of_215 : decode bX6_of 215 = .ok (.iload_n 1, 1) ∧ 215 + 1 = 216 := by decide +kernel
theorem dX6_of_216 : decode bX6_of 216 = .ok (.invokevirtual 142, 3) ∧ 216 + 3 = 219 := by decide +kernel
theorem dX6_of_219 : decode bX6_of 219 = .ok (.ireturn, 1) := by decide +kernel
theorem dX6_of_220 : decode bX6_of 220 = .ok (.iconst (-1), 1) ∧ 220 + 1 = 221 := by decide +kernel
theorem dX6_of_221 : decode bX6_of 221 = .ok (.ireturn, 1) := by decide +kernel
theorem dX6_set_0 : decode bX6_set 0 = .ok (.aload_n 0, 1) ∧ 0 + 1 = 1 := by decide +kernel
theorem dX6_set_1 : decode bX6_set 1 = .ok (.iload_n 1, 1) ∧ 1 + 1 = 2 := by decide +kernel
theorem dX6_set_2 : decode bX6_set 2 = .ok (.invokevirtual 91, 3) ∧ 2 + 3 = 5 := by decide +kernel
theorem dX6_set_5 : decode bX6_set 5 = .ok (.ifCond .eq 12, 3) ∧ 5 + 3 = 8 ∧ ((5 : Nat) : Int) + (12) = ((17 : Nat) : Int) := by decide +kernel
theorem dX6_set_8 : decode bX6_set 8 = .ok (.iload_n 2, 1) ∧ 8 + 1 = 9 := by decide +kernel
theorem dX6_set_9 : decode bX6_set 9 = .ok (.iconst 0, 1) ∧ 9 + 1 = 10 := by decide +kernel
theorem dX6_set_10 : decode bX6_set 10 = .ok (.iconst 1, 1) ∧ 10 + 1 = 11 := by decide +kernel
theorem dX6_set_11 : decode bX6_set 11 = .ok (.invokestatic 80, 3) ∧ 11 + 3 = 14 := by decide +kernel
theorem dX6_set_14 : decode bX6_set 14 = .ok (.ifCond .ne 5, 3) ∧ 14 + 3 = 17 ∧ ((14 : Nat) : Int) + (5) = ((19 : Nat) : Int) := by decide +kernel
theorem dX6_set_17 : decode bX6_set 17 = .ok (.iconst (-1), 1) ∧ 17 + 1 = 18 := by decide +kernel
theorem dX6_set_18 : decode bX6_set 18 = .ok (.ireturn, 1) := by decide +kernel
theorem dX6_set_19 : decode bX6_set 19 = .ok (.iload_n 3, 1) ∧ 19 + 1 = 20 := by decide +kernel
theorem dX6_set_20 : decode bX6_set 20 = .ok (.iconst 1, 1) ∧ 20 + 1 = 21 := by decide +kernel
theorem dX6_set_21 : decode bX6_set 21 = .ok (.iload_n 2, 1) ∧ 21 + 1 = 22 := by decide +kernel
theorem dX6_set_22 : decode bX6_set 22 = .ok (.ifCond .ne 8, 3) ∧ 22 + 3 = 25 ∧ ((22 : Nat) : Int) + (8) = ((30 : Nat) : Int) := by decide +kernel
theorem dX6_set_25 : decode bX6_set 25 = .ok (.bipush 99, 2) ∧ 25 + 2 = 27 := by decide +kernel
theorem dX6_set_27 : decode bX6_set 27 = .ok (.goto 5, 3) ∧ ((27 : Nat) : Int) + (5) = ((32 : Nat) : Int) := by decide +kernel
theorem dX6_set_30 : decode bX6_set 30 = .ok (.bipush 20, 2) ∧ 30 + 2 = 32 := by decide +kernel
theorem dX6_set_32 : decode bX6_set 32 = .ok (.invokestatic 80, 3) ∧ 32 + 3 = 35 := by decide +kernel
theorem dX6_set_35 : decode bX6_set 35 = .ok (.ifCond .ne 6, 3) ∧ 35 + 3 = 38 ∧ ((35 : Nat) : Int) + (6) = ((41 : Nat) : Int) := by decide +kernel
theorem dX6_set_38 : decode bX6_set 38 = .ok (.bipush (-2), 2) ∧ 38 + 2 = 40 := by decide +kernel
theorem dX6_set_40 : decode bX6_set 40 = .ok (.ireturn, 1) := by decide +kernel
theorem dX6_set_41 : decode bX6_set 41 = .ok (.iload_n 2, 1) ∧ 41 + 1 = 42 := by decide +kernel
theorem dX6_set_42 : decode bX6_set 42 = .ok (.ifCond .ne 15, 3) ∧ 42 + 3 = 45 ∧ ((42 : Nat) : Int) + (15) = ((57 : Nat) : Int) := by decide +kernel
theorem dX6_set_45 : decode bX6_set 45 = .ok (.aload_n 0, 1) ∧ 45 + 1 = 46 := by decide +kernel
theorem dX6_set_46 : decode bX6_set 46 = .ok (.getfield 12, 3) ∧ 46 + 3 = 49 := by decide +kernel
theorem dX6_set_49 : decode bX6_set 49 = .ok (.getfield 102, 3) ∧ 49 + 3 = 52 := by decide +kernel
theorem dX6_set_52 : decode bX6_set 52 = .ok (.iload_n 1, 1) ∧ 52 + 1 = 53 := by decide +kernel
theorem dX6_set_53 : decode bX6_set 53 = .ok (.iaload, 1) ∧ 53 + 1 = 54 := by decide +kernel
theorem dX6_set_54 : decode bX6_set 54 = .ok (.goto 12, 3) ∧ ((54 : Nat) : Int) + (12) = ((66 : Nat) : Int) := by decide +kernel
theorem dX6_set_57 : decode bX6_set 57 = .ok (.aload_n 0, 1) ∧ 57 + 1 = 58 := by decide +kernel
theorem dX6_set_58 : decode bX6_set 58 = .ok (.getfield 12, 3) ∧ 58 + 3 = 61 := by decide +kernel
theorem dX6_set_61 : decode bX6_set 61 = .ok (.getfield 105, 3) ∧ 61 + 3 = 64 := by decide +kernel
theorem dX6_set_64 : decode bX6_set 64 = .ok (.iload_n 1, 1) ∧ 64 + 1 = 65 := by decide +kernel
theorem dX6_set_65 : decode bX6_set 65 = .ok (.iaload, 1) ∧ 65 + 1 = 66 := by decide +kernel
theorem dX6_set_66 : decode bX6_set 66 = .ok (.istore 4, 2) ∧ 66 + 2 = 68 := by decide +kernel
theorem dX6_set_68 : decode bX6_set 68 = .ok (.iload_n 2, 1) ∧ 68 + 1 = 69 := by decide +kernel
theorem dX6_set_69 : decode bX6_set 69 = .ok (.ifCond .ne 16, 3) ∧ 69 + 3 = 72 ∧ ((69 : Nat) : Int) + (16) = ((85 : Nat) : Int) := by decide +kernel
theorem dX6_set_72 : decode bX6_set 72 = .ok (.aload_n 0, 1) ∧ 72 + 1 = 73 := by decide +kernel
theorem dX6_set_73 : decode bX6_set 73 = .ok (.getfield 12, 3) ∧ 73 + 3 = 76 := by decide +kernel
theorem dX6_set_76 : decode bX6_set 76 = .ok (.getfield 102, 3) ∧ 76 + 3 = 79 := by decide +kernel
theorem dX6_set_79 : decode bX6_set 79 = .ok (.iload_n 1, 1) ∧ 79 + 1 = 80 := by decide +kernel
theorem dX6_set_80 : decode bX6_set 80 = .ok (.iload_n 3, 1) ∧ 80 + 1 = 81 := by decide +kernel
theorem dX6_set_81 : decode bX6_set 81 = .ok (.iastore, 1) ∧ 81 + 1 = 82 := by decide +kernel
theorem dX6_set_82 : decode bX6_set 82 = .ok (.goto 13, 3) ∧ ((82 : Nat) : Int) + (13) = ((95 : Nat) : Int) := by decide +kernel
theorem dX6_set_85 : decode bX6_set 85 = .ok (.aload_n 0, 1) ∧ 85 + 1 = 86 := by decide +kernel
theorem dX6_set_86 : decode bX6_set 86 = .ok (.getfield 12, 3) ∧ 86 + 3 = 89 := by decide +kernel
theorem dX6_set_89 : decode bX6_set 89 = .ok (.getfield 105, 3) ∧ 89 + 3 = 92 := by decide +kernel
theorem dX6_set_92 : decode bX6_set 92 = .ok (.iload_n 1, 1) ∧ 92 + 1 = 93 := by decide +kernel
theorem dX6_set_93 : decode bX6_set 93 = .ok (.iload_n 3, 1) ∧ 93 + 1 = 94 := by decide +kernel
theorem dX6_set_94 : decode bX6_set 94 = .ok (.iastore, 1) ∧ 94 + 1 = 95 := by decide +kernel
theorem dX6_set_95 : decode bX6_set 95 = .ok (.iload 4, 2) ∧ 95 + 2 = 97 := by decide +kernel
theorem dX6_set_97 : decode bX6_set 97 = .ok (.ireturn, 1) := by decide +kernel
theorem dX6_row_0 : decode bX6_row 0 = .ok (.aload_n 0, 1) ∧ 0 + 1 = 1 := by decide +kernel
theorem dX6_row_1 : decode bX6_row 1 = .ok (.iload_n 1, 1) ∧ 1 + 1 = 2 := by decide +kernel
theorem dX6_row_2 : decode bX6_row 2 = .ok (.invokevirtual 91, 3) ∧ 2 + 3 = 5 := by decide +kernel
theorem dX6_row_5 : decode bX6_row 5 = .ok (.ifCond .eq 12, 3) ∧ 5 + 3 = 8 ∧ ((5 : Nat) : Int) + (12) = ((17 : Nat) : Int) := by decide +kernel
theorem dX6_row_8 : decode bX6_row 8 = .ok (.iload_n 2, 1) ∧ 8 + 1 = 9 := by decide +kernel
theorem dX6_row_9 : decode bX6_row 9 = .ok (.iconst 0, 1) ∧ 9 + 1 = 10 := by decide +kernel
theorem dX6_row_10 : decode bX6_row 10 = .ok (.iconst 3, 1) ∧ 10 + 1 = 11 := by decide +kernel
theorem dX6_row_11 : decode bX6_row 11 = .ok (.invokestatic 80, 3) ∧ 11 + 3 = 14 := by decide +kernel
theorem dX6_row_14 : decode bX6_row 14 = .ok (.ifCond .ne 5, 3) ∧ 14 + 3 = 17 ∧ ((14 : Nat) : Int) + (5) = ((19 : Nat) : Int) := by decide +kernel
theorem dX6_row_17 : decode bX6_row 17 = .ok (.iconst (-1), 1) ∧ 17 + 1 = 18 := by decide +kernel
theorem dX6_row_18 : decode bX6_row 18 = .ok (.ireturn, 1) := by decide +kernel
theorem dX6_row_19 : decode bX6_row 19 = .ok (.iload_n 3, 1) ∧ 19 + 1 = 20 := by decide +kernel
theorem dX6_row_20 : decode bX6_row 20 = .ok (.iconst 0, 1) ∧ 20 + 1 = 21 := by decide +kernel
theorem dX6_row_21 : decode bX6_row 21 = .ok (.bipush 9, 2) ∧ 21 + 2 = 23 := by decide +kernel
theorem dX6_row_23 : decode bX6_row 23 = .ok (.invokestatic 80, 3) ∧ 23 + 3 = 26 := by decide +kernel
theorem dX6_row_26 : decode bX6_row 26 = .ok (.ifCond .ne 6, 3) ∧ 26 + 3 = 29 ∧ ((26 : Nat) : Int) + (6) = ((32 : Nat) : Int) := by decide +kernel
theorem dX6_row_29 : decode bX6_row 29 = .ok (.bipush (-2), 2) ∧ 29 + 2 = 31 := by decide +kernel
theorem dX6_row_31 : decode bX6_row 31 = .ok (.ireturn, 1) := by decide +kernel
theorem dX6_row_32 : decode bX6_row 32 = .ok (.aload_n 0, 1) ∧ 32 + 1 = 33 := by decide +kernel
theorem dX6_row_33 : decode bX6_row 33 = .ok (.getfield 12, 3) ∧ 33 + 3 = 36 := by decide +kernel
theorem dX6_row_36 : decode bX6_row 36 = .ok (.getfield 95, 3) ∧ 36 + 3 = 39 := by decide +kernel
theorem dX6_row_39 : decode bX6_row 39 = .ok (.iload_n 1, 1) ∧ 39 + 1 = 40 := by decide +kernel
theorem dX6_row_40 : decode bX6_row 40 = .ok (.iaload, 1) ∧ 40 + 1 = 41 := by decide +kernel
theorem dX6_row_41 : decode bX6_row 41 = .ok (.bipush 6, 2) ∧ 41 + 2 = 43 := by decide +kernel
theorem dX6_row_43 : decode bX6_row 43 = .ok (.if_icmp .eq 6, 3) ∧ 43 + 3 = 46 ∧ ((43 : Nat) : Int) + (6) = ((49 : Nat) : Int) := by decide +kernel
theorem dX6_row_46 : decode bX6_row 46 = .ok (.bipush (-3), 2) ∧ 46 + 2 = 48 := by decide +kernel
theorem dX6_row_48 : decode bX6_row 48 = .ok (.ireturn, 1) := by decide +kernel
theorem dX6_row_49 : decode bX6_row 49 = .ok (.aload_n 0, 1) ∧ 49 + 1 = 50 := by decide +kernel
theorem dX6_row_50 : decode bX6_row 50 = .ok (.getfield 12, 3) ∧ 50 + 3 = 53 := by decide +kernel
theorem dX6_row_53 : decode bX6_row 53 = .ok (.getfield 145, 3) ∧ 53 + 3 = 56 := by decide +kernel
theorem dX6_row_56 : decode bX6_row 56 = .ok (.iload_n 1, 1) ∧ 56 + 1 = 57 := by decide +kernel
theorem dX6_row_57 : decode bX6_row 57 = .ok (.iconst 4, 1) ∧ 57 + 1 = 58 := by decide +kernel
theorem dX6_row_58 : decode bX6_row 58 = .ok (.imul, 1) ∧ 58 + 1 = 59 := by decide +kernel
theorem dX6_row_59 : decode bX6_row 59 = .ok (.iload_n 2, 1) ∧ 59 + 1 = 60 := by decide +kernel
theorem dX6_row_60 : decode bX6_row 60 = .ok (.iadd, 1) ∧ 60 + 1 = 61 := by decide +kernel
theorem dX6_row_61 : decode bX6_row 61 = .ok (.iaload, 1) ∧ 61 + 1 = 62 := by decide +kernel
theorem dX6_row_62 : decode bX6_row 62 = .ok (.istore 4, 2) ∧ 62 + 2 = 64 := by decide +kernel
theorem dX6_row_64 : decode bX6_row 64 = .ok (.aload_n 0, 1) ∧ 64 + 1 = 65 := by decide +kernel
theorem dX6_row_65 : decode bX6_row 65 = .ok (.getfield 12, 3) ∧ 65 + 3 = 68 := by decide +kernel
theorem dX6_row_68 : decode bX6_row 68 = .ok (.getfield 145, 3) ∧ 68 + 3 = 71 := by decide +kernel
theorem dX6_row_71 : decode bX6_row 71 = .ok (.iload_n 1, 1) ∧ 71 + 1 = 72 := by decide +kernel
theorem dX6_row_72 : decode bX6_row 72 = .ok (.iconst 4, 1) ∧ 72 + 1 = 73 := by decide +kernel
theorem dX6_row_73 : decode bX6_row 73 = .ok (.imul, 1) ∧ 73 + 1 = 74 := by decide +kernel
theorem dX6_row_74 : decode bX6_row 74 = .ok (.iload_n 2, 1) ∧ 74 + 1 = 75 := by decide +kernel
theorem dX6_row_75 : decode bX6_row 75 = .ok (.iadd, 1) ∧ 75 + 1 = 76 := by decide +kernel
theorem dX6_row_76 : decode bX6_row 76 = .ok (.iload_n 3, 1) ∧ 76 + 1 = 77 := by decide +kernel
theorem dX6_row_77 : decode bX6_row 77 = .ok (.iastore, 1) ∧ 77 + 1 = 78 := by decide +kernel
theorem dX6_row_78 : decode bX6_row 78 = .ok (.iload 4, 2) ∧ 78 + 2 = 80 := by decide +kernel
theorem dX6_row_80 : decode bX6_row 80 = .ok (.ireturn, 1) := by decide +kernel
theorem dX6_depth_0 : decode bX6_depth 0 = .ok (.iload_n 1, 1) ∧ 0 + 1 = 1 := by decide +kernel
theorem dX6_depth_1 : decode bX6_depth 1 = .ok (.iconst 0, 1) ∧ 1 + 1 = 2 := by decide +kernel
theorem dX6_depth_2 : decode bX6_depth 2 = .ok (.sipush 9999, 3) ∧ 2 + 3 = 5 := by decide +kernel
theorem dX6_depth_5 : decode bX6_depth 5 = .ok (.invokestatic 80, 3) ∧ 5 + 3 = 8 := by decide +kernel
theorem dX6_depth_8 : decode bX6_depth 8 = .ok (.ifCond .ne 6, 3) ∧ 8 + 3 = 11 ∧ ((8 : Nat) : Int) + (6) = ((14 : Nat) : Int) := by decide +kernel
theorem dX6_depth_11 : decode bX6_depth 11 = .ok (.bipush (-2), 2) ∧ 11 + 2 = 13 := by decide +kernel
theorem dX6_depth_13 : decode bX6_depth 13 = .ok (.ireturn, 1) := by decide +kernel
theorem dX6_depth_14 : decode bX6_depth 14 = .ok (.aload_n 0, 1) ∧ 14 + 1 = 15 := by decide +kernel
theorem dX6_depth_15 : decode bX6_depth 15 = .ok (.getfield 12, 3) ∧ 15 + 3 = 18 := by decide +kernel
theorem dX6_depth_18 : decode bX6_depth 18 = .ok (.getfield 148, 3) ∧ 18 + 3 = 21 := by decide +kernel
theorem dX6_depth_21 : decode bX6_depth 21 = .ok (.istore_n 2, 1) ∧ 21 + 1 = 22 := by decide +kernel
theorem dX6_depth_22 : decode bX6_depth 22 = .ok (.aload_n 0, 1) ∧ 22 + 1 = 23 := by decide +kernel
theorem dX6_depth_23 : decode bX6_depth 23 = .ok (.getfield 12, 3) ∧ 23 + 3 = 26 := by decide +kernel
theorem dX6_depth_26 : decode bX6_depth 26 = .ok (.iload_n 1, 1) ∧ 26 + 1 = 27 := by decide +kernel
theorem dX6_depth_27 : decode bX6_depth 27 = .ok (.putfield 148, 3) ∧ 27 + 3 = 30 := by decide +kernel
theorem dX6_depth_30 : decode bX6_depth 30 = .ok (.iload_n 2, 1) ∧ 30 + 1 = 31 := by decide +kernel
theorem dX6_depth_31 : decode bX6_depth 31 = .ok (.ireturn, 1) := by decide +kernel
theorem dX6_change_0 : decode bX6_change 0 = .ok (.aload_n 0, 1) ∧ 0 + 1 = 1 := by decide +kernel
theorem dX6_change_1 : decode bX6_change 1 = .ok (.iload_n 1, 1) ∧ 1 + 1 = 2 := by decide +kernel
theorem dX6_change_2 : decode bX6_change 2 = .ok (.invokevirtual 91, 3) ∧ 2 + 3 = 5 := by decide +kernel
theorem dX6_change_5 : decode bX6_change 5 = .ok (.ifCond .eq 11, 3) ∧ 5 + 3 = 8 ∧ ((5 : Nat) : Int) + (11) = ((16 : Nat) : Int) := by decide +kernel
theorem dX6_change_8 : decode bX6_change 8 = .ok (.aload_n 0, 1) ∧ 8 + 1 = 9 := by decide +kernel
theorem dX6_change_9 : decode bX6_change 9 = .ok (.iload_n 2, 1) ∧ 9 + 1 = 10 := by decide +kernel
theorem dX6_change_10 : decode bX6_change 10 = .ok (.invokevirtual 91, 3) ∧ 10 + 3 = 13 := by decide +kernel
theorem dX6_change_13 : decode bX6_change 13 = .ok (.ifCond .ne 5, 3) ∧ 13 + 3 = 16 ∧ ((13 : Nat) : Int) + (5) = ((18 : Nat) : Int) := by decide +kernel
theorem dX6_change_16 : decode bX6_change 16 = .ok (.iconst (-1), 1) ∧ 16 + 1 = 17 := by decide +kernel
theorem dX6_change_17 : decode bX6_change 17 = .ok (.ireturn, 1) := by decide +kernel
theorem dX6_change_18 : decode bX6_change 18 = .ok (.iload_n 1, 1) ∧ 18 + 1 = 19 := by decide +kernel
theorem dX6_change_19 : decode bX6_change 19 = .ok (.iload_n 2, 1) ∧ 19 + 1 = 20 := by decide +kernel
theorem dX6_change_20 : decode bX6_change 20 = .ok (.if_icmp .ne 6, 3) ∧ 20 + 3 = 23 ∧ ((20 : Nat) : Int) + (6) = ((26 : Nat) : Int) := by decide +kernel
theorem dX6_change_23 : decode bX6_change 23 = .ok (.bipush (-2), 2) ∧ 23 + 2 = 25 := by decide +kernel
theorem dX6_change_25 : decode bX6_change 25 = .ok (.ireturn, 1) := by decide +kernel
theorem dX6_change_26 : decode bX6_change 26 = .ok (.aload_n 0, 1) ∧ 26 + 1 = 27 := by decide +kernel
theorem dX6_change_27 : decode bX6_change 27 = .ok (.getfield 12, 3) ∧ 27 + 3 = 30 := by decide +kernel
theorem dX6_change_30 : decode bX6_change 30 = .ok (.getfield 151, 3) ∧ 30 + 3 = 33 := by decide +kernel
theorem dX6_change_33 : decode bX6_change 33 = .ok (.iload_n 1, 1) ∧ 33 + 1 = 34 := by decide +kernel
theorem dX6_change_34 : decode bX6_change 34 = .ok (.iaload, 1) ∧ 34 + 1 = 35 := by decide +kernel
theorem dX6_change_35 : decode bX6_change 35 = .ok (.istore_n 3, 1) ∧ 35 + 1 = 36 := by decide +kernel
theorem dX6_change_36 : decode bX6_change 36 = .ok (.aload_n 0, 1) ∧ 36 + 1 = 37 := by decide +kernel
theorem dX6_change_37 : decode bX6_change 37 = .ok (.getfield 12, 3) ∧ 37 + 3 = 40 := by decide +kernel
theorem dX6_change_40 : decode bX6_change 40 = .ok (.iload_n 1, 1) ∧ 40 + 1 = 41 := by decide +kernel
theorem dX6_change_41 : decode bX6_change 41 = .ok (.iload_n 2, 1) ∧ 41 + 1 = 42 := by decide +kernel
theorem dX6_change_42 : decode bX6_change 42 = .ok (.invokevirtual 154, 3) ∧ 42 + 3 = 45 := by decide +kernel
theorem dX6_change_45 : decode bX6_change 45 = .ok (.iload_n 3, 1) ∧ 45 + 1 = 46 := by decide +kernel
theorem dX6_change_46 : decode bX6_change 46 = .ok (.ireturn, 1) := by decide +kernel
theorem dX6_call_0 : decode bX6_call 0 = .ok (.aload_n 0, 1) ∧ 0 + 1 = 1 := by decide +kernel
theorem dX6_call_1 : decode bX6_call 1 = .ok (.iload_n 1, 1) ∧ 1 + 1 = 2 := by decide +kernel
theorem dX6_call_2 : decode bX6_call 2 = .ok (.invokevirtual 91, 3) ∧ 2 + 3 = 5 := by decide +kernel
theorem dX6_call_5 : decode bX6_call 5 = .ok (.ifCond .ne 5, 3) ∧ 5 + 3 = 8 ∧ ((5 : Nat) : Int) + (5) = ((10 : Nat) : Int) := by decide +kernel
theorem dX6_call_8 : decode bX6_call 8 = .ok (.iconst (-1), 1) ∧ 8 + 1 = 9 := by decide +kernel
theorem dX6_call_9 : decode bX6_call 9 = .ok (.ireturn, 1) := by decide +kernel
theorem dX6_call_10 : decode bX6_call 10 = .ok (.aload_n 0, 1) ∧ 10 + 1 = 11 := by decide +kernel
theorem dX6_call_11 : decode bX6_call 11 = .ok (.getfield 12, 3) ∧ 11 + 3 = 14 := by decide +kernel
theorem dX6_call_14 : decode bX6_call 14 = .ok (.getfield 108, 3) ∧ 14 + 3 = 17 := by decide +kernel
theorem dX6_call_17 : decode bX6_call 17 = .ok (.iload_n 1, 1) ∧ 17 + 1 = 18 := by decide +kernel
theorem dX6_call_18 : decode bX6_call 18 = .ok (.iaload, 1) ∧ 18 + 1 = 19 := by decide +kernel
theorem dX6_call_19 : decode bX6_call 19 = .ok (.istore_n 2, 1) ∧ 19 + 1 = 20 := by decide +kernel
theorem dX6_call_20 : decode bX6_call 20 = .ok (.iload_n 2, 1) ∧ 20 + 1 = 21 := by decide +kernel
theorem dX6_call_21 : decode bX6_call 21 = .ok (.ifCond .ne 6, 3) ∧ 21 + 3 = 24 ∧ ((21 : Nat) : Int) + (6) = ((27 : Nat) : Int) := by decide +kernel
theorem dX6_call_24 : decode bX6_call 24 = .ok (.bipush (-3), 2) ∧ 24 + 2 = 26 := by decide +kernel
theorem dX6_call_26 : decode bX6_call 26 = .ok (.ireturn, 1) := by decide +kernel
theorem dX6_call_27 : decode bX6_call 27 = .ok (.aload_n 0, 1) ∧ 27 + 1 = 28 := by decide +kernel
theorem dX6_call_28 : decode bX6_call 28 = .ok (.getfield 12, 3) ∧ 28 + 3 = 31 := by decide +kernel
theorem dX6_call_31 : decode bX6_call 31 = .ok (.iload_n 1, 1) ∧ 31 + 1 = 32 := by decide +kernel
theorem dX6_call_32 : decode bX6_call 32 = .ok (.invokevirtual 158, 3) ∧ 32 + 3 = 35 := by decide +kernel
theorem dX6_call_35 : decode bX6_call 35 = .ok (.iload_n 2, 1) ∧ 35 + 1 = 36 := by decide +kernel
theorem dX6_call_36 : decode bX6_call 36 = .ok (.ireturn, 1) := by decide +kernel
theorem dX6_feed_0 : decode bX6_feed 0 = .ok (.iload_n 1, 1) ∧ 0 + 1 = 1 := by decide +kernel
theorem dX6_feed_1 : decode bX6_feed 1 = .ok (.iconst 0, 1) ∧ 1 + 1 = 2 := by decide +kernel
theorem dX6_feed_2 : decode bX6_feed 2 = .ok (.bipush 127, 2) ∧ 2 + 2 = 4 := by decide +kernel
theorem dX6_feed_4 : decode bX6_feed 4 = .ok (.invokestatic 80, 3) ∧ 4 + 3 = 7 := by decide +kernel
theorem dX6_feed_7 : decode bX6_feed 7 = .ok (.ifCond .ne 6, 3) ∧ 7 + 3 = 10 ∧ ((7 : Nat) : Int) + (6) = ((13 : Nat) : Int) := by decide +kernel
theorem dX6_feed_10 : decode bX6_feed 10 = .ok (.bipush (-2), 2) ∧ 10 + 2 = 12 := by decide +kernel
theorem dX6_feed_12 : decode bX6_feed 12 = .ok (.ireturn, 1) := by decide +kernel
theorem dX6_feed_13 : decode bX6_feed 13 = .ok (.aload_n 0, 1) ∧ 13 + 1 = 14 := by decide +kernel
theorem dX6_feed_14 : decode bX6_feed 14 = .ok (.getfield 37, 3) ∧ 14 + 3 = 17 := by decide +kernel
theorem dX6_feed_17 : decode bX6_feed 17 = .ok (.getfield 162, 3) ∧ 17 + 3 = 20 := by decide +kernel
theorem dX6_feed_20 : decode bX6_feed 20 = .ok (.bipush 100, 2) ∧ 20 + 2 = 22 := by decide +kernel
theorem dX6_feed_22 : decode bX6_feed 22 = .ok (.if_icmp .lt 6, 3) ∧ 22 + 3 = 25 ∧ ((22 : Nat) : Int) + (6) = ((28 : Nat) : Int) := by decide +kernel
theorem dX6_feed_25 : decode bX6_feed 25 = .ok (.bipush (-4), 2) ∧ 25 + 2 = 27 := by decide +kernel
theorem dX6_feed_27 : decode bX6_feed 27 = .ok (.ireturn, 1) := by decide +kernel
theorem dX6_feed_28 : decode bX6_feed 28 = .ok (.aload_n 0, 1) ∧ 28 + 1 = 29 := by decide +kernel
theorem dX6_feed_29 : decode bX6_feed 29 = .ok (.getfield 37, 3) ∧ 29 + 3 = 32 := by decide +kernel
theorem dX6_feed_32 : decode bX6_feed 32 = .ok (.iload_n 1, 1) ∧ 32 + 1 = 33 := by decide +kernel
theorem dX6_feed_33 : decode bX6_feed 33 = .ok (.invokevirtual 165, 3) ∧ 33 + 3 = 36 := by decide +kernel
theorem dX6_feed_36 : decode bX6_feed 36 = .ok (.aload_n 0, 1) ∧ 36 + 1 = 37 := by decide +kernel
theorem dX6_feed_37 : decode bX6_feed 37 = .ok (.getfield 37, 3) ∧ 37 + 3 = 40 := by decide +kernel
theorem dX6_feed_40 : decode bX6_feed 40 = .ok (.getfield 162, 3) ∧ 40 + 3 = 43 := by decide +kernel
theorem dX6_feed_43 : decode bX6_feed 43 = .ok (.ireturn, 1) := by decide +kernel
theorem dX6_country_0 : decode bX6_country 0 = .ok (.aload_n 0, 1) ∧ 0 + 1 = 1 := by decide +kernel
theorem dX6_country_1 : decode bX6_country 1 = .ok (.getfield 66, 3) ∧ 1 + 3 = 4 := by decide +kernel
theorem dX6_country_4 : decode bX6_country 4 = .ok (.bipush 6, 2) ∧ 4 + 2 = 6 := by decide +kernel
theorem dX6_country_6 : decode bX6_country 6 = .ok (.if_icmp .lt 6, 3) ∧ 6 + 3 = 9 ∧ ((6 : Nat) : Int) + (6) = ((12 : Nat) : Int) := by decide +kernel
theorem dX6_country_9 : decode bX6_country 9 = .ok (.bipush (-4), 2) ∧ 9 + 2 = 11 := by decide +kernel
theorem dX6_country_11 : decode bX6_country 11 = .ok (.ireturn, 1) := by decide +kernel
theorem dX6_country_12 : decode bX6_country 12 = .ok (.aload_n 0, 1) ∧ 12 + 1 = 13 := by decide +kernel
theorem dX6_country_13 : decode bX6_country 13 = .ok (.getfield 37, 3) ∧ 13 + 3 = 16 := by decide +kernel
theorem dX6_country_16 : decode bX6_country 16 = .ok (.aload_n 0, 1) ∧ 16 + 1 = 17 := by decide +kernel
theorem dX6_country_17 : decode bX6_country 17 = .ok (.getfield 48, 3) ∧ 17 + 3 = 20 := by decide +kernel
theorem dX6_country_20 : decode bX6_country 20 = .ok (.aload_n 0, 1) ∧ 20 + 1 = 21 := by decide +kernel
theorem dX6_country_21 : decode bX6_country 21 = .ok (.getfield 66, 3) ∧ 21 + 3 = 24 := by decide +kernel
theorem dX6_country_24 : decode bX6_country 24 = .ok (.aaload, 1) ∧ 24 + 1 = 25 := by decide +kernel
theorem dX6_country_25 : decode bX6_country 25 = .ok (.invokevirtual 168, 3) ∧ 25 + 3 = 28 := by decide +kernel
theorem dX6_country_28 : decode bX6_country 28 = .ok (.istore_n 1, 1) ∧ 28 + 1 = 29 := by decide +kernel
theorem dX6_country_29 : decode bX6_country 29 = .ok (.aload_n 0, 1) ∧ 29 + 1 = 30 := by decide +kernel
theorem dX6_country_30 : decode bX6_country 30 = .ok (.getfield 37, 3) ∧ 30 + 3 = 33 := by decide +kernel
theorem dX6_country_33 : decode bX6_country 33 = .ok (.iconst 0, 1) ∧ 33 + 1 = 34 := by decide +kernel
theorem dX6_country_34 : decode bX6_country 34 = .ok (.putfield 162, 3) ∧ 34 + 3 = 37 := by decide +kernel
theorem dX6_country_37 : decode bX6_country 37 = .ok (.iload_n 1, 1) ∧ 37 + 1 = 38 := by decide +kernel
theorem dX6_country_38 : decode bX6_country 38 = .ok (.ifCond .lt 8, 3) ∧ 38 + 3 = 41 ∧ ((38 : Nat) : Int) + (8) = ((46 : Nat) : Int) := by decide +kernel
theorem dX6_country_41 : decode bX6_country 41 = .ok (.bipush (-10), 2) ∧ 41 + 2 = 43 := by decide +kernel
theorem dX6_country_43 : decode bX6_country 43 = .ok (.iload_n 1, 1) ∧ 43 + 1 = 44 := by decide +kernel
theorem dX6_country_44 : decode bX6_country 44 = .ok (.isub, 1) ∧ 44 + 1 = 45 := by decide +kernel
theorem dX6_country_45 : decode bX6_country 45 = .ok (.ireturn, 1) := by decide +kernel
theorem dX6_country_46 : decode bX6_country 46 = .ok (.aload_n 0, 1) ∧ 46 + 1 = 47 := by decide +kernel
theorem dX6_country_47 : decode bX6_country 47 = .ok (.aload_n 0, 1) ∧ 47 + 1 = 48 := by decide +kernel
theorem dX6_country_48 : decode bX6_country 48 = .ok (.getfield 66, 3) ∧ 48 + 3 = 51 := by decide +kernel
theorem dX6_country_51 : decode bX6_country 51 = .ok (.putfield 70, 3) ∧ 51 + 3 = 54 := by decide +kernel
theorem dX6_country_54 : decode bX6_country 54 = .ok (.aload_n 0, 1) ∧ 54 + 1 = 55 := by decide +kernel
theorem dX6_country_55 : decode bX6_country 55 = .ok (.dup, 1) ∧ 55 + 1 = 56 := by decide +kernel
theorem dX6_country_56 : decode bX6_country 56 = .ok (.getfield 66, 3) ∧ 56 + 3 = 59 := by decide +kernel
theorem dX6_country_59 : decode bX6_country 59 = .ok (.iconst 1, 1) ∧ 59 + 1 = 60 := by decide +kernel
theorem dX6_country_60 : decode bX6_country 60 = .ok (.iadd, 1) ∧ 60 + 1 = 61 := by decide +kernel
theorem dX6_country_61 : decode bX6_country 61 = .ok (.putfield 66, 3) ∧ 61 + 3 = 64 := by decide +kernel
theorem dX6_country_64 : decode bX6_country 64 = .ok (.aload_n 0, 1) ∧ 64 + 1 = 65 := by decide +kernel
theorem dX6_country_65 : decode bX6_country 65 = .ok (.getfield 70, 3) ∧ 65 + 3 = 68 := by decide +kernel
theorem dX6_country_68 : decode bX6_country 68 = .ok (.ireturn, 1) := by decide +kernel
theorem dX6_told_0 : decode bX6_told 0 = .ok (.iload_n 1, 1) ∧ 0 + 1 = 1 := by decide +kernel
theorem dX6_told_1 : decode bX6_told 1 = .ok (.bipush 10, 2) ∧ 1 + 2 = 3 := by decide +kernel
theorem dX6_told_3 : decode bX6_told 3 = .ok (.if_icmp .lt 31, 3) ∧ 3 + 3 = 6 ∧ ((3 : Nat) : Int) + (31) = ((34 : Nat) : Int) := by decide +kernel
theorem dX6_told_6 : decode bX6_told 6 = .ok (.aload_n 0, 1) ∧ 6 + 1 = 7 := by decide +kernel
theorem dX6_told_7 : decode bX6_told 7 = .ok (.iload_n 1, 1) ∧ 7 + 1 = 8 := by decide +kernel
theorem dX6_told_8 : decode bX6_told 8 = .ok (.bipush 10, 2) ∧ 8 + 2 = 10 := by decide +kernel
theorem dX6_told_10 : decode bX6_told 10 = .ok (.isub, 1) ∧ 10 + 1 = 11 := by decide +kernel
theorem dX6_told_11 : decode bX6_told 11 = .ok (.invokevirtual 91, 3) ∧ 11 + 3 = 14 := by decide +kernel
theorem dX6_told_14 : decode bX6_told 14 = .ok (.ifCond .eq 18, 3) ∧ 14 + 3 = 17 ∧ ((14 : Nat) : Int) + (18) = ((32 : Nat) : Int) := by decide +kernel
theorem dX6_told_17 : decode bX6_told 17 = .ok (.aload_n 0, 1) ∧ 17 + 1 = 18 := by decide +kernel
theorem dX6_told_18 : decode bX6_told 18 = .ok (.getfield 12, 3) ∧ 18 + 3 = 21 := by decide +kernel
theorem dX6_told_21 : decode bX6_told 21 = .ok (.getfield 151, 3) ∧ 21 + 3 = 24 := by decide +kernel
theorem dX6_told_24 : decode bX6_told 24 = .ok (.iload_n 1, 1) ∧ 24 + 1 = 25 := by decide +kernel
theorem dX6_told_25 : decode bX6_told 25 = .ok (.bipush 10, 2) ∧ 25 + 2 = 27 := by decide +kernel
theorem dX6_told_27 : decode bX6_told 27 = .ok (.isub, 1) ∧ 27 + 1 = 28 := by decide +kernel
theorem dX6_told_28 : decode bX6_told 28 = .ok (.iaload, 1) ∧ 28 + 1 = 29 := by decide +kernel
theorem dX6_told_29 : decode bX6_told 29 = .ok (.goto 4, 3) ∧ ((29 : Nat) : Int) + (4) = ((33 : Nat) : Int) := by decide +kernel
theorem dX6_told_32 : decode bX6_told 32 = .ok (.iconst (-1), 1) ∧ 32 + 1 = 33 := by decide +kernel
theorem dX6_told_33 : decode bX6_told 33 = .ok (.ireturn, 1) := by decide +kernel
theorem dX6_told_34 : decode bX6_told 34 = .ok (.iload_n 1, 1) ∧ 34 + 1 = 35 := by decide +kernel
theorem dX6_told_35 : decode bX6_told 35 = .ok (.tableswitch 85 0 5 #[37, 45, 53, 61, 69, 77], 37) := by decide +kernel
theorem dX6_told_72 : decode bX6_told 72 = .ok (.aload_n 0, 1) ∧ 72 + 1 = 73 := by decide +kernel
theorem dX6_told_73 : decode bX6_told 73 = .ok (.getfield 12, 3) ∧ 73 + 3 = 76 := by decide +kernel
theorem dX6_told_76 : decode bX6_told 76 = .ok (.getfield 172, 3) ∧ 76 + 3 = 79 := by decide +kernel
theorem dX6_told_79 : decode bX6_told 79 = .ok (.ireturn, 1) := by decide +kernel
theorem dX6_told_80 : decode bX6_told 80 = .ok (.aload_n 0, 1) ∧ 80 + 1 = 81 := by decide +kernel
theorem dX6_told_81 : decode bX6_told 81 = .ok (.getfield 12, 3) ∧ 81 + 3 = 84 := by decide +kernel
theorem dX6_told_84 : decode bX6_told 84 = .ok (.getfield 148, 3) ∧ 84 + 3 = 87 := by decide +kernel
theorem dX6_told_87 : decode bX6_told 87 = .ok (.ireturn, 1) := by decide +kernel
theorem dX6_told_88 : decode bX6_told 88 = .ok (.aload_n 0, 1) ∧ 88 + 1 = 89 := by decide +kernel
theorem dX6_told_89 : decode bX6_told 89 = .ok (.invokevirtual 120, 3) ∧ 89 + 3 = 92 := by decide +kernel
theorem dX6_told_92 : decode bX6_told 92 = .ok (.getfield 128, 3) ∧ 92 + 3 = 95 := by decide +kernel
theorem dX6_told_95 : decode bX6_told 95 = .ok (.ireturn, 1) := by decide +kernel
theorem dX6_told_96 : decode bX6_told 96 = .ok (.aload_n 0, 1) ∧ 96 + 1 = 97 := by decide +kernel
theorem dX6_told_97 : decode bX6_told 97 = .ok (.invokevirtual 120, 3) ∧ 97 + 3 = 100 := by decide +kernel
theorem dX6_told_100 : decode bX6_told 100 = .ok (.getfield 175, 3) ∧ 100 + 3 = 103 := by decide +kernel
theorem dX6_told_103 : decode bX6_told 103 = .ok (.ireturn, 1) := by decide +kernel
theorem dX6_told_104 : decode bX6_told 104 = .ok (.aload_n 0, 1) ∧ 104 + 1 = 105 := by decide +kernel
theorem dX6_told_105 : decode bX6_told 105 = .ok (.invokevirtual 120, 3) ∧ 105 + 3 = 108 := by decide +kernel
theorem dX6_told_108 : decode bX6_told 108 = .ok (.getfield 178, 3) ∧ 108 + 3 = 111 := by decide +kernel
theorem dX6_told_111 : decode bX6_told 111 = .ok (.ireturn, 1) := by decide +kernel
theorem dX6_told_112 : decode bX6_told 112 = .ok (.aload_n 0, 1) ∧ 112 + 1 = 113 := by decide +kernel
theorem dX6_told_113 : decode bX6_told 113 = .ok (.getfield 12, 3) ∧ 113 + 3 = 116 := by decide +kernel
theorem dX6_told_116 : decode bX6_told 116 = .ok (.invokevirtual 181, 3) ∧ 116 + 3 = 119 := by decide +kernel
theorem dX6_told_119 : decode bX6_told 119 = .ok (.ireturn, 1) := by decide +kernel
theorem dX6_told_120 : decode bX6_told 120 = .ok (.iconst (-1), 1) ∧ 120 + 1 = 121 := by decide +kernel
theorem dX6_told_121 : decode bX6_told 121 = .ok (.ireturn, 1) := by decide +kernel
theorem dX6_pass_0 : decode bX6_pass 0 = .ok (.iload_n 1, 1) ∧ 0 + 1 = 1 := by decide +kernel
theorem dX6_pass_1 : decode bX6_pass 1 = .ok (.invokestatic 185, 3) ∧ 1 + 3 = 4 := by decide +kernel
theorem dX6_pass_4 : decode bX6_pass 4 = .ok (.ifCond .ne 6, 3) ∧ 4 + 3 = 7 ∧ ((4 : Nat) : Int) + (6) = ((10 : Nat) : Int) := by decide +kernel
theorem dX6_pass_7 : decode bX6_pass 7 = .ok (.bipush (-2), 2) ∧ 7 + 2 = 9 := by decide +kernel
theorem dX6_pass_9 : decode bX6_pass 9 = .ok (.ireturn, 1) := by decide +kernel
theorem dX6_pass_10 : decode bX6_pass 10 = .ok (.aload_n 0, 1) ∧ 10 + 1 = 11 := by decide +kernel
theorem dX6_pass_11 : decode bX6_pass 11 = .ok (.getfield 12, 3) ∧ 11 + 3 = 14 := by decide +kernel
theorem dX6_pass_14 : decode bX6_pass 14 = .ok (.getfield 172, 3) ∧ 14 + 3 = 17 := by decide +kernel
theorem dX6_pass_17 : decode bX6_pass 17 = .ok (.iload_n 1, 1) ∧ 17 + 1 = 18 := by decide +kernel
theorem dX6_pass_18 : decode bX6_pass 18 = .ok (.iadd, 1) ∧ 18 + 1 = 19 := by decide +kernel
theorem dX6_pass_19 : decode bX6_pass 19 = .ok (.sipush 9999, 3) ∧ 19 + 3 = 22 := by decide +kernel
theorem dX6_pass_22 : decode bX6_pass 22 = .ok (.if_icmp .le 6, 3) ∧ 22 + 3 = 25 ∧ ((22 : Nat) : Int) + (6) = ((28 : Nat) : Int) := by decide +kernel
theorem dX6_pass_25 : decode bX6_pass 25 = .ok (.bipush (-3), 2) ∧ 25 + 2 = 27 := by decide +kernel
theorem dX6_pass_27 : decode bX6_pass 27 = .ok (.ireturn, 1) := by decide +kernel
theorem dX6_pass_28 : decode bX6_pass 28 = .ok (.aload_n 0, 1) ∧ 28 + 1 = 29 := by decide +kernel
theorem dX6_pass_29 : decode bX6_pass 29 = .ok (.invokevirtual 120, 3) ∧ 29 + 3 = 32 := by decide +kernel
theorem dX6_pass_32 : decode bX6_pass 32 = .ok (.astore_n 2, 1) ∧ 32 + 1 = 33 := by decide +kernel
theorem dX6_pass_33 : decode bX6_pass 33 = .ok (.iconst 0, 1) ∧ 33 + 1 = 34 := by decide +kernel
theorem dX6_pass_34 : decode bX6_pass 34 = .ok (.istore_n 3, 1) ∧ 34 + 1 = 35 := by decide +kernel
theorem dX6_pass_35 : decode bX6_pass 35 = .ok (.iload_n 3, 1) ∧ 35 + 1 = 36 := by decide +kernel
theorem dX6_pass_36 : decode bX6_pass 36 = .ok (.iload_n 1, 1) ∧ 36 + 1 = 37 := by decide +kernel
theorem dX6_pass_37 : decode bX6_pass 37 = .ok (.if_icmp .ge 23, 3) ∧ 37 + 3 = 40 ∧ ((37 : Nat) : Int) + (23) = ((60 : Nat) : Int) := by decide +kernel
theorem dX6_pass_40 : decode bX6_pass 40 = .ok (.aload_n 0, 1) ∧ 40 + 1 = 41 := by decide +kernel
theorem dX6_pass_41 : decode bX6_pass 41 = .ok (.getfield 12, 3) ∧ 41 + 3 = 44 := by decide +kernel
theorem dX6_pass_44 : decode bX6_pass 44 = .ok (.aload_n 2, 1) ∧ 44 + 1 = 45 := by decide +kernel
theorem dX6_pass_45 : decode bX6_pass 45 = .ok (.aload_n 2, 1) ∧ 45 + 1 = 46 := by decide +kernel
theorem dX6_pass_46 : decode bX6_pass 46 = .ok (.getfield 128, 3) ∧ 46 + 3 = 49 := by decide +kernel
theorem dX6_pass_49 : decode bX6_pass 49 = .ok (.bipush (-5), 2) ∧ 49 + 2 = 51 := by decide +kernel
theorem dX6_pass_51 : decode bX6_pass 51 = .ok (.invokevirtual 188, 3) ∧ 51 + 3 = 54 := by decide +kernel
theorem dX6_pass_54 : decode bX6_pass 54 = .ok (.iinc 3 1, 3) ∧ 54 + 3 = 57 := by decide +kernel
theorem dX6_pass_57 : decode bX6_pass 57 = .ok (.goto (-22), 3) ∧ ((57 : Nat) : Int) + (-22) = ((35 : Nat) : Int) := by decide +kernel
theorem dX6_pass_60 : decode bX6_pass 60 = .ok (.aload_n 0, 1) ∧ 60 + 1 = 61 := by decide +kernel
theorem dX6_pass_61 : decode bX6_pass 61 = .ok (.getfield 12, 3) ∧ 61 + 3 = 64 := by decide +kernel
theorem dX6_pass_64 : decode bX6_pass 64 = .ok (.getfield 148, 3) ∧ 64 + 3 = 67 := by decide +kernel
theorem dX6_pass_67 : decode bX6_pass 67 = .ok (.ireturn, 1) := by decide +kernel
theorem dX6_on_0 : decode bX6_on 0 = .ok (.aload_n 0, 1) ∧ 0 + 1 = 1 := by decide +kernel
theorem dX6_on_1 : decode bX6_on 1 = .ok (.iload_n 2, 1) ∧ 1 + 1 = 2 := by decide +kernel
theorem dX6_on_2 : decode bX6_on 2 = .ok (.bipush 10, 2) ∧ 2 + 2 = 4 := by decide +kernel
theorem dX6_on_4 : decode bX6_on 4 = .ok (.isub, 1) ∧ 4 + 1 = 5 := by decide +kernel
theorem dX6_on_5 : decode bX6_on 5 = .ok (.invokevirtual 91, 3) ∧ 5 + 3 = 8 := by decide +kernel
theorem dX6_on_8 : decode bX6_on 8 = .ok (.ifCond .ne 14, 3) ∧ 8 + 3 = 11 ∧ ((8 : Nat) : Int) + (14) = ((22 : Nat) : Int) := by decide +kernel
theorem dX6_on_11 : decode bX6_on 11 = .ok (.aload_n 0, 1) ∧ 11 + 1 = 12 := by decide +kernel
theorem dX6_on_12 : decode bX6_on 12 = .ok (.iload_n 2, 1) ∧ 12 + 1 = 13 := by decide +kernel
theorem dX6_on_13 : decode bX6_on 13 = .ok (.bipush 20, 2) ∧ 13 + 2 = 15 := by decide +kernel
theorem dX6_on_15 : decode bX6_on 15 = .ok (.isub, 1) ∧ 15 + 1 = 16 := by decide +kernel
theorem dX6_on_16 : decode bX6_on 16 = .ok (.invokevirtual 91, 3) ∧ 16 + 3 = 19 := by decide +kernel
theorem dX6_on_19 : decode bX6_on 19 = .ok (.ifCond .eq 7, 3) ∧ 19 + 3 = 22 ∧ ((19 : Nat) : Int) + (7) = ((26 : Nat) : Int) := by decide +kernel
theorem dX6_on_22 : decode bX6_on 22 = .ok (.iconst 1, 1) ∧ 22 + 1 = 23 := by decide +kernel
theorem dX6_on_23 : decode bX6_on 23 = .ok (.goto 4, 3) ∧ ((23 : Nat) : Int) + (4) = ((27 : Nat) : Int) := by decide +kernel
theorem dX6_on_26 : decode bX6_on 26 = .ok (.iconst 0, 1) ∧ 26 + 1 = 27 := by decide +kernel
theorem dX6_on_27 : decode bX6_on 27 = .ok (.istore_n 3, 1) ∧ 27 + 1 = 28 := by decide +kernel
theorem dX6_on_28 : decode bX6_on 28 = .ok (.iload_n 2, 1) ∧ 28 + 1 = 29 := by decide +kernel
theorem dX6_on_29 : decode bX6_on 29 = .ok (.iconst 0, 1) ∧ 29 + 1 = 30 := by decide +kernel
theorem dX6_on_30 : decode bX6_on 30 = .ok (.iconst 2, 1) ∧ 30 + 1 = 31 := by decide +kernel
theorem dX6_on_31 : decode bX6_on 31 = .ok (.invokestatic 80, 3) ∧ 31 + 3 = 34 := by decide +kernel
theorem dX6_on_34 : decode bX6_on 34 = .ok (.ifCond .ne 9, 3) ∧ 34 + 3 = 37 ∧ ((34 : Nat) : Int) + (9) = ((43 : Nat) : Int) := by decide +kernel
theorem dX6_on_37 : decode bX6_on 37 = .ok (.iload_n 3, 1) ∧ 37 + 1 = 38 := by decide +kernel
theorem dX6_on_38 : decode bX6_on 38 = .ok (.ifCond .ne 5, 3) ∧ 38 + 3 = 41 ∧ ((38 : Nat) : Int) + (5) = ((43 : Nat) : Int) := by decide +kernel
theorem dX6_on_41 : decode bX6_on 41 = .ok (.iconst (-1), 1) ∧ 41 + 1 = 42 := by decide +kernel
theorem dX6_on_42 : decode bX6_on 42 = .ok (.ireturn, 1) := by decide +kernel
theorem dX6_on_43 : decode bX6_on 43 = .ok (.iload_n 1, 1) ∧ 43 + 1 = 44 := by decide +kernel
theorem dX6_on_44 : decode bX6_on 44 = .ok (.invokestatic 185, 3) ∧ 44 + 3 = 47 := by decide +kernel
theorem dX6_on_47 : decode bX6_on 47 = .ok (.ifCond .ne 6, 3) ∧ 47 + 3 = 50 ∧ ((47 : Nat) : Int) + (6) = ((53 : Nat) : Int) := by decide +kernel
theorem dX6_on_50 : decode bX6_on 50 = .ok (.bipush (-2), 2) ∧ 50 + 2 = 52 := by decide +kernel
theorem dX6_on_52 : decode bX6_on 52 = .ok (.ireturn, 1) := by decide +kernel
theorem dX6_on_53 : decode bX6_on 53 = .ok (.aload_n 0, 1) ∧ 53 + 1 = 54 := by decide +kernel
theorem dX6_on_54 : decode bX6_on 54 = .ok (.invokevirtual 192, 3) ∧ 54 + 3 = 57 := by decide +kernel
theorem dX6_on_57 : decode bX6_on 57 = .ok (.aload_n 0, 1) ∧ 57 + 1 = 58 := by decide +kernel
theorem dX6_on_58 : decode bX6_on 58 = .ok (.iload_n 1, 1) ∧ 58 + 1 = 59 := by decide +kernel
theorem dX6_on_59 : decode bX6_on 59 = .ok (.invokevirtual 195, 3) ∧ 59 + 3 = 62 := by decide +kernel
theorem dX6_on_62 : decode bX6_on 62 = .ok (.iload_n 2, 1) ∧ 62 + 1 = 63 := by decide +kernel
theorem dX6_on_63 : decode bX6_on 63 = .ok (.tableswitch 49 0 2 #[25, 33, 41], 25) := by decide +kernel
theorem dX6_on_88 : decode bX6_on 88 = .ok (.aload_n 0, 1) ∧ 88 + 1 = 89 := by decide +kernel
theorem dX6_on_89 : decode bX6_on 89 = .ok (.getfield 18, 3) ∧ 89 + 3 = 92 := by decide +kernel
theorem dX6_on_92 : decode bX6_on 92 = .ok (.getfield 148, 3) ∧ 92 + 3 = 95 := by decide +kernel
theorem dX6_on_95 : decode bX6_on 95 = .ok (.ireturn, 1) := by decide +kernel
theorem dX6_on_96 : decode bX6_on 96 = .ok (.aload_n 0, 1) ∧ 96 + 1 = 97 := by decide +kernel
theorem dX6_on_97 : decode bX6_on 97 = .ok (.getfield 18, 3) ∧ 97 + 3 = 100 := by decide +kernel
theorem dX6_on_100 : decode bX6_on 100 = .ok (.getfield 198, 3) ∧ 100 + 3 = 103 := by decide +kernel
theorem dX6_on_103 : decode bX6_on 103 = .ok (.ireturn, 1) := by decide +kernel
theorem dX6_on_104 : decode bX6_on 104 = .ok (.aload_n 0, 1) ∧ 104 + 1 = 105 := by decide +kernel
theorem dX6_on_105 : decode bX6_on 105 = .ok (.getfield 18, 3) ∧ 105 + 3 = 108 := by decide +kernel
theorem dX6_on_108 : decode bX6_on 108 = .ok (.invokevirtual 181, 3) ∧ 108 + 3 = 111 := by decide +kernel
theorem dX6_on_111 : decode bX6_on 111 = .ok (.ireturn, 1) := by decide +kernel
theorem dX6_on_112 : decode bX6_on 112 = .ok (.aload_n 0, 1) ∧ 112 + 1 = 113 := by decide +kernel
theorem dX6_on_113 : decode bX6_on 113 = .ok (.iload_n 2, 1) ∧ 113 + 1 = 114 := by decide +kernel
theorem dX6_on_114 : decode bX6_on 114 = .ok (.bipush 10, 2) ∧ 114 + 2 = 116 := by decide +kernel
theorem dX6_on_116 : decode bX6_on 116 = .ok (.isub, 1) ∧ 116 + 1 = 117 := by decide +kernel
theorem dX6_on_117 : decode bX6_on 117 = .ok (.invokevirtual 91, 3) ∧ 117 + 3 = 120 := by decide +kernel
theorem dX6_on_120 : decode bX6_on 120 = .ok (.ifCond .eq 18, 3) ∧ 120 + 3 = 123 ∧ ((120 : Nat) : Int) + (18) = ((138 : Nat) : Int) := by decide +kernel
theorem dX6_on_123 : decode bX6_on 123 = .ok (.aload_n 0, 1) ∧ 123 + 1 = 124 := by decide +kernel
theorem dX6_on_124 : decode bX6_on 124 = .ok (.getfield 18, 3) ∧ 124 + 3 = 127 := by decide +kernel
theorem dX6_on_127 : decode bX6_on 127 = .ok (.getfield 108, 3) ∧ 127 + 3 = 130 := by decide +kernel
theorem dX6_on_130 : decode bX6_on 130 = .ok (.iload_n 2, 1) ∧ 130 + 1 = 131 := by decide +kernel
theorem dX6_on_131 : decode bX6_on 131 = .ok (.bipush 10, 2) ∧ 131 + 2 = 133 := by decide +kernel
theorem dX6_on_133 : decode bX6_on 133 = .ok (.isub, 1) ∧ 133 + 1 = 134 := by decide +kernel
theorem dX6_on_134 : decode bX6_on 134 = .ok (.iaload, 1) ∧ 134 + 1 = 135 := by decide +kernel
theorem dX6_on_135 : decode bX6_on 135 = .ok (.goto 15, 3) ∧ ((135 : Nat) : Int) + (15) = ((150 : Nat) : Int) := by decide +kernel
theorem dX6_on_138 : decode bX6_on 138 = .ok (.aload_n 0, 1) ∧ 138 + 1 = 139 := by decide +kernel
theorem dX6_on_139 : decode bX6_on 139 = .ok (.getfield 18, 3) ∧ 139 + 3 = 142 := by decide +kernel
theorem dX6_on_142 : decode bX6_on 142 = .ok (.getfield 114, 3) ∧ 142 + 3 = 145 := by decide +kernel
theorem dX6_on_145 : decode bX6_on 145 = .ok (.iload_n 2, 1) ∧ 145 + 1 = 146 := by decide +kernel
theorem dX6_on_146 : decode bX6_on 146 = .ok (.bipush 20, 2) ∧ 146 + 2 = 148 := by decide +kernel
theorem dX6_on_148 : decode bX6_on 148 = .ok (.isub, 1) ∧ 148 + 1 = 149 := by decide +kernel
theorem dX6_on_149 : decode bX6_on 149 = .ok (.iaload, 1) ∧ 149 + 1 = 150 := by decide +kernel
theorem dX6_on_150 : decode bX6_on 150 = .ok (.ireturn, 1) := by decide +kernel
theorem dX6_lowest_0 : decode bX6_lowest 0 = .ok (.iload_n 2, 1) ∧ 0 + 1 = 1 := by decide +kernel
theorem dX6_lowest_1 : decode bX6_lowest 1 = .ok (.iconst 0, 1) ∧ 1 + 1 = 2 := by decide +kernel
theorem dX6_lowest_2 : decode bX6_lowest 2 = .ok (.iconst 1, 1) ∧ 2 + 1 = 3 := by decide +kernel
theorem dX6_lowest_3 : decode bX6_lowest 3 = .ok (.invokestatic 80, 3) ∧ 3 + 3 = 6 := by decide +kernel
theorem dX6_lowest_6 : decode bX6_lowest 6 = .ok (.ifCond .ne 5, 3) ∧ 6 + 3 = 9 ∧ ((6 : Nat) : Int) + (5) = ((11 : Nat) : Int) := by decide +kernel
theorem dX6_lowest_9 : decode bX6_lowest 9 = .ok (.iconst (-1), 1) ∧ 9 + 1 = 10 := by decide +kernel
theorem dX6_lowest_10 : decode bX6_lowest 10 = .ok (.ireturn, 1) := by decide +kernel
theorem dX6_lowest_11 : decode bX6_lowest 11 = .ok (.iload_n 1, 1) ∧ 11 + 1 = 12 := by decide +kernel
theorem dX6_lowest_12 : decode bX6_lowest 12 = .ok (.invokestatic 185, 3) ∧ 12 + 3 = 15 := by decide +kernel
theorem dX6_lowest_15 : decode bX6_lowest 15 = .ok (.ifCond .ne 6, 3) ∧ 15 + 3 = 18 ∧ ((15 : Nat) : Int) + (6) = ((21 : Nat) : Int) := by decide +kernel
theorem dX6_lowest_18 : decode bX6_lowest 18 = .ok (.bipush (-2), 2) ∧ 18 + 2 = 20 := by decide +kernel
theorem dX6_lowest_20 : decode bX6_lowest 20 = .ok (.ireturn, 1) := by decide +kernel
theorem dX6_lowest_21 : decode bX6_lowest 21 = .ok (.aload_n 0, 1) ∧ 21 + 1 = 22 := by decide +kernel
theorem dX6_lowest_22 : decode bX6_lowest 22 = .ok (.invokevirtual 192, 3) ∧ 22 + 3 = 25 := by decide +kernel
theorem dX6_lowest_25 : decode bX6_lowest 25 = .ok (.aload_n 0, 1) ∧ 25 + 1 = 26 := by decide +kernel
theorem dX6_lowest_26 : decode bX6_lowest 26 = .ok (.getfield 18, 3) ∧ 26 + 3 = 29 := by decide +kernel
theorem dX6_lowest_29 : decode bX6_lowest 29 = .ok (.getfield 148, 3) ∧ 29 + 3 = 32 := by decide +kernel
theorem dX6_lowest_32 : decode bX6_lowest 32 = .ok (.istore_n 3, 1) ∧ 32 + 1 = 33 := by decide +kernel
theorem dX6_lowest_33 : decode bX6_lowest 33 = .ok (.iconst 0, 1) ∧ 33 + 1 = 34 := by decide +kernel
theorem dX6_lowest_34 : decode bX6_lowest 34 = .ok (.istore 4, 2) ∧ 34 + 2 = 36 := by decide +kernel
theorem dX6_lowest_36 : decode bX6_lowest 36 = .ok (.iconst 1, 1) ∧ 36 + 1 = 37 := by decide +kernel
theorem dX6_lowest_37 : decode bX6_lowest 37 = .ok (.istore 5, 2) ∧ 37 + 2 = 39 := by decide +kernel
theorem dX6_lowest_39 : decode bX6_lowest 39 = .ok (.iload 5, 2) ∧ 39 + 2 = 41 := by decide +kernel
theorem dX6_lowest_41 : decode bX6_lowest 41 = .ok (.iload_n 1, 1) ∧ 41 + 1 = 42 := by decide +kernel
theorem dX6_lowest_42 : decode bX6_lowest 42 = .ok (.if_icmp .gt 37, 3) ∧ 42 + 3 = 45 ∧ ((42 : Nat) : Int) + (37) = ((79 : Nat) : Int) := by decide +kernel
theorem dX6_lowest_45 : decode bX6_lowest 45 = .ok (.aload_n 0, 1) ∧ 45 + 1 = 46 := by decide +kernel
theorem dX6_lowest_46 : decode bX6_lowest 46 = .ok (.iconst 1, 1) ∧ 46 + 1 = 47 := by decide +kernel
theorem dX6_lowest_47 : decode bX6_lowest 47 = .ok (.invokevirtual 195, 3) ∧ 47 + 3 = 50 := by decide +kernel
theorem dX6_lowest_50 : decode bX6_lowest 50 = .ok (.aload_n 0, 1) ∧ 50 + 1 = 51 := by decide +kernel
theorem dX6_lowest_51 : decode bX6_lowest 51 = .ok (.getfield 18, 3) ∧ 51 + 3 = 54 := by decide +kernel
theorem dX6_lowest_54 : decode bX6_lowest 54 = .ok (.getfield 148, 3) ∧ 54 + 3 = 57 := by decide +kernel
theorem dX6_lowest_57 : decode bX6_lowest 57 = .ok (.iload_n 3, 1) ∧ 57 + 1 = 58 := by decide +kernel
theorem dX6_lowest_58 : decode bX6_lowest 58 = .ok (.if_icmp .ge 15, 3) ∧ 58 + 3 = 61 ∧ ((58 : Nat) : Int) + (15) = ((73 : Nat) : Int) := by decide +kernel
theorem dX6_lowest_61 : decode bX6_lowest 61 = .ok (.aload_n 0, 1) ∧ 61 + 1 = 62 := by decide +kernel
theorem dX6_lowest_62 : decode bX6_lowest 62 = .ok (.getfield 18, 3) ∧ 62 + 3 = 65 := by decide +kernel
theorem dX6_lowest_65 : decode bX6_lowest 65 = .ok (.getfield 148, 3) ∧ 65 + 3 = 68 := by decide +kernel
theorem dX6_lowest_68 : decode bX6_lowest 68 = .ok (.istore_n 3, 1) ∧ 68 + 1 = 69 := by decide +kernel
theorem dX6_lowest_69 : decode bX6_lowest 69 = .ok (.iload 5, 2) ∧ 69 + 2 = 71 := by decide +kernel
theorem dX6_lowest_71 : decode bX6_lowest 71 = .ok (.istore 4, 2) ∧ 71 + 2 = 73 := by decide +kernel
theorem dX6_lowest_73 : decode bX6_lowest 73 = .ok (.iinc 5 1, 3) ∧ 73 + 3 = 76 := by decide +kernel
theorem dX6_lowest_76 : decode bX6_lowest 76 = .ok (.goto (-37), 3) ∧ ((76 : Nat) : Int) + (-37) = ((39 : Nat) : Int) := by decide +kernel
theorem dX6_lowest_79 : decode bX6_lowest 79 = .ok (.iload_n 2, 1) ∧ 79 + 1 = 80 := by decide +kernel
theorem dX6_lowest_80 : decode bX6_lowest 80 = .ok (.ifCond .ne 7, 3) ∧ 80 + 3 = 83 ∧ ((80 : Nat) : Int) + (7) = ((87 : Nat) : Int) := by decide +kernel
theorem dX6_lowest_83 : decode bX6_lowest 83 = .ok (.iload_n 3, 1) ∧ 83 + 1 = 84 := by decide +kernel
theorem dX6_lowest_84 : decode bX6_lowest 84 = .ok (.goto 5, 3) ∧ ((84 : Nat) : Int) + (5) = ((89 : Nat) : Int) := by decide +kernel
theorem dX6_lowest_87 : decode bX6_lowest 87 = .ok (.iload 4, 2) ∧ 87 + 2 = 89 := by decide +kernel
theorem dX6_lowest_89 : decode bX6_lowest 89 = .ok (.ireturn, 1) := by decide +kernel
theorem dX6_first_0 : decode bX6_first 0 = .ok (.aload_n 0, 1) ∧ 0 + 1 = 1 := by decide +kernel
theorem dX6_first_1 : decode bX6_first 1 = .ok (.invokevirtual 192, 3) ∧ 1 + 3 = 4 := by decide +kernel
theorem dX6_first_4 : decode bX6_first 4 = .ok (.iconst 0, 1) ∧ 4 + 1 = 5 := by decide +kernel
theorem dX6_first_5 : decode bX6_first 5 = .ok (.istore_n 1, 1) ∧ 5 + 1 = 6 := by decide +kernel
theorem dX6_first_6 : decode bX6_first 6 = .ok (.iload_n 1, 1) ∧ 6 + 1 = 7 := by decide +kernel
theorem dX6_first_7 : decode bX6_first 7 = .ok (.bipush 60, 2) ∧ 7 + 2 = 9 := by decide +kernel
theorem dX6_first_9 : decode bX6_first 9 = .ok (.if_icmp .gt 26, 3) ∧ 9 + 3 = 12 ∧ ((9 : Nat) : Int) + (26) = ((35 : Nat) : Int) := by decide +kernel
theorem dX6_first_12 : decode bX6_first 12 = .ok (.aload_n 0, 1) ∧ 12 + 1 = 13 := by decide +kernel
theorem dX6_first_13 : decode bX6_first 13 = .ok (.iconst 1, 1) ∧ 13 + 1 = 14 := by decide +kernel
theorem dX6_first_14 : decode bX6_first 14 = .ok (.invokevirtual 195, 3) ∧ 14 + 3 = 17 := by decide +kernel
theorem dX6_first_17 : decode bX6_first 17 = .ok (.aload_n 0, 1) ∧ 17 + 1 = 18 := by decide +kernel
theorem dX6_first_18 : decode bX6_first 18 = .ok (.getfield 18, 3) ∧ 18 + 3 = 21 := by decide +kernel
theorem dX6_first_21 : decode bX6_first 21 = .ok (.getfield 198, 3) ∧ 21 + 3 = 24 := by decide +kernel
theorem dX6_first_24 : decode bX6_first 24 = .ok (.ifCond .le 5, 3) ∧ 24 + 3 = 27 ∧ ((24 : Nat) : Int) + (5) = ((29 : Nat) : Int) := by decide +kernel
theorem dX6_first_27 : decode bX6_first 27 = .ok (.iload_n 1, 1) ∧ 27 + 1 = 28 := by decide +kernel
theorem dX6_first_28 : decode bX6_first 28 = .ok (.ireturn, 1) := by decide +kernel
theorem dX6_first_29 : decode bX6_first 29 = .ok (.iinc 1 1, 3) ∧ 29 + 3 = 32 := by decide +kernel
theorem dX6_first_32 : decode bX6_first 32 = .ok (.goto (-26), 3) ∧ ((32 : Nat) : Int) + (-26) = ((6 : Nat) : Int) := by decide +kernel
theorem dX6_first_35 : decode bX6_first 35 = .ok (.bipush (-5), 2) ∧ 35 + 2 = 37 := by decide +kernel
theorem dX6_first_37 : decode bX6_first 37 = .ok (.ireturn, 1) := by decide +kernel
theorem dX6_best_0 : decode bX6_best 0 = .ok (.iload_n 1, 1) ∧ 0 + 1 = 1 := by decide +kernel
theorem dX6_best_1 : decode bX6_best 1 = .ok (.tableswitch 51 0 3 #[31, 36, 41, 46], 31) := by decide +kernel
theorem dX6_best_32 : decode bX6_best 32 = .ok (.aload_n 0, 1) ∧ 32 + 1 = 33 := by decide +kernel
theorem dX6_best_33 : decode bX6_best 33 = .ok (.invokevirtual 201, 3) ∧ 33 + 3 = 36 := by decide +kernel
theorem dX6_best_36 : decode bX6_best 36 = .ok (.ireturn, 1) := by decide +kernel
theorem dX6_best_37 : decode bX6_best 37 = .ok (.aload_n 0, 1) ∧ 37 + 1 = 38 := by decide +kernel
theorem dX6_best_38 : decode bX6_best 38 = .ok (.invokevirtual 204, 3) ∧ 38 + 3 = 41 := by decide +kernel
theorem dX6_best_41 : decode bX6_best 41 = .ok (.ireturn, 1) := by decide +kernel
theorem dX6_best_42 : decode bX6_best 42 = .ok (.aload_n 0, 1) ∧ 42 + 1 = 43 := by decide +kernel
theorem dX6_best_43 : decode bX6_best 43 = .ok (.invokevirtual 207, 3) ∧ 43 + 3 = 46 := by decide +kernel
theorem dX6_best_46 : decode bX6_best 46 = .ok (.ireturn, 1) := by decide +kernel
theorem dX6_best_47 : decode bX6_best 47 = .ok (.aload_n 0, 1) ∧ 47 + 1 = 48 := by decide +kernel
theorem dX6_best_48 : decode bX6_best 48 = .ok (.invokevirtual 210, 3) ∧ 48 + 3 = 51 := by decide +kernel
theorem dX6_best_51 : decode bX6_best 51 = .ok (.ireturn, 1) := by decide +kernel
theorem dX6_best_52 : decode bX6_best 52 = .ok (.iconst (-1), 1) ∧ 52 + 1 = 53 := by decide +kernel
theorem dX6_best_53 : decode bX6_best 53 = .ok (.ireturn, 1) := by decide +kernel
theorem dX6_seldom_0 : decode bX6_seldom 0 = .ok (.aload_n 0, 1) ∧ 0 + 1 = 1 := by decide +kernel
theorem dX6_seldom_1 : decode bX6_seldom 1 = .ok (.iload_n 1, 1) ∧ 1 + 1 = 2 := by decide +kernel
theorem dX6_seldom_2 : decode bX6_seldom 2 = .ok (.invokevirtual 91, 3) ∧ 2 + 3 = 5 := by decide +kernel
theorem dX6_seldom_5 : decode bX6_seldom 5 = .ok (.ifCond .ne 5, 3) ∧ 5 + 3 = 8 ∧ ((5 : Nat) : Int) + (5) = ((10 : Nat) : Int) := by decide +kernel
theorem dX6_seldom_8 : decode bX6_seldom 8 = .ok (.iconst (-1), 1) ∧ 8 + 1 = 9 := by decide +kernel
theorem dX6_seldom_9 : decode bX6_seldom 9 = .ok (.ireturn, 1) := by decide +kernel
theorem dX6_seldom_10 : decode bX6_seldom 10 = .ok (.bipush (-5), 2) ∧ 10 + 2 = 12 := by decide +kernel
theorem dX6_seldom_12 : decode bX6_seldom 12 = .ok (.istore_n 2, 1) ∧ 12 + 1 = 13 := by decide +kernel
theorem dX6_seldom_13 : decode bX6_seldom 13 = .ok (.iconst 0, 1) ∧ 13 + 1 = 14 := by decide +kernel
theorem dX6_seldom_14 : decode bX6_seldom 14 = .ok (.istore_n 3, 1) ∧ 14 + 1 = 15 := by decide +kernel
theorem dX6_seldom_15 : decode bX6_seldom 15 = .ok (.iconst 1, 1) ∧ 15 + 1 = 16 := by decide +kernel
theorem dX6_seldom_16 : decode bX6_seldom 16 = .ok (.istore 4, 2) ∧ 16 + 2 = 18 := by decide +kernel
theorem dX6_seldom_18 : decode bX6_seldom 18 = .ok (.iload 4, 2) ∧ 18 + 2 = 20 := by decide +kernel
theorem dX6_seldom_20 : decode bX6_seldom 20 = .ok (.bipush 20, 2) ∧ 20 + 2 = 22 := by decide +kernel
theorem dX6_seldom_22 : decode bX6_seldom 22 = .ok (.if_icmp .gt 55, 3) ∧ 22 + 3 = 25 ∧ ((22 : Nat) : Int) + (55) = ((77 : Nat) : Int) := by decide +kernel
theorem dX6_seldom_25 : decode bX6_seldom 25 = .ok (.aload_n 0, 1) ∧ 25 + 1 = 26 := by decide +kernel
theorem dX6_seldom_26 : decode bX6_seldom 26 = .ok (.invokevirtual 192, 3) ∧ 26 + 3 = 29 := by decide +kernel
theorem dX6_seldom_29 : decode bX6_seldom 29 = .ok (.aload_n 0, 1) ∧ 29 + 1 = 30 := by decide +kernel
theorem dX6_seldom_30 : decode bX6_seldom 30 = .ok (.getfield 18, 3) ∧ 30 + 3 = 33 := by decide +kernel
theorem dX6_seldom_33 : decode bX6_seldom 33 = .ok (.getfield 105, 3) ∧ 33 + 3 = 36 := by decide +kernel
theorem dX6_seldom_36 : decode bX6_seldom 36 = .ok (.iload_n 1, 1) ∧ 36 + 1 = 37 := by decide +kernel
theorem dX6_seldom_37 : decode bX6_seldom 37 = .ok (.iload 4, 2) ∧ 37 + 2 = 39 := by decide +kernel
theorem dX6_seldom_39 : decode bX6_seldom 39 = .ok (.iastore, 1) ∧ 39 + 1 = 40 := by decide +kernel
theorem dX6_seldom_40 : decode bX6_seldom 40 = .ok (.aload_n 0, 1) ∧ 40 + 1 = 41 := by decide +kernel
theorem dX6_seldom_41 : decode bX6_seldom 41 = .ok (.aload_n 0, 1) ∧ 41 + 1 = 42 := by decide +kernel
theorem dX6_seldom_42 : decode bX6_seldom 42 = .ok (.invokevirtual 120, 3) ∧ 42 + 3 = 45 := by decide +kernel
theorem dX6_seldom_45 : decode bX6_seldom 45 = .ok (.getfield 128, 3) ∧ 45 + 3 = 48 := by decide +kernel
theorem dX6_seldom_48 : decode bX6_seldom 48 = .ok (.invokevirtual 213, 3) ∧ 48 + 3 = 51 := by decide +kernel
theorem dX6_seldom_51 : decode bX6_seldom 51 = .ok (.istore 5, 2) ∧ 51 + 2 = 53 := by decide +kernel
theorem dX6_seldom_53 : decode bX6_seldom 53 = .ok (.iload_n 2, 1) ∧ 53 + 1 = 54 := by decide +kernel
theorem dX6_seldom_54 : decode bX6_seldom 54 = .ok (.bipush (-5), 2) ∧ 54 + 2 = 56 := by decide +kernel
theorem dX6_seldom_56 : decode bX6_seldom 56 = .ok (.if_icmp .eq 9, 3) ∧ 56 + 3 = 59 ∧ ((56 : Nat) : Int) + (9) = ((65 : Nat) : Int) := by decide +kernel
theorem dX6_seldom_59 : decode bX6_seldom 59 = .ok (.iload 5, 2) ∧ 59 + 2 = 61 := by decide +kernel
theorem dX6_seldom_61 : decode bX6_seldom 61 = .ok (.iload_n 3, 1) ∧ 61 + 1 = 62 := by decide +kernel
theorem dX6_seldom_62 : decode bX6_seldom 62 = .ok (.if_icmp .ge 9, 3) ∧ 62 + 3 = 65 ∧ ((62 : Nat) : Int) + (9) = ((71 : Nat) : Int) := by decide +kernel
theorem dX6_seldom_65 : decode bX6_seldom 65 = .ok (.iload 5, 2) ∧ 65 + 2 = 67 := by decide +kernel
theorem dX6_seldom_67 : decode bX6_seldom 67 = .ok (.istore_n 3, 1) ∧ 67 + 1 = 68 := by decide +kernel
theorem dX6_seldom_68 : decode bX6_seldom 68 = .ok (.iload 4, 2) ∧ 68 + 2 = 70 := by decide +kernel
theorem dX6_seldom_70 : decode bX6_seldom 70 = .ok (.istore_n 2, 1) ∧ 70 + 1 = 71 := by decide +kernel
theorem dX6_seldom_71 : decode bX6_seldom 71 = .ok (.iinc 4 1, 3) ∧ 71 + 3 = 74 := by decide +kernel
theorem dX6_seldom_74 : decode bX6_seldom 74 = .ok (.goto (-56), 3) ∧ ((74 : Nat) : Int) + (-56) = ((18 : Nat) : Int) := by decide +kernel
theorem dX6_seldom_77 : decode bX6_seldom 77 = .ok (.iload_n 2, 1) ∧ 77 + 1 = 78 := by decide +kernel
theorem dX6_seldom_78 : decode bX6_seldom 78 = .ok (.ireturn, 1) := by decide +kernel
theorem dX6_more_0 : decode bX6_more 0 = .ok (.iload_n 1, 1) ∧ 0 + 1 = 1 := by decide +kernel
theorem dX6_more_1 : decode bX6_more 1 = .ok (.iconst 1, 1) ∧ 1 + 1 = 2 := by decide +kernel
theorem dX6_more_2 : decode bX6_more 2 = .ok (.bipush 12, 2) ∧ 2 + 2 = 4 := by decide +kernel
theorem dX6_more_4 : decode bX6_more 4 = .ok (.invokestatic 80, 3) ∧ 4 + 3 = 7 := by decide +kernel
theorem dX6_more_7 : decode bX6_more 7 = .ok (.ifCond .ne 6, 3) ∧ 7 + 3 = 10 ∧ ((7 : Nat) : Int) + (6) = ((13 : Nat) : Int) := by decide +kernel
theorem dX6_more_10 : decode bX6_more 10 = .ok (.bipush (-2), 2) ∧ 10 + 2 = 12 := by decide +kernel
theorem dX6_more_12 : decode bX6_more 12 = .ok (.ireturn, 1) := by decide +kernel
theorem dX6_more_13 : decode bX6_more 13 = .ok (.iconst 0, 1) ∧ 13 + 1 = 14 := by decide +kernel
theorem dX6_more_14 : decode bX6_more 14 = .ok (.istore_n 2, 1) ∧ 14 + 1 = 15 := by decide +kernel
theorem dX6_more_15 : decode bX6_more 15 = .ok (.iload_n 2, 1) ∧ 15 + 1 = 16 := by decide +kernel
theorem dX6_more_16 : decode bX6_more 16 = .ok (.sipush 990, 3) ∧ 16 + 3 = 19 := by decide +kernel
theorem dX6_more_19 : decode bX6_more 19 = .ok (.if_icmp .gt 33, 3) ∧ 19 + 3 = 22 ∧ ((19 : Nat) : Int) + (33) = ((52 : Nat) : Int) := by decide +kernel
theorem dX6_more_22 : decode bX6_more 22 = .ok (.aload_n 0, 1) ∧ 22 + 1 = 23 := by decide +kernel
theorem dX6_more_23 : decode bX6_more 23 = .ok (.invokevirtual 192, 3) ∧ 23 + 3 = 26 := by decide +kernel
theorem dX6_more_26 : decode bX6_more 26 = .ok (.aload_n 0, 1) ∧ 26 + 1 = 27 := by decide +kernel
theorem dX6_more_27 : decode bX6_more 27 = .ok (.getfield 18, 3) ∧ 27 + 3 = 30 := by decide +kernel
theorem dX6_more_30 : decode bX6_more 30 = .ok (.iload_n 2, 1) ∧ 30 + 1 = 31 := by decide +kernel
theorem dX6_more_31 : decode bX6_more 31 = .ok (.invokevirtual 216, 3) ∧ 31 + 3 = 34 := by decide +kernel
theorem dX6_more_34 : decode bX6_more 34 = .ok (.aload_n 0, 1) ∧ 34 + 1 = 35 := by decide +kernel
theorem dX6_more_35 : decode bX6_more 35 = .ok (.iload_n 1, 1) ∧ 35 + 1 = 36 := by decide +kernel
theorem dX6_more_36 : decode bX6_more 36 = .ok (.bipush (-5), 2) ∧ 36 + 2 = 38 := by decide +kernel
theorem dX6_more_38 : decode bX6_more 38 = .ok (.invokevirtual 219, 3) ∧ 38 + 3 = 41 := by decide +kernel
theorem dX6_more_41 : decode bX6_more 41 = .ok (.ifCond .eq 5, 3) ∧ 41 + 3 = 44 ∧ ((41 : Nat) : Int) + (5) = ((46 : Nat) : Int) := by decide +kernel
theorem dX6_more_44 : decode bX6_more 44 = .ok (.iload_n 2, 1) ∧ 44 + 1 = 45 := by decide +kernel
theorem dX6_more_45 : decode bX6_more 45 = .ok (.ireturn, 1) := by decide +kernel
theorem dX6_more_46 : decode bX6_more 46 = .ok (.iinc 2 10, 3) ∧ 46 + 3 = 49 := by decide +kernel
theorem dX6_more_49 : decode bX6_more 49 = .ok (.goto (-34), 3) ∧ ((49 : Nat) : Int) + (-34) = ((15 : Nat) : Int) := by decide +kernel
theorem dX6_more_52 : decode bX6_more 52 = .ok (.bipush (-5), 2) ∧ 52 + 2 = 54 := by decide +kernel
theorem dX6_more_54 : decode bX6_more 54 = .ok (.ireturn, 1) := by decide +kernel
theorem dX6_see_0 : decode bX6_see 0 = .ok (.iload_n 1, 1) ∧ 0 + 1 = 1 := by decide +kernel
theorem dX6_see_1 : decode bX6_see 1 = .ok (.iconst (-1), 1) ∧ 1 + 1 = 2 := by decide +kernel
theorem dX6_see_2 : decode bX6_see 2 = .ok (.if_icmp .ne 13, 3) ∧ 2 + 3 = 5 ∧ ((2 : Nat) : Int) + (13) = ((15 : Nat) : Int) := by decide +kernel
theorem dX6_see_5 : decode bX6_see 5 = .ok (.aload_n 0, 1) ∧ 5 + 1 = 6 := by decide +kernel
theorem dX6_see_6 : decode bX6_see 6 = .ok (.getfield 27, 3) ∧ 6 + 3 = 9 := by decide +kernel
theorem dX6_see_9 : decode bX6_see 9 = .ok (.iconst 0, 1) ∧ 9 + 1 = 10 := by decide +kernel
theorem dX6_see_10 : decode bX6_see 10 = .ok (.putfield 223, 3) ∧ 10 + 3 = 13 := by decide +kernel
theorem dX6_see_13 : decode bX6_see 13 = .ok (.iconst 0, 1) ∧ 13 + 1 = 14 := by decide +kernel
theorem dX6_see_14 : decode bX6_see 14 = .ok (.ireturn, 1) := by decide +kernel
theorem dX6_see_15 : decode bX6_see 15 = .ok (.iload_n 1, 1) ∧ 15 + 1 = 16 := by decide +kernel
theorem dX6_see_16 : decode bX6_see 16 = .ok (.iconst 0, 1) ∧ 16 + 1 = 17 := by decide +kernel
theorem dX6_see_17 : decode bX6_see 17 = .ok (.sipush 9999, 3) ∧ 17 + 3 = 20 := by decide +kernel
theorem dX6_see_20 : decode bX6_see 20 = .ok (.invokestatic 80, 3) ∧ 20 + 3 = 23 := by decide +kernel
theorem dX6_see_23 : decode bX6_see 23 = .ok (.ifCond .eq 13, 3) ∧ 23 + 3 = 26 ∧ ((23 : Nat) : Int) + (13) = ((36 : Nat) : Int) := by decide +kernel
theorem dX6_see_26 : decode bX6_see 26 = .ok (.iload_n 2, 1) ∧ 26 + 1 = 27 := by decide +kernel
theorem dX6_see_27 : decode bX6_see 27 = .ok (.iconst 0, 1) ∧ 27 + 1 = 28 := by decide +kernel
theorem dX6_see_28 : decode bX6_see 28 = .ok (.bipush 10, 2) ∧ 28 + 2 = 30 := by decide +kernel
theorem dX6_see_30 : decode bX6_see 30 = .ok (.invokestatic 80, 3) ∧ 30 + 3 = 33 := by decide +kernel
theorem dX6_see_33 : decode bX6_see 33 = .ok (.ifCond .ne 6, 3) ∧ 33 + 3 = 36 ∧ ((33 : Nat) : Int) + (6) = ((39 : Nat) : Int) := by decide +kernel
theorem dX6_see_36 : decode bX6_see 36 = .ok (.bipush (-2), 2) ∧ 36 + 2 = 38 := by decide +kernel
theorem dX6_see_38 : decode bX6_see 38 = .ok (.ireturn, 1) := by decide +kernel
theorem dX6_see_39 : decode bX6_see 39 = .ok (.aload_n 0, 1) ∧ 39 + 1 = 40 := by decide +kernel
theorem dX6_see_40 : decode bX6_see 40 = .ok (.getfield 27, 3) ∧ 40 + 3 = 43 := by decide +kernel
theorem dX6_see_43 : decode bX6_see 43 = .ok (.getfield 223, 3) ∧ 43 + 3 = 46 := by decide +kernel
theorem dX6_see_46 : decode bX6_see 46 = .ok (.iconst 5, 1) ∧ 46 + 1 = 47 := by decide +kernel
theorem dX6_see_47 : decode bX6_see 47 = .ok (.if_icmp .lt 8, 3) ∧ 47 + 3 = 50 ∧ ((47 : Nat) : Int) + (8) = ((55 : Nat) : Int) := by decide +kernel
theorem dX6_see_50 : decode bX6_see 50 = .ok (.bipush (-4), 2) ∧ 50 + 2 = 52 := by decide +kernel
theorem dX6_see_52 : decode bX6_see 52 = .ok (.goto 12, 3) ∧ ((52 : Nat) : Int) + (12) = ((64 : Nat) : Int) := by decide +kernel
theorem dX6_see_55 : decode bX6_see 55 = .ok (.aload_n 0, 1) ∧ 55 + 1 = 56 := by decide +kernel
theorem dX6_see_56 : decode bX6_see 56 = .ok (.getfield 27, 3) ∧ 56 + 3 = 59 := by decide +kernel
theorem dX6_see_59 : decode bX6_see 59 = .ok (.iload_n 1, 1) ∧ 59 + 1 = 60 := by decide +kernel
theorem dX6_see_60 : decode bX6_see 60 = .ok (.iload_n 2, 1) ∧ 60 + 1 = 61 := by decide +kernel
theorem dX6_see_61 : decode bX6_see 61 = .ok (.invokevirtual 226, 3) ∧ 61 + 3 = 64 := by decide +kernel
theorem dX6_see_64 : decode bX6_see 64 = .ok (.ireturn, 1) := by decide +kernel
theorem dX6_wanted_0 : decode bX6_wanted 0 = .ok (.aload_n 0, 1) ∧ 0 + 1 = 1 := by decide +kernel
theorem dX6_wanted_1 : decode bX6_wanted 1 = .ok (.iload_n 1, 1) ∧ 1 + 1 = 2 := by decide +kernel
theorem dX6_wanted_2 : decode bX6_wanted 2 = .ok (.invokevirtual 91, 3) ∧ 2 + 3 = 5 := by decide +kernel
theorem dX6_wanted_5 : decode bX6_wanted 5 = .ok (.ifCond .eq 12, 3) ∧ 5 + 3 = 8 ∧ ((5 : Nat) : Int) + (12) = ((17 : Nat) : Int) := by decide +kernel
theorem dX6_wanted_8 : decode bX6_wanted 8 = .ok (.iload_n 2, 1) ∧ 8 + 1 = 9 := by decide +kernel
theorem dX6_wanted_9 : decode bX6_wanted 9 = .ok (.iconst 0, 1) ∧ 9 + 1 = 10 := by decide +kernel
theorem dX6_wanted_10 : decode bX6_wanted 10 = .ok (.iconst 1, 1) ∧ 10 + 1 = 11 := by decide +kernel
theorem dX6_wanted_11 : decode bX6_wanted 11 = .ok (.invokestatic 80, 3) ∧ 11 + 3 = 14 := by decide +kernel
theorem dX6_wanted_14 : decode bX6_wanted 14 = .ok (.ifCond .ne 5, 3) ∧ 14 + 3 = 17 ∧ ((14 : Nat) : Int) + (5) = ((19 : Nat) : Int) := by decide +kernel
theorem dX6_wanted_17 : decode bX6_wanted 17 = .ok (.iconst (-1), 1) ∧ 17 + 1 = 18 := by decide +kernel
theorem dX6_wanted_18 : decode bX6_wanted 18 = .ok (.ireturn, 1) := by decide +kernel
theorem dX6_wanted_19 : decode bX6_wanted 19 = .ok (.iconst 0, 1) ∧ 19 + 1 = 20 := by decide +kernel
theorem dX6_wanted_20 : decode bX6_wanted 20 = .ok (.istore_n 3, 1) ∧ 20 + 1 = 21 := by decide +kernel
theorem dX6_wanted_21 : decode bX6_wanted 21 = .ok (.bipush (-5), 2) ∧ 21 + 2 = 23 := by decide +kernel
theorem dX6_wanted_23 : decode bX6_wanted 23 = .ok (.istore 4, 2) ∧ 23 + 2 = 25 := by decide +kernel
theorem dX6_wanted_25 : decode bX6_wanted 25 = .ok (.bipush 99, 2) ∧ 25 + 2 = 27 := by decide +kernel
theorem dX6_wanted_27 : decode bX6_wanted 27 = .ok (.istore 5, 2) ∧ 27 + 2 = 29 := by decide +kernel
theorem dX6_wanted_29 : decode bX6_wanted 29 = .ok (.iload 5, 2) ∧ 29 + 2 = 31 := by decide +kernel
theorem dX6_wanted_31 : decode bX6_wanted 31 = .ok (.iconst 1, 1) ∧ 31 + 1 = 32 := by decide +kernel
theorem dX6_wanted_32 : decode bX6_wanted 32 = .ok (.if_icmp .lt 38, 3) ∧ 32 + 3 = 35 ∧ ((32 : Nat) : Int) + (38) = ((70 : Nat) : Int) := by decide +kernel
theorem dX6_wanted_35 : decode bX6_wanted 35 = .ok (.aload_n 0, 1) ∧ 35 + 1 = 36 := by decide +kernel
theorem dX6_wanted_36 : decode bX6_wanted 36 = .ok (.invokevirtual 192, 3) ∧ 36 + 3 = 39 := by decide +kernel
theorem dX6_wanted_39 : decode bX6_wanted 39 = .ok (.aload_n 0, 1) ∧ 39 + 1 = 40 := by decide +kernel
theorem dX6_wanted_40 : decode bX6_wanted 40 = .ok (.getfield 18, 3) ∧ 40 + 3 = 43 := by decide +kernel
theorem dX6_wanted_43 : decode bX6_wanted 43 = .ok (.getfield 102, 3) ∧ 43 + 3 = 46 := by decide +kernel
theorem dX6_wanted_46 : decode bX6_wanted 46 = .ok (.iload_n 1, 1) ∧ 46 + 1 = 47 := by decide +kernel
theorem dX6_wanted_47 : decode bX6_wanted 47 = .ok (.iload 5, 2) ∧ 47 + 2 = 49 := by decide +kernel
theorem dX6_wanted_49 : decode bX6_wanted 49 = .ok (.iastore, 1) ∧ 49 + 1 = 50 := by decide +kernel
theorem dX6_wanted_50 : decode bX6_wanted 50 = .ok (.aload_n 0, 1) ∧ 50 + 1 = 51 := by decide +kernel
theorem dX6_wanted_51 : decode bX6_wanted 51 = .ok (.invokevirtual 229, 3) ∧ 51 + 3 = 54 := by decide +kernel
theorem dX6_wanted_54 : decode bX6_wanted 54 = .ok (.ifCond .eq 10, 3) ∧ 54 + 3 = 57 ∧ ((54 : Nat) : Int) + (10) = ((64 : Nat) : Int) := by decide +kernel
theorem dX6_wanted_57 : decode bX6_wanted 57 = .ok (.iinc 3 1, 3) ∧ 57 + 3 = 60 := by decide +kernel
theorem dX6_wanted_60 : decode bX6_wanted 60 = .ok (.iload 5, 2) ∧ 60 + 2 = 62 := by decide +kernel
theorem dX6_wanted_62 : decode bX6_wanted 62 = .ok (.istore 4, 2) ∧ 62 + 2 = 64 := by decide +kernel
theorem dX6_wanted_64 : decode bX6_wanted 64 = .ok (.iinc 5 (-1), 3) ∧ 64 + 3 = 67 := by decide +kernel
theorem dX6_wanted_67 : decode bX6_wanted 67 = .ok (.goto (-38), 3) ∧ ((67 : Nat) : Int) + (-38) = ((29 : Nat) : Int) := by decide +kernel
theorem dX6_wanted_70 : decode bX6_wanted 70 = .ok (.iload_n 2, 1) ∧ 70 + 1 = 71 := by decide +kernel
theorem dX6_wanted_71 : decode bX6_wanted 71 = .ok (.ifCond .ne 7, 3) ∧ 71 + 3 = 74 ∧ ((71 : Nat) : Int) + (7) = ((78 : Nat) : Int) := by decide +kernel
theorem dX6_wanted_74 : decode bX6_wanted 74 = .ok (.iload_n 3, 1) ∧ 74 + 1 = 75 := by decide +kernel
theorem dX6_wanted_75 : decode bX6_wanted 75 = .ok (.goto 5, 3) ∧ ((75 : Nat) : Int) + (5) = ((80 : Nat) : Int) := by decide +kernel
theorem dX6_wanted_78 : decode bX6_wanted 78 = .ok (.iload 4, 2) ∧ 78 + 2 = 80 := by decide +kernel
theorem dX6_wanted_80 : decode bX6_wanted 80 = .ok (.ireturn, 1) := by decide +kernel
theorem dX6_can_0 : decode bX6_can 0 = .ok (.aload_n 0, 1) ∧ 0 + 1 = 1 := by decide +kernel
theorem dX6_can_1 : decode bX6_can 1 = .ok (.iload_n 1, 1) ∧ 1 + 1 = 2 := by decide +kernel
theorem dX6_can_2 : decode bX6_can 2 = .ok (.invokevirtual 91, 3) ∧ 2 + 3 = 5 := by decide +kernel
theorem dX6_can_5 : decode bX6_can 5 = .ok (.ifCond .eq 12, 3) ∧ 5 + 3 = 8 ∧ ((5 : Nat) : Int) + (12) = ((17 : Nat) : Int) := by decide +kernel
theorem dX6_can_8 : decode bX6_can 8 = .ok (.iload_n 2, 1) ∧ 8 + 1 = 9 := by decide +kernel
theorem dX6_can_9 : decode bX6_can 9 = .ok (.iconst 0, 1) ∧ 9 + 1 = 10 := by decide +kernel
theorem dX6_can_10 : decode bX6_can 10 = .ok (.iconst 1, 1) ∧ 10 + 1 = 11 := by decide +kernel
theorem dX6_can_11 : decode bX6_can 11 = .ok (.invokestatic 80, 3) ∧ 11 + 3 = 14 := by decide +kernel
theorem dX6_can_14 : decode bX6_can 14 = .ok (.ifCond .ne 5, 3) ∧ 14 + 3 = 17 ∧ ((14 : Nat) : Int) + (5) = ((19 : Nat) : Int) := by decide +kernel
theorem dX6_can_17 : decode bX6_can 17 = .ok (.iconst (-1), 1) ∧ 17 + 1 = 18 := by decide +kernel
theorem dX6_can_18 : decode bX6_can 18 = .ok (.ireturn, 1) := by decide +kernel
theorem dX6_can_19 : decode bX6_can 19 = .ok (.iconst 0, 1) ∧ 19 + 1 = 20 := by decide +kernel
theorem dX6_can_20 : decode bX6_can 20 = .ok (.istore_n 3, 1) ∧ 20 + 1 = 21 := by decide +kernel
theorem dX6_can_21 : decode bX6_can 21 = .ok (.bipush (-5), 2) ∧ 21 + 2 = 23 := by decide +kernel
theorem dX6_can_23 : decode bX6_can 23 = .ok (.istore 4, 2) ∧ 23 + 2 = 25 := by decide +kernel
theorem dX6_can_25 : decode bX6_can 25 = .ok (.bipush 9, 2) ∧ 25 + 2 = 27 := by decide +kernel
theorem dX6_can_27 : decode bX6_can 27 = .ok (.istore 5, 2) ∧ 27 + 2 = 29 := by decide +kernel
theorem dX6_can_29 : decode bX6_can 29 = .ok (.iload 5, 2) ∧ 29 + 2 = 31 := by decide +kernel
theorem dX6_can_31 : decode bX6_can 31 = .ok (.ifCond .lt 38, 3) ∧ 31 + 3 = 34 ∧ ((31 : Nat) : Int) + (38) = ((69 : Nat) : Int) := by decide +kernel
theorem dX6_can_34 : decode bX6_can 34 = .ok (.aload_n 0, 1) ∧ 34 + 1 = 35 := by decide +kernel
theorem dX6_can_35 : decode bX6_can 35 = .ok (.invokevirtual 192, 3) ∧ 35 + 3 = 38 := by decide +kernel
theorem dX6_can_38 : decode bX6_can 38 = .ok (.aload_n 0, 1) ∧ 38 + 1 = 39 := by decide +kernel
theorem dX6_can_39 : decode bX6_can 39 = .ok (.getfield 18, 3) ∧ 39 + 3 = 42 := by decide +kernel
theorem dX6_can_42 : decode bX6_can 42 = .ok (.getfield 99, 3) ∧ 42 + 3 = 45 := by decide +kernel
theorem dX6_can_45 : decode bX6_can 45 = .ok (.iload_n 1, 1) ∧ 45 + 1 = 46 := by decide +kernel
theorem dX6_can_46 : decode bX6_can 46 = .ok (.iload 5, 2) ∧ 46 + 2 = 48 := by decide +kernel
theorem dX6_can_48 : decode bX6_can 48 = .ok (.iastore, 1) ∧ 48 + 1 = 49 := by decide +kernel
theorem dX6_can_49 : decode bX6_can 49 = .ok (.aload_n 0, 1) ∧ 49 + 1 = 50 := by decide +kernel
theorem dX6_can_50 : decode bX6_can 50 = .ok (.invokevirtual 229, 3) ∧ 50 + 3 = 53 := by decide +kernel
theorem dX6_can_53 : decode bX6_can 53 = .ok (.ifCond .eq 10, 3) ∧ 53 + 3 = 56 ∧ ((53 : Nat) : Int) + (10) = ((63 : Nat) : Int) := by decide +kernel
theorem dX6_can_56 : decode bX6_can 56 = .ok (.iinc 3 1, 3) ∧ 56 + 3 = 59 := by decide +kernel
theorem dX6_can_59 : decode bX6_can 59 = .ok (.iload 5, 2) ∧ 59 + 2 = 61 := by decide +kernel
theorem dX6_can_61 : decode bX6_can 61 = .ok (.istore 4, 2) ∧ 61 + 2 = 63 := by decide +kernel
theorem dX6_can_63 : decode bX6_can 63 = .ok (.iinc 5 (-1), 3) ∧ 63 + 3 = 66 := by decide +kernel
theorem dX6_can_66 : decode bX6_can 66 = .ok (.goto (-37), 3) ∧ ((66 : Nat) : Int) + (-37) = ((29 : Nat) : Int) := by decide +kernel
theorem dX6_can_69 : decode bX6_can 69 = .ok (.iload_n 2, 1) ∧ 69 + 1 = 70 := by decide +kernel
theorem dX6_can_70 : decode bX6_can 70 = .ok (.ifCond .ne 7, 3) ∧ 70 + 3 = 73 ∧ ((70 : Nat) : Int) + (7) = ((77 : Nat) : Int) := by decide +kernel
theorem dX6_can_73 : decode bX6_can 73 = .ok (.iload_n 3, 1) ∧ 73 + 1 = 74 := by decide +kernel
theorem dX6_can_74 : decode bX6_can 74 = .ok (.goto 5, 3) ∧ ((74 : Nat) : Int) + (5) = ((79 : Nat) : Int) := by decide +kernel
theorem dX6_can_77 : decode bX6_can 77 = .ok (.iload 4, 2) ∧ 77 + 2 = 79 := by decide +kernel
theorem dX6_can_79 : decode bX6_can 79 = .ok (.ireturn, 1) := by decide +kernel
theorem dX6_odds_0 : decode bX6_odds 0 = .ok (.aload_n 0, 1) ∧ 0 + 1 = 1 := by decide +kernel
theorem dX6_odds_1 : decode bX6_odds 1 = .ok (.getfield 12, 3) ∧ 1 + 3 = 4 := by decide +kernel
theorem dX6_odds_4 : decode bX6_odds 4 = .ok (.getfield 84, 3) ∧ 4 + 3 = 7 := by decide +kernel
theorem dX6_odds_7 : decode bX6_odds 7 = .ok (.ifCond .eq 19, 3) ∧ 7 + 3 = 10 ∧ ((7 : Nat) : Int) + (19) = ((26 : Nat) : Int) := by decide +kernel
theorem dX6_odds_10 : decode bX6_odds 10 = .ok (.iload_n 1, 1) ∧ 10 + 1 = 11 := by decide +kernel
theorem dX6_odds_11 : decode bX6_odds 11 = .ok (.invokestatic 185, 3) ∧ 11 + 3 = 14 := by decide +kernel
theorem dX6_odds_14 : decode bX6_odds 14 = .ok (.ifCond .eq 12, 3) ∧ 14 + 3 = 17 ∧ ((14 : Nat) : Int) + (12) = ((26 : Nat) : Int) := by decide +kernel
theorem dX6_odds_17 : decode bX6_odds 17 = .ok (.iload_n 2, 1) ∧ 17 + 1 = 18 := by decide +kernel
theorem dX6_odds_18 : decode bX6_odds 18 = .ok (.iconst 0, 1) ∧ 18 + 1 = 19 := by decide +kernel
theorem dX6_odds_19 : decode bX6_odds 19 = .ok (.iconst 1, 1) ∧ 19 + 1 = 20 := by decide +kernel
theorem dX6_odds_20 : decode bX6_odds 20 = .ok (.invokestatic 80, 3) ∧ 20 + 3 = 23 := by decide +kernel
theorem dX6_odds_23 : decode bX6_odds 23 = .ok (.ifCond .ne 7, 3) ∧ 23 + 3 = 26 ∧ ((23 : Nat) : Int) + (7) = ((30 : Nat) : Int) := by decide +kernel
theorem dX6_odds_26 : decode bX6_odds 26 = .ok (.ldc2_w 233, 3) ∧ 26 + 3 = 29 := by decide +kernel
theorem dX6_odds_29 : decode bX6_odds 29 = .ok (.lreturn, 1) := by decide +kernel
theorem dX6_odds_30 : decode bX6_odds 30 = .ok (.iconst 0, 1) ∧ 30 + 1 = 31 := by decide +kernel
theorem dX6_odds_31 : decode bX6_odds 31 = .ok (.istore_n 3, 1) ∧ 31 + 1 = 32 := by decide +kernel
theorem dX6_odds_32 : decode bX6_odds 32 = .ok (.iconst 0, 1) ∧ 32 + 1 = 33 := by decide +kernel
theorem dX6_odds_33 : decode bX6_odds 33 = .ok (.istore 4, 2) ∧ 33 + 2 = 35 := by decide +kernel
theorem dX6_odds_35 : decode bX6_odds 35 = .ok (.iload 4, 2) ∧ 35 + 2 = 37 := by decide +kernel
theorem dX6_odds_37 : decode bX6_odds 37 = .ok (.aload_n 0, 1) ∧ 37 + 1 = 38 := by decide +kernel
theorem dX6_odds_38 : decode bX6_odds 38 = .ok (.getfield 12, 3) ∧ 38 + 3 = 41 := by decide +kernel
theorem dX6_odds_41 : decode bX6_odds 41 = .ok (.getfield 84, 3) ∧ 41 + 3 = 44 := by decide +kernel
theorem dX6_odds_44 : decode bX6_odds 44 = .ok (.if_icmp .ge 26, 3) ∧ 44 + 3 = 47 ∧ ((44 : Nat) : Int) + (26) = ((70 : Nat) : Int) := by decide +kernel
theorem dX6_odds_47 : decode bX6_odds 47 = .ok (.aload_n 0, 1) ∧ 47 + 1 = 48 := by decide +kernel
theorem dX6_odds_48 : decode bX6_odds 48 = .ok (.invokevirtual 192, 3) ∧ 48 + 3 = 51 := by decide +kernel
theorem dX6_odds_51 : decode bX6_odds 51 = .ok (.aload_n 0, 1) ∧ 51 + 1 = 52 := by decide +kernel
theorem dX6_odds_52 : decode bX6_odds 52 = .ok (.iload_n 1, 1) ∧ 52 + 1 = 53 := by decide +kernel
theorem dX6_odds_53 : decode bX6_odds 53 = .ok (.iload 4, 2) ∧ 53 + 2 = 55 := by decide +kernel
theorem dX6_odds_55 : decode bX6_odds 55 = .ok (.invokevirtual 219, 3) ∧ 55 + 3 = 58 := by decide +kernel
theorem dX6_odds_58 : decode bX6_odds 58 = .ok (.ifCond .eq 6, 3) ∧ 58 + 3 = 61 ∧ ((58 : Nat) : Int) + (6) = ((64 : Nat) : Int) := by decide +kernel
theorem dX6_odds_61 : decode bX6_odds 61 = .ok (.iinc 3 1, 3) ∧ 61 + 3 = 64 := by decide +kernel
theorem dX6_odds_64 : decode bX6_odds 64 = .ok (.iinc 4 1, 3) ∧ 64 + 3 = 67 := by decide +kernel
theorem dX6_odds_67 : decode bX6_odds 67 = .ok (.goto (-32), 3) ∧ ((67 : Nat) : Int) + (-32) = ((35 : Nat) : Int) := by decide +kernel
theorem dX6_odds_70 : decode bX6_odds 70 = .ok (.iload_n 3, 1) ∧ 70 + 1 = 71 := by decide +kernel
theorem dX6_odds_71 : decode bX6_odds 71 = .ok (.i2l, 1) ∧ 71 + 1 = 72 := by decide +kernel
theorem dX6_odds_72 : decode bX6_odds 72 = .ok (.aload_n 0, 1) ∧ 72 + 1 = 73 := by decide +kernel
theorem dX6_odds_73 : decode bX6_odds 73 = .ok (.getfield 12, 3) ∧ 73 + 3 = 76 := by decide +kernel
theorem dX6_odds_76 : decode bX6_odds 76 = .ok (.getfield 84, 3) ∧ 76 + 3 = 79 := by decide +kernel
theorem dX6_odds_79 : decode bX6_odds 79 = .ok (.i2l, 1) ∧ 79 + 1 = 80 := by decide +kernel
theorem dX6_odds_80 : decode bX6_odds 80 = .ok (.iload_n 2, 1) ∧ 80 + 1 = 81 := by decide +kernel
theorem dX6_odds_81 : decode bX6_odds 81 = .ok (.invokestatic 235, 3) ∧ 81 + 3 = 84 := by decide +kernel
theorem dX6_odds_84 : decode bX6_odds 84 = .ok (.lreturn, 1) := by decide +kernel
theorem dX6_mean_0 : decode bX6_mean 0 = .ok (.aload_n 0, 1) ∧ 0 + 1 = 1 := by decide +kernel
theorem dX6_mean_1 : decode bX6_mean 1 = .ok (.getfield 12, 3) ∧ 1 + 3 = 4 := by decide +kernel
theorem dX6_mean_4 : decode bX6_mean 4 = .ok (.getfield 84, 3) ∧ 4 + 3 = 7 := by decide +kernel
theorem dX6_mean_7 : decode bX6_mean 7 = .ok (.ifCond .eq 19, 3) ∧ 7 + 3 = 10 ∧ ((7 : Nat) : Int) + (19) = ((26 : Nat) : Int) := by decide +kernel
theorem dX6_mean_10 : decode bX6_mean 10 = .ok (.iload_n 1, 1) ∧ 10 + 1 = 11 := by decide +kernel
theorem dX6_mean_11 : decode bX6_mean 11 = .ok (.invokestatic 185, 3) ∧ 11 + 3 = 14 := by decide +kernel
theorem dX6_mean_14 : decode bX6_mean 14 = .ok (.ifCond .eq 12, 3) ∧ 14 + 3 = 17 ∧ ((14 : Nat) : Int) + (12) = ((26 : Nat) : Int) := by decide +kernel
theorem dX6_mean_17 : decode bX6_mean 17 = .ok (.iload_n 2, 1) ∧ 17 + 1 = 18 := by decide +kernel
theorem dX6_mean_18 : decode bX6_mean 18 = .ok (.iconst 0, 1) ∧ 18 + 1 = 19 := by decide +kernel
theorem dX6_mean_19 : decode bX6_mean 19 = .ok (.iconst 1, 1) ∧ 19 + 1 = 20 := by decide +kernel
theorem dX6_mean_20 : decode bX6_mean 20 = .ok (.invokestatic 80, 3) ∧ 20 + 3 = 23 := by decide +kernel
theorem dX6_mean_23 : decode bX6_mean 23 = .ok (.ifCond .ne 7, 3) ∧ 23 + 3 = 26 ∧ ((23 : Nat) : Int) + (7) = ((30 : Nat) : Int) := by decide +kernel
theorem dX6_mean_26 : decode bX6_mean 26 = .ok (.ldc2_w 233, 3) ∧ 26 + 3 = 29 := by decide +kernel
theorem dX6_mean_29 : decode bX6_mean 29 = .ok (.lreturn, 1) := by decide +kernel
theorem dX6_mean_30 : decode bX6_mean 30 = .ok (.aload_n 0, 1) ∧ 30 + 1 = 31 := by decide +kernel
theorem dX6_mean_31 : decode bX6_mean 31 = .ok (.invokevirtual 192, 3) ∧ 31 + 3 = 34 := by decide +kernel
theorem dX6_mean_34 : decode bX6_mean 34 = .ok (.aload_n 0, 1) ∧ 34 + 1 = 35 := by decide +kernel
theorem dX6_mean_35 : decode bX6_mean 35 = .ok (.iload_n 1, 1) ∧ 35 + 1 = 36 := by decide +kernel
theorem dX6_mean_36 : decode bX6_mean 36 = .ok (.invokevirtual 195, 3) ∧ 36 + 3 = 39 := by decide +kernel
theorem dX6_mean_39 : decode bX6_mean 39 = .ok (.aload_n 0, 1) ∧ 39 + 1 = 40 := by decide +kernel
theorem dX6_mean_40 : decode bX6_mean 40 = .ok (.getfield 18, 3) ∧ 40 + 3 = 43 := by decide +kernel
theorem dX6_mean_43 : decode bX6_mean 43 = .ok (.invokevirtual 181, 3) ∧ 43 + 3 = 46 := by decide +kernel
theorem dX6_mean_46 : decode bX6_mean 46 = .ok (.i2l, 1) ∧ 46 + 1 = 47 := by decide +kernel
theorem dX6_mean_47 : decode bX6_mean 47 = .ok (.aload_n 0, 1) ∧ 47 + 1 = 48 := by decide +kernel
theorem dX6_mean_48 : decode bX6_mean 48 = .ok (.getfield 12, 3) ∧ 48 + 3 = 51 := by decide +kernel
theorem dX6_mean_51 : decode bX6_mean 51 = .ok (.getfield 84, 3) ∧ 51 + 3 = 54 := by decide +kernel
theorem dX6_mean_54 : decode bX6_mean 54 = .ok (.i2l, 1) ∧ 54 + 1 = 55 := by decide +kernel
theorem dX6_mean_55 : decode bX6_mean 55 = .ok (.iload_n 2, 1) ∧ 55 + 1 = 56 := by decide +kernel
theorem dX6_mean_56 : decode bX6_mean 56 = .ok (.invokestatic 235, 3) ∧ 56 + 3 = 59 := by decide +kernel
theorem dX6_mean_59 : decode bX6_mean 59 = .ok (.lreturn, 1) := by decide +kernel
theorem dX6_year_0 : decode bX6_year 0 = .ok (.iload_n 1, 1) ∧ 0 + 1 = 1 := by decide +kernel
theorem dX6_year_1 : decode bX6_year 1 = .ok (.iconst (-1), 1) ∧ 1 + 1 = 2 := by decide +kernel
theorem dX6_year_2 : decode bX6_year 2 = .ok (.if_icmp .ne 13, 3) ∧ 2 + 3 = 5 ∧ ((2 : Nat) : Int) + (13) = ((15 : Nat) : Int) := by decide +kernel
theorem dX6_year_5 : decode bX6_year 5 = .ok (.aload_n 0, 1) ∧ 5 + 1 = 6 := by decide +kernel
theorem dX6_year_6 : decode bX6_year 6 = .ok (.getfield 27, 3) ∧ 6 + 3 = 9 := by decide +kernel
theorem dX6_year_9 : decode bX6_year 9 = .ok (.iconst 0, 1) ∧ 9 + 1 = 10 := by decide +kernel
theorem dX6_year_10 : decode bX6_year 10 = .ok (.putfield 239, 3) ∧ 10 + 3 = 13 := by decide +kernel
theorem dX6_year_13 : decode bX6_year 13 = .ok (.iconst 0, 1) ∧ 13 + 1 = 14 := by decide +kernel
theorem dX6_year_14 : decode bX6_year 14 = .ok (.ireturn, 1) := by decide +kernel
theorem dX6_year_15 : decode bX6_year 15 = .ok (.iload_n 1, 1) ∧ 15 + 1 = 16 := by decide +kernel
theorem dX6_year_16 : decode bX6_year 16 = .ok (.iconst 0, 1) ∧ 16 + 1 = 17 := by decide +kernel
theorem dX6_year_17 : decode bX6_year 17 = .ok (.iconst 2, 1) ∧ 17 + 1 = 18 := by decide +kernel
theorem dX6_year_18 : decode bX6_year 18 = .ok (.invokestatic 80, 3) ∧ 18 + 3 = 21 := by decide +kernel
theorem dX6_year_21 : decode bX6_year 21 = .ok (.ifCond .eq 16, 3) ∧ 21 + 3 = 24 ∧ ((21 : Nat) : Int) + (16) = ((37 : Nat) : Int) := by decide +kernel
theorem dX6_year_24 : decode bX6_year 24 = .ok (.iload_n 1, 1) ∧ 24 + 1 = 25 := by decide +kernel
theorem dX6_year_25 : decode bX6_year 25 = .ok (.iconst 1, 1) ∧ 25 + 1 = 26 := by decide +kernel
theorem dX6_year_26 : decode bX6_year 26 = .ok (.if_icmp .ne 13, 3) ∧ 26 + 3 = 29 ∧ ((26 : Nat) : Int) + (13) = ((39 : Nat) : Int) := by decide +kernel
theorem dX6_year_29 : decode bX6_year 29 = .ok (.aload_n 0, 1) ∧ 29 + 1 = 30 := by decide +kernel
theorem dX6_year_30 : decode bX6_year 30 = .ok (.iload_n 2, 1) ∧ 30 + 1 = 31 := by decide +kernel
theorem dX6_year_31 : decode bX6_year 31 = .ok (.invokevirtual 91, 3) ∧ 31 + 3 = 34 := by decide +kernel
theorem dX6_year_34 : decode bX6_year 34 = .ok (.ifCond .ne 5, 3) ∧ 34 + 3 = 37 ∧ ((34 : Nat) : Int) + (5) = ((39 : Nat) : Int) := by decide +kernel
theorem dX6_year_37 : decode bX6_year 37 = .ok (.iconst (-1), 1) ∧ 37 + 1 = 38 := by decide +kernel
theorem dX6_year_38 : decode bX6_year 38 = .ok (.ireturn, 1) := by decide +kernel
theorem dX6_year_39 : decode bX6_year 39 = .ok (.aload_n 0, 1) ∧ 39 + 1 = 40 := by decide +kernel
theorem dX6_year_40 : decode bX6_year 40 = .ok (.getfield 27, 3) ∧ 40 + 3 = 43 := by decide +kernel
theorem dX6_year_43 : decode bX6_year 43 = .ok (.getfield 239, 3) ∧ 43 + 3 = 46 := by decide +kernel
theorem dX6_year_46 : decode bX6_year 46 = .ok (.bipush 10, 2) ∧ 46 + 2 = 48 := by decide +kernel
theorem dX6_year_48 : decode bX6_year 48 = .ok (.if_icmp .lt 8, 3) ∧ 48 + 3 = 51 ∧ ((48 : Nat) : Int) + (8) = ((56 : Nat) : Int) := by decide +kernel
theorem dX6_year_51 : decode bX6_year 51 = .ok (.bipush (-4), 2) ∧ 51 + 2 = 53 := by decide +kernel
theorem dX6_year_53 : decode bX6_year 53 = .ok (.goto 12, 3) ∧ ((53 : Nat) : Int) + (12) = ((65 : Nat) : Int) := by decide +kernel
theorem dX6_year_56 : decode bX6_year 56 = .ok (.aload_n 0, 1) ∧ 56 + 1 = 57 := by decide +kernel
theorem dX6_year_57 : decode bX6_year 57 = .ok (.getfield 27, 3) ∧ 57 + 3 = 60 := by decide +kernel
theorem dX6_year_60 : decode bX6_year 60 = .ok (.iload_n 1, 1) ∧ 60 + 1 = 61 := by decide +kernel
theorem dX6_year_61 : decode bX6_year 61 = .ok (.iload_n 2, 1) ∧ 61 + 1 = 62 := by decide +kernel
theorem dX6_year_62 : decode bX6_year 62 = .ok (.invokevirtual 242, 3) ∧ 62 + 3 = 65 := by decide +kernel
theorem dX6_year_65 : decode bX6_year 65 = .ok (.ireturn, 1) := by decide +kernel
theorem dX6_gone_0 : decode bX6_gone 0 = .ok (.iload_n 1, 1) ∧ 0 + 1 = 1 := by decide +kernel
theorem dX6_gone_1 : decode bX6_gone 1 = .ok (.iconst 0, 1) ∧ 1 + 1 = 2 := by decide +kernel
theorem dX6_gone_2 : decode bX6_gone 2 = .ok (.iconst 1, 1) ∧ 2 + 1 = 3 := by decide +kernel
theorem dX6_gone_3 : decode bX6_gone 3 = .ok (.invokestatic 80, 3) ∧ 3 + 3 = 6 := by decide +kernel
theorem dX6_gone_6 : decode bX6_gone 6 = .ok (.ifCond .ne 5, 3) ∧ 6 + 3 = 9 ∧ ((6 : Nat) : Int) + (5) = ((11 : Nat) : Int) := by decide +kernel
theorem dX6_gone_9 : decode bX6_gone 9 = .ok (.iconst (-1), 1) ∧ 9 + 1 = 10 := by decide +kernel
theorem dX6_gone_10 : decode bX6_gone 10 = .ok (.ireturn, 1) := by decide +kernel
theorem dX6_gone_11 : decode bX6_gone 11 = .ok (.aload_n 0, 1) ∧ 11 + 1 = 12 := by decide +kernel
theorem dX6_gone_12 : decode bX6_gone 12 = .ok (.invokevirtual 192, 3) ∧ 12 + 3 = 15 := by decide +kernel
theorem dX6_gone_15 : decode bX6_gone 15 = .ok (.iconst 0, 1) ∧ 15 + 1 = 16 := by decide +kernel
theorem dX6_gone_16 : decode bX6_gone 16 = .ok (.istore_n 2, 1) ∧ 16 + 1 = 17 := by decide +kernel
theorem dX6_gone_17 : decode bX6_gone 17 = .ok (.iload_n 2, 1) ∧ 17 + 1 = 18 := by decide +kernel
theorem dX6_gone_18 : decode bX6_gone 18 = .ok (.aload_n 0, 1) ∧ 18 + 1 = 19 := by decide +kernel
theorem dX6_gone_19 : decode bX6_gone 19 = .ok (.getfield 27, 3) ∧ 19 + 3 = 22 := by decide +kernel
theorem dX6_gone_22 : decode bX6_gone 22 = .ok (.getfield 239, 3) ∧ 22 + 3 = 25 := by decide +kernel
theorem dX6_gone_25 : decode bX6_gone 25 = .ok (.if_icmp .ge 31, 3) ∧ 25 + 3 = 28 ∧ ((25 : Nat) : Int) + (31) = ((56 : Nat) : Int) := by decide +kernel
theorem dX6_gone_28 : decode bX6_gone 28 = .ok (.aload_n 0, 1) ∧ 28 + 1 = 29 := by decide +kernel
theorem dX6_gone_29 : decode bX6_gone 29 = .ok (.aload_n 0, 1) ∧ 29 + 1 = 30 := by decide +kernel
theorem dX6_gone_30 : decode bX6_gone 30 = .ok (.getfield 27, 3) ∧ 30 + 3 = 33 := by decide +kernel
theorem dX6_gone_33 : decode bX6_gone 33 = .ok (.getfield 245, 3) ∧ 33 + 3 = 36 := by decide +kernel
theorem dX6_gone_36 : decode bX6_gone 36 = .ok (.iload_n 2, 1) ∧ 36 + 1 = 37 := by decide +kernel
theorem dX6_gone_37 : decode bX6_gone 37 = .ok (.iaload, 1) ∧ 37 + 1 = 38 := by decide +kernel
theorem dX6_gone_38 : decode bX6_gone 38 = .ok (.aload_n 0, 1) ∧ 38 + 1 = 39 := by decide +kernel
theorem dX6_gone_39 : decode bX6_gone 39 = .ok (.getfield 27, 3) ∧ 39 + 3 = 42 := by decide +kernel
theorem dX6_gone_42 : decode bX6_gone 42 = .ok (.getfield 248, 3) ∧ 42 + 3 = 45 := by decide +kernel
theorem dX6_gone_45 : decode bX6_gone 45 = .ok (.iload_n 2, 1) ∧ 45 + 1 = 46 := by decide +kernel
theorem dX6_gone_46 : decode bX6_gone 46 = .ok (.iaload, 1) ∧ 46 + 1 = 47 := by decide +kernel
theorem dX6_gone_47 : decode bX6_gone 47 = .ok (.invokevirtual 251, 3) ∧ 47 + 3 = 50 := by decide +kernel
theorem dX6_gone_50 : decode bX6_gone 50 = .ok (.iinc 2 1, 3) ∧ 50 + 3 = 53 := by decide +kernel
theorem dX6_gone_53 : decode bX6_gone 53 = .ok (.goto (-36), 3) ∧ ((53 : Nat) : Int) + (-36) = ((17 : Nat) : Int) := by decide +kernel
theorem dX6_gone_56 : decode bX6_gone 56 = .ok (.iload_n 1, 1) ∧ 56 + 1 = 57 := by decide +kernel
theorem dX6_gone_57 : decode bX6_gone 57 = .ok (.ifCond .ne 13, 3) ∧ 57 + 3 = 60 ∧ ((57 : Nat) : Int) + (13) = ((70 : Nat) : Int) := by decide +kernel
theorem dX6_gone_60 : decode bX6_gone 60 = .ok (.aload_n 0, 1) ∧ 60 + 1 = 61 := by decide +kernel
theorem dX6_gone_61 : decode bX6_gone 61 = .ok (.getfield 18, 3) ∧ 61 + 3 = 64 := by decide +kernel
theorem dX6_gone_64 : decode bX6_gone 64 = .ok (.getfield 148, 3) ∧ 64 + 3 = 67 := by decide +kernel
theorem dX6_gone_67 : decode bX6_gone 67 = .ok (.goto 10, 3) ∧ ((67 : Nat) : Int) + (10) = ((77 : Nat) : Int) := by decide +kernel
theorem dX6_gone_70 : decode bX6_gone 70 = .ok (.aload_n 0, 1) ∧ 70 + 1 = 71 := by decide +kernel
theorem dX6_gone_71 : decode bX6_gone 71 = .ok (.getfield 18, 3) ∧ 71 + 3 = 74 := by decide +kernel
theorem dX6_gone_74 : decode bX6_gone 74 = .ok (.getfield 198, 3) ∧ 74 + 3 = 77 := by decide +kernel
theorem dX6_gone_77 : decode bX6_gone 77 = .ok (.ireturn, 1) := by decide +kernel
theorem dX6_book_0 : decode bX6_book 0 = .ok (.iload_n 1, 1) ∧ 0 + 1 = 1 := by decide +kernel
theorem dX6_book_1 : decode bX6_book 1 = .ok (.iconst (-1), 1) ∧ 1 + 1 = 2 := by decide +kernel
theorem dX6_book_2 : decode bX6_book 2 = .ok (.if_icmp .ne 13, 3) ∧ 2 + 3 = 5 ∧ ((2 : Nat) : Int) + (13) = ((15 : Nat) : Int) := by decide +kernel
theorem dX6_book_5 : decode bX6_book 5 = .ok (.aload_n 0, 1) ∧ 5 + 1 = 6 := by decide +kernel
theorem dX6_book_6 : decode bX6_book 6 = .ok (.getfield 27, 3) ∧ 6 + 3 = 9 := by decide +kernel
theorem dX6_book_9 : decode bX6_book 9 = .ok (.iconst 0, 1) ∧ 9 + 1 = 10 := by decide +kernel
theorem dX6_book_10 : decode bX6_book 10 = .ok (.putfield 254, 3) ∧ 10 + 3 = 13 := by decide +kernel
theorem dX6_book_13 : decode bX6_book 13 = .ok (.iconst 0, 1) ∧ 13 + 1 = 14 := by decide +kernel
theorem dX6_book_14 : decode bX6_book 14 = .ok (.ireturn, 1) := by decide +kernel
theorem dX6_book_15 : decode bX6_book 15 = .ok (.aload_n 0, 1) ∧ 15 + 1 = 16 := by decide +kernel
theorem dX6_book_16 : decode bX6_book 16 = .ok (.iload_n 1, 1) ∧ 16 + 1 = 17 := by decide +kernel
theorem dX6_book_17 : decode bX6_book 17 = .ok (.invokevirtual 91, 3) ∧ 17 + 3 = 20 := by decide +kernel
theorem dX6_book_20 : decode bX6_book 20 = .ok (.ifCond .ne 5, 3) ∧ 20 + 3 = 23 ∧ ((20 : Nat) : Int) + (5) = ((25 : Nat) : Int) := by decide +kernel
theorem dX6_book_23 : decode bX6_book 23 = .ok (.iconst (-1), 1) ∧ 23 + 1 = 24 := by decide +kernel
theorem dX6_book_24 : decode bX6_book 24 = .ok (.ireturn, 1) := by decide +kernel
theorem dX6_book_25 : decode bX6_book 25 = .ok (.iload_n 2, 1) ∧ 25 + 1 = 26 := by decide +kernel
theorem dX6_book_26 : decode bX6_book 26 = .ok (.iconst 0, 1) ∧ 26 + 1 = 27 := by decide +kernel
theorem dX6_book_27 : decode bX6_book 27 = .ok (.ldc_w 257, 3) ∧ 27 + 3 = 30 := by decide +kernel
theorem dX6_book_30 : decode bX6_book 30 = .ok (.invokestatic 80, 3) ∧ 30 + 3 = 33 := by decide +kernel
theorem dX6_book_33 : decode bX6_book 33 = .ok (.ifCond .ne 6, 3) ∧ 33 + 3 = 36 ∧ ((33 : Nat) : Int) + (6) = ((39 : Nat) : Int) := by decide +kernel
theorem dX6_book_36 : decode bX6_book 36 = .ok (.bipush (-2), 2) ∧ 36 + 2 = 38 := by decide +kernel
theorem dX6_book_38 : decode bX6_book 38 = .ok (.ireturn, 1) := by decide +kernel
theorem dX6_book_39 : decode bX6_book 39 = .ok (.aload_n 0, 1) ∧ 39 + 1 = 40 := by decide +kernel
theorem dX6_book_40 : decode bX6_book 40 = .ok (.getfield 27, 3) ∧ 40 + 3 = 43 := by decide +kernel
theorem dX6_book_43 : decode bX6_book 43 = .ok (.getfield 254, 3) ∧ 43 + 3 = 46 := by decide +kernel
theorem dX6_book_46 : decode bX6_book 46 = .ok (.bipush 8, 2) ∧ 46 + 2 = 48 := by decide +kernel
theorem dX6_book_48 : decode bX6_book 48 = .ok (.if_icmp .lt 8, 3) ∧ 48 + 3 = 51 ∧ ((48 : Nat) : Int) + (8) = ((56 : Nat) : Int) := by decide +kernel
theorem dX6_book_51 : decode bX6_book 51 = .ok (.bipush (-4), 2) ∧ 51 + 2 = 53 := by decide +kernel
theorem dX6_book_53 : decode bX6_book 53 = .ok (.goto 12, 3) ∧ ((53 : Nat) : Int) + (12) = ((65 : Nat) : Int) := by decide +kernel
theorem dX6_book_56 : decode bX6_book 56 = .ok (.aload_n 0, 1) ∧ 56 + 1 = 57 := by decide +kernel
theorem dX6_book_57 : decode bX6_book 57 = .ok (.getfield 27, 3) ∧ 57 + 3 = 60 := by decide +kernel
theorem dX6_book_60 : decode bX6_book 60 = .ok (.iload_n 1, 1) ∧ 60 + 1 = 61 := by decide +kernel
theorem dX6_book_61 : decode bX6_book 61 = .ok (.iload_n 2, 1) ∧ 61 + 1 = 62 := by decide +kernel
theorem dX6_book_62 : decode bX6_book 62 = .ok (.invokevirtual 258, 3) ∧ 62 + 3 = 65 := by decide +kernel
theorem dX6_book_65 : decode bX6_book 65 = .ok (.ireturn, 1) := by decide +kernel
theorem dX6_looked_0 : decode bX6_looked 0 = .ok (.iconst 0, 1) ∧ 0 + 1 = 1 := by decide +kernel
theorem dX6_looked_1 : decode bX6_looked 1 = .ok (.istore_n 1, 1) ∧ 1 + 1 = 2 := by decide +kernel
theorem dX6_looked_2 : decode bX6_looked 2 = .ok (.iload_n 1, 1) ∧ 2 + 1 = 3 := by decide +kernel
theorem dX6_looked_3 : decode bX6_looked 3 = .ok (.aload_n 0, 1) ∧ 3 + 1 = 4 := by decide +kernel
theorem dX6_looked_4 : decode bX6_looked 4 = .ok (.getfield 27, 3) ∧ 4 + 3 = 7 := by decide +kernel
theorem dX6_looked_7 : decode bX6_looked 7 = .ok (.getfield 254, 3) ∧ 7 + 3 = 10 := by decide +kernel
theorem dX6_looked_10 : decode bX6_looked 10 = .ok (.if_icmp .ge 50, 3) ∧ 10 + 3 = 13 ∧ ((10 : Nat) : Int) + (50) = ((60 : Nat) : Int) := by decide +kernel
theorem dX6_looked_13 : decode bX6_looked 13 = .ok (.aload_n 0, 1) ∧ 13 + 1 = 14 := by decide +kernel
theorem dX6_looked_14 : decode bX6_looked 14 = .ok (.getfield 27, 3) ∧ 14 + 3 = 17 := by decide +kernel
theorem dX6_looked_17 : decode bX6_looked 17 = .ok (.getfield 261, 3) ∧ 17 + 3 = 20 := by decide +kernel
theorem dX6_looked_20 : decode bX6_looked 20 = .ok (.iload_n 1, 1) ∧ 20 + 1 = 21 := by decide +kernel
theorem dX6_looked_21 : decode bX6_looked 21 = .ok (.iaload, 1) ∧ 21 + 1 = 22 := by decide +kernel
theorem dX6_looked_22 : decode bX6_looked 22 = .ok (.istore_n 2, 1) ∧ 22 + 1 = 23 := by decide +kernel
theorem dX6_looked_23 : decode bX6_looked 23 = .ok (.aload_n 0, 1) ∧ 23 + 1 = 24 := by decide +kernel
theorem dX6_looked_24 : decode bX6_looked 24 = .ok (.iload_n 2, 1) ∧ 24 + 1 = 25 := by decide +kernel
theorem dX6_looked_25 : decode bX6_looked 25 = .ok (.invokevirtual 91, 3) ∧ 25 + 3 = 28 := by decide +kernel
theorem dX6_looked_28 : decode bX6_looked 28 = .ok (.ifCond .eq 26, 3) ∧ 28 + 3 = 31 ∧ ((28 : Nat) : Int) + (26) = ((54 : Nat) : Int) := by decide +kernel
theorem dX6_looked_31 : decode bX6_looked 31 = .ok (.aload_n 0, 1) ∧ 31 + 1 = 32 := by decide +kernel
theorem dX6_looked_32 : decode bX6_looked 32 = .ok (.getfield 12, 3) ∧ 32 + 3 = 35 := by decide +kernel
theorem dX6_looked_35 : decode bX6_looked 35 = .ok (.getfield 114, 3) ∧ 35 + 3 = 38 := by decide +kernel
theorem dX6_looked_38 : decode bX6_looked 38 = .ok (.iload_n 2, 1) ∧ 38 + 1 = 39 := by decide +kernel
theorem dX6_looked_39 : decode bX6_looked 39 = .ok (.iaload, 1) ∧ 39 + 1 = 40 := by decide +kernel
theorem dX6_looked_40 : decode bX6_looked 40 = .ok (.aload_n 0, 1) ∧ 40 + 1 = 41 := by decide +kernel
theorem dX6_looked_41 : decode bX6_looked 41 = .ok (.getfield 27, 3) ∧ 41 + 3 = 44 := by decide +kernel
theorem dX6_looked_44 : decode bX6_looked 44 = .ok (.getfield 264, 3) ∧ 44 + 3 = 47 := by decide +kernel
theorem dX6_looked_47 : decode bX6_looked 47 = .ok (.iload_n 1, 1) ∧ 47 + 1 = 48 := by decide +kernel
theorem dX6_looked_48 : decode bX6_looked 48 = .ok (.iaload, 1) ∧ 48 + 1 = 49 := by decide +kernel
theorem dX6_looked_49 : decode bX6_looked 49 = .ok (.if_icmp .eq 5, 3) ∧ 49 + 3 = 52 ∧ ((49 : Nat) : Int) + (5) = ((54 : Nat) : Int) := by decide +kernel
theorem dX6_looked_52 : decode bX6_looked 52 = .ok (.iload_n 1, 1) ∧ 52 + 1 = 53 := by decide +kernel
theorem dX6_looked_53 : decode bX6_looked 53 = .ok (.ireturn, 1) := by decide +kernel
theorem dX6_looked_54 : decode bX6_looked 54 = .ok (.iinc 1 1, 3) ∧ 54 + 3 = 57 := by decide +kernel
theorem dX6_looked_57 : decode bX6_looked 57 = .ok (.goto (-55), 3) ∧ ((57 : Nat) : Int) + (-55) = ((2 : Nat) : Int) := by decide +kernel
theorem dX6_looked_60 : decode bX6_looked 60 = .ok (.bipush (-5), 2) ∧ 60 + 2 = 62 := by decide +kernel
theorem dX6_looked_62 : decode bX6_looked 62 = .ok (.ireturn, 1) := by decide +kernel
theorem dX6_judge_0 : decode bX6_judge 0 = .ok (.aload_n 0, 1) ∧ 0 + 1 = 1 := by decide +kernel
theorem dX6_judge_1 : decode bX6_judge 1 = .ok (.getfield 62, 3) ∧ 1 + 3 = 4 := by decide +kernel
theorem dX6_judge_4 : decode bX6_judge 4 = .ok (.iload_n 1, 1) ∧ 4 + 1 = 5 := by decide +kernel
theorem dX6_judge_5 : decode bX6_judge 5 = .ok (.invokevirtual 267, 3) ∧ 5 + 3 = 8 := by decide +kernel
theorem dX6_judge_8 : decode bX6_judge 8 = .ok (.ifCond .ne 5, 3) ∧ 8 + 3 = 11 ∧ ((8 : Nat) : Int) + (5) = ((13 : Nat) : Int) := by decide +kernel
theorem dX6_judge_11 : decode bX6_judge 11 = .ok (.iconst (-1), 1) ∧ 11 + 1 = 12 := by decide +kernel
theorem dX6_judge_12 : decode bX6_judge 12 = .ok (.ireturn, 1) := by decide +kernel
theorem dX6_judge_13 : decode bX6_judge 13 = .ok (.aload_n 0, 1) ∧ 13 + 1 = 14 := by decide +kernel
theorem dX6_judge_14 : decode bX6_judge 14 = .ok (.getfield 62, 3) ∧ 14 + 3 = 17 := by decide +kernel
theorem dX6_judge_17 : decode bX6_judge 17 = .ok (.iload_n 1, 1) ∧ 17 + 1 = 18 := by decide +kernel
theorem dX6_judge_18 : decode bX6_judge 18 = .ok (.invokevirtual 268, 3) ∧ 18 + 3 = 21 := by decide +kernel
theorem dX6_judge_21 : decode bX6_judge 21 = .ok (.ifCond .eq 19, 3) ∧ 21 + 3 = 24 ∧ ((21 : Nat) : Int) + (19) = ((40 : Nat) : Int) := by decide +kernel
theorem dX6_judge_24 : decode bX6_judge 24 = .ok (.aload_n 0, 1) ∧ 24 + 1 = 25 := by decide +kernel
theorem dX6_judge_25 : decode bX6_judge 25 = .ok (.getfield 62, 3) ∧ 25 + 3 = 28 := by decide +kernel
theorem dX6_judge_28 : decode bX6_judge 28 = .ok (.getfield 271, 3) ∧ 28 + 3 = 31 := by decide +kernel
theorem dX6_judge_31 : decode bX6_judge 31 = .ok (.iload_n 1, 1) ∧ 31 + 1 = 32 := by decide +kernel
theorem dX6_judge_32 : decode bX6_judge 32 = .ok (.iaload, 1) ∧ 32 + 1 = 33 := by decide +kernel
theorem dX6_judge_33 : decode bX6_judge 33 = .ok (.iconst 2, 1) ∧ 33 + 1 = 34 := by decide +kernel
theorem dX6_judge_34 : decode bX6_judge 34 = .ok (.if_icmp .eq 6, 3) ∧ 34 + 3 = 37 ∧ ((34 : Nat) : Int) + (6) = ((40 : Nat) : Int) := by decide +kernel
theorem dX6_judge_37 : decode bX6_judge 37 = .ok (.bipush (-12), 2) ∧ 37 + 2 = 39 := by decide +kernel
theorem dX6_judge_39 : decode bX6_judge 39 = .ok (.ireturn, 1) := by decide +kernel
theorem dX6_judge_40 : decode bX6_judge 40 = .ok (.iconst 0, 1) ∧ 40 + 1 = 41 := by decide +kernel
theorem dX6_judge_41 : decode bX6_judge 41 = .ok (.istore_n 3, 1) ∧ 41 + 1 = 42 := by decide +kernel
theorem dX6_judge_42 : decode bX6_judge 42 = .ok (.iload_n 3, 1) ∧ 42 + 1 = 43 := by decide +kernel
theorem dX6_judge_43 : decode bX6_judge 43 = .ok (.aload_n 0, 1) ∧ 43 + 1 = 44 := by decide +kernel
theorem dX6_judge_44 : decode bX6_judge 44 = .ok (.getfield 12, 3) ∧ 44 + 3 = 47 := by decide +kernel
theorem dX6_judge_47 : decode bX6_judge 47 = .ok (.getfield 84, 3) ∧ 47 + 3 = 50 := by decide +kernel
theorem dX6_judge_50 : decode bX6_judge 50 = .ok (.if_icmp .ge 59, 3) ∧ 50 + 3 = 53 ∧ ((50 : Nat) : Int) + (59) = ((109 : Nat) : Int) := by decide +kernel
theorem dX6_judge_53 : decode bX6_judge 53 = .ok (.aload_n 0, 1) ∧ 53 + 1 = 54 := by decide +kernel
theorem dX6_judge_54 : decode bX6_judge 54 = .ok (.getfield 62, 3) ∧ 54 + 3 = 57 := by decide +kernel
theorem dX6_judge_57 : decode bX6_judge 57 = .ok (.iload_n 1, 1) ∧ 57 + 1 = 58 := by decide +kernel
theorem dX6_judge_58 : decode bX6_judge 58 = .ok (.iload_n 2, 1) ∧ 58 + 1 = 59 := by decide +kernel
theorem dX6_judge_59 : decode bX6_judge 59 = .ok (.i2l, 1) ∧ 59 + 1 = 60 := by decide +kernel
theorem dX6_judge_60 : decode bX6_judge 60 = .ok (.iload_n 3, 1) ∧ 60 + 1 = 61 := by decide +kernel
theorem dX6_judge_61 : decode bX6_judge 61 = .ok (.i2l, 1) ∧ 61 + 1 = 62 := by decide +kernel
theorem dX6_judge_62 : decode bX6_judge 62 = .ok (.ladd, 1) ∧ 62 + 1 = 63 := by decide +kernel
theorem dX6_judge_63 : decode bX6_judge 63 = .ok (.invokevirtual 274, 3) ∧ 63 + 3 = 66 := by decide +kernel
theorem dX6_judge_66 : decode bX6_judge 66 = .ok (.ifCond .ne 8, 3) ∧ 66 + 3 = 69 ∧ ((66 : Nat) : Int) + (8) = ((74 : Nat) : Int) := by decide +kernel
theorem dX6_judge_69 : decode bX6_judge 69 = .ok (.bipush 100, 2) ∧ 69 + 2 = 71 := by decide +kernel
theorem dX6_judge_71 : decode bX6_judge 71 = .ok (.iload_n 3, 1) ∧ 71 + 1 = 72 := by decide +kernel
theorem dX6_judge_72 : decode bX6_judge 72 = .ok (.iadd, 1) ∧ 72 + 1 = 73 := by decide +kernel
theorem dX6_judge_73 : decode bX6_judge 73 = .ok (.ireturn, 1) := by decide +kernel
theorem dX6_judge_74 : decode bX6_judge 74 = .ok (.aload_n 0, 1) ∧ 74 + 1 = 75 := by decide +kernel
theorem dX6_judge_75 : decode bX6_judge 75 = .ok (.getfield 62, 3) ∧ 75 + 3 = 78 := by decide +kernel
theorem dX6_judge_78 : decode bX6_judge 78 = .ok (.getfield 278, 3) ∧ 78 + 3 = 81 := by decide +kernel
theorem dX6_judge_81 : decode bX6_judge 81 = .ok (.iload_n 1, 1) ∧ 81 + 1 = 82 := by decide +kernel
theorem dX6_judge_82 : decode bX6_judge 82 = .ok (.aaload, 1) ∧ 82 + 1 = 83 := by decide +kernel
theorem dX6_judge_83 : decode bX6_judge 83 = .ok (.iload_n 2, 1) ∧ 83 + 1 = 84 := by decide +kernel
theorem dX6_judge_84 : decode bX6_judge 84 = .ok (.iload_n 3, 1) ∧ 84 + 1 = 85 := by decide +kernel
theorem dX6_judge_85 : decode bX6_judge 85 = .ok (.iadd, 1) ∧ 85 + 1 = 86 := by decide +kernel
theorem dX6_judge_86 : decode bX6_judge 86 = .ok (.laload, 1) ∧ 86 + 1 = 87 := by decide +kernel
theorem dX6_judge_87 : decode bX6_judge 87 = .ok (.aload_n 0, 1) ∧ 87 + 1 = 88 := by decide +kernel
theorem dX6_judge_88 : decode bX6_judge 88 = .ok (.getfield 12, 3) ∧ 88 + 3 = 91 := by decide +kernel
theorem dX6_judge_91 : decode bX6_judge 91 = .ok (.getfield 108, 3) ∧ 91 + 3 = 94 := by decide +kernel
theorem dX6_judge_94 : decode bX6_judge 94 = .ok (.iload_n 3, 1) ∧ 94 + 1 = 95 := by decide +kernel
theorem dX6_judge_95 : decode bX6_judge 95 = .ok (.iaload, 1) ∧ 95 + 1 = 96 := by decide +kernel
theorem dX6_judge_96 : decode bX6_judge 96 = .ok (.i2l, 1) ∧ 96 + 1 = 97 := by decide +kernel
theorem dX6_judge_97 : decode bX6_judge 97 = .ok (.lcmp, 1) ∧ 97 + 1 = 98 := by decide +kernel
theorem dX6_judge_98 : decode bX6_judge 98 = .ok (.ifCond .eq 5, 3) ∧ 98 + 3 = 101 ∧ ((98 : Nat) : Int) + (5) = ((103 : Nat) : Int) := by decide +kernel
theorem dX6_judge_101 : decode bX6_judge 101 = .ok (.iload_n 3, 1) ∧ 101 + 1 = 102 := by decide +kernel
theorem dX6_judge_102 : decode bX6_judge 102 = .ok (.ireturn, 1) := by decide +kernel
theorem dX6_judge_103 : decode bX6_judge 103 = .ok (.iinc 3 1, 3) ∧ 103 + 3 = 106 := by decide +kernel
theorem dX6_judge_106 : decode bX6_judge 106 = .ok (.goto (-64), 3) ∧ ((106 : Nat) : Int) + (-64) = ((42 : Nat) : Int) := by decide +kernel
theorem dX6_judge_109 : decode bX6_judge 109 = .ok (.bipush (-5), 2) ∧ 109 + 2 = 111 := by decide +kernel
theorem dX6_judge_111 : decode bX6_judge 111 = .ok (.ireturn, 1) := by decide +kernel
theorem dX6_image_0 : decode bX6_image 0 = .ok (.aload_n 0, 1) ∧ 0 + 1 = 1 := by decide +kernel
theorem dX6_image_1 : decode bX6_image 1 = .ok (.getfield 21, 3) ∧ 1 + 3 = 4 := by decide +kernel
theorem dX6_image_4 : decode bX6_image 4 = .ok (.aload_n 0, 1) ∧ 4 + 1 = 5 := by decide +kernel
theorem dX6_image_5 : decode bX6_image 5 = .ok (.getfield 12, 3) ∧ 5 + 3 = 8 := by decide +kernel
theorem dX6_image_8 : decode bX6_image 8 = .ok (.invokevirtual 282, 3) ∧ 8 + 3 = 11 := by decide +kernel
theorem dX6_image_11 : decode bX6_image 11 = .ok (.aload_n 0, 1) ∧ 11 + 1 = 12 := by decide +kernel
theorem dX6_image_12 : decode bX6_image 12 = .ok (.getfield 31, 3) ∧ 12 + 3 = 15 := by decide +kernel
theorem dX6_image_15 : decode bX6_image 15 = .ok (.aload_n 0, 1) ∧ 15 + 1 = 16 := by decide +kernel
theorem dX6_image_16 : decode bX6_image 16 = .ok (.getfield 27, 3) ∧ 16 + 3 = 19 := by decide +kernel
theorem dX6_image_19 : decode bX6_image 19 = .ok (.invokevirtual 286, 3) ∧ 19 + 3 = 22 := by decide +kernel
theorem dX6_image_22 : decode bX6_image 22 = .ok (.aload_n 0, 1) ∧ 22 + 1 = 23 := by decide +kernel
theorem dX6_image_23 : decode bX6_image 23 = .ok (.aload_n 0, 1) ∧ 23 + 1 = 24 := by decide +kernel
theorem dX6_image_24 : decode bX6_image 24 = .ok (.getfield 70, 3) ∧ 24 + 3 = 27 := by decide +kernel
theorem dX6_image_27 : decode bX6_image 27 = .ok (.putfield 73, 3) ∧ 27 + 3 = 30 := by decide +kernel
theorem dX6_image_30 : decode bX6_image 30 = .ok (.aload_n 0, 1) ∧ 30 + 1 = 31 := by decide +kernel
theorem dX6_image_31 : decode bX6_image 31 = .ok (.iconst 1, 1) ∧ 31 + 1 = 32 := by decide +kernel
theorem dX6_image_32 : decode bX6_image 32 = .ok (.putfield 76, 3) ∧ 32 + 3 = 35 := by decide +kernel
theorem dX6_image_35 : decode bX6_image 35 = .ok (.aload_n 0, 1) ∧ 35 + 1 = 36 := by decide +kernel
theorem dX6_image_36 : decode bX6_image 36 = .ok (.getfield 12, 3) ∧ 36 + 3 = 39 := by decide +kernel
theorem dX6_image_39 : decode bX6_image 39 = .ok (.getfield 84, 3) ∧ 39 + 3 = 42 := by decide +kernel
theorem dX6_image_42 : decode bX6_image 42 = .ok (.ireturn, 1) := by decide +kernel
theorem dX6_undo_0 : decode bX6_undo 0 = .ok (.aload_n 0, 1) ∧ 0 + 1 = 1 := by decide +kernel
theorem dX6_undo_1 : decode bX6_undo 1 = .ok (.getfield 76, 3) ∧ 1 + 3 = 4 := by decide +kernel
theorem dX6_undo_4 : decode bX6_undo 4 = .ok (.ifCond .ne 6, 3) ∧ 4 + 3 = 7 ∧ ((4 : Nat) : Int) + (6) = ((10 : Nat) : Int) := by decide +kernel
theorem dX6_undo_7 : decode bX6_undo 7 = .ok (.bipush (-3), 2) ∧ 7 + 2 = 9 := by decide +kernel
theorem dX6_undo_9 : decode bX6_undo 9 = .ok (.ireturn, 1) := by decide +kernel
theorem dX6_undo_10 : decode bX6_undo 10 = .ok (.aload_n 0, 1) ∧ 10 + 1 = 11 := by decide +kernel
theorem dX6_undo_11 : decode bX6_undo 11 = .ok (.getfield 12, 3) ∧ 11 + 3 = 14 := by decide +kernel
theorem dX6_undo_14 : decode bX6_undo 14 = .ok (.aload_n 0, 1) ∧ 14 + 1 = 15 := by decide +kernel
theorem dX6_undo_15 : decode bX6_undo 15 = .ok (.getfield 21, 3) ∧ 15 + 3 = 18 := by decide +kernel
theorem dX6_undo_18 : decode bX6_undo 18 = .ok (.invokevirtual 282, 3) ∧ 18 + 3 = 21 := by decide +kernel
theorem dX6_undo_21 : decode bX6_undo 21 = .ok (.aload_n 0, 1) ∧ 21 + 1 = 22 := by decide +kernel
theorem dX6_undo_22 : decode bX6_undo 22 = .ok (.getfield 27, 3) ∧ 22 + 3 = 25 := by decide +kernel
theorem dX6_undo_25 : decode bX6_undo 25 = .ok (.aload_n 0, 1) ∧ 25 + 1 = 26 := by decide +kernel
theorem dX6_undo_26 : decode bX6_undo 26 = .ok (.getfield 31, 3) ∧ 26 + 3 = 29 := by decide +kernel
theorem dX6_undo_29 : decode bX6_undo 29 = .ok (.invokevirtual 286, 3) ∧ 29 + 3 = 32 := by decide +kernel
theorem dX6_undo_32 : decode bX6_undo 32 = .ok (.aload_n 0, 1) ∧ 32 + 1 = 33 := by decide +kernel
theorem dX6_undo_33 : decode bX6_undo 33 = .ok (.aload_n 0, 1) ∧ 33 + 1 = 34 := by decide +kernel
theorem dX6_undo_34 : decode bX6_undo 34 = .ok (.getfield 73, 3) ∧ 34 + 3 = 37 := by decide +kernel
theorem dX6_undo_37 : decode bX6_undo 37 = .ok (.putfield 70, 3) ∧ 37 + 3 = 40 := by decide +kernel
theorem dX6_undo_40 : decode bX6_undo 40 = .ok (.aload_n 0, 1) ∧ 40 + 1 = 41 := by decide +kernel
theorem dX6_undo_41 : decode bX6_undo 41 = .ok (.getfield 12, 3) ∧ 41 + 3 = 44 := by decide +kernel
theorem dX6_undo_44 : decode bX6_undo 44 = .ok (.getfield 84, 3) ∧ 44 + 3 = 47 := by decide +kernel
theorem dX6_undo_47 : decode bX6_undo 47 = .ok (.ireturn, 1) := by decide +kernel
theorem dX6_act_0 : decode bX6_act 0 = .ok (.aload_n 0, 1) ∧ 0 + 1 = 1 := by decide +kernel
theorem dX6_act_1 : decode bX6_act 1 = .ok (.getfield 55, 3) ∧ 1 + 3 = 4 := by decide +kernel
theorem dX6_act_4 : decode bX6_act 4 = .ok (.invokevirtual 289, 3) ∧ 4 + 3 = 7 := by decide +kernel
theorem dX6_act_7 : decode bX6_act 7 = .ok (.aload_n 0, 1) ∧ 7 + 1 = 8 := by decide +kernel
theorem dX6_act_8 : decode bX6_act 8 = .ok (.iload_n 1, 1) ∧ 8 + 1 = 9 := by decide +kernel
theorem dX6_act_9 : decode bX6_act 9 = .ok (.invokevirtual 91, 3) ∧ 9 + 3 = 12 := by decide +kernel
theorem dX6_act_12 : decode bX6_act 12 = .ok (.ifCond .eq 12, 3) ∧ 12 + 3 = 15 ∧ ((12 : Nat) : Int) + (12) = ((24 : Nat) : Int) := by decide +kernel
theorem dX6_act_15 : decode bX6_act 15 = .ok (.iload_n 2, 1) ∧ 15 + 1 = 16 := by decide +kernel
theorem dX6_act_16 : decode bX6_act 16 = .ok (.iconst 0, 1) ∧ 16 + 1 = 17 := by decide +kernel
theorem dX6_act_17 : decode bX6_act 17 = .ok (.iconst 2, 1) ∧ 17 + 1 = 18 := by decide +kernel
theorem dX6_act_18 : decode bX6_act 18 = .ok (.invokestatic 80, 3) ∧ 18 + 3 = 21 := by decide +kernel
theorem dX6_act_21 : decode bX6_act 21 = .ok (.ifCond .ne 5, 3) ∧ 21 + 3 = 24 ∧ ((21 : Nat) : Int) + (5) = ((26 : Nat) : Int) := by decide +kernel
theorem dX6_act_24 : decode bX6_act 24 = .ok (.iconst 0, 1) ∧ 24 + 1 = 25 := by decide +kernel
theorem dX6_act_25 : decode bX6_act 25 = .ok (.ireturn, 1) := by decide +kernel
theorem dX6_act_26 : decode bX6_act 26 = .ok (.aload_n 0, 1) ∧ 26 + 1 = 27 := by decide +kernel
theorem dX6_act_27 : decode bX6_act 27 = .ok (.getfield 55, 3) ∧ 27 + 3 = 30 := by decide +kernel
theorem dX6_act_30 : decode bX6_act 30 = .ok (.aload_n 0, 1) ∧ 30 + 1 = 31 := by decide +kernel
theorem dX6_act_31 : decode bX6_act 31 = .ok (.getfield 12, 3) ∧ 31 + 3 = 34 := by decide +kernel
theorem dX6_act_34 : decode bX6_act 34 = .ok (.iload_n 1, 1) ∧ 34 + 1 = 35 := by decide +kernel
theorem dX6_act_35 : decode bX6_act 35 = .ok (.iload_n 2, 1) ∧ 35 + 1 = 36 := by decide +kernel
theorem dX6_act_36 : decode bX6_act 36 = .ok (.iload_n 3, 1) ∧ 36 + 1 = 37 := by decide +kernel
theorem dX6_act_37 : decode bX6_act 37 = .ok (.invokevirtual 292, 3) ∧ 37 + 3 = 40 := by decide +kernel
theorem dX6_act_40 : decode bX6_act 40 = .ok (.ireturn, 1) := by decide +kernel
theorem dX6_trace_0 : decode bX6_trace 0 = .ok (.aload_n 0, 1) ∧ 0 + 1 = 1 := by decide +kernel
theorem dX6_trace_1 : decode bX6_trace 1 = .ok (.getfield 55, 3) ∧ 1 + 3 = 4 := by decide +kernel
theorem dX6_trace_4 : decode bX6_trace 4 = .ok (.iload_n 1, 1) ∧ 4 + 1 = 5 := by decide +kernel
theorem dX6_trace_5 : decode bX6_trace 5 = .ok (.invokevirtual 296, 3) ∧ 5 + 3 = 8 := by decide +kernel
theorem dX6_trace_8 : decode bX6_trace 8 = .ok (.ireturn, 1) := by decide +kernel
theorem dX6_taken_0 : decode bX6_taken 0 = .ok (.iload_n 2, 1) ∧ 0 + 1 = 1 := by decide +kernel
theorem dX6_taken_1 : decode bX6_taken 1 = .ok (.iconst 0, 1) ∧ 1 + 1 = 2 := by decide +kernel
theorem dX6_taken_2 : decode bX6_taken 2 = .ok (.bipush 6, 2) ∧ 2 + 2 = 4 := by decide +kernel
theorem dX6_taken_4 : decode bX6_taken 4 = .ok (.invokestatic 80, 3) ∧ 4 + 3 = 7 := by decide +kernel
theorem dX6_taken_7 : decode bX6_taken 7 = .ok (.ifCond .ne 6, 3) ∧ 7 + 3 = 10 ∧ ((7 : Nat) : Int) + (6) = ((13 : Nat) : Int) := by decide +kernel
theorem dX6_taken_10 : decode bX6_taken 10 = .ok (.bipush (-2), 2) ∧ 10 + 2 = 12 := by decide +kernel
theorem dX6_taken_12 : decode bX6_taken 12 = .ok (.ireturn, 1) := by decide +kernel
theorem dX6_taken_13 : decode bX6_taken 13 = .ok (.aload_n 0, 1) ∧ 13 + 1 = 14 := by decide +kernel
theorem dX6_taken_14 : decode bX6_taken 14 = .ok (.iload_n 1, 1) ∧ 14 + 1 = 15 := by decide +kernel
theorem dX6_taken_15 : decode bX6_taken 15 = .ok (.invokevirtual 91, 3) ∧ 15 + 3 = 18 := by decide +kernel
theorem dX6_taken_18 : decode bX6_taken 18 = .ok (.ifCond .ne 6, 3) ∧ 18 + 3 = 21 ∧ ((18 : Nat) : Int) + (6) = ((24 : Nat) : Int) := by decide +kernel
theorem dX6_taken_21 : decode bX6_taken 21 = .ok (.bipush (-11), 2) ∧ 21 + 2 = 23 := by decide +kernel
theorem dX6_taken_23 : decode bX6_taken 23 = .ok (.ireturn, 1) := by decide +kernel
theorem dX6_taken_24 : decode bX6_taken 24 = .ok (.aload_n 0, 1) ∧ 24 + 1 = 25 := by decide +kernel
theorem dX6_taken_25 : decode bX6_taken 25 = .ok (.getfield 12, 3) ∧ 25 + 3 = 28 := by decide +kernel
theorem dX6_taken_28 : decode bX6_taken 28 = .ok (.getfield 95, 3) ∧ 28 + 3 = 31 := by decide +kernel
theorem dX6_taken_31 : decode bX6_taken 31 = .ok (.iload_n 1, 1) ∧ 31 + 1 = 32 := by decide +kernel
theorem dX6_taken_32 : decode bX6_taken 32 = .ok (.iaload, 1) ∧ 32 + 1 = 33 := by decide +kernel
theorem dX6_taken_33 : decode bX6_taken 33 = .ok (.istore_n 3, 1) ∧ 33 + 1 = 34 := by decide +kernel
theorem dX6_taken_34 : decode bX6_taken 34 = .ok (.iload_n 3, 1) ∧ 34 + 1 = 35 := by decide +kernel
theorem dX6_taken_35 : decode bX6_taken 35 = .ok (.iload_n 2, 1) ∧ 35 + 1 = 36 := by decide +kernel
theorem dX6_taken_36 : decode bX6_taken 36 = .ok (.invokestatic 299, 3) ∧ 36 + 3 = 39 := by decide +kernel
theorem dX6_taken_39 : decode bX6_taken 39 = .ok (.ifCond .eq 7, 3) ∧ 39 + 3 = 42 ∧ ((39 : Nat) : Int) + (7) = ((46 : Nat) : Int) := by decide +kernel
theorem dX6_taken_42 : decode bX6_taken 42 = .ok (.iload_n 3, 1) ∧ 42 + 1 = 43 := by decide +kernel
theorem dX6_taken_43 : decode bX6_taken 43 = .ok (.goto 5, 3) ∧ ((43 : Nat) : Int) + (5) = ((48 : Nat) : Int) := by decide +kernel
theorem dX6_taken_46 : decode bX6_taken 46 = .ok (.bipush (-12), 2) ∧ 46 + 2 = 48 := by decide +kernel
theorem dX6_taken_48 : decode bX6_taken 48 = .ok (.ireturn, 1) := by decide +kernel
theorem dX6_count_0 : decode bX6_count 0 = .ok (.iload_n 1, 1) ∧ 0 + 1 = 1 := by decide +kernel
theorem dX6_count_1 : decode bX6_count 1 = .ok (.tableswitch 96 0 6 #[43, 51, 56, 64, 72, 80, 88], 43) := by decide +kernel
theorem dX6_count_44 : decode bX6_count 44 = .ok (.aload_n 0, 1) ∧ 44 + 1 = 45 := by decide +kernel
theorem dX6_count_45 : decode bX6_count 45 = .ok (.getfield 12, 3) ∧ 45 + 3 = 48 := by decide +kernel
theorem dX6_count_48 : decode bX6_count 48 = .ok (.getfield 84, 3) ∧ 48 + 3 = 51 := by decide +kernel
theorem dX6_count_51 : decode bX6_count 51 = .ok (.ireturn, 1) := by decide +kernel
theorem dX6_count_52 : decode bX6_count 52 = .ok (.aload_n 0, 1) ∧ 52 + 1 = 53 := by decide +kernel
theorem dX6_count_53 : decode bX6_count 53 = .ok (.getfield 66, 3) ∧ 53 + 3 = 56 := by decide +kernel
theorem dX6_count_56 : decode bX6_count 56 = .ok (.ireturn, 1) := by decide +kernel
theorem dX6_count_57 : decode bX6_count 57 = .ok (.aload_n 0, 1) ∧ 57 + 1 = 58 := by decide +kernel
theorem dX6_count_58 : decode bX6_count 58 = .ok (.getfield 27, 3) ∧ 58 + 3 = 61 := by decide +kernel
theorem dX6_count_61 : decode bX6_count 61 = .ok (.getfield 223, 3) ∧ 61 + 3 = 64 := by decide +kernel
theorem dX6_count_64 : decode bX6_count 64 = .ok (.ireturn, 1) := by decide +kernel
theorem dX6_count_65 : decode bX6_count 65 = .ok (.aload_n 0, 1) ∧ 65 + 1 = 66 := by decide +kernel
theorem dX6_count_66 : decode bX6_count 66 = .ok (.getfield 27, 3) ∧ 66 + 3 = 69 := by decide +kernel
theorem dX6_count_69 : decode bX6_count 69 = .ok (.getfield 239, 3) ∧ 69 + 3 = 72 := by decide +kernel
theorem dX6_count_72 : decode bX6_count 72 = .ok (.ireturn, 1) := by decide +kernel
theorem dX6_count_73 : decode bX6_count 73 = .ok (.aload_n 0, 1) ∧ 73 + 1 = 74 := by decide +kernel
theorem dX6_count_74 : decode bX6_count 74 = .ok (.getfield 27, 3) ∧ 74 + 3 = 77 := by decide +kernel
theorem dX6_count_77 : decode bX6_count 77 = .ok (.getfield 254, 3) ∧ 77 + 3 = 80 := by decide +kernel
theorem dX6_count_80 : decode bX6_count 80 = .ok (.ireturn, 1) := by decide +kernel
theorem dX6_count_81 : decode bX6_count 81 = .ok (.aload_n 0, 1) ∧ 81 + 1 = 82 := by decide +kernel
theorem dX6_count_82 : decode bX6_count 82 = .ok (.getfield 37, 3) ∧ 82 + 3 = 85 := by decide +kernel
theorem dX6_count_85 : decode bX6_count 85 = .ok (.getfield 162, 3) ∧ 85 + 3 = 88 := by decide +kernel
theorem dX6_count_88 : decode bX6_count 88 = .ok (.ireturn, 1) := by decide +kernel
theorem dX6_count_89 : decode bX6_count 89 = .ok (.aload_n 0, 1) ∧ 89 + 1 = 90 := by decide +kernel
theorem dX6_count_90 : decode bX6_count 90 = .ok (.getfield 55, 3) ∧ 90 + 3 = 93 := by decide +kernel
theorem dX6_count_93 : decode bX6_count 93 = .ok (.getfield 302, 3) ∧ 93 + 3 = 96 := by decide +kernel
theorem dX6_count_96 : decode bX6_count 96 = .ok (.ireturn, 1) := by decide +kernel
theorem dX6_count_97 : decode bX6_count 97 = .ok (.bipush (-2), 2) ∧ 97 + 2 = 99 := by decide +kernel
theorem dX6_count_99 : decode bX6_count 99 = .ok (.ireturn, 1) := by decide +kernel
theorem dX6_tape_0 : decode bX6_tape 0 = .ok (.aload_n 0, 1) ∧ 0 + 1 = 1 := by decide +kernel
theorem dX6_tape_1 : decode bX6_tape 1 = .ok (.getfield 62, 3) ∧ 1 + 3 = 4 := by decide +kernel
theorem dX6_tape_4 : decode bX6_tape 4 = .ok (.iload_n 1, 1) ∧ 4 + 1 = 5 := by decide +kernel
theorem dX6_tape_5 : decode bX6_tape 5 = .ok (.invokevirtual 267, 3) ∧ 5 + 3 = 8 := by decide +kernel
theorem dX6_tape_8 : decode bX6_tape 8 = .ok (.ifCond .ne 5, 3) ∧ 8 + 3 = 11 ∧ ((8 : Nat) : Int) + (5) = ((13 : Nat) : Int) := by decide +kernel
theorem dX6_tape_11 : decode bX6_tape 11 = .ok (.iconst (-1), 1) ∧ 11 + 1 = 12 := by decide +kernel
theorem dX6_tape_12 : decode bX6_tape 12 = .ok (.ireturn, 1) := by decide +kernel
theorem dX6_tape_13 : decode bX6_tape 13 = .ok (.iload_n 2, 1) ∧ 13 + 1 = 14 := by decide +kernel
theorem dX6_tape_14 : decode bX6_tape 14 = .ok (.iconst (-1), 1) ∧ 14 + 1 = 15 := by decide +kernel
theorem dX6_tape_15 : decode bX6_tape 15 = .ok (.if_icmp .ne 15, 3) ∧ 15 + 3 = 18 ∧ ((15 : Nat) : Int) + (15) = ((30 : Nat) : Int) := by decide +kernel
theorem dX6_tape_18 : decode bX6_tape 18 = .ok (.aload_n 0, 1) ∧ 18 + 1 = 19 := by decide +kernel
theorem dX6_tape_19 : decode bX6_tape 19 = .ok (.getfield 62, 3) ∧ 19 + 3 = 22 := by decide +kernel
theorem dX6_tape_22 : decode bX6_tape 22 = .ok (.getfield 271, 3) ∧ 22 + 3 = 25 := by decide +kernel
theorem dX6_tape_25 : decode bX6_tape 25 = .ok (.iload_n 1, 1) ∧ 25 + 1 = 26 := by decide +kernel
theorem dX6_tape_26 : decode bX6_tape 26 = .ok (.iconst (-1), 1) ∧ 26 + 1 = 27 := by decide +kernel
theorem dX6_tape_27 : decode bX6_tape 27 = .ok (.iastore, 1) ∧ 27 + 1 = 28 := by decide +kernel
theorem dX6_tape_28 : decode bX6_tape 28 = .ok (.iconst 1, 1) ∧ 28 + 1 = 29 := by decide +kernel
theorem dX6_tape_29 : decode bX6_tape 29 = .ok (.ireturn, 1) := by decide +kernel
theorem dX6_tape_30 : decode bX6_tape 30 = .ok (.iload_n 2, 1) ∧ 30 + 1 = 31 := by decide +kernel
theorem dX6_tape_31 : decode bX6_tape 31 = .ok (.iconst 0, 1) ∧ 31 + 1 = 32 := by decide +kernel
theorem dX6_tape_32 : decode bX6_tape 32 = .ok (.iconst 4, 1) ∧ 32 + 1 = 33 := by decide +kernel
theorem dX6_tape_33 : decode bX6_tape 33 = .ok (.invokestatic 80, 3) ∧ 33 + 3 = 36 := by decide +kernel
theorem dX6_tape_36 : decode bX6_tape 36 = .ok (.ifCond .eq 9, 3) ∧ 36 + 3 = 39 ∧ ((36 : Nat) : Int) + (9) = ((45 : Nat) : Int) := by decide +kernel
theorem dX6_tape_39 : decode bX6_tape 39 = .ok (.iload_n 3, 1) ∧ 39 + 1 = 40 := by decide +kernel
theorem dX6_tape_40 : decode bX6_tape 40 = .ok (.bipush 60, 2) ∧ 40 + 2 = 42 := by decide +kernel
theorem dX6_tape_42 : decode bX6_tape 42 = .ok (.if_icmp .le 6, 3) ∧ 42 + 3 = 45 ∧ ((42 : Nat) : Int) + (6) = ((48 : Nat) : Int) := by decide +kernel
theorem dX6_tape_45 : decode bX6_tape 45 = .ok (.bipush (-2), 2) ∧ 45 + 2 = 47 := by decide +kernel
theorem dX6_tape_47 : decode bX6_tape 47 = .ok (.ireturn, 1) := by decide +kernel
theorem dX6_tape_48 : decode bX6_tape 48 = .ok (.iload_n 3, 1) ∧ 48 + 1 = 49 := by decide +kernel
theorem dX6_tape_49 : decode bX6_tape 49 = .ok (.ifCond .ge 6, 3) ∧ 49 + 3 = 52 ∧ ((49 : Nat) : Int) + (6) = ((55 : Nat) : Int) := by decide +kernel
theorem dX6_tape_52 : decode bX6_tape 52 = .ok (.bipush (-14), 2) ∧ 52 + 2 = 54 := by decide +kernel
theorem dX6_tape_54 : decode bX6_tape 54 = .ok (.ireturn, 1) := by decide +kernel
theorem dX6_tape_55 : decode bX6_tape 55 = .ok (.aload_n 0, 1) ∧ 55 + 1 = 56 := by decide +kernel
theorem dX6_tape_56 : decode bX6_tape 56 = .ok (.getfield 62, 3) ∧ 56 + 3 = 59 := by decide +kernel
theorem dX6_tape_59 : decode bX6_tape 59 = .ok (.iload_n 1, 1) ∧ 59 + 1 = 60 := by decide +kernel
theorem dX6_tape_60 : decode bX6_tape 60 = .ok (.iload_n 2, 1) ∧ 60 + 1 = 61 := by decide +kernel
theorem dX6_tape_61 : decode bX6_tape 61 = .ok (.iload_n 3, 1) ∧ 61 + 1 = 62 := by decide +kernel
theorem dX6_tape_62 : decode bX6_tape 62 = .ok (.invokevirtual 305, 3) ∧ 62 + 3 = 65 := by decide +kernel
theorem dX6_tape_65 : decode bX6_tape 65 = .ok (.iconst 1, 1) ∧ 65 + 1 = 66 := by decide +kernel
theorem dX6_tape_66 : decode bX6_tape 66 = .ok (.ireturn, 1) := by decide +kernel
theorem dX6_item_0 : decode bX6_item 0 = .ok (.aload_n 0, 1) ∧ 0 + 1 = 1 := by decide +kernel
theorem dX6_item_1 : decode bX6_item 1 = .ok (.getfield 62, 3) ∧ 1 + 3 = 4 := by decide +kernel
theorem dX6_item_4 : decode bX6_item 4 = .ok (.iload_n 1, 1) ∧ 4 + 1 = 5 := by decide +kernel
theorem dX6_item_5 : decode bX6_item 5 = .ok (.invokevirtual 267, 3) ∧ 5 + 3 = 8 := by decide +kernel
theorem dX6_item_8 : decode bX6_item 8 = .ok (.ifCond .ne 5, 3) ∧ 8 + 3 = 11 ∧ ((8 : Nat) : Int) + (5) = ((13 : Nat) : Int) := by decide +kernel
theorem dX6_item_11 : decode bX6_item 11 = .ok (.iconst (-1), 1) ∧ 11 + 1 = 12 := by decide +kernel
theorem dX6_item_12 : decode bX6_item 12 = .ok (.ireturn, 1) := by decide +kernel
theorem dX6_item_13 : decode bX6_item 13 = .ok (.aload_n 0, 1) ∧ 13 + 1 = 14 := by decide +kernel
theorem dX6_item_14 : decode bX6_item 14 = .ok (.getfield 62, 3) ∧ 14 + 3 = 17 := by decide +kernel
theorem dX6_item_17 : decode bX6_item 17 = .ok (.iload_n 1, 1) ∧ 17 + 1 = 18 := by decide +kernel
theorem dX6_item_18 : decode bX6_item 18 = .ok (.invokevirtual 268, 3) ∧ 18 + 3 = 21 := by decide +kernel
theorem dX6_item_21 : decode bX6_item 21 = .ok (.ifCond .ne 6, 3) ∧ 21 + 3 = 24 ∧ ((21 : Nat) : Int) + (6) = ((27 : Nat) : Int) := by decide +kernel
theorem dX6_item_24 : decode bX6_item 24 = .ok (.bipush (-11), 2) ∧ 24 + 2 = 26 := by decide +kernel
theorem dX6_item_26 : decode bX6_item 26 = .ok (.ireturn, 1) := by decide +kernel
theorem dX6_item_27 : decode bX6_item 27 = .ok (.aload_n 0, 1) ∧ 27 + 1 = 28 := by decide +kernel
theorem dX6_item_28 : decode bX6_item 28 = .ok (.getfield 62, 3) ∧ 28 + 3 = 31 := by decide +kernel
theorem dX6_item_31 : decode bX6_item 31 = .ok (.iload_n 1, 1) ∧ 31 + 1 = 32 := by decide +kernel
theorem dX6_item_32 : decode bX6_item 32 = .ok (.iload_n 2, 1) ∧ 32 + 1 = 33 := by decide +kernel
theorem dX6_item_33 : decode bX6_item 33 = .ok (.i2l, 1) ∧ 33 + 1 = 34 := by decide +kernel
theorem dX6_item_34 : decode bX6_item 34 = .ok (.invokevirtual 274, 3) ∧ 34 + 3 = 37 := by decide +kernel
theorem dX6_item_37 : decode bX6_item 37 = .ok (.ifCond .ne 6, 3) ∧ 37 + 3 = 40 ∧ ((37 : Nat) : Int) + (6) = ((43 : Nat) : Int) := by decide +kernel
theorem dX6_item_40 : decode bX6_item 40 = .ok (.bipush (-13), 2) ∧ 40 + 2 = 42 := by decide +kernel
theorem dX6_item_42 : decode bX6_item 42 = .ok (.ireturn, 1) := by decide +kernel
theorem dX6_item_43 : decode bX6_item 43 = .ok (.aload_n 0, 1) ∧ 43 + 1 = 44 := by decide +kernel
theorem dX6_item_44 : decode bX6_item 44 = .ok (.getfield 62, 3) ∧ 44 + 3 = 47 := by decide +kernel
theorem dX6_item_47 : decode bX6_item 47 = .ok (.getfield 278, 3) ∧ 47 + 3 = 50 := by decide +kernel
theorem dX6_item_50 : decode bX6_item 50 = .ok (.iload_n 1, 1) ∧ 50 + 1 = 51 := by decide +kernel
theorem dX6_item_51 : decode bX6_item 51 = .ok (.aaload, 1) ∧ 51 + 1 = 52 := by decide +kernel
theorem dX6_item_52 : decode bX6_item 52 = .ok (.iload_n 2, 1) ∧ 52 + 1 = 53 := by decide +kernel
theorem dX6_item_53 : decode bX6_item 53 = .ok (.aload_n 0, 1) ∧ 53 + 1 = 54 := by decide +kernel
theorem dX6_item_54 : decode bX6_item 54 = .ok (.getfield 62, 3) ∧ 54 + 3 = 57 := by decide +kernel
theorem dX6_item_57 : decode bX6_item 57 = .ok (.getfield 271, 3) ∧ 57 + 3 = 60 := by decide +kernel
theorem dX6_item_60 : decode bX6_item 60 = .ok (.iload_n 1, 1) ∧ 60 + 1 = 61 := by decide +kernel
theorem dX6_item_61 : decode bX6_item 61 = .ok (.iaload, 1) ∧ 61 + 1 = 62 := by decide +kernel
theorem dX6_item_62 : decode bX6_item 62 = .ok (.lload_n 3, 1) ∧ 62 + 1 = 63 := by decide +kernel
theorem dX6_item_63 : decode bX6_item 63 = .ok (.invokestatic 309, 3) ∧ 63 + 3 = 66 := by decide +kernel
theorem dX6_item_66 : decode bX6_item 66 = .ok (.lastore, 1) ∧ 66 + 1 = 67 := by decide +kernel
theorem dX6_item_67 : decode bX6_item 67 = .ok (.iconst 1, 1) ∧ 67 + 1 = 68 := by decide +kernel
theorem dX6_item_68 : decode bX6_item 68 = .ok (.ireturn, 1) := by decide +kernel
theorem dX6_read_0 : decode bX6_read 0 = .ok (.aload_n 0, 1) ∧ 0 + 1 = 1 := by decide +kernel
theorem dX6_read_1 : decode bX6_read 1 = .ok (.getfield 62, 3) ∧ 1 + 3 = 4 := by decide +kernel
theorem dX6_read_4 : decode bX6_read 4 = .ok (.iload_n 1, 1) ∧ 4 + 1 = 5 := by decide +kernel
theorem dX6_read_5 : decode bX6_read 5 = .ok (.invokevirtual 267, 3) ∧ 5 + 3 = 8 := by decide +kernel
theorem dX6_read_8 : decode bX6_read 8 = .ok (.ifCond .eq 16, 3) ∧ 8 + 3 = 11 ∧ ((8 : Nat) : Int) + (16) = ((24 : Nat) : Int) := by decide +kernel
theorem dX6_read_11 : decode bX6_read 11 = .ok (.aload_n 0, 1) ∧ 11 + 1 = 12 := by decide +kernel
theorem dX6_read_12 : decode bX6_read 12 = .ok (.getfield 62, 3) ∧ 12 + 3 = 15 := by decide +kernel
theorem dX6_read_15 : decode bX6_read 15 = .ok (.iload_n 1, 1) ∧ 15 + 1 = 16 := by decide +kernel
theorem dX6_read_16 : decode bX6_read 16 = .ok (.iload_n 2, 1) ∧ 16 + 1 = 17 := by decide +kernel
theorem dX6_read_17 : decode bX6_read 17 = .ok (.i2l, 1) ∧ 17 + 1 = 18 := by decide +kernel
theorem dX6_read_18 : decode bX6_read 18 = .ok (.invokevirtual 274, 3) ∧ 18 + 3 = 21 := by decide +kernel
theorem dX6_read_21 : decode bX6_read 21 = .ok (.ifCond .ne 7, 3) ∧ 21 + 3 = 24 ∧ ((21 : Nat) : Int) + (7) = ((28 : Nat) : Int) := by decide +kernel
theorem dX6_read_24 : decode bX6_read 24 = .ok (.ldc2_w 233, 3) ∧ 24 + 3 = 27 := by decide +kernel
theorem dX6_read_27 : decode bX6_read 27 = .ok (.lreturn, 1) := by decide +kernel
theorem dX6_read_28 : decode bX6_read 28 = .ok (.aload_n 0, 1) ∧ 28 + 1 = 29 := by decide +kernel
theorem dX6_read_29 : decode bX6_read 29 = .ok (.getfield 62, 3) ∧ 29 + 3 = 32 := by decide +kernel
theorem dX6_read_32 : decode bX6_read 32 = .ok (.getfield 278, 3) ∧ 32 + 3 = 35 := by decide +kernel
theorem dX6_read_35 : decode bX6_read 35 = .ok (.iload_n 1, 1) ∧ 35 + 1 = 36 := by decide +kernel
theorem dX6_read_36 : decode bX6_read 36 = .ok (.aaload, 1) ∧ 36 + 1 = 37 := by decide +kernel
theorem dX6_read_37 : decode bX6_read 37 = .ok (.iload_n 2, 1) ∧ 37 + 1 = 38 := by decide +kernel
theorem dX6_read_38 : decode bX6_read 38 = .ok (.laload, 1) ∧ 38 + 1 = 39 := by decide +kernel
theorem dX6_read_39 : decode bX6_read 39 = .ok (.lreturn, 1) := by decide +kernel
theorem dX6_shift_0 : decode bX6_shift 0 = .ok (.aload_n 0, 1) ∧ 0 + 1 = 1 := by decide +kernel
theorem dX6_shift_1 : decode bX6_shift 1 = .ok (.getfield 62, 3) ∧ 1 + 3 = 4 := by decide +kernel
theorem dX6_shift_4 : decode bX6_shift 4 = .ok (.iload_n 1, 1) ∧ 4 + 1 = 5 := by decide +kernel
theorem dX6_shift_5 : decode bX6_shift 5 = .ok (.invokevirtual 267, 3) ∧ 5 + 3 = 8 := by decide +kernel
theorem dX6_shift_8 : decode bX6_shift 8 = .ok (.ifCond .eq 14, 3) ∧ 8 + 3 = 11 ∧ ((8 : Nat) : Int) + (14) = ((22 : Nat) : Int) := by decide +kernel
theorem dX6_shift_11 : decode bX6_shift 11 = .ok (.aload_n 0, 1) ∧ 11 + 1 = 12 := by decide +kernel
theorem dX6_shift_12 : decode bX6_shift 12 = .ok (.getfield 62, 3) ∧ 12 + 3 = 15 := by decide +kernel
theorem dX6_shift_15 : decode bX6_shift 15 = .ok (.iload_n 3, 1) ∧ 15 + 1 = 16 := by decide +kernel
theorem dX6_shift_16 : decode bX6_shift 16 = .ok (.invokevirtual 267, 3) ∧ 16 + 3 = 19 := by decide +kernel
theorem dX6_shift_19 : decode bX6_shift 19 = .ok (.ifCond .ne 5, 3) ∧ 19 + 3 = 22 ∧ ((19 : Nat) : Int) + (5) = ((24 : Nat) : Int) := by decide +kernel
theorem dX6_shift_22 : decode bX6_shift 22 = .ok (.iconst (-1), 1) ∧ 22 + 1 = 23 := by decide +kernel
theorem dX6_shift_23 : decode bX6_shift 23 = .ok (.ireturn, 1) := by decide +kernel
theorem dX6_shift_24 : decode bX6_shift 24 = .ok (.aload_n 0, 1) ∧ 24 + 1 = 25 := by decide +kernel
theorem dX6_shift_25 : decode bX6_shift 25 = .ok (.getfield 62, 3) ∧ 25 + 3 = 28 := by decide +kernel
theorem dX6_shift_28 : decode bX6_shift 28 = .ok (.iload_n 1, 1) ∧ 28 + 1 = 29 := by decide +kernel
theorem dX6_shift_29 : decode bX6_shift 29 = .ok (.invokevirtual 268, 3) ∧ 29 + 3 = 32 := by decide +kernel
theorem dX6_shift_32 : decode bX6_shift 32 = .ok (.ifCond .eq 14, 3) ∧ 32 + 3 = 35 ∧ ((32 : Nat) : Int) + (14) = ((46 : Nat) : Int) := by decide +kernel
theorem dX6_shift_35 : decode bX6_shift 35 = .ok (.aload_n 0, 1) ∧ 35 + 1 = 36 := by decide +kernel
theorem dX6_shift_36 : decode bX6_shift 36 = .ok (.getfield 62, 3) ∧ 36 + 3 = 39 := by decide +kernel
theorem dX6_shift_39 : decode bX6_shift 39 = .ok (.iload_n 3, 1) ∧ 39 + 1 = 40 := by decide +kernel
theorem dX6_shift_40 : decode bX6_shift 40 = .ok (.invokevirtual 268, 3) ∧ 40 + 3 = 43 := by decide +kernel
theorem dX6_shift_43 : decode bX6_shift 43 = .ok (.ifCond .ne 6, 3) ∧ 43 + 3 = 46 ∧ ((43 : Nat) : Int) + (6) = ((49 : Nat) : Int) := by decide +kernel
theorem dX6_shift_46 : decode bX6_shift 46 = .ok (.bipush (-11), 2) ∧ 46 + 2 = 48 := by decide +kernel
theorem dX6_shift_48 : decode bX6_shift 48 = .ok (.ireturn, 1) := by decide +kernel
theorem dX6_shift_49 : decode bX6_shift 49 = .ok (.aload_n 0, 1) ∧ 49 + 1 = 50 := by decide +kernel
theorem dX6_shift_50 : decode bX6_shift 50 = .ok (.getfield 62, 3) ∧ 50 + 3 = 53 := by decide +kernel
theorem dX6_shift_53 : decode bX6_shift 53 = .ok (.getfield 271, 3) ∧ 53 + 3 = 56 := by decide +kernel
theorem dX6_shift_56 : decode bX6_shift 56 = .ok (.iload_n 1, 1) ∧ 56 + 1 = 57 := by decide +kernel
theorem dX6_shift_57 : decode bX6_shift 57 = .ok (.iaload, 1) ∧ 57 + 1 = 58 := by decide +kernel
theorem dX6_shift_58 : decode bX6_shift 58 = .ok (.aload_n 0, 1) ∧ 58 + 1 = 59 := by decide +kernel
theorem dX6_shift_59 : decode bX6_shift 59 = .ok (.getfield 62, 3) ∧ 59 + 3 = 62 := by decide +kernel
theorem dX6_shift_62 : decode bX6_shift 62 = .ok (.getfield 271, 3) ∧ 62 + 3 = 65 := by decide +kernel
theorem dX6_shift_65 : decode bX6_shift 65 = .ok (.iload_n 3, 1) ∧ 65 + 1 = 66 := by decide +kernel
theorem dX6_shift_66 : decode bX6_shift 66 = .ok (.iaload, 1) ∧ 66 + 1 = 67 := by decide +kernel
theorem dX6_shift_67 : decode bX6_shift 67 = .ok (.if_icmp .eq 6, 3) ∧ 67 + 3 = 70 ∧ ((67 : Nat) : Int) + (6) = ((73 : Nat) : Int) := by decide +kernel
theorem dX6_shift_70 : decode bX6_shift 70 = .ok (.bipush (-12), 2) ∧ 70 + 2 = 72 := by decide +kernel
theorem dX6_shift_72 : decode bX6_shift 72 = .ok (.ireturn, 1) := by decide +kernel
theorem dX6_shift_73 : decode bX6_shift 73 = .ok (.aload_n 0, 1) ∧ 73 + 1 = 74 := by decide +kernel
theorem dX6_shift_74 : decode bX6_shift 74 = .ok (.getfield 62, 3) ∧ 74 + 3 = 77 := by decide +kernel
theorem dX6_shift_77 : decode bX6_shift 77 = .ok (.iload_n 1, 1) ∧ 77 + 1 = 78 := by decide +kernel
theorem dX6_shift_78 : decode bX6_shift 78 = .ok (.iload_n 2, 1) ∧ 78 + 1 = 79 := by decide +kernel
theorem dX6_shift_79 : decode bX6_shift 79 = .ok (.iload 5, 2) ∧ 79 + 2 = 81 := by decide +kernel
theorem dX6_shift_81 : decode bX6_shift 81 = .ok (.invokevirtual 313, 3) ∧ 81 + 3 = 84 := by decide +kernel
theorem dX6_shift_84 : decode bX6_shift 84 = .ok (.ifCond .eq 18, 3) ∧ 84 + 3 = 87 ∧ ((84 : Nat) : Int) + (18) = ((102 : Nat) : Int) := by decide +kernel
theorem dX6_shift_87 : decode bX6_shift 87 = .ok (.aload_n 0, 1) ∧ 87 + 1 = 88 := by decide +kernel
theorem dX6_shift_88 : decode bX6_shift 88 = .ok (.getfield 62, 3) ∧ 88 + 3 = 91 := by decide +kernel
theorem dX6_shift_91 : decode bX6_shift 91 = .ok (.iload_n 3, 1) ∧ 91 + 1 = 92 := by decide +kernel
theorem dX6_shift_92 : decode bX6_shift 92 = .ok (.iload 4, 2) ∧ 92 + 2 = 94 := by decide +kernel
theorem dX6_shift_94 : decode bX6_shift 94 = .ok (.iload 5, 2) ∧ 94 + 2 = 96 := by decide +kernel
theorem dX6_shift_96 : decode bX6_shift 96 = .ok (.invokevirtual 313, 3) ∧ 96 + 3 = 99 := by decide +kernel
theorem dX6_shift_99 : decode bX6_shift 99 = .ok (.ifCond .ne 6, 3) ∧ 99 + 3 = 102 ∧ ((99 : Nat) : Int) + (6) = ((105 : Nat) : Int) := by decide +kernel
theorem dX6_shift_102 : decode bX6_shift 102 = .ok (.bipush (-13), 2) ∧ 102 + 2 = 104 := by decide +kernel
theorem dX6_shift_104 : decode bX6_shift 104 = .ok (.ireturn, 1) := by decide +kernel
theorem dX6_shift_105 : decode bX6_shift 105 = .ok (.aload_n 0, 1) ∧ 105 + 1 = 106 := by decide +kernel
theorem dX6_shift_106 : decode bX6_shift 106 = .ok (.getfield 62, 3) ∧ 106 + 3 = 109 := by decide +kernel
theorem dX6_shift_109 : decode bX6_shift 109 = .ok (.getfield 278, 3) ∧ 109 + 3 = 112 := by decide +kernel
theorem dX6_shift_112 : decode bX6_shift 112 = .ok (.iload_n 1, 1) ∧ 112 + 1 = 113 := by decide +kernel
theorem dX6_shift_113 : decode bX6_shift 113 = .ok (.aaload, 1) ∧ 113 + 1 = 114 := by decide +kernel
theorem dX6_shift_114 : decode bX6_shift 114 = .ok (.iload_n 2, 1) ∧ 114 + 1 = 115 := by decide +kernel
theorem dX6_shift_115 : decode bX6_shift 115 = .ok (.aload_n 0, 1) ∧ 115 + 1 = 116 := by decide +kernel
theorem dX6_shift_116 : decode bX6_shift 116 = .ok (.getfield 62, 3) ∧ 116 + 3 = 119 := by decide +kernel
theorem dX6_shift_119 : decode bX6_shift 119 = .ok (.getfield 278, 3) ∧ 119 + 3 = 122 := by decide +kernel
theorem dX6_shift_122 : decode bX6_shift 122 = .ok (.iload_n 3, 1) ∧ 122 + 1 = 123 := by decide +kernel
theorem dX6_shift_123 : decode bX6_shift 123 = .ok (.aaload, 1) ∧ 123 + 1 = 124 := by decide +kernel
theorem dX6_shift_124 : decode bX6_shift 124 = .ok (.iload 4, 2) ∧ 124 + 2 = 126 := by decide +kernel
theorem dX6_shift_126 : decode bX6_shift 126 = .ok (.iload 5, 2) ∧ 126 + 2 = 128 := by decide +kernel
theorem dX6_shift_128 : decode bX6_shift 128 = .ok (.invokestatic 316, 3) ∧ 128 + 3 = 131 := by decide +kernel
theorem dX6_shift_131 : decode bX6_shift 131 = .ok (.iload 5, 2) ∧ 131 + 2 = 133 := by decide +kernel
theorem dX6_shift_133 : decode bX6_shift 133 = .ok (.ireturn, 1) := by decide +kernel
theorem dX6_within_0 : decode bX6_within 0 = .ok (.iload_n 0, 1) ∧ 0 + 1 = 1 := by decide +kernel
theorem dX6_within_1 : decode bX6_within 1 = .ok (.iload_n 1, 1) ∧ 1 + 1 = 2 := by decide +kernel
theorem dX6_within_2 : decode bX6_within 2 = .ok (.if_icmp .lt 12, 3) ∧ 2 + 3 = 5 ∧ ((2 : Nat) : Int) + (12) = ((14 : Nat) : Int) := by decide +kernel
theorem dX6_within_5 : decode bX6_within 5 = .ok (.iload_n 0, 1) ∧ 5 + 1 = 6 := by decide +kernel
theorem dX6_within_6 : decode bX6_within 6 = .ok (.iload_n 2, 1) ∧ 6 + 1 = 7 := by decide +kernel
theorem dX6_within_7 : decode bX6_within 7 = .ok (.if_icmp .gt 7, 3) ∧ 7 + 3 = 10 ∧ ((7 : Nat) : Int) + (7) = ((14 : Nat) : Int) := by decide +kernel
theorem dX6_within_10 : decode bX6_within 10 = .ok (.iconst 1, 1) ∧ 10 + 1 = 11 := by decide +kernel
theorem dX6_within_11 : decode bX6_within 11 = .ok (.goto 4, 3) ∧ ((11 : Nat) : Int) + (4) = ((15 : Nat) : Int) := by decide +kernel
theorem dX6_within_14 : decode bX6_within 14 = .ok (.iconst 0, 1) ∧ 14 + 1 = 15 := by decide +kernel
theorem dX6_within_15 : decode bX6_within 15 = .ok (.ireturn, 1) := by decide +kernel
theorem dX6_askedDays_0 : decode bX6_askedDays 0 = .ok (.iload_n 0, 1) ∧ 0 + 1 = 1 := by decide +kernel
theorem dX6_askedDays_1 : decode bX6_askedDays 1 = .ok (.iconst 0, 1) ∧ 1 + 1 = 2 := by decide +kernel
theorem dX6_askedDays_2 : decode bX6_askedDays 2 = .ok (.bipush 60, 2) ∧ 2 + 2 = 4 := by decide +kernel
theorem dX6_askedDays_4 : decode bX6_askedDays 4 = .ok (.invokestatic 80, 3) ∧ 4 + 3 = 7 := by decide +kernel
theorem dX6_askedDays_7 : decode bX6_askedDays 7 = .ok (.ireturn, 1) := by decide +kernel
theorem dX6_known_0 : decode bX6_known 0 = .ok (.iload_n 1, 1) ∧ 0 + 1 = 1 := by decide +kernel
theorem dX6_known_1 : decode bX6_known 1 = .ok (.iconst 0, 1) ∧ 1 + 1 = 2 := by decide +kernel
theorem dX6_known_2 : decode bX6_known 2 = .ok (.aload_n 0, 1) ∧ 2 + 1 = 3 := by decide +kernel
theorem dX6_known_3 : decode bX6_known 3 = .ok (.getfield 12, 3) ∧ 3 + 3 = 6 := by decide +kernel
theorem dX6_known_6 : decode bX6_known 6 = .ok (.getfield 84, 3) ∧ 6 + 3 = 9 := by decide +kernel
theorem dX6_known_9 : decode bX6_known 9 = .ok (.iconst 1, 1) ∧ 9 + 1 = 10 := by decide +kernel
theorem dX6_known_10 : decode bX6_known 10 = .ok (.isub, 1) ∧ 10 + 1 = 11 := by decide +kernel
theorem dX6_known_11 : decode bX6_known 11 = .ok (.invokestatic 80, 3) ∧ 11 + 3 = 14 := by decide +kernel
theorem dX6_known_14 : decode bX6_known 14 = .ok (.ireturn, 1) := by decide +kernel
theorem dX6_rules_0 : decode bX6_rules 0 = .ok (.aload_n 0, 1) ∧ 0 + 1 = 1 := by decide +kernel
theorem dX6_rules_1 : decode bX6_rules 1 = .ok (.getfield 70, 3) ∧ 1 + 3 = 4 := by decide +kernel
theorem dX6_rules_4 : decode bX6_rules 4 = .ok (.iconst 0, 1) ∧ 4 + 1 = 5 := by decide +kernel
theorem dX6_rules_5 : decode bX6_rules 5 = .ok (.aload_n 0, 1) ∧ 5 + 1 = 6 := by decide +kernel
theorem dX6_rules_6 : decode bX6_rules 6 = .ok (.getfield 66, 3) ∧ 6 + 3 = 9 := by decide +kernel
theorem dX6_rules_9 : decode bX6_rules 9 = .ok (.iconst 1, 1) ∧ 9 + 1 = 10 := by decide +kernel
theorem dX6_rules_10 : decode bX6_rules 10 = .ok (.isub, 1) ∧ 10 + 1 = 11 := by decide +kernel
theorem dX6_rules_11 : decode bX6_rules 11 = .ok (.invokestatic 80, 3) ∧ 11 + 3 = 14 := by decide +kernel
theorem dX6_rules_14 : decode bX6_rules 14 = .ok (.ifCond .eq 15, 3) ∧ 14 + 3 = 17 ∧ ((14 : Nat) : Int) + (15) = ((29 : Nat) : Int) := by decide +kernel
theorem dX6_rules_17 : decode bX6_rules 17 = .ok (.aload_n 0, 1) ∧ 17 + 1 = 18 := by decide +kernel
theorem dX6_rules_18 : decode bX6_rules 18 = .ok (.getfield 48, 3) ∧ 18 + 3 = 21 := by decide +kernel
theorem dX6_rules_21 : decode bX6_rules 21 = .ok (.aload_n 0, 1) ∧ 21 + 1 = 22 := by decide +kernel
theorem dX6_rules_22 : decode bX6_rules 22 = .ok (.getfield 70, 3) ∧ 22 + 3 = 25 := by decide +kernel
theorem dX6_rules_25 : decode bX6_rules 25 = .ok (.aaload, 1) ∧ 25 + 1 = 26 := by decide +kernel
theorem dX6_rules_26 : decode bX6_rules 26 = .ok (.goto 7, 3) ∧ ((26 : Nat) : Int) + (7) = ((33 : Nat) : Int) := by decide +kernel
theorem dX6_rules_29 : decode bX6_rules 29 = .ok (.aload_n 0, 1) ∧ 29 + 1 = 30 := by decide +kernel
theorem dX6_rules_30 : decode bX6_rules 30 = .ok (.getfield 44, 3) ∧ 30 + 3 = 33 := by decide +kernel
theorem dX6_rules_33 : decode bX6_rules 33 = .ok (.areturn, 1) := by decide +kernel
theorem dX6_isUnder_0 : decode bX6_isUnder 0 = .ok (.iload_n 0, 1) ∧ 0 + 1 = 1 := by decide +kernel
theorem dX6_isUnder_1 : decode bX6_isUnder 1 = .ok (.istore_n 2, 1) ∧ 1 + 1 = 2 := by decide +kernel
theorem dX6_isUnder_2 : decode bX6_isUnder 2 = .ok (.iconst 0, 1) ∧ 2 + 1 = 3 := by decide +kernel
theorem dX6_isUnder_3 : decode bX6_isUnder 3 = .ok (.istore_n 3, 1) ∧ 3 + 1 = 4 := by decide +kernel
theorem dX6_isUnder_4 : decode bX6_isUnder 4 = .ok (.iload_n 3, 1) ∧ 4 + 1 = 5 := by decide +kernel
theorem dX6_isUnder_5 : decode bX6_isUnder 5 = .ok (.bipush 7, 2) ∧ 5 + 2 = 7 := by decide +kernel
theorem dX6_isUnder_7 : decode bX6_isUnder 7 = .ok (.if_icmp .ge 26, 3) ∧ 7 + 3 = 10 ∧ ((7 : Nat) : Int) + (26) = ((33 : Nat) : Int) := by decide +kernel
theorem dX6_isUnder_10 : decode bX6_isUnder 10 = .ok (.iload_n 2, 1) ∧ 10 + 1 = 11 := by decide +kernel
theorem dX6_isUnder_11 : decode bX6_isUnder 11 = .ok (.ifCond .lt 22, 3) ∧ 11 + 3 = 14 ∧ ((11 : Nat) : Int) + (22) = ((33 : Nat) : Int) := by decide +kernel
theorem dX6_isUnder_14 : decode bX6_isUnder 14 = .ok (.iload_n 2, 1) ∧ 14 + 1 = 15 := by decide +kernel
theorem dX6_isUnder_15 : decode bX6_isUnder 15 = .ok (.iload_n 1, 1) ∧ 15 + 1 = 16 := by decide +kernel
theorem dX6_isUnder_16 : decode bX6_isUnder 16 = .ok (.if_icmp .ne 5, 3) ∧ 16 + 3 = 19 ∧ ((16 : Nat) : Int) + (5) = ((21 : Nat) : Int) := by decide +kernel
theorem dX6_isUnder_19 : decode bX6_isUnder 19 = .ok (.iconst 1, 1) ∧ 19 + 1 = 20 := by decide +kernel
theorem dX6_isUnder_20 : decode bX6_isUnder 20 = .ok (.ireturn, 1) := by decide +kernel
theorem dX6_isUnder_21 : decode bX6_isUnder 21 = .ok (.getstatic 322, 3) ∧ 21 + 3 = 24 := by decide +kernel
theorem dX6_isUnder_24 : decode bX6_isUnder 24 = .ok (.iload_n 2, 1) ∧ 24 + 1 = 25 := by decide +kernel
theorem dX6_isUnder_25 : decode bX6_isUnder 25 = .ok (.iaload, 1) ∧ 25 + 1 = 26 := by decide +kernel
theorem dX6_isUnder_26 : decode bX6_isUnder 26 = .ok (.istore_n 2, 1) ∧ 26 + 1 = 27 := by decide +kernel
theorem dX6_isUnder_27 : decode bX6_isUnder 27 = .ok (.iinc 3 1, 3) ∧ 27 + 3 = 30 := by decide +kernel
theorem dX6_isUnder_30 : decode bX6_isUnder 30 = .ok (.goto (-26), 3) ∧ ((30 : Nat) : Int) + (-26) = ((4 : Nat) : Int) := by decide +kernel
theorem dX6_isUnder_33 : decode bX6_isUnder 33 = .ok (.iconst 0, 1) ∧ 33 + 1 = 34 := by decide +kernel
theorem dX6_isUnder_34 : decode bX6_isUnder 34 = .ok (.ireturn, 1) := by decide +kernel
theorem dX6_lowestTerms_0 : decode bX6_lowestTerms 0 = .ok (.lload_n 0, 1) ∧ 0 + 1 = 1 := by decide +kernel
theorem dX6_lowestTerms_1 : decode bX6_lowestTerms 1 = .ok (.lload_n 2, 1) ∧ 1 + 1 = 2 := by decide +kernel
theorem dX6_lowestTerms_2 : decode bX6_lowestTerms 2 = .ok (.invokestatic 325, 3) ∧ 2 + 3 = 5 := by decide +kernel
theorem dX6_lowestTerms_5 : decode bX6_lowestTerms 5 = .ok (.lstore 5, 2) ∧ 5 + 2 = 7 := by decide +kernel
theorem dX6_lowestTerms_7 : decode bX6_lowestTerms 7 = .ok (.lload 5, 2) ∧ 7 + 2 = 9 := by decide +kernel
theorem dX6_lowestTerms_9 : decode bX6_lowestTerms 9 = .ok (.lconst 0, 1) ∧ 9 + 1 = 10 := by decide +kernel
theorem dX6_lowestTerms_10 : decode bX6_lowestTerms 10 = .ok (.lcmp, 1) ∧ 10 + 1 = 11 := by decide +kernel
theorem dX6_lowestTerms_11 : decode bX6_lowestTerms 11 = .ok (.ifCond .ne 7, 3) ∧ 11 + 3 = 14 ∧ ((11 : Nat) : Int) + (7) = ((18 : Nat) : Int) := by decide +kernel
theorem dX6_lowestTerms_14 : decode bX6_lowestTerms 14 = .ok (.ldc2_w 233, 3) ∧ 14 + 3 = 17 := by decide +kernel
theorem dX6_lowestTerms_17 : decode bX6_lowestTerms 17 = .ok (.lreturn, 1) := by decide +kernel
theorem dX6_lowestTerms_18 : decode bX6_lowestTerms 18 = .ok (.iload 4, 2) ∧ 18 + 2 = 20 := by decide +kernel
theorem dX6_lowestTerms_20 : decode bX6_lowestTerms 20 = .ok (.ifCond .ne 10, 3) ∧ 20 + 3 = 23 ∧ ((20 : Nat) : Int) + (10) = ((30 : Nat) : Int) := by decide +kernel
theorem dX6_lowestTerms_23 : decode bX6_lowestTerms 23 = .ok (.lload_n 0, 1) ∧ 23 + 1 = 24 := by decide +kernel
theorem dX6_lowestTerms_24 : decode bX6_lowestTerms 24 = .ok (.lload 5, 2) ∧ 24 + 2 = 26 := by decide +kernel
theorem dX6_lowestTerms_26 : decode bX6_lowestTerms 26 = .ok (.ldiv, 1) ∧ 26 + 1 = 27 := by decide +kernel
theorem dX6_lowestTerms_27 : decode bX6_lowestTerms 27 = .ok (.goto 7, 3) ∧ ((27 : Nat) : Int) + (7) = ((34 : Nat) : Int) := by decide +kernel
theorem dX6_lowestTerms_30 : decode bX6_lowestTerms 30 = .ok (.lload_n 2, 1) ∧ 30 + 1 = 31 := by decide +kernel
theorem dX6_lowestTerms_31 : decode bX6_lowestTerms 31 = .ok (.lload 5, 2) ∧ 31 + 2 = 33 := by decide +kernel
theorem dX6_lowestTerms_33 : decode bX6_lowestTerms 33 = .ok (.ldiv, 1) ∧ 33 + 1 = 34 := by decide +kernel
theorem dX6_lowestTerms_34 : decode bX6_lowestTerms 34 = .ok (.lreturn, 1) := by decide +kernel
theorem dX6_commonDivisor_0 : decode bX6_commonDivisor 0 = .ok (.lload_n 0, 1) ∧ 0 + 1 = 1 := by decide +kernel
theorem dX6_commonDivisor_1 : decode bX6_commonDivisor 1 = .ok (.lstore 4, 2) ∧ 1 + 2 = 3 := by decide +kernel
theorem dX6_commonDivisor_3 : decode bX6_commonDivisor 3 = .ok (.lload_n 2, 1) ∧ 3 + 1 = 4 := by decide +kernel
theorem dX6_commonDivisor_4 : decode bX6_commonDivisor 4 = .ok (.lstore 6, 2) ∧ 4 + 2 = 6 := by decide +kernel
theorem dX6_commonDivisor_6 : decode bX6_commonDivisor 6 = .ok (.iconst 0, 1) ∧ 6 + 1 = 7 := by decide +kernel
theorem dX6_commonDivisor_7 : decode bX6_commonDivisor 7 = .ok (.istore 8, 2) ∧ 7 + 2 = 9 := by decide +kernel
theorem dX6_commonDivisor_9 : decode bX6_commonDivisor 9 = .ok (.iload 8, 2) ∧ 9 + 2 = 11 := by decide +kernel
theorem dX6_commonDivisor_11 : decode bX6_commonDivisor 11 = .ok (.bipush 100, 2) ∧ 11 + 2 = 13 := by decide +kernel
theorem dX6_commonDivisor_13 : decode bX6_commonDivisor 13 = .ok (.if_icmp .ge 31, 3) ∧ 13 + 3 = 16 ∧ ((13 : Nat) : Int) + (31) = ((44 : Nat) : Int) := by decide +kernel
theorem dX6_commonDivisor_16 : decode bX6_commonDivisor 16 = .ok (.lload 6, 2) ∧ 16 + 2 = 18 := by decide +kernel
theorem dX6_commonDivisor_18 : decode bX6_commonDivisor 18 = .ok (.lconst 0, 1) ∧ 18 + 1 = 19 := by decide +kernel
theorem dX6_commonDivisor_19 : decode bX6_commonDivisor 19 = .ok (.lcmp, 1) ∧ 19 + 1 = 20 := by decide +kernel
theorem dX6_commonDivisor_20 : decode bX6_commonDivisor 20 = .ok (.ifCond .eq 24, 3) ∧ 20 + 3 = 23 ∧ ((20 : Nat) : Int) + (24) = ((44 : Nat) : Int) := by decide +kernel
theorem dX6_commonDivisor_23 : decode bX6_commonDivisor 23 = .ok (.lload 4, 2) ∧ 23 + 2 = 25 := by decide +kernel
theorem dX6_commonDivisor_25 : decode bX6_commonDivisor 25 = .ok (.lload 6, 2) ∧ 25 + 2 = 27 := by decide +kernel
theorem dX6_commonDivisor_27 : decode bX6_commonDivisor 27 = .ok (.lrem, 1) ∧ 27 + 1 = 28 := by decide +kernel
theorem dX6_commonDivisor_28 : decode bX6_commonDivisor 28 = .ok (.lstore 9, 2) ∧ 28 + 2 = 30 := by decide +kernel
theorem dX6_commonDivisor_30 : decode bX6_commonDivisor 30 = .ok (.lload 6, 2) ∧ 30 + 2 = 32 := by decide +kernel
theorem dX6_commonDivisor_32 : decode bX6_commonDivisor 32 = .ok (.lstore 4, 2) ∧ 32 + 2 = 34 := by decide +kernel
theorem dX6_commonDivisor_34 : decode bX6_commonDivisor 34 = .ok (.lload 9, 2) ∧ 34 + 2 = 36 := by decide +kernel
theorem dX6_commonDivisor_36 : decode bX6_commonDivisor 36 = .ok (.lstore 6, 2) ∧ 36 + 2 = 38 := by decide +kernel
theorem dX6_commonDivisor_38 : decode bX6_commonDivisor 38 = .ok (.iinc 8 1, 3) ∧ 38 + 3 = 41 := by decide +kernel
theorem dX6_commonDivisor_41 : decode bX6_commonDivisor 41 = .ok (.goto (-32), 3) ∧ ((41 : Nat) : Int) + (-32) = ((9 : Nat) : Int) := by decide +kernel
theorem dX6_commonDivisor_44 : decode bX6_commonDivisor 44 = .ok (.lload 4, 2) ∧ 44 + 2 = 46 := by decide +kernel
theorem dX6_commonDivisor_46 : decode bX6_commonDivisor 46 = .ok (.lreturn, 1) := by decide +kernel
theorem dX6_startTrial_0 : decode bX6_startTrial 0 = .ok (.aload_n 0, 1) ∧ 0 + 1 = 1 := by decide +kernel
theorem dX6_startTrial_1 : decode bX6_startTrial 1 = .ok (.getfield 18, 3) ∧ 1 + 3 = 4 := by decide +kernel
theorem dX6_startTrial_4 : decode bX6_startTrial 4 = .ok (.aload_n 0, 1) ∧ 4 + 1 = 5 := by decide +kernel
theorem dX6_startTrial_5 : decode bX6_startTrial 5 = .ok (.getfield 12, 3) ∧ 5 + 3 = 8 := by decide +kernel
theorem dX6_startTrial_8 : decode bX6_startTrial 8 = .ok (.invokevirtual 282, 3) ∧ 8 + 3 = 11 := by decide +kernel
theorem dX6_startTrial_11 : decode bX6_startTrial 11 = .ok (.return_, 1) := by decide +kernel
theorem dX6_goTrial_0 : decode bX6_goTrial 0 = .ok (.aload_n 0, 1) ∧ 0 + 1 = 1 := by decide +kernel
theorem dX6_goTrial_1 : decode bX6_goTrial 1 = .ok (.invokevirtual 120, 3) ∧ 1 + 3 = 4 := by decide +kernel
theorem dX6_goTrial_4 : decode bX6_goTrial 4 = .ok (.astore_n 2, 1) ∧ 4 + 1 = 5 := by decide +kernel
theorem dX6_goTrial_5 : decode bX6_goTrial 5 = .ok (.iconst 0, 1) ∧ 5 + 1 = 6 := by decide +kernel
theorem dX6_goTrial_6 : decode bX6_goTrial 6 = .ok (.istore_n 3, 1) ∧ 6 + 1 = 7 := by decide +kernel
theorem dX6_goTrial_7 : decode bX6_goTrial 7 = .ok (.iload_n 3, 1) ∧ 7 + 1 = 8 := by decide +kernel
theorem dX6_goTrial_8 : decode bX6_goTrial 8 = .ok (.iload_n 1, 1) ∧ 8 + 1 = 9 := by decide +kernel
theorem dX6_goTrial_9 : decode bX6_goTrial 9 = .ok (.if_icmp .ge 23, 3) ∧ 9 + 3 = 12 ∧ ((9 : Nat) : Int) + (23) = ((32 : Nat) : Int) := by decide +kernel
theorem dX6_goTrial_12 : decode bX6_goTrial 12 = .ok (.aload_n 0, 1) ∧ 12 + 1 = 13 := by decide +kernel
theorem dX6_goTrial_13 : decode bX6_goTrial 13 = .ok (.getfield 18, 3) ∧ 13 + 3 = 16 := by decide +kernel
theorem dX6_goTrial_16 : decode bX6_goTrial 16 = .ok (.aload_n 2, 1) ∧ 16 + 1 = 17 := by decide +kernel
theorem dX6_goTrial_17 : decode bX6_goTrial 17 = .ok (.aload_n 2, 1) ∧ 17 + 1 = 18 := by decide +kernel
theorem dX6_goTrial_18 : decode bX6_goTrial 18 = .ok (.getfield 128, 3) ∧ 18 + 3 = 21 := by decide +kernel
theorem dX6_goTrial_21 : decode bX6_goTrial 21 = .ok (.bipush (-5), 2) ∧ 21 + 2 = 23 := by decide +kernel
theorem dX6_goTrial_23 : decode bX6_goTrial 23 = .ok (.invokevirtual 188, 3) ∧ 23 + 3 = 26 := by decide +kernel
theorem dX6_goTrial_26 : decode bX6_goTrial 26 = .ok (.iinc 3 1, 3) ∧ 26 + 3 = 29 := by decide +kernel
theorem dX6_goTrial_29 : decode bX6_goTrial 29 = .ok (.goto (-22), 3) ∧ ((29 : Nat) : Int) + (-22) = ((7 : Nat) : Int) := by decide +kernel
theorem dX6_goTrial_32 : decode bX6_goTrial 32 = .ok (.return_, 1) := by decide +kernel
theorem dX6_turnedOfTrial_0 : decode bX6_turnedOfTrial 0 = .ok (.aload_n 0, 1) ∧ 0 + 1 = 1 := by decide +kernel
theorem dX6_turnedOfTrial_1 : decode bX6_turnedOfTrial 1 = .ok (.invokevirtual 120, 3) ∧ 1 + 3 = 4 := by decide +kernel
theorem dX6_turnedOfTrial_4 : decode bX6_turnedOfTrial 4 = .ok (.astore_n 2, 1) ∧ 4 + 1 = 5 := by decide +kernel
theorem dX6_turnedOfTrial_5 : decode bX6_turnedOfTrial 5 = .ok (.iconst 0, 1) ∧ 5 + 1 = 6 := by decide +kernel
theorem dX6_turnedOfTrial_6 : decode bX6_turnedOfTrial 6 = .ok (.istore_n 3, 1) ∧ 6 + 1 = 7 := by decide +kernel
theorem dX6_turnedOfTrial_7 : decode bX6_turnedOfTrial 7 = .ok (.iload_n 3, 1) ∧ 7 + 1 = 8 := by decide +kernel
theorem dX6_turnedOfTrial_8 : decode bX6_turnedOfTrial 8 = .ok (.bipush 30, 2) ∧ 8 + 2 = 10 := by decide +kernel
theorem dX6_turnedOfTrial_10 : decode bX6_turnedOfTrial 10 = .ok (.if_icmp .ge 20, 3) ∧ 10 + 3 = 13 ∧ ((10 : Nat) : Int) + (20) = ((30 : Nat) : Int) := by decide +kernel
theorem dX6_turnedOfTrial_13 : decode bX6_turnedOfTrial 13 = .ok (.aload_n 0, 1) ∧ 13 + 1 = 14 := by decide +kernel
theorem dX6_turnedOfTrial_14 : decode bX6_turnedOfTrial 14 = .ok (.getfield 18, 3) ∧ 14 + 3 = 17 := by decide +kernel
theorem dX6_turnedOfTrial_17 : decode bX6_turnedOfTrial 17 = .ok (.aload_n 2, 1) ∧ 17 + 1 = 18 := by decide +kernel
theorem dX6_turnedOfTrial_18 : decode bX6_turnedOfTrial 18 = .ok (.iload_n 1, 1) ∧ 18 + 1 = 19 := by decide +kernel
theorem dX6_turnedOfTrial_19 : decode bX6_turnedOfTrial 19 = .ok (.bipush (-5), 2) ∧ 19 + 2 = 21 := by decide +kernel
theorem dX6_turnedOfTrial_21 : decode bX6_turnedOfTrial 21 = .ok (.invokevirtual 188, 3) ∧ 21 + 3 = 24 := by decide +kernel
theorem dX6_turnedOfTrial_24 : decode bX6_turnedOfTrial 24 = .ok (.iinc 3 1, 3) ∧ 24 + 3 = 27 := by decide +kernel
theorem dX6_turnedOfTrial_27 : decode bX6_turnedOfTrial 27 = .ok (.goto (-20), 3) ∧ ((27 : Nat) : Int) + (-20) = ((7 : Nat) : Int) := by decide +kernel
theorem dX6_turnedOfTrial_30 : decode bX6_turnedOfTrial 30 = .ok (.aload_n 0, 1) ∧ 30 + 1 = 31 := by decide +kernel
theorem dX6_turnedOfTrial_31 : decode bX6_turnedOfTrial 31 = .ok (.getfield 18, 3) ∧ 31 + 3 = 34 := by decide +kernel
theorem dX6_turnedOfTrial_34 : decode bX6_turnedOfTrial 34 = .ok (.getfield 198, 3) ∧ 34 + 3 = 37 := by decide +kernel
theorem dX6_turnedOfTrial_37 : decode bX6_turnedOfTrial 37 = .ok (.ireturn, 1) := by decide +kernel
theorem dX6_turnedAsAllIs_0 : decode bX6_turnedAsAllIs 0 = .ok (.aload_n 0, 1) ∧ 0 + 1 = 1 := by decide +kernel
theorem dX6_turnedAsAllIs_1 : decode bX6_turnedAsAllIs 1 = .ok (.invokevirtual 192, 3) ∧ 1 + 3 = 4 := by decide +kernel
theorem dX6_turnedAsAllIs_4 : decode bX6_turnedAsAllIs 4 = .ok (.aload_n 0, 1) ∧ 4 + 1 = 5 := by decide +kernel
theorem dX6_turnedAsAllIs_5 : decode bX6_turnedAsAllIs 5 = .ok (.aload_n 0, 1) ∧ 5 + 1 = 6 := by decide +kernel
theorem dX6_turnedAsAllIs_6 : decode bX6_turnedAsAllIs 6 = .ok (.invokevirtual 120, 3) ∧ 6 + 3 = 9 := by decide +kernel
theorem dX6_turnedAsAllIs_9 : decode bX6_turnedAsAllIs 9 = .ok (.getfield 128, 3) ∧ 9 + 3 = 12 := by decide +kernel
theorem dX6_turnedAsAllIs_12 : decode bX6_turnedAsAllIs 12 = .ok (.invokevirtual 213, 3) ∧ 12 + 3 = 15 := by decide +kernel
theorem dX6_turnedAsAllIs_15 : decode bX6_turnedAsAllIs 15 = .ok (.ireturn, 1) := by decide +kernel
theorem dX6_whomToCall_0 : decode bX6_whomToCall 0 = .ok (.aload_n 0, 1) ∧ 0 + 1 = 1 := by decide +kernel
theorem dX6_whomToCall_1 : decode bX6_whomToCall 1 = .ok (.invokevirtual 120, 3) ∧ 1 + 3 = 4 := by decide +kernel
theorem dX6_whomToCall_4 : decode bX6_whomToCall 4 = .ok (.getfield 128, 3) ∧ 4 + 3 = 7 := by decide +kernel
theorem dX6_whomToCall_7 : decode bX6_whomToCall 7 = .ok (.istore_n 1, 1) ∧ 7 + 1 = 8 := by decide +kernel
theorem dX6_whomToCall_8 : decode bX6_whomToCall 8 = .ok (.bipush (-5), 2) ∧ 8 + 2 = 10 := by decide +kernel
theorem dX6_whomToCall_10 : decode bX6_whomToCall 10 = .ok (.istore_n 2, 1) ∧ 10 + 1 = 11 := by decide +kernel
theorem dX6_whomToCall_11 : decode bX6_whomToCall 11 = .ok (.aload_n 0, 1) ∧ 11 + 1 = 12 := by decide +kernel
theorem dX6_whomToCall_12 : decode bX6_whomToCall 12 = .ok (.invokevirtual 192, 3) ∧ 12 + 3 = 15 := by decide +kernel
theorem dX6_whomToCall_15 : decode bX6_whomToCall 15 = .ok (.aload_n 0, 1) ∧ 15 + 1 = 16 := by decide +kernel
theorem dX6_whomToCall_16 : decode bX6_whomToCall 16 = .ok (.iload_n 1, 1) ∧ 16 + 1 = 17 := by decide +kernel
theorem dX6_whomToCall_17 : decode bX6_whomToCall 17 = .ok (.invokevirtual 213, 3) ∧ 17 + 3 = 20 := by decide +kernel
theorem dX6_whomToCall_20 : decode bX6_whomToCall 20 = .ok (.istore_n 3, 1) ∧ 20 + 1 = 21 := by decide +kernel
theorem dX6_whomToCall_21 : decode bX6_whomToCall 21 = .ok (.iconst 0, 1) ∧ 21 + 1 = 22 := by decide +kernel
theorem dX6_whomToCall_22 : decode bX6_whomToCall 22 = .ok (.istore 4, 2) ∧ 22 + 2 = 24 := by decide +kernel
theorem dX6_whomToCall_24 : decode bX6_whomToCall 24 = .ok (.iload 4, 2) ∧ 24 + 2 = 26 := by decide +kernel
theorem dX6_whomToCall_26 : decode bX6_whomToCall 26 = .ok (.aload_n 0, 1) ∧ 26 + 1 = 27 := by decide +kernel
theorem dX6_whomToCall_27 : decode bX6_whomToCall 27 = .ok (.getfield 12, 3) ∧ 27 + 3 = 30 := by decide +kernel
theorem dX6_whomToCall_30 : decode bX6_whomToCall 30 = .ok (.getfield 84, 3) ∧ 30 + 3 = 33 := by decide +kernel
theorem dX6_whomToCall_33 : decode bX6_whomToCall 33 = .ok (.if_icmp .ge 54, 3) ∧ 33 + 3 = 36 ∧ ((33 : Nat) : Int) + (54) = ((87 : Nat) : Int) := by decide +kernel
theorem dX6_whomToCall_36 : decode bX6_whomToCall 36 = .ok (.aload_n 0, 1) ∧ 36 + 1 = 37 := by decide +kernel
theorem dX6_whomToCall_37 : decode bX6_whomToCall 37 = .ok (.getfield 12, 3) ∧ 37 + 3 = 40 := by decide +kernel
theorem dX6_whomToCall_40 : decode bX6_whomToCall 40 = .ok (.getfield 108, 3) ∧ 40 + 3 = 43 := by decide +kernel
theorem dX6_whomToCall_43 : decode bX6_whomToCall 43 = .ok (.iload 4, 2) ∧ 43 + 2 = 45 := by decide +kernel
theorem dX6_whomToCall_45 : decode bX6_whomToCall 45 = .ok (.iaload, 1) ∧ 45 + 1 = 46 := by decide +kernel
theorem dX6_whomToCall_46 : decode bX6_whomToCall 46 = .ok (.ifCond .le 35, 3) ∧ 46 + 3 = 49 ∧ ((46 : Nat) : Int) + (35) = ((81 : Nat) : Int) := by decide +kernel
theorem dX6_whomToCall_49 : decode bX6_whomToCall 49 = .ok (.aload_n 0, 1) ∧ 49 + 1 = 50 := by decide +kernel
theorem dX6_whomToCall_50 : decode bX6_whomToCall 50 = .ok (.invokevirtual 192, 3) ∧ 50 + 3 = 53 := by decide +kernel
theorem dX6_whomToCall_53 : decode bX6_whomToCall 53 = .ok (.aload_n 0, 1) ∧ 53 + 1 = 54 := by decide +kernel
theorem dX6_whomToCall_54 : decode bX6_whomToCall 54 = .ok (.getfield 18, 3) ∧ 54 + 3 = 57 := by decide +kernel
theorem dX6_whomToCall_57 : decode bX6_whomToCall 57 = .ok (.iload 4, 2) ∧ 57 + 2 = 59 := by decide +kernel
theorem dX6_whomToCall_59 : decode bX6_whomToCall 59 = .ok (.invokevirtual 158, 3) ∧ 59 + 3 = 62 := by decide +kernel
theorem dX6_whomToCall_62 : decode bX6_whomToCall 62 = .ok (.aload_n 0, 1) ∧ 62 + 1 = 63 := by decide +kernel
theorem dX6_whomToCall_63 : decode bX6_whomToCall 63 = .ok (.iload_n 1, 1) ∧ 63 + 1 = 64 := by decide +kernel
theorem dX6_whomToCall_64 : decode bX6_whomToCall 64 = .ok (.invokevirtual 213, 3) ∧ 64 + 3 = 67 := by decide +kernel
theorem dX6_whomToCall_67 : decode bX6_whomToCall 67 = .ok (.istore 5, 2) ∧ 67 + 2 = 69 := by decide +kernel
theorem dX6_whomToCall_69 : decode bX6_whomToCall 69 = .ok (.iload 5, 2) ∧ 69 + 2 = 71 := by decide +kernel
theorem dX6_whomToCall_71 : decode bX6_whomToCall 71 = .ok (.iload_n 3, 1) ∧ 71 + 1 = 72 := by decide +kernel
theorem dX6_whomToCall_72 : decode bX6_whomToCall 72 = .ok (.if_icmp .ge 9, 3) ∧ 72 + 3 = 75 ∧ ((72 : Nat) : Int) + (9) = ((81 : Nat) : Int) := by decide +kernel
theorem dX6_whomToCall_75 : decode bX6_whomToCall 75 = .ok (.iload 5, 2) ∧ 75 + 2 = 77 := by decide +kernel
theorem dX6_whomToCall_77 : decode bX6_whomToCall 77 = .ok (.istore_n 3, 1) ∧ 77 + 1 = 78 := by decide +kernel
theorem dX6_whomToCall_78 : decode bX6_whomToCall 78 = .ok (.iload 4, 2) ∧ 78 + 2 = 80 := by decide +kernel
theorem dX6_whomToCall_80 : decode bX6_whomToCall 80 = .ok (.istore_n 2, 1) ∧ 80 + 1 = 81 := by decide +kernel
theorem dX6_whomToCall_81 : decode bX6_whomToCall 81 = .ok (.iinc 4 1, 3) ∧ 81 + 3 = 84 := by decide +kernel
theorem dX6_whomToCall_84 : decode bX6_whomToCall 84 = .ok (.goto (-60), 3) ∧ ((84 : Nat) : Int) + (-60) = ((24 : Nat) : Int) := by decide +kernel
theorem dX6_whomToCall_87 : decode bX6_whomToCall 87 = .ok (.iload_n 2, 1) ∧ 87 + 1 = 88 := by decide +kernel
theorem dX6_whomToCall_88 : decode bX6_whomToCall 88 = .ok (.ireturn, 1) := by decide +kernel
theorem dX6_whoComesAhead_0 : decode bX6_whoComesAhead 0 = .ok (.aload_n 0, 1) ∧ 0 + 1 = 1 := by decide +kernel
theorem dX6_whoComesAhead_1 : decode bX6_whoComesAhead 1 = .ok (.invokevirtual 120, 3) ∧ 1 + 3 = 4 := by decide +kernel
theorem dX6_whoComesAhead_4 : decode bX6_whoComesAhead 4 = .ok (.getfield 128, 3) ∧ 4 + 3 = 7 := by decide +kernel
theorem dX6_whoComesAhead_7 : decode bX6_whoComesAhead 7 = .ok (.istore_n 1, 1) ∧ 7 + 1 = 8 := by decide +kernel
theorem dX6_whoComesAhead_8 : decode bX6_whoComesAhead 8 = .ok (.bipush (-5), 2) ∧ 8 + 2 = 10 := by decide +kernel
theorem dX6_whoComesAhead_10 : decode bX6_whoComesAhead 10 = .ok (.istore_n 2, 1) ∧ 10 + 1 = 11 := by decide +kernel
theorem dX6_whoComesAhead_11 : decode bX6_whoComesAhead 11 = .ok (.aload_n 0, 1) ∧ 11 + 1 = 12 := by decide +kernel
theorem dX6_whoComesAhead_12 : decode bX6_whoComesAhead 12 = .ok (.invokevirtual 192, 3) ∧ 12 + 3 = 15 := by decide +kernel
theorem dX6_whoComesAhead_15 : decode bX6_whoComesAhead 15 = .ok (.aload_n 0, 1) ∧ 15 + 1 = 16 := by decide +kernel
theorem dX6_whoComesAhead_16 : decode bX6_whoComesAhead 16 = .ok (.iload_n 1, 1) ∧ 16 + 1 = 17 := by decide +kernel
theorem dX6_whoComesAhead_17 : decode bX6_whoComesAhead 17 = .ok (.invokevirtual 213, 3) ∧ 17 + 3 = 20 := by decide +kernel
theorem dX6_whoComesAhead_20 : decode bX6_whoComesAhead 20 = .ok (.istore_n 3, 1) ∧ 20 + 1 = 21 := by decide +kernel
theorem dX6_whoComesAhead_21 : decode bX6_whoComesAhead 21 = .ok (.iconst 0, 1) ∧ 21 + 1 = 22 := by decide +kernel
theorem dX6_whoComesAhead_22 : decode bX6_whoComesAhead 22 = .ok (.istore 4, 2) ∧ 22 + 2 = 24 := by decide +kernel
theorem dX6_whoComesAhead_24 : decode bX6_whoComesAhead 24 = .ok (.iload 4, 2) ∧ 24 + 2 = 26 := by decide +kernel
theorem dX6_whoComesAhead_26 : decode bX6_whoComesAhead 26 = .ok (.aload_n 0, 1) ∧ 26 + 1 = 27 := by decide +kernel
theorem dX6_whoComesAhead_27 : decode bX6_whoComesAhead 27 = .ok (.getfield 12, 3) ∧ 27 + 3 = 30 := by decide +kernel
theorem dX6_whoComesAhead_30 : decode bX6_whoComesAhead 30 = .ok (.getfield 84, 3) ∧ 30 + 3 = 33 := by decide +kernel
theorem dX6_whoComesAhead_33 : decode bX6_whoComesAhead 33 = .ok (.if_icmp .ge 73, 3) ∧ 33 + 3 = 36 ∧ ((33 : Nat) : Int) + (73) = ((106 : Nat) : Int) := by decide +kernel
theorem dX6_whoComesAhead_36 : decode bX6_whoComesAhead 36 = .ok (.iload 4, 2) ∧ 36 + 2 = 38 := by decide +kernel
theorem dX6_whoComesAhead_38 : decode bX6_whoComesAhead 38 = .ok (.iconst 1, 1) ∧ 38 + 1 = 39 := by decide +kernel
theorem dX6_whoComesAhead_39 : decode bX6_whoComesAhead 39 = .ok (.iadd, 1) ∧ 39 + 1 = 40 := by decide +kernel
theorem dX6_whoComesAhead_40 : decode bX6_whoComesAhead 40 = .ok (.istore 5, 2) ∧ 40 + 2 = 42 := by decide +kernel
theorem dX6_whoComesAhead_42 : decode bX6_whoComesAhead 42 = .ok (.iload 5, 2) ∧ 42 + 2 = 44 := by decide +kernel
theorem dX6_whoComesAhead_44 : decode bX6_whoComesAhead 44 = .ok (.aload_n 0, 1) ∧ 44 + 1 = 45 := by decide +kernel
theorem dX6_whoComesAhead_45 : decode bX6_whoComesAhead 45 = .ok (.getfield 12, 3) ∧ 45 + 3 = 48 := by decide +kernel
theorem dX6_whoComesAhead_48 : decode bX6_whoComesAhead 48 = .ok (.getfield 84, 3) ∧ 48 + 3 = 51 := by decide +kernel
theorem dX6_whoComesAhead_51 : decode bX6_whoComesAhead 51 = .ok (.if_icmp .ge 49, 3) ∧ 51 + 3 = 54 ∧ ((51 : Nat) : Int) + (49) = ((100 : Nat) : Int) := by decide +kernel
theorem dX6_whoComesAhead_54 : decode bX6_whoComesAhead 54 = .ok (.aload_n 0, 1) ∧ 54 + 1 = 55 := by decide +kernel
theorem dX6_whoComesAhead_55 : decode bX6_whoComesAhead 55 = .ok (.invokevirtual 192, 3) ∧ 55 + 3 = 58 := by decide +kernel
theorem dX6_whoComesAhead_58 : decode bX6_whoComesAhead 58 = .ok (.aload_n 0, 1) ∧ 58 + 1 = 59 := by decide +kernel
theorem dX6_whoComesAhead_59 : decode bX6_whoComesAhead 59 = .ok (.getfield 18, 3) ∧ 59 + 3 = 62 := by decide +kernel
theorem dX6_whoComesAhead_62 : decode bX6_whoComesAhead 62 = .ok (.iload 4, 2) ∧ 62 + 2 = 64 := by decide +kernel
theorem dX6_whoComesAhead_64 : decode bX6_whoComesAhead 64 = .ok (.iload 5, 2) ∧ 64 + 2 = 66 := by decide +kernel
theorem dX6_whoComesAhead_66 : decode bX6_whoComesAhead 66 = .ok (.invokevirtual 154, 3) ∧ 66 + 3 = 69 := by decide +kernel
theorem dX6_whoComesAhead_69 : decode bX6_whoComesAhead 69 = .ok (.aload_n 0, 1) ∧ 69 + 1 = 70 := by decide +kernel
theorem dX6_whoComesAhead_70 : decode bX6_whoComesAhead 70 = .ok (.iload_n 1, 1) ∧ 70 + 1 = 71 := by decide +kernel
theorem dX6_whoComesAhead_71 : decode bX6_whoComesAhead 71 = .ok (.invokevirtual 213, 3) ∧ 71 + 3 = 74 := by decide +kernel
theorem dX6_whoComesAhead_74 : decode bX6_whoComesAhead 74 = .ok (.istore 6, 2) ∧ 74 + 2 = 76 := by decide +kernel
theorem dX6_whoComesAhead_76 : decode bX6_whoComesAhead 76 = .ok (.iload 6, 2) ∧ 76 + 2 = 78 := by decide +kernel
theorem dX6_whoComesAhead_78 : decode bX6_whoComesAhead 78 = .ok (.iload_n 3, 1) ∧ 78 + 1 = 79 := by decide +kernel
theorem dX6_whoComesAhead_79 : decode bX6_whoComesAhead 79 = .ok (.if_icmp .ge 15, 3) ∧ 79 + 3 = 82 ∧ ((79 : Nat) : Int) + (15) = ((94 : Nat) : Int) := by decide +kernel
theorem dX6_whoComesAhead_82 : decode bX6_whoComesAhead 82 = .ok (.iload 6, 2) ∧ 82 + 2 = 84 := by decide +kernel
theorem dX6_whoComesAhead_84 : decode bX6_whoComesAhead 84 = .ok (.istore_n 3, 1) ∧ 84 + 1 = 85 := by decide +kernel
theorem dX6_whoComesAhead_85 : decode bX6_whoComesAhead 85 = .ok (.bipush 10, 2) ∧ 85 + 2 = 87 := by decide +kernel
theorem dX6_whoComesAhead_87 : decode bX6_whoComesAhead 87 = .ok (.iload 4, 2) ∧ 87 + 2 = 89 := by decide +kernel
theorem dX6_whoComesAhead_89 : decode bX6_whoComesAhead 89 = .ok (.imul, 1) ∧ 89 + 1 = 90 := by decide +kernel
theorem dX6_whoComesAhead_90 : decode bX6_whoComesAhead 90 = .ok (.iload 5, 2) ∧ 90 + 2 = 92 := by decide +kernel
theorem dX6_whoComesAhead_92 : decode bX6_whoComesAhead 92 = .ok (.iadd, 1) ∧ 92 + 1 = 93 := by decide +kernel
theorem dX6_whoComesAhead_93 : decode bX6_whoComesAhead 93 = .ok (.istore_n 2, 1) ∧ 93 + 1 = 94 := by decide +kernel
theorem dX6_whoComesAhead_94 : decode bX6_whoComesAhead 94 = .ok (.iinc 5 1, 3) ∧ 94 + 3 = 97 := by decide +kernel
theorem dX6_whoComesAhead_97 : decode bX6_whoComesAhead 97 = .ok (.goto (-55), 3) ∧ ((97 : Nat) : Int) + (-55) = ((42 : Nat) : Int) := by decide +kernel
theorem dX6_whoComesAhead_100 : decode bX6_whoComesAhead 100 = .ok (.iinc 4 1, 3) ∧ 100 + 3 = 103 := by decide +kernel
theorem dX6_whoComesAhead_103 : decode bX6_whoComesAhead 103 = .ok (.goto (-79), 3) ∧ ((103 : Nat) : Int) + (-79) = ((24 : Nat) : Int) := by decide +kernel
theorem dX6_whoComesAhead_106 : decode bX6_whoComesAhead 106 = .ok (.iload_n 2, 1) ∧ 106 + 1 = 107 := by decide +kernel
theorem dX6_whoComesAhead_107 : decode bX6_whoComesAhead 107 = .ok (.ireturn, 1) := by decide +kernel
theorem dX6_bestMark_0 : decode bX6_bestMark 0 = .ok (.bipush (-5), 2) ∧ 0 + 2 = 2 := by decide +kernel
theorem dX6_bestMark_2 : decode bX6_bestMark 2 = .ok (.istore_n 1, 1) ∧ 2 + 1 = 3 := by decide +kernel
theorem dX6_bestMark_3 : decode bX6_bestMark 3 = .ok (.iconst 0, 1) ∧ 3 + 1 = 4 := by decide +kernel
theorem dX6_bestMark_4 : decode bX6_bestMark 4 = .ok (.istore_n 2, 1) ∧ 4 + 1 = 5 := by decide +kernel
theorem dX6_bestMark_5 : decode bX6_bestMark 5 = .ok (.iconst 0, 1) ∧ 5 + 1 = 6 := by decide +kernel
theorem dX6_bestMark_6 : decode bX6_bestMark 6 = .ok (.istore_n 3, 1) ∧ 6 + 1 = 7 := by decide +kernel
theorem dX6_bestMark_7 : decode bX6_bestMark 7 = .ok (.iload_n 3, 1) ∧ 7 + 1 = 8 := by decide +kernel
theorem dX6_bestMark_8 : decode bX6_bestMark 8 = .ok (.bipush 95, 2) ∧ 8 + 2 = 10 := by decide +kernel
theorem dX6_bestMark_10 : decode bX6_bestMark 10 = .ok (.if_icmp .gt 37, 3) ∧ 10 + 3 = 13 ∧ ((10 : Nat) : Int) + (37) = ((47 : Nat) : Int) := by decide +kernel
theorem dX6_bestMark_13 : decode bX6_bestMark 13 = .ok (.aload_n 0, 1) ∧ 13 + 1 = 14 := by decide +kernel
theorem dX6_bestMark_14 : decode bX6_bestMark 14 = .ok (.invokevirtual 192, 3) ∧ 14 + 3 = 17 := by decide +kernel
theorem dX6_bestMark_17 : decode bX6_bestMark 17 = .ok (.aload_n 0, 1) ∧ 17 + 1 = 18 := by decide +kernel
theorem dX6_bestMark_18 : decode bX6_bestMark 18 = .ok (.iload_n 3, 1) ∧ 18 + 1 = 19 := by decide +kernel
theorem dX6_bestMark_19 : decode bX6_bestMark 19 = .ok (.invokevirtual 213, 3) ∧ 19 + 3 = 22 := by decide +kernel
theorem dX6_bestMark_22 : decode bX6_bestMark 22 = .ok (.istore 4, 2) ∧ 22 + 2 = 24 := by decide +kernel
theorem dX6_bestMark_24 : decode bX6_bestMark 24 = .ok (.iload_n 1, 1) ∧ 24 + 1 = 25 := by decide +kernel
theorem dX6_bestMark_25 : decode bX6_bestMark 25 = .ok (.bipush (-5), 2) ∧ 25 + 2 = 27 := by decide +kernel
theorem dX6_bestMark_27 : decode bX6_bestMark 27 = .ok (.if_icmp .eq 9, 3) ∧ 27 + 3 = 30 ∧ ((27 : Nat) : Int) + (9) = ((36 : Nat) : Int) := by decide +kernel
theorem dX6_bestMark_30 : decode bX6_bestMark 30 = .ok (.iload 4, 2) ∧ 30 + 2 = 32 := by decide +kernel
theorem dX6_bestMark_32 : decode bX6_bestMark 32 = .ok (.iload_n 2, 1) ∧ 32 + 1 = 33 := by decide +kernel
theorem dX6_bestMark_33 : decode bX6_bestMark 33 = .ok (.if_icmp .gt 8, 3) ∧ 33 + 3 = 36 ∧ ((33 : Nat) : Int) + (8) = ((41 : Nat) : Int) := by decide +kernel
theorem dX6_bestMark_36 : decode bX6_bestMark 36 = .ok (.iload 4, 2) ∧ 36 + 2 = 38 := by decide +kernel
theorem dX6_bestMark_38 : decode bX6_bestMark 38 = .ok (.istore_n 2, 1) ∧ 38 + 1 = 39 := by decide +kernel
theorem dX6_bestMark_39 : decode bX6_bestMark 39 = .ok (.iload_n 3, 1) ∧ 39 + 1 = 40 := by decide +kernel
theorem dX6_bestMark_40 : decode bX6_bestMark 40 = .ok (.istore_n 1, 1) ∧ 40 + 1 = 41 := by decide +kernel
theorem dX6_bestMark_41 : decode bX6_bestMark 41 = .ok (.iinc 3 5, 3) ∧ 41 + 3 = 44 := by decide +kernel
theorem dX6_bestMark_44 : decode bX6_bestMark 44 = .ok (.goto (-37), 3) ∧ ((44 : Nat) : Int) + (-37) = ((7 : Nat) : Int) := by decide +kernel
theorem dX6_bestMark_47 : decode bX6_bestMark 47 = .ok (.iload_n 1, 1) ∧ 47 + 1 = 48 := by decide +kernel
theorem dX6_bestMark_48 : decode bX6_bestMark 48 = .ok (.ireturn, 1) := by decide +kernel
theorem dX6_nobodySentIn_0 : decode bX6_nobodySentIn 0 = .ok (.aload_n 0, 1) ∧ 0 + 1 = 1 := by decide +kernel
theorem dX6_nobodySentIn_1 : decode bX6_nobodySentIn 1 = .ok (.invokevirtual 120, 3) ∧ 1 + 3 = 4 := by decide +kernel
theorem dX6_nobodySentIn_4 : decode bX6_nobodySentIn 4 = .ok (.astore_n 3, 1) ∧ 4 + 1 = 5 := by decide +kernel
theorem dX6_nobodySentIn_5 : decode bX6_nobodySentIn 5 = .ok (.iconst 0, 1) ∧ 5 + 1 = 6 := by decide +kernel
theorem dX6_nobodySentIn_6 : decode bX6_nobodySentIn 6 = .ok (.istore 4, 2) ∧ 6 + 2 = 8 := by decide +kernel
theorem dX6_nobodySentIn_8 : decode bX6_nobodySentIn 8 = .ok (.iload 4, 2) ∧ 8 + 2 = 10 := by decide +kernel
theorem dX6_nobodySentIn_10 : decode bX6_nobodySentIn 10 = .ok (.iload_n 1, 1) ∧ 10 + 1 = 11 := by decide +kernel
theorem dX6_nobodySentIn_11 : decode bX6_nobodySentIn 11 = .ok (.if_icmp .ge 32, 3) ∧ 11 + 3 = 14 ∧ ((11 : Nat) : Int) + (32) = ((43 : Nat) : Int) := by decide +kernel
theorem dX6_nobodySentIn_14 : decode bX6_nobodySentIn 14 = .ok (.aload_n 0, 1) ∧ 14 + 1 = 15 := by decide +kernel
theorem dX6_nobodySentIn_15 : decode bX6_nobodySentIn 15 = .ok (.getfield 18, 3) ∧ 15 + 3 = 18 := by decide +kernel
theorem dX6_nobodySentIn_18 : decode bX6_nobodySentIn 18 = .ok (.getfield 198, 3) ∧ 18 + 3 = 21 := by decide +kernel
theorem dX6_nobodySentIn_21 : decode bX6_nobodySentIn 21 = .ok (.ifCond .ne 22, 3) ∧ 21 + 3 = 24 ∧ ((21 : Nat) : Int) + (22) = ((43 : Nat) : Int) := by decide +kernel
theorem dX6_nobodySentIn_24 : decode bX6_nobodySentIn 24 = .ok (.aload_n 0, 1) ∧ 24 + 1 = 25 := by decide +kernel
theorem dX6_nobodySentIn_25 : decode bX6_nobodySentIn 25 = .ok (.getfield 18, 3) ∧ 25 + 3 = 28 := by decide +kernel
theorem dX6_nobodySentIn_28 : decode bX6_nobodySentIn 28 = .ok (.aload_n 3, 1) ∧ 28 + 1 = 29 := by decide +kernel
theorem dX6_nobodySentIn_29 : decode bX6_nobodySentIn 29 = .ok (.aload_n 3, 1) ∧ 29 + 1 = 30 := by decide +kernel
theorem dX6_nobodySentIn_30 : decode bX6_nobodySentIn 30 = .ok (.getfield 128, 3) ∧ 30 + 3 = 33 := by decide +kernel
theorem dX6_nobodySentIn_33 : decode bX6_nobodySentIn 33 = .ok (.iload_n 2, 1) ∧ 33 + 1 = 34 := by decide +kernel
theorem dX6_nobodySentIn_34 : decode bX6_nobodySentIn 34 = .ok (.invokevirtual 188, 3) ∧ 34 + 3 = 37 := by decide +kernel
theorem dX6_nobodySentIn_37 : decode bX6_nobodySentIn 37 = .ok (.iinc 4 1, 3) ∧ 37 + 3 = 40 := by decide +kernel
theorem dX6_nobodySentIn_40 : decode bX6_nobodySentIn 40 = .ok (.goto (-32), 3) ∧ ((40 : Nat) : Int) + (-32) = ((8 : Nat) : Int) := by decide +kernel
theorem dX6_nobodySentIn_43 : decode bX6_nobodySentIn 43 = .ok (.aload_n 0, 1) ∧ 43 + 1 = 44 := by decide +kernel
theorem dX6_nobodySentIn_44 : decode bX6_nobodySentIn 44 = .ok (.getfield 18, 3) ∧ 44 + 3 = 47 := by decide +kernel
theorem dX6_nobodySentIn_47 : decode bX6_nobodySentIn 47 = .ok (.getfield 198, 3) ∧ 47 + 3 = 50 := by decide +kernel
theorem dX6_nobodySentIn_50 : decode bX6_nobodySentIn 50 = .ok (.ifCond .ne 7, 3) ∧ 50 + 3 = 53 ∧ ((50 : Nat) : Int) + (7) = ((57 : Nat) : Int) := by decide +kernel
theorem dX6_nobodySentIn_53 : decode bX6_nobodySentIn 53 = .ok (.iconst 1, 1) ∧ 53 + 1 = 54 := by decide +kernel
theorem dX6_nobodySentIn_54 : decode bX6_nobodySentIn 54 = .ok (.goto 4, 3) ∧ ((54 : Nat) : Int) + (4) = ((58 : Nat) : Int) := by decide +kernel
theorem dX6_nobodySentIn_57 : decode bX6_nobodySentIn 57 = .ok (.iconst 0, 1) ∧ 57 + 1 = 58 := by decide +kernel
theorem dX6_nobodySentIn_58 : decode bX6_nobodySentIn 58 = .ok (.ireturn, 1) := by decide +kernel
theorem dX6_trialShowsAllSeen_0 : decode bX6_trialShowsAllSeen 0 = .ok (.aload_n 0, 1) ∧ 0 + 1 = 1 := by decide +kernel
theorem dX6_trialShowsAllSeen_1 : decode bX6_trialShowsAllSeen 1 = .ok (.getfield 27, 3) ∧ 1 + 3 = 4 := by decide +kernel
theorem dX6_trialShowsAllSeen_4 : decode bX6_trialShowsAllSeen 4 = .ok (.invokevirtual 329, 3) ∧ 4 + 3 = 7 := by decide +kernel
theorem dX6_trialShowsAllSeen_7 : decode bX6_trialShowsAllSeen 7 = .ok (.istore_n 1, 1) ∧ 7 + 1 = 8 := by decide +kernel
theorem dX6_trialShowsAllSeen_8 : decode bX6_trialShowsAllSeen 8 = .ok (.iconst 0, 1) ∧ 8 + 1 = 9 := by decide +kernel
theorem dX6_trialShowsAllSeen_9 : decode bX6_trialShowsAllSeen 9 = .ok (.istore_n 2, 1) ∧ 9 + 1 = 10 := by decide +kernel
theorem dX6_trialShowsAllSeen_10 : decode bX6_trialShowsAllSeen 10 = .ok (.iload_n 2, 1) ∧ 10 + 1 = 11 := by decide +kernel
theorem dX6_trialShowsAllSeen_11 : decode bX6_trialShowsAllSeen 11 = .ok (.iload_n 1, 1) ∧ 11 + 1 = 12 := by decide +kernel
theorem dX6_trialShowsAllSeen_12 : decode bX6_trialShowsAllSeen 12 = .ok (.if_icmp .gt 34, 3) ∧ 12 + 3 = 15 ∧ ((12 : Nat) : Int) + (34) = ((46 : Nat) : Int) := by decide +kernel
theorem dX6_trialShowsAllSeen_15 : decode bX6_trialShowsAllSeen 15 = .ok (.aload_n 0, 1) ∧ 15 + 1 = 16 := by decide +kernel
theorem dX6_trialShowsAllSeen_16 : decode bX6_trialShowsAllSeen 16 = .ok (.getfield 27, 3) ∧ 16 + 3 = 19 := by decide +kernel
theorem dX6_trialShowsAllSeen_19 : decode bX6_trialShowsAllSeen 19 = .ok (.iload_n 2, 1) ∧ 19 + 1 = 20 := by decide +kernel
theorem dX6_trialShowsAllSeen_20 : decode bX6_trialShowsAllSeen 20 = .ok (.aload_n 0, 1) ∧ 20 + 1 = 21 := by decide +kernel
theorem dX6_trialShowsAllSeen_21 : decode bX6_trialShowsAllSeen 21 = .ok (.getfield 18, 3) ∧ 21 + 3 = 24 := by decide +kernel
theorem dX6_trialShowsAllSeen_24 : decode bX6_trialShowsAllSeen 24 = .ok (.getfield 148, 3) ∧ 24 + 3 = 27 := by decide +kernel
theorem dX6_trialShowsAllSeen_27 : decode bX6_trialShowsAllSeen 27 = .ok (.invokevirtual 332, 3) ∧ 27 + 3 = 30 := by decide +kernel
theorem dX6_trialShowsAllSeen_30 : decode bX6_trialShowsAllSeen 30 = .ok (.ifCond .ne 5, 3) ∧ 30 + 3 = 33 ∧ ((30 : Nat) : Int) + (5) = ((35 : Nat) : Int) := by decide +kernel
theorem dX6_trialShowsAllSeen_33 : decode bX6_trialShowsAllSeen 33 = .ok (.iconst 0, 1) ∧ 33 + 1 = 34 := by decide +kernel
theorem dX6_trialShowsAllSeen_34 : decode bX6_trialShowsAllSeen 34 = .ok (.ireturn, 1) := by decide +kernel
theorem dX6_trialShowsAllSeen_35 : decode bX6_trialShowsAllSeen 35 = .ok (.aload_n 0, 1) ∧ 35 + 1 = 36 := by decide +kernel
theorem dX6_trialShowsAllSeen_36 : decode bX6_trialShowsAllSeen 36 = .ok (.iconst 1, 1) ∧ 36 + 1 = 37 := by decide +kernel
theorem dX6_trialShowsAllSeen_37 : decode bX6_trialShowsAllSeen 37 = .ok (.invokevirtual 195, 3) ∧ 37 + 3 = 40 := by decide +kernel
theorem dX6_trialShowsAllSeen_40 : decode bX6_trialShowsAllSeen 40 = .ok (.iinc 2 1, 3) ∧ 40 + 3 = 43 := by decide +kernel
theorem dX6_trialShowsAllSeen_43 : decode bX6_trialShowsAllSeen 43 = .ok (.goto (-33), 3) ∧ ((43 : Nat) : Int) + (-33) = ((10 : Nat) : Int) := by decide +kernel
theorem dX6_trialShowsAllSeen_46 : decode bX6_trialShowsAllSeen 46 = .ok (.iconst 1, 1) ∧ 46 + 1 = 47 := by decide +kernel
theorem dX6_trialShowsAllSeen_47 : decode bX6_trialShowsAllSeen 47 = .ok (.ireturn, 1) := by decide +kernel
theorem dX6_goYearRow_0 : decode bX6_goYearRow 0 = .ok (.iload_n 1, 1) ∧ 0 + 1 = 1 := by decide +kernel
theorem dX6_goYearRow_1 : decode bX6_goYearRow 1 = .ok (.ifCond .ne 11, 3) ∧ 1 + 3 = 4 ∧ ((1 : Nat) : Int) + (11) = ((12 : Nat) : Int) := by decide +kernel
theorem dX6_goYearRow_4 : decode bX6_goYearRow 4 = .ok (.aload_n 0, 1) ∧ 4 + 1 = 5 := by decide +kernel
theorem dX6_goYearRow_5 : decode bX6_goYearRow 5 = .ok (.iconst 1, 1) ∧ 5 + 1 = 6 := by decide +kernel
theorem dX6_goYearRow_6 : decode bX6_goYearRow 6 = .ok (.invokevirtual 195, 3) ∧ 6 + 3 = 9 := by decide +kernel
theorem dX6_goYearRow_9 : decode bX6_goYearRow 9 = .ok (.goto 41, 3) ∧ ((9 : Nat) : Int) + (41) = ((50 : Nat) : Int) := by decide +kernel
theorem dX6_goYearRow_12 : decode bX6_goYearRow 12 = .ok (.iload_n 1, 1) ∧ 12 + 1 = 13 := by decide +kernel
theorem dX6_goYearRow_13 : decode bX6_goYearRow 13 = .ok (.iconst 1, 1) ∧ 13 + 1 = 14 := by decide +kernel
theorem dX6_goYearRow_14 : decode bX6_goYearRow 14 = .ok (.if_icmp .ne 22, 3) ∧ 14 + 3 = 17 ∧ ((14 : Nat) : Int) + (22) = ((36 : Nat) : Int) := by decide +kernel
theorem dX6_goYearRow_17 : decode bX6_goYearRow 17 = .ok (.aload_n 0, 1) ∧ 17 + 1 = 18 := by decide +kernel
theorem dX6_goYearRow_18 : decode bX6_goYearRow 18 = .ok (.iload_n 2, 1) ∧ 18 + 1 = 19 := by decide +kernel
theorem dX6_goYearRow_19 : decode bX6_goYearRow 19 = .ok (.invokevirtual 91, 3) ∧ 19 + 3 = 22 := by decide +kernel
theorem dX6_goYearRow_22 : decode bX6_goYearRow 22 = .ok (.ifCond .eq 14, 3) ∧ 22 + 3 = 25 ∧ ((22 : Nat) : Int) + (14) = ((36 : Nat) : Int) := by decide +kernel
theorem dX6_goYearRow_25 : decode bX6_goYearRow 25 = .ok (.aload_n 0, 1) ∧ 25 + 1 = 26 := by decide +kernel
theorem dX6_goYearRow_26 : decode bX6_goYearRow 26 = .ok (.getfield 18, 3) ∧ 26 + 3 = 29 := by decide +kernel
theorem dX6_goYearRow_29 : decode bX6_goYearRow 29 = .ok (.iload_n 2, 1) ∧ 29 + 1 = 30 := by decide +kernel
theorem dX6_goYearRow_30 : decode bX6_goYearRow 30 = .ok (.invokevirtual 158, 3) ∧ 30 + 3 = 33 := by decide +kernel
theorem dX6_goYearRow_33 : decode bX6_goYearRow 33 = .ok (.goto 17, 3) ∧ ((33 : Nat) : Int) + (17) = ((50 : Nat) : Int) := by decide +kernel
theorem dX6_goYearRow_36 : decode bX6_goYearRow 36 = .ok (.iload_n 1, 1) ∧ 36 + 1 = 37 := by decide +kernel
theorem dX6_goYearRow_37 : decode bX6_goYearRow 37 = .ok (.iconst 2, 1) ∧ 37 + 1 = 38 := by decide +kernel
theorem dX6_goYearRow_38 : decode bX6_goYearRow 38 = .ok (.if_icmp .ne 12, 3) ∧ 38 + 3 = 41 ∧ ((38 : Nat) : Int) + (12) = ((50 : Nat) : Int) := by decide +kernel
theorem dX6_goYearRow_41 : decode bX6_goYearRow 41 = .ok (.aload_n 0, 1) ∧ 41 + 1 = 42 := by decide +kernel
theorem dX6_goYearRow_42 : decode bX6_goYearRow 42 = .ok (.getfield 18, 3) ∧ 42 + 3 = 45 := by decide +kernel
theorem dX6_goYearRow_45 : decode bX6_goYearRow 45 = .ok (.bipush 10, 2) ∧ 45 + 2 = 47 := by decide +kernel
theorem dX6_goYearRow_47 : decode bX6_goYearRow 47 = .ok (.invokevirtual 216, 3) ∧ 47 + 3 = 50 := by decide +kernel
theorem dX6_goYearRow_50 : decode bX6_goYearRow 50 = .ok (.return_, 1) := by decide +kernel
