/-! making 3: constructors; written by wip/whole/make/gen75.py -/
def fs0_5 : List Value := [.int 0, .int 0, .int 0, .int 0, .null, .null, .null, .null, .null, .null, .null, .null, .null, .null]
theorem hfs_5 : ∀ j, j < 14 → defaultValue (zty5 j) = vp_V fs0_5 j := by decide +kernel
def rmI_5 : Room := ⟨1, 10, 78, 20⟩
def Bk_5 (gc : Nat → ClassId) (a : Nat → Nat → Nat) : va_W := (a 0 0, .inr (5, [.int 100, .int 0, .int 0, .int 0, .ref (a 0 5), .ref (a 0 6), .ref (a 0 7), .ref (a 0 8), .ref (a 0 9), .ref (a 0 10), .ref (a 0 11), .ref (a 0 12), .ref (a 0 13), .ref (a 0 14)])) :: [((a 0 5), .inl (gc 0, 6, .inl fun _ => 0)), ((a 0 6), .inl (gc 0, 6, .inl fun _ => 0)), ((a 0 7), .inl (gc 0, 6, .inl fun _ => 0)), ((a 0 8), .inl (gc 0, 6, .inl fun _ => 0)), ((a 0 9), .inl (gc 0, 6, .inl fun _ => 0)), ((a 0 10), .inl (gc 0, 6, .inl fun _ => 0)), ((a 0 11), .inl (gc 0, 6, .inl fun _ => 0)), ((a 0 12), .inl (gc 0, 6, .inl fun _ => 0)), ((a 0 13), .inl (gc 0, 6, .inl fun _ => 0)), ((a 0 14), .inl (gc 0, 24, .inl fun _ => 0))]
theorem mk_5 (l : Launch) (D : va_G) (gc : Nat → ClassId) : CI l D gc 5 yX5_init bX5_init 1 rmI_5 10 78 fs0_5 EX (Bk_5 gc) := by
  refine CI.of rfl (by decide) rfl rfl (fun X A q0 hl hX hr hini hE kk => ?_)
  show WL X D A 1 [(q0, .inr (5, [.int 0, .int 0, .int 0, .int 0, .null, .null, .null, .null, .null, .null, .null, .null, .null, .null]))] 0 0 0 _ []
  refine z_aload_n (k := 0) hX rfl 0 rfl dX5_init_0 ?_
  refine z_obj hX oi_X5 (by decide) (by rw [hr]; decide) dX5_init_1 ?_
  refine z_aload_n (k := 0) hX rfl 0 rfl dX5_init_4 ?_
  refine z_bipush (v := 100) hX (by decide) dX5_init_5 ?_
  refine z_put (j := 0) hX zin5 zok5 znm5 fl_X5_9 rfl (by decide) rfl rfl hini rfl rfl rfl rfl dX5_init_7 ?_
  show WL X D A 1 ((q0, .inr (5, [.int 100, .int 0, .int 0, .int 0, .null, .null, .null, .null, .null, .null, .null, .null, .null, .null])) :: []) 0 0 10 _ []
  refine z_aload_n (k := 0) hX rfl 0 rfl dX5_init_10 ?_
  refine z_iconst (v := 0) hX rfl dX5_init_11 ?_
  refine z_put (j := 1) hX zin5 zok5 znm5 fl_X5_15 rfl (by decide) rfl rfl hini rfl rfl rfl rfl dX5_init_12 ?_
  show WL X D A 1 ((q0, .inr (5, [.int 100, .int 0, .int 0, .int 0, .null, .null, .null, .null, .null, .null, .null, .null, .null, .null])) :: []) 0 0 15 _ []
  refine z_aload_n (k := 0) hX rfl 0 rfl dX5_init_15 ?_
  refine z_iconst (v := 0) hX rfl dX5_init_16 ?_
  refine z_put (j := 2) hX zin5 zok5 znm5 fl_X5_18 rfl (by decide) rfl rfl hini rfl rfl rfl rfl dX5_init_17 ?_
  show WL X D A 1 ((q0, .inr (5, [.int 100, .int 0, .int 0, .int 0, .null, .null, .null, .null, .null, .null, .null, .null, .null, .null])) :: []) 0 0 20 _ []
  refine z_aload_n (k := 0) hX rfl 0 rfl dX5_init_20 ?_
  refine z_iconst (v := 0) hX rfl dX5_init_21 ?_
  refine z_put (j := 3) hX zin5 zok5 znm5 fl_X5_21 rfl (by decide) rfl rfl hini rfl rfl rfl rfl dX5_init_22 ?_
  show WL X D A 1 ((q0, .inr (5, [.int 100, .int 0, .int 0, .int 0, .null, .null, .null, .null, .null, .null, .null, .null, .null, .null])) :: []) 0 0 25 _ []
  refine z_aload_n (k := 0) hX rfl 0 rfl dX5_init_25 ?_
  refine z_bipush (v := 6) hX (by decide) dX5_init_26 ?_
  refine z_newa (atype := .int) (i := 0) (a0 := (6, .inl fun _ => 0)) (N' := 6) hX ac_int rfl (fun _ => rfl) (fun _ _ h => h) (by decide) (by decide) (by decide) (by rw [hr]; decide) dX5_init_28 (fun r1 => ?_)
  show WL X D A 1 ((q0, .inr (5, [.int 100, .int 0, .int 0, .int 0, .null, .null, .null, .null, .null, .null, .null, .null, .null, .null])) :: [(r1, .inl (gc 0, 6, .inl fun _ => 0))]) 1 6 30 _ [.ref r1, .ref q0]
  refine z_put (j := 4) hX zin5 zok5 znm5 fl_X5_24 rfl (by decide) rfl rfl hini rfl rfl rfl rfl dX5_init_30 ?_
  show WL X D A 1 ((q0, .inr (5, [.int 100, .int 0, .int 0, .int 0, .ref r1, .null, .null, .null, .null, .null, .null, .null, .null, .null])) :: [(r1, .inl (gc 0, 6, .inl fun _ => 0))]) 1 6 33 _ []
  refine z_aload_n (k := 0) hX rfl 0 rfl dX5_init_33 ?_
  refine z_bipush (v := 6) hX (by decide) dX5_init_34 ?_
  refine z_newa (atype := .int) (i := 0) (a0 := (6, .inl fun _ => 0)) (N' := 6) hX ac_int rfl (fun _ => rfl) (fun _ _ h => h) (by decide) (by decide) (by decide) (by rw [hr]; decide) dX5_init_36 (fun r2 => ?_)
  show WL X D A 1 ((q0, .inr (5, [.int 100, .int 0, .int 0, .int 0, .ref r1, .null, .null, .null, .null, .null, .null, .null, .null, .null])) :: [(r1, .inl (gc 0, 6, .inl fun _ => 0)), (r2, .inl (gc 0, 6, .inl fun _ => 0))]) 2 12 38 _ [.ref r2, .ref q0]
  refine z_put (j := 5) hX zin5 zok5 znm5 fl_X5_28 rfl (by decide) rfl rfl hini rfl rfl rfl rfl dX5_init_38 ?_
  show WL X D A 1 ((q0, .inr (5, [.int 100, .int 0, .int 0, .int 0, .ref r1, .ref r2, .null, .null, .null, .null, .null, .null, .null, .null])) :: [(r1, .inl (gc 0, 6, .inl fun _ => 0)), (r2, .inl (gc 0, 6, .inl fun _ => 0))]) 2 12 41 _ []
  refine z_aload_n (k := 0) hX rfl 0 rfl dX5_init_41 ?_
  refine z_bipush (v := 6) hX (by decide) dX5_init_42 ?_
  refine z_newa (atype := .int) (i := 0) (a0 := (6, .inl fun _ => 0)) (N' := 6) hX ac_int rfl (fun _ => rfl) (fun _ _ h => h) (by decide) (by decide) (by decide) (by rw [hr]; decide) dX5_init_44 (fun r3 => ?_)
  show WL X D A 1 ((q0, .inr (5, [.int 100, .int 0, .int 0, .int 0, .ref r1, .ref r2, .null, .null, .null, .null, .null, .null, .null, .null])) :: [(r1, .inl (gc 0, 6, .inl fun _ => 0)), (r2, .inl (gc 0, 6, .inl fun _ => 0)), (r3, .inl (gc 0, 6, .inl fun _ => 0))]) 3 18 46 _ [.ref r3, .ref q0]
  refine z_put (j := 6) hX zin5 zok5 znm5 fl_X5_31 rfl (by decide) rfl rfl hini rfl rfl rfl rfl dX5_init_46 ?_
  show WL X D A 1 ((q0, .inr (5, [.int 100, .int 0, .int 0, .int 0, .ref r1, .ref r2, .ref r3, .null, .null, .null, .null, .null, .null, .null])) :: [(r1, .inl (gc 0, 6, .inl fun _ => 0)), (r2, .inl (gc 0, 6, .inl fun _ => 0)), (r3, .inl (gc 0, 6, .inl fun _ => 0))]) 3 18 49 _ []
  refine z_aload_n (k := 0) hX rfl 0 rfl dX5_init_49 ?_
  refine z_bipush (v := 6) hX (by decide) dX5_init_50 ?_
  refine z_newa (atype := .int) (i := 0) (a0 := (6, .inl fun _ => 0)) (N' := 6) hX ac_int rfl (fun _ => rfl) (fun _ _ h => h) (by decide) (by decide) (by decide) (by rw [hr]; decide) dX5_init_52 (fun r4 => ?_)
  show WL X D A 1 ((q0, .inr (5, [.int 100, .int 0, .int 0, .int 0, .ref r1, .ref r2, .ref r3, .null, .null, .null, .null, .null, .null, .null])) :: [(r1, .inl (gc 0, 6, .inl fun _ => 0)), (r2, .inl (gc 0, 6, .inl fun _ => 0)), (r3, .inl (gc 0, 6, .inl fun _ => 0)), (r4, .inl (gc 0, 6, .inl fun _ => 0))]) 4 24 54 _ [.ref r4, .ref q0]
  refine z_put (j := 7) hX zin5 zok5 znm5 fl_X5_34 rfl (by decide) rfl rfl hini rfl rfl rfl rfl dX5_init_54 ?_
  show WL X D A 1 ((q0, .inr (5, [.int 100, .int 0, .int 0, .int 0, .ref r1, .ref r2, .ref r3, .ref r4, .null, .null, .null, .null, .null, .null])) :: [(r1, .inl (gc 0, 6, .inl fun _ => 0)), (r2, .inl (gc 0, 6, .inl fun _ => 0)), (r3, .inl (gc 0, 6, .inl fun _ => 0)), (r4, .inl (gc 0, 6, .inl fun _ => 0))]) 4 24 57 _ []
  refine z_aload_n (k := 0) hX rfl 0 rfl dX5_init_57 ?_
  refine z_bipush (v := 6) hX (by decide) dX5_init_58 ?_
  refine z_newa (atype := .int) (i := 0) (a0 := (6, .inl fun _ => 0)) (N' := 6) hX ac_int rfl (fun _ => rfl) (fun _ _ h => h) (by decide) (by decide) (by decide) (by rw [hr]; decide) dX5_init_60 (fun r5 => ?_)
  show WL X D A 1 ((q0, .inr (5, [.int 100, .int 0, .int 0, .int 0, .ref r1, .ref r2, .ref r3, .ref r4, .null, .null, .null, .null, .null, .null])) :: [(r1, .inl (gc 0, 6, .inl fun _ => 0)), (r2, .inl (gc 0, 6, .inl fun _ => 0)), (r3, .inl (gc 0, 6, .inl fun _ => 0)), (r4, .inl (gc 0, 6, .inl fun _ => 0)), (r5, .inl (gc 0, 6, .inl fun _ => 0))]) 5 30 62 _ [.ref r5, .ref q0]
  refine z_put (j := 8) hX zin5 zok5 znm5 fl_X5_37 rfl (by decide) rfl rfl hini rfl rfl rfl rfl dX5_init_62 ?_
  show WL X D A 1 ((q0, .inr (5, [.int 100, .int 0, .int 0, .int 0, .ref r1, .ref r2, .ref r3, .ref r4, .ref r5, .null, .null, .null, .null, .null])) :: [(r1, .inl (gc 0, 6, .inl fun _ => 0)), (r2, .inl (gc 0, 6, .inl fun _ => 0)), (r3, .inl (gc 0, 6, .inl fun _ => 0)), (r4, .inl (gc 0, 6, .inl fun _ => 0)), (r5, .inl (gc 0, 6, .inl fun _ => 0))]) 5 30 65 _ []
  refine z_aload_n (k := 0) hX rfl 0 rfl dX5_init_65 ?_
  refine z_bipush (v := 6) hX (by decide) dX5_init_66 ?_
  refine z_newa (atype := .int) (i := 0) (a0 := (6, .inl fun _ => 0)) (N' := 6) hX ac_int rfl (fun _ => rfl) (fun _ _ h => h) (by decide) (by decide) (by decide) (by rw [hr]; decide) dX5_init_68 (fun r6 => ?_)
  show WL X D A 1 ((q0, .inr (5, [.int 100, .int 0, .int 0, .int 0, .ref r1, .ref r2, .ref r3, .ref r4, .ref r5, .null, .null, .null, .null, .null])) :: [(r1, .inl (gc 0, 6, .inl fun _ => 0)), (r2, .inl (gc 0, 6, .inl fun _ => 0)), (r3, .inl (gc 0, 6, .inl fun _ => 0)), (r4, .inl (gc 0, 6, .inl fun _ => 0)), (r5, .inl (gc 0, 6, .inl fun _ => 0)), (r6, .inl (gc 0, 6, .inl fun _ => 0))]) 6 36 70 _ [.ref r6, .ref q0]
  refine z_put (j := 9) hX zin5 zok5 znm5 fl_X5_40 rfl (by decide) rfl rfl hini rfl rfl rfl rfl dX5_init_70 ?_
  show WL X D A 1 ((q0, .inr (5, [.int 100, .int 0, .int 0, .int 0, .ref r1, .ref r2, .ref r3, .ref r4, .ref r5, .ref r6, .null, .null, .null, .null])) :: [(r1, .inl (gc 0, 6, .inl fun _ => 0)), (r2, .inl (gc 0, 6, .inl fun _ => 0)), (r3, .inl (gc 0, 6, .inl fun _ => 0)), (r4, .inl (gc 0, 6, .inl fun _ => 0)), (r5, .inl (gc 0, 6, .inl fun _ => 0)), (r6, .inl (gc 0, 6, .inl fun _ => 0))]) 6 36 73 _ []
  refine z_aload_n (k := 0) hX rfl 0 rfl dX5_init_73 ?_
  refine z_bipush (v := 6) hX (by decide) dX5_init_74 ?_
  refine z_newa (atype := .int) (i := 0) (a0 := (6, .inl fun _ => 0)) (N' := 6) hX ac_int rfl (fun _ => rfl) (fun _ _ h => h) (by decide) (by decide) (by decide) (by rw [hr]; decide) dX5_init_76 (fun r7 => ?_)
  show WL X D A 1 ((q0, .inr (5, [.int 100, .int 0, .int 0, .int 0, .ref r1, .ref r2, .ref r3, .ref r4, .ref r5, .ref r6, .null, .null, .null, .null])) :: [(r1, .inl (gc 0, 6, .inl fun _ => 0)), (r2, .inl (gc 0, 6, .inl fun _ => 0)), (r3, .inl (gc 0, 6, .inl fun _ => 0)), (r4, .inl (gc 0, 6, .inl fun _ => 0)), (r5, .inl (gc 0, 6, .inl fun _ => 0)), (r6, .inl (gc 0, 6, .inl fun _ => 0)), (r7, .inl (gc 0, 6, .inl fun _ => 0))]) 7 42 78 _ [.ref r7, .ref q0]
  refine z_put (j := 10) hX zin5 zok5 znm5 fl_X5_43 rfl (by decide) rfl rfl hini rfl rfl rfl rfl dX5_init_78 ?_
  show WL X D A 1 ((q0, .inr (5, [.int 100, .int 0, .int 0, .int 0, .ref r1, .ref r2, .ref r3, .ref r4, .ref r5, .ref r6, .ref r7, .null, .null, .null])) :: [(r1, .inl (gc 0, 6, .inl fun _ => 0)), (r2, .inl (gc 0, 6, .inl fun _ => 0)), (r3, .inl (gc 0, 6, .inl fun _ => 0)), (r4, .inl (gc 0, 6, .inl fun _ => 0)), (r5, .inl (gc 0, 6, .inl fun _ => 0)), (r6, .inl (gc 0, 6, .inl fun _ => 0)), (r7, .inl (gc 0, 6, .inl fun _ => 0))]) 7 42 81 _ []
  refine z_aload_n (k := 0) hX rfl 0 rfl dX5_init_81 ?_
  refine z_bipush (v := 6) hX (by decide) dX5_init_82 ?_
  refine z_newa (atype := .int) (i := 0) (a0 := (6, .inl fun _ => 0)) (N' := 6) hX ac_int rfl (fun _ => rfl) (fun _ _ h => h) (by decide) (by decide) (by decide) (by rw [hr]; decide) dX5_init_84 (fun r8 => ?_)
  show WL X D A 1 ((q0, .inr (5, [.int 100, .int 0, .int 0, .int 0, .ref r1, .ref r2, .ref r3, .ref r4, .ref r5, .ref r6, .ref r7, .null, .null, .null])) :: [(r1, .inl (gc 0, 6, .inl fun _ => 0)), (r2, .inl (gc 0, 6, .inl fun _ => 0)), (r3, .inl (gc 0, 6, .inl fun _ => 0)), (r4, .inl (gc 0, 6, .inl fun _ => 0)), (r5, .inl (gc 0, 6, .inl fun _ => 0)), (r6, .inl (gc 0, 6, .inl fun _ => 0)), (r7, .inl (gc 0, 6, .inl fun _ => 0)), (r8, .inl (gc 0, 6, .inl fun _ => 0))]) 8 48 86 _ [.ref r8, .ref q0]
  refine z_put (j := 11) hX zin5 zok5 znm5 fl_X5_46 rfl (by decide) rfl rfl hini rfl rfl rfl rfl dX5_init_86 ?_
  show WL X D A 1 ((q0, .inr (5, [.int 100, .int 0, .int 0, .int 0, .ref r1, .ref r2, .ref r3, .ref r4, .ref r5, .ref r6, .ref r7, .ref r8, .null, .null])) :: [(r1, .inl (gc 0, 6, .inl fun _ => 0)), (r2, .inl (gc 0, 6, .inl fun _ => 0)), (r3, .inl (gc 0, 6, .inl fun _ => 0)), (r4, .inl (gc 0, 6, .inl fun _ => 0)), (r5, .inl (gc 0, 6, .inl fun _ => 0)), (r6, .inl (gc 0, 6, .inl fun _ => 0)), (r7, .inl (gc 0, 6, .inl fun _ => 0)), (r8, .inl (gc 0, 6, .inl fun _ => 0))]) 8 48 89 _ []
  refine z_aload_n (k := 0) hX rfl 0 rfl dX5_init_89 ?_
  refine z_bipush (v := 6) hX (by decide) dX5_init_90 ?_
  refine z_newa (atype := .int) (i := 0) (a0 := (6, .inl fun _ => 0)) (N' := 6) hX ac_int rfl (fun _ => rfl) (fun _ _ h => h) (by decide) (by decide) (by decide) (by rw [hr]; decide) dX5_init_92 (fun r9 => ?_)
  show WL X D A 1 ((q0, .inr (5, [.int 100, .int 0, .int 0, .int 0, .ref r1, .ref r2, .ref r3, .ref r4, .ref r5, .ref r6, .ref r7, .ref r8, .null, .null])) :: [(r1, .inl (gc 0, 6, .inl fun _ => 0)), (r2, .inl (gc 0, 6, .inl fun _ => 0)), (r3, .inl (gc 0, 6, .inl fun _ => 0)), (r4, .inl (gc 0, 6, .inl fun _ => 0)), (r5, .inl (gc 0, 6, .inl fun _ => 0)), (r6, .inl (gc 0, 6, .inl fun _ => 0)), (r7, .inl (gc 0, 6, .inl fun _ => 0)), (r8, .inl (gc 0, 6, .inl fun _ => 0)), (r9, .inl (gc 0, 6, .inl fun _ => 0))]) 9 54 94 _ [.ref r9, .ref q0]
  refine z_put (j := 12) hX zin5 zok5 znm5 fl_X5_49 rfl (by decide) rfl rfl hini rfl rfl rfl rfl dX5_init_94 ?_
  show WL X D A 1 ((q0, .inr (5, [.int 100, .int 0, .int 0, .int 0, .ref r1, .ref r2, .ref r3, .ref r4, .ref r5, .ref r6, .ref r7, .ref r8, .ref r9, .null])) :: [(r1, .inl (gc 0, 6, .inl fun _ => 0)), (r2, .inl (gc 0, 6, .inl fun _ => 0)), (r3, .inl (gc 0, 6, .inl fun _ => 0)), (r4, .inl (gc 0, 6, .inl fun _ => 0)), (r5, .inl (gc 0, 6, .inl fun _ => 0)), (r6, .inl (gc 0, 6, .inl fun _ => 0)), (r7, .inl (gc 0, 6, .inl fun _ => 0)), (r8, .inl (gc 0, 6, .inl fun _ => 0)), (r9, .inl (gc 0, 6, .inl fun _ => 0))]) 9 54 97 _ []
  refine z_aload_n (k := 0) hX rfl 0 rfl dX5_init_97 ?_
  refine z_bipush (v := 24) hX (by decide) dX5_init_98 ?_
  refine z_newa (atype := .int) (i := 0) (a0 := (24, .inl fun _ => 0)) (N' := 24) hX ac_int rfl (fun _ => rfl) (fun _ _ h => h) (by decide) (by decide) (by decide) (by rw [hr]; decide) dX5_init_100 (fun r10 => ?_)
  show WL X D A 1 ((q0, .inr (5, [.int 100, .int 0, .int 0, .int 0, .ref r1, .ref r2, .ref r3, .ref r4, .ref r5, .ref r6, .ref r7, .ref r8, .ref r9, .null])) :: [(r1, .inl (gc 0, 6, .inl fun _ => 0)), (r2, .inl (gc 0, 6, .inl fun _ => 0)), (r3, .inl (gc 0, 6, .inl fun _ => 0)), (r4, .inl (gc 0, 6, .inl fun _ => 0)), (r5, .inl (gc 0, 6, .inl fun _ => 0)), (r6, .inl (gc 0, 6, .inl fun _ => 0)), (r7, .inl (gc 0, 6, .inl fun _ => 0)), (r8, .inl (gc 0, 6, .inl fun _ => 0)), (r9, .inl (gc 0, 6, .inl fun _ => 0)), (r10, .inl (gc 0, 24, .inl fun _ => 0))]) 10 78 102 _ [.ref r10, .ref q0]
  refine z_put (j := 13) hX zin5 zok5 znm5 fl_X5_52 rfl (by decide) rfl rfl hini rfl rfl rfl rfl dX5_init_102 ?_
  show WL X D A 1 ((q0, .inr (5, [.int 100, .int 0, .int 0, .int 0, .ref r1, .ref r2, .ref r3, .ref r4, .ref r5, .ref r6, .ref r7, .ref r8, .ref r9, .ref r10])) :: [(r1, .inl (gc 0, 6, .inl fun _ => 0)), (r2, .inl (gc 0, 6, .inl fun _ => 0)), (r3, .inl (gc 0, 6, .inl fun _ => 0)), (r4, .inl (gc 0, 6, .inl fun _ => 0)), (r5, .inl (gc 0, 6, .inl fun _ => 0)), (r6, .inl (gc 0, 6, .inl fun _ => 0)), (r7, .inl (gc 0, 6, .inl fun _ => 0)), (r8, .inl (gc 0, 6, .inl fun _ => 0)), (r9, .inl (gc 0, 6, .inl fun _ => 0)), (r10, .inl (gc 0, 24, .inl fun _ => 0))]) 10 78 105 _ []
  exact kk (fun o c => match o with | 0 => (match c with | 0 => q0 | 5 => r1 | 6 => r2 | 7 => r3 | 8 => r4 | 9 => r5 | 10 => r6 | 11 => r7 | 12 => r8 | 13 => r9 | 14 => r10 | _ => 0) | _ => 0) rfl 105 10 78 _ (by decide) (by decide) dX5_init_105
def fs0_2 : List Value := [.int 0, .int 0, .int 0, .null, .null, .null, .null, .null, .null]
theorem hfs_2 : ∀ j, j < 9 → defaultValue (zty2 j) = vp_V fs0_2 j := by decide +kernel
def rmI_2 : Room := ⟨1, 6, 46, 20⟩
def Bk_2 (gc : Nat → ClassId) (a : Nat → Nat → Nat) : va_W := (a 0 0, .inr (2, [.int 0, .int 0, .int 0, .ref (a 0 4), .ref (a 0 5), .ref (a 0 6), .ref (a 0 7), .ref (a 0 8), .ref (a 0 9)])) :: [((a 0 4), .inl (gc 0, 5, .inl fun _ => 0)), ((a 0 5), .inl (gc 0, 5, .inl fun _ => 0)), ((a 0 6), .inl (gc 0, 10, .inl fun _ => 0)), ((a 0 7), .inl (gc 0, 10, .inl fun _ => 0)), ((a 0 8), .inl (gc 0, 8, .inl fun _ => 0)), ((a 0 9), .inl (gc 0, 8, .inl fun _ => 0))]
theorem mk_2 (l : Launch) (D : va_G) (gc : Nat → ClassId) : CI l D gc 2 yX2_init bX2_init 1 rmI_2 6 46 fs0_2 EX (Bk_2 gc) := by
  refine CI.of rfl (by decide) rfl rfl (fun X A q0 hl hX hr hini hE kk => ?_)
  show WL X D A 1 [(q0, .inr (2, [.int 0, .int 0, .int 0, .null, .null, .null, .null, .null, .null]))] 0 0 0 _ []
  refine z_aload_n (k := 0) hX rfl 0 rfl dX2_init_0 ?_
  refine z_obj hX oi_X2 (by decide) (by rw [hr]; decide) dX2_init_1 ?_
  refine z_aload_n (k := 0) hX rfl 0 rfl dX2_init_4 ?_
  refine z_iconst (v := 0) hX rfl dX2_init_5 ?_
  refine z_put (j := 0) hX zin2 zok2 znm2 fl_X2_7 rfl (by decide) rfl rfl hini rfl rfl rfl rfl dX2_init_6 ?_
  show WL X D A 1 ((q0, .inr (2, [.int 0, .int 0, .int 0, .null, .null, .null, .null, .null, .null])) :: []) 0 0 9 _ []
  refine z_aload_n (k := 0) hX rfl 0 rfl dX2_init_9 ?_
  refine z_iconst (v := 0) hX rfl dX2_init_10 ?_
  refine z_put (j := 1) hX zin2 zok2 znm2 fl_X2_13 rfl (by decide) rfl rfl hini rfl rfl rfl rfl dX2_init_11 ?_
  show WL X D A 1 ((q0, .inr (2, [.int 0, .int 0, .int 0, .null, .null, .null, .null, .null, .null])) :: []) 0 0 14 _ []
  refine z_aload_n (k := 0) hX rfl 0 rfl dX2_init_14 ?_
  refine z_iconst (v := 0) hX rfl dX2_init_15 ?_
  refine z_put (j := 2) hX zin2 zok2 znm2 fl_X2_16 rfl (by decide) rfl rfl hini rfl rfl rfl rfl dX2_init_16 ?_
  show WL X D A 1 ((q0, .inr (2, [.int 0, .int 0, .int 0, .null, .null, .null, .null, .null, .null])) :: []) 0 0 19 _ []
  refine z_aload_n (k := 0) hX rfl 0 rfl dX2_init_19 ?_
  refine z_iconst (v := 5) hX rfl dX2_init_20 ?_
  refine z_newa (atype := .int) (i := 0) (a0 := (5, .inl fun _ => 0)) (N' := 5) hX ac_int rfl (fun _ => rfl) (fun _ _ h => h) (by decide) (by decide) (by decide) (by rw [hr]; decide) dX2_init_21 (fun r1 => ?_)
  show WL X D A 1 ((q0, .inr (2, [.int 0, .int 0, .int 0, .null, .null, .null, .null, .null, .null])) :: [(r1, .inl (gc 0, 5, .inl fun _ => 0))]) 1 5 23 _ [.ref r1, .ref q0]
  refine z_put (j := 3) hX zin2 zok2 znm2 fl_X2_19 rfl (by decide) rfl rfl hini rfl rfl rfl rfl dX2_init_23 ?_
  show WL X D A 1 ((q0, .inr (2, [.int 0, .int 0, .int 0, .ref r1, .null, .null, .null, .null, .null])) :: [(r1, .inl (gc 0, 5, .inl fun _ => 0))]) 1 5 26 _ []
  refine z_aload_n (k := 0) hX rfl 0 rfl dX2_init_26 ?_
  refine z_iconst (v := 5) hX rfl dX2_init_27 ?_
  refine z_newa (atype := .int) (i := 0) (a0 := (5, .inl fun _ => 0)) (N' := 5) hX ac_int rfl (fun _ => rfl) (fun _ _ h => h) (by decide) (by decide) (by decide) (by rw [hr]; decide) dX2_init_28 (fun r2 => ?_)
  show WL X D A 1 ((q0, .inr (2, [.int 0, .int 0, .int 0, .ref r1, .null, .null, .null, .null, .null])) :: [(r1, .inl (gc 0, 5, .inl fun _ => 0)), (r2, .inl (gc 0, 5, .inl fun _ => 0))]) 2 10 30 _ [.ref r2, .ref q0]
  refine z_put (j := 4) hX zin2 zok2 znm2 fl_X2_23 rfl (by decide) rfl rfl hini rfl rfl rfl rfl dX2_init_30 ?_
  show WL X D A 1 ((q0, .inr (2, [.int 0, .int 0, .int 0, .ref r1, .ref r2, .null, .null, .null, .null])) :: [(r1, .inl (gc 0, 5, .inl fun _ => 0)), (r2, .inl (gc 0, 5, .inl fun _ => 0))]) 2 10 33 _ []
  refine z_aload_n (k := 0) hX rfl 0 rfl dX2_init_33 ?_
  refine z_bipush (v := 10) hX (by decide) dX2_init_34 ?_
  refine z_newa (atype := .int) (i := 0) (a0 := (10, .inl fun _ => 0)) (N' := 10) hX ac_int rfl (fun _ => rfl) (fun _ _ h => h) (by decide) (by decide) (by decide) (by rw [hr]; decide) dX2_init_36 (fun r3 => ?_)
  show WL X D A 1 ((q0, .inr (2, [.int 0, .int 0, .int 0, .ref r1, .ref r2, .null, .null, .null, .null])) :: [(r1, .inl (gc 0, 5, .inl fun _ => 0)), (r2, .inl (gc 0, 5, .inl fun _ => 0)), (r3, .inl (gc 0, 10, .inl fun _ => 0))]) 3 20 38 _ [.ref r3, .ref q0]
  refine z_put (j := 5) hX zin2 zok2 znm2 fl_X2_26 rfl (by decide) rfl rfl hini rfl rfl rfl rfl dX2_init_38 ?_
  show WL X D A 1 ((q0, .inr (2, [.int 0, .int 0, .int 0, .ref r1, .ref r2, .ref r3, .null, .null, .null])) :: [(r1, .inl (gc 0, 5, .inl fun _ => 0)), (r2, .inl (gc 0, 5, .inl fun _ => 0)), (r3, .inl (gc 0, 10, .inl fun _ => 0))]) 3 20 41 _ []
  refine z_aload_n (k := 0) hX rfl 0 rfl dX2_init_41 ?_
  refine z_bipush (v := 10) hX (by decide) dX2_init_42 ?_
  refine z_newa (atype := .int) (i := 0) (a0 := (10, .inl fun _ => 0)) (N' := 10) hX ac_int rfl (fun _ => rfl) (fun _ _ h => h) (by decide) (by decide) (by decide) (by rw [hr]; decide) dX2_init_44 (fun r4 => ?_)
  show WL X D A 1 ((q0, .inr (2, [.int 0, .int 0, .int 0, .ref r1, .ref r2, .ref r3, .null, .null, .null])) :: [(r1, .inl (gc 0, 5, .inl fun _ => 0)), (r2, .inl (gc 0, 5, .inl fun _ => 0)), (r3, .inl (gc 0, 10, .inl fun _ => 0)), (r4, .inl (gc 0, 10, .inl fun _ => 0))]) 4 30 46 _ [.ref r4, .ref q0]
  refine z_put (j := 6) hX zin2 zok2 znm2 fl_X2_29 rfl (by decide) rfl rfl hini rfl rfl rfl rfl dX2_init_46 ?_
  show WL X D A 1 ((q0, .inr (2, [.int 0, .int 0, .int 0, .ref r1, .ref r2, .ref r3, .ref r4, .null, .null])) :: [(r1, .inl (gc 0, 5, .inl fun _ => 0)), (r2, .inl (gc 0, 5, .inl fun _ => 0)), (r3, .inl (gc 0, 10, .inl fun _ => 0)), (r4, .inl (gc 0, 10, .inl fun _ => 0))]) 4 30 49 _ []
  refine z_aload_n (k := 0) hX rfl 0 rfl dX2_init_49 ?_
  refine z_bipush (v := 8) hX (by decide) dX2_init_50 ?_
  refine z_newa (atype := .int) (i := 0) (a0 := (8, .inl fun _ => 0)) (N' := 8) hX ac_int rfl (fun _ => rfl) (fun _ _ h => h) (by decide) (by decide) (by decide) (by rw [hr]; decide) dX2_init_52 (fun r5 => ?_)
  show WL X D A 1 ((q0, .inr (2, [.int 0, .int 0, .int 0, .ref r1, .ref r2, .ref r3, .ref r4, .null, .null])) :: [(r1, .inl (gc 0, 5, .inl fun _ => 0)), (r2, .inl (gc 0, 5, .inl fun _ => 0)), (r3, .inl (gc 0, 10, .inl fun _ => 0)), (r4, .inl (gc 0, 10, .inl fun _ => 0)), (r5, .inl (gc 0, 8, .inl fun _ => 0))]) 5 38 54 _ [.ref r5, .ref q0]
  refine z_put (j := 7) hX zin2 zok2 znm2 fl_X2_32 rfl (by decide) rfl rfl hini rfl rfl rfl rfl dX2_init_54 ?_
  show WL X D A 1 ((q0, .inr (2, [.int 0, .int 0, .int 0, .ref r1, .ref r2, .ref r3, .ref r4, .ref r5, .null])) :: [(r1, .inl (gc 0, 5, .inl fun _ => 0)), (r2, .inl (gc 0, 5, .inl fun _ => 0)), (r3, .inl (gc 0, 10, .inl fun _ => 0)), (r4, .inl (gc 0, 10, .inl fun _ => 0)), (r5, .inl (gc 0, 8, .inl fun _ => 0))]) 5 38 57 _ []
  refine z_aload_n (k := 0) hX rfl 0 rfl dX2_init_57 ?_
  refine z_bipush (v := 8) hX (by decide) dX2_init_58 ?_
  refine z_newa (atype := .int) (i := 0) (a0 := (8, .inl fun _ => 0)) (N' := 8) hX ac_int rfl (fun _ => rfl) (fun _ _ h => h) (by decide) (by decide) (by decide) (by rw [hr]; decide) dX2_init_60 (fun r6 => ?_)
  show WL X D A 1 ((q0, .inr (2, [.int 0, .int 0, .int 0, .ref r1, .ref r2, .ref r3, .ref r4, .ref r5, .null])) :: [(r1, .inl (gc 0, 5, .inl fun _ => 0)), (r2, .inl (gc 0, 5, .inl fun _ => 0)), (r3, .inl (gc 0, 10, .inl fun _ => 0)), (r4, .inl (gc 0, 10, .inl fun _ => 0)), (r5, .inl (gc 0, 8, .inl fun _ => 0)), (r6, .inl (gc 0, 8, .inl fun _ => 0))]) 6 46 62 _ [.ref r6, .ref q0]
  refine z_put (j := 8) hX zin2 zok2 znm2 fl_X2_35 rfl (by decide) rfl rfl hini rfl rfl rfl rfl dX2_init_62 ?_
  show WL X D A 1 ((q0, .inr (2, [.int 0, .int 0, .int 0, .ref r1, .ref r2, .ref r3, .ref r4, .ref r5, .ref r6])) :: [(r1, .inl (gc 0, 5, .inl fun _ => 0)), (r2, .inl (gc 0, 5, .inl fun _ => 0)), (r3, .inl (gc 0, 10, .inl fun _ => 0)), (r4, .inl (gc 0, 10, .inl fun _ => 0)), (r5, .inl (gc 0, 8, .inl fun _ => 0)), (r6, .inl (gc 0, 8, .inl fun _ => 0))]) 6 46 65 _ []
  exact kk (fun o c => match o with | 0 => (match c with | 0 => q0 | 4 => r1 | 5 => r2 | 6 => r3 | 7 => r4 | 8 => r5 | 9 => r6 | _ => 0) | _ => 0) rfl 65 6 46 _ (by decide) (by decide) dX2_init_65
def fs0_1 : List Value := [.int 0, .int 0, .int 0, .int 0, .int 0, .null, .null, .null, .null, .null, .null]
theorem hfs_1 : ∀ j, j < 11 → defaultValue (zty1 j) = vp_V fs0_1 j := by decide +kernel
def rmI_1 : Room := ⟨1, 6, 326, 20⟩
def Bk_1 (gc : Nat → ClassId) (a : Nat → Nat → Nat) : va_W := (a 0 0, .inr (1, [.int 10, .int 0, .int 0, .int 0, .int 0, .ref (a 0 6), .ref (a 0 7), .ref (a 0 8), .ref (a 0 9), .ref (a 0 10), .ref (a 0 11)])) :: [((a 0 6), .inl (gc 0, 10, .inl fun _ => 0)), ((a 0 7), .inl (gc 0, 10, .inl fun _ => 0)), ((a 0 8), .inl (gc 0, 100, .inl fun _ => 0)), ((a 0 9), .inl (gc 0, 100, .inl fun _ => 0)), ((a 0 10), .inl (gc 0, 100, .inl fun _ => 0)), ((a 0 11), .inl (gc 0, 6, .inl fun _ => 0))]
theorem mk_1 (l : Launch) (D : va_G) (gc : Nat → ClassId) : CI l D gc 1 yX1_init bX1_init 1 rmI_1 6 326 fs0_1 EX (Bk_1 gc) := by
  refine CI.of rfl (by decide) rfl rfl (fun X A q0 hl hX hr hini hE kk => ?_)
  show WL X D A 1 [(q0, .inr (1, [.int 0, .int 0, .int 0, .int 0, .int 0, .null, .null, .null, .null, .null, .null]))] 0 0 0 _ []
  refine z_aload_n (k := 0) hX rfl 0 rfl dX1_init_0 ?_
  refine z_obj hX oi_X1 (by decide) (by rw [hr]; decide) dX1_init_1 ?_
  refine z_aload_n (k := 0) hX rfl 0 rfl dX1_init_4 ?_
  refine z_bipush (v := 10) hX (by decide) dX1_init_5 ?_
  refine z_put (j := 0) hX zin1 zok1 znm1 fl_X1_9 rfl (by decide) rfl rfl hini rfl rfl rfl rfl dX1_init_7 ?_
  show WL X D A 1 ((q0, .inr (1, [.int 10, .int 0, .int 0, .int 0, .int 0, .null, .null, .null, .null, .null, .null])) :: []) 0 0 10 _ []
  refine z_aload_n (k := 0) hX rfl 0 rfl dX1_init_10 ?_
  refine z_iconst (v := 0) hX rfl dX1_init_11 ?_
  refine z_put (j := 1) hX zin1 zok1 znm1 fl_X1_13 rfl (by decide) rfl rfl hini rfl rfl rfl rfl dX1_init_12 ?_
  show WL X D A 1 ((q0, .inr (1, [.int 10, .int 0, .int 0, .int 0, .int 0, .null, .null, .null, .null, .null, .null])) :: []) 0 0 15 _ []
  refine z_aload_n (k := 0) hX rfl 0 rfl dX1_init_15 ?_
  refine z_iconst (v := 0) hX rfl dX1_init_16 ?_
  refine z_put (j := 2) hX zin1 zok1 znm1 fl_X1_16 rfl (by decide) rfl rfl hini rfl rfl rfl rfl dX1_init_17 ?_
  show WL X D A 1 ((q0, .inr (1, [.int 10, .int 0, .int 0, .int 0, .int 0, .null, .null, .null, .null, .null, .null])) :: []) 0 0 20 _ []
  refine z_aload_n (k := 0) hX rfl 0 rfl dX1_init_20 ?_
  refine z_iconst (v := 0) hX rfl dX1_init_21 ?_
  refine z_put (j := 3) hX zin1 zok1 znm1 fl_X1_19 rfl (by decide) rfl rfl hini rfl rfl rfl rfl dX1_init_22 ?_
  show WL X D A 1 ((q0, .inr (1, [.int 10, .int 0, .int 0, .int 0, .int 0, .null, .null, .null, .null, .null, .null])) :: []) 0 0 25 _ []
  refine z_aload_n (k := 0) hX rfl 0 rfl dX1_init_25 ?_
  refine z_iconst (v := 0) hX rfl dX1_init_26 ?_
  refine z_put (j := 4) hX zin1 zok1 znm1 fl_X1_22 rfl (by decide) rfl rfl hini rfl rfl rfl rfl dX1_init_27 ?_
  show WL X D A 1 ((q0, .inr (1, [.int 10, .int 0, .int 0, .int 0, .int 0, .null, .null, .null, .null, .null, .null])) :: []) 0 0 30 _ []
  refine z_aload_n (k := 0) hX rfl 0 rfl dX1_init_30 ?_
  refine z_bipush (v := 10) hX (by decide) dX1_init_31 ?_
  refine z_newa (atype := .int) (i := 0) (a0 := (10, .inl fun _ => 0)) (N' := 10) hX ac_int rfl (fun _ => rfl) (fun _ _ h => h) (by decide) (by decide) (by decide) (by rw [hr]; decide) dX1_init_33 (fun r1 => ?_)
  show WL X D A 1 ((q0, .inr (1, [.int 10, .int 0, .int 0, .int 0, .int 0, .null, .null, .null, .null, .null, .null])) :: [(r1, .inl (gc 0, 10, .inl fun _ => 0))]) 1 10 35 _ [.ref r1, .ref q0]
  refine z_put (j := 5) hX zin1 zok1 znm1 fl_X1_25 rfl (by decide) rfl rfl hini rfl rfl rfl rfl dX1_init_35 ?_
  show WL X D A 1 ((q0, .inr (1, [.int 10, .int 0, .int 0, .int 0, .int 0, .ref r1, .null, .null, .null, .null, .null])) :: [(r1, .inl (gc 0, 10, .inl fun _ => 0))]) 1 10 38 _ []
  refine z_aload_n (k := 0) hX rfl 0 rfl dX1_init_38 ?_
  refine z_bipush (v := 10) hX (by decide) dX1_init_39 ?_
  refine z_newa (atype := .int) (i := 0) (a0 := (10, .inl fun _ => 0)) (N' := 10) hX ac_int rfl (fun _ => rfl) (fun _ _ h => h) (by decide) (by decide) (by decide) (by rw [hr]; decide) dX1_init_41 (fun r2 => ?_)
  show WL X D A 1 ((q0, .inr (1, [.int 10, .int 0, .int 0, .int 0, .int 0, .ref r1, .null, .null, .null, .null, .null])) :: [(r1, .inl (gc 0, 10, .inl fun _ => 0)), (r2, .inl (gc 0, 10, .inl fun _ => 0))]) 2 20 43 _ [.ref r2, .ref q0]
  refine z_put (j := 6) hX zin1 zok1 znm1 fl_X1_29 rfl (by decide) rfl rfl hini rfl rfl rfl rfl dX1_init_43 ?_
  show WL X D A 1 ((q0, .inr (1, [.int 10, .int 0, .int 0, .int 0, .int 0, .ref r1, .ref r2, .null, .null, .null, .null])) :: [(r1, .inl (gc 0, 10, .inl fun _ => 0)), (r2, .inl (gc 0, 10, .inl fun _ => 0))]) 2 20 46 _ []
  refine z_aload_n (k := 0) hX rfl 0 rfl dX1_init_46 ?_
  refine z_bipush (v := 100) hX (by decide) dX1_init_47 ?_
  refine z_newa (atype := .int) (i := 0) (a0 := (100, .inl fun _ => 0)) (N' := 100) hX ac_int rfl (fun _ => rfl) (fun _ _ h => h) (by decide) (by decide) (by decide) (by rw [hr]; decide) dX1_init_49 (fun r3 => ?_)
  show WL X D A 1 ((q0, .inr (1, [.int 10, .int 0, .int 0, .int 0, .int 0, .ref r1, .ref r2, .null, .null, .null, .null])) :: [(r1, .inl (gc 0, 10, .inl fun _ => 0)), (r2, .inl (gc 0, 10, .inl fun _ => 0)), (r3, .inl (gc 0, 100, .inl fun _ => 0))]) 3 120 51 _ [.ref r3, .ref q0]
  refine z_put (j := 7) hX zin1 zok1 znm1 fl_X1_34 rfl (by decide) rfl rfl hini rfl rfl rfl rfl dX1_init_51 ?_
  show WL X D A 1 ((q0, .inr (1, [.int 10, .int 0, .int 0, .int 0, .int 0, .ref r1, .ref r2, .ref r3, .null, .null, .null])) :: [(r1, .inl (gc 0, 10, .inl fun _ => 0)), (r2, .inl (gc 0, 10, .inl fun _ => 0)), (r3, .inl (gc 0, 100, .inl fun _ => 0))]) 3 120 54 _ []
  refine z_aload_n (k := 0) hX rfl 0 rfl dX1_init_54 ?_
  refine z_bipush (v := 100) hX (by decide) dX1_init_55 ?_
  refine z_newa (atype := .int) (i := 0) (a0 := (100, .inl fun _ => 0)) (N' := 100) hX ac_int rfl (fun _ => rfl) (fun _ _ h => h) (by decide) (by decide) (by decide) (by rw [hr]; decide) dX1_init_57 (fun r4 => ?_)
  show WL X D A 1 ((q0, .inr (1, [.int 10, .int 0, .int 0, .int 0, .int 0, .ref r1, .ref r2, .ref r3, .null, .null, .null])) :: [(r1, .inl (gc 0, 10, .inl fun _ => 0)), (r2, .inl (gc 0, 10, .inl fun _ => 0)), (r3, .inl (gc 0, 100, .inl fun _ => 0)), (r4, .inl (gc 0, 100, .inl fun _ => 0))]) 4 220 59 _ [.ref r4, .ref q0]
  refine z_put (j := 8) hX zin1 zok1 znm1 fl_X1_37 rfl (by decide) rfl rfl hini rfl rfl rfl rfl dX1_init_59 ?_
  show WL X D A 1 ((q0, .inr (1, [.int 10, .int 0, .int 0, .int 0, .int 0, .ref r1, .ref r2, .ref r3, .ref r4, .null, .null])) :: [(r1, .inl (gc 0, 10, .inl fun _ => 0)), (r2, .inl (gc 0, 10, .inl fun _ => 0)), (r3, .inl (gc 0, 100, .inl fun _ => 0)), (r4, .inl (gc 0, 100, .inl fun _ => 0))]) 4 220 62 _ []
  refine z_aload_n (k := 0) hX rfl 0 rfl dX1_init_62 ?_
  refine z_bipush (v := 100) hX (by decide) dX1_init_63 ?_
  refine z_newa (atype := .int) (i := 0) (a0 := (100, .inl fun _ => 0)) (N' := 100) hX ac_int rfl (fun _ => rfl) (fun _ _ h => h) (by decide) (by decide) (by decide) (by rw [hr]; decide) dX1_init_65 (fun r5 => ?_)
  show WL X D A 1 ((q0, .inr (1, [.int 10, .int 0, .int 0, .int 0, .int 0, .ref r1, .ref r2, .ref r3, .ref r4, .null, .null])) :: [(r1, .inl (gc 0, 10, .inl fun _ => 0)), (r2, .inl (gc 0, 10, .inl fun _ => 0)), (r3, .inl (gc 0, 100, .inl fun _ => 0)), (r4, .inl (gc 0, 100, .inl fun _ => 0)), (r5, .inl (gc 0, 100, .inl fun _ => 0))]) 5 320 67 _ [.ref r5, .ref q0]
  refine z_put (j := 9) hX zin1 zok1 znm1 fl_X1_40 rfl (by decide) rfl rfl hini rfl rfl rfl rfl dX1_init_67 ?_
  show WL X D A 1 ((q0, .inr (1, [.int 10, .int 0, .int 0, .int 0, .int 0, .ref r1, .ref r2, .ref r3, .ref r4, .ref r5, .null])) :: [(r1, .inl (gc 0, 10, .inl fun _ => 0)), (r2, .inl (gc 0, 10, .inl fun _ => 0)), (r3, .inl (gc 0, 100, .inl fun _ => 0)), (r4, .inl (gc 0, 100, .inl fun _ => 0)), (r5, .inl (gc 0, 100, .inl fun _ => 0))]) 5 320 70 _ []
  refine z_aload_n (k := 0) hX rfl 0 rfl dX1_init_70 ?_
  refine z_bipush (v := 6) hX (by decide) dX1_init_71 ?_
  refine z_newa (atype := .int) (i := 0) (a0 := (6, .inl fun _ => 0)) (N' := 6) hX ac_int rfl (fun _ => rfl) (fun _ _ h => h) (by decide) (by decide) (by decide) (by rw [hr]; decide) dX1_init_73 (fun r6 => ?_)
  show WL X D A 1 ((q0, .inr (1, [.int 10, .int 0, .int 0, .int 0, .int 0, .ref r1, .ref r2, .ref r3, .ref r4, .ref r5, .null])) :: [(r1, .inl (gc 0, 10, .inl fun _ => 0)), (r2, .inl (gc 0, 10, .inl fun _ => 0)), (r3, .inl (gc 0, 100, .inl fun _ => 0)), (r4, .inl (gc 0, 100, .inl fun _ => 0)), (r5, .inl (gc 0, 100, .inl fun _ => 0)), (r6, .inl (gc 0, 6, .inl fun _ => 0))]) 6 326 75 _ [.ref r6, .ref q0]
  refine z_put (j := 10) hX zin1 zok1 znm1 fl_X1_43 rfl (by decide) rfl rfl hini rfl rfl rfl rfl dX1_init_75 ?_
  show WL X D A 1 ((q0, .inr (1, [.int 10, .int 0, .int 0, .int 0, .int 0, .ref r1, .ref r2, .ref r3, .ref r4, .ref r5, .ref r6])) :: [(r1, .inl (gc 0, 10, .inl fun _ => 0)), (r2, .inl (gc 0, 10, .inl fun _ => 0)), (r3, .inl (gc 0, 100, .inl fun _ => 0)), (r4, .inl (gc 0, 100, .inl fun _ => 0)), (r5, .inl (gc 0, 100, .inl fun _ => 0)), (r6, .inl (gc 0, 6, .inl fun _ => 0))]) 6 326 78 _ []
  exact kk (fun o c => match o with | 0 => (match c with | 0 => q0 | 6 => r1 | 7 => r2 | 8 => r3 | 9 => r4 | 10 => r5 | 11 => r6 | _ => 0) | _ => 0) rfl 78 6 326 _ (by decide) (by decide) dX1_init_78
def fs0_0 : List Value := [.int 0, .null, .int 0, .int 0, .int 0]
theorem hfs_0 : ∀ j, j < 5 → defaultValue (zty0 j) = vp_V fs0_0 j := by decide +kernel
def rmI_0 : Room := ⟨1, 1, 20, 20⟩
def Bk_0 (gc : Nat → ClassId) (a : Nat → Nat → Nat) : va_W := (a 0 0, .inr (0, [.int 0, .ref (a 0 2), .int 0, .int 0, .int 0])) :: [((a 0 2), .inl (gc 0, 20, .inl fun _ => 0))]
theorem mk_0 (l : Launch) (D : va_G) (gc : Nat → ClassId) : CI l D gc 0 yX0_init bX0_init 1 rmI_0 1 20 fs0_0 EX (Bk_0 gc) := by
  refine CI.of rfl (by decide) rfl rfl (fun X A q0 hl hX hr hini hE kk => ?_)
  show WL X D A 1 [(q0, .inr (0, [.int 0, .null, .int 0, .int 0, .int 0]))] 0 0 0 _ []
  refine z_aload_n (k := 0) hX rfl 0 rfl dX0_init_0 ?_
  refine z_obj hX oi_X0 (by decide) (by rw [hr]; decide) dX0_init_1 ?_
  refine z_aload_n (k := 0) hX rfl 0 rfl dX0_init_4 ?_
  refine z_iconst (v := 0) hX rfl dX0_init_5 ?_
  refine z_put (j := 0) hX zin0 zok0 znm0 fl_X0_9 rfl (by decide) rfl rfl hini rfl rfl rfl rfl dX0_init_6 ?_
  show WL X D A 1 ((q0, .inr (0, [.int 0, .null, .int 0, .int 0, .int 0])) :: []) 0 0 9 _ []
  refine z_aload_n (k := 0) hX rfl 0 rfl dX0_init_9 ?_
  refine z_bipush (v := 20) hX (by decide) dX0_init_10 ?_
  refine z_newa (atype := .int) (i := 0) (a0 := (20, .inl fun _ => 0)) (N' := 20) hX ac_int rfl (fun _ => rfl) (fun _ _ h => h) (by decide) (by decide) (by decide) (by rw [hr]; decide) dX0_init_12 (fun r1 => ?_)
  show WL X D A 1 ((q0, .inr (0, [.int 0, .null, .int 0, .int 0, .int 0])) :: [(r1, .inl (gc 0, 20, .inl fun _ => 0))]) 1 20 14 _ [.ref r1, .ref q0]
  refine z_put (j := 1) hX zin0 zok0 znm0 fl_X0_15 rfl (by decide) rfl rfl hini rfl rfl rfl rfl dX0_init_14 ?_
  show WL X D A 1 ((q0, .inr (0, [.int 0, .ref r1, .int 0, .int 0, .int 0])) :: [(r1, .inl (gc 0, 20, .inl fun _ => 0))]) 1 20 17 _ []
  refine z_aload_n (k := 0) hX rfl 0 rfl dX0_init_17 ?_
  refine z_iconst (v := 0) hX rfl dX0_init_18 ?_
  refine z_put (j := 2) hX zin0 zok0 znm0 fl_X0_19 rfl (by decide) rfl rfl hini rfl rfl rfl rfl dX0_init_19 ?_
  show WL X D A 1 ((q0, .inr (0, [.int 0, .ref r1, .int 0, .int 0, .int 0])) :: [(r1, .inl (gc 0, 20, .inl fun _ => 0))]) 1 20 22 _ []
  refine z_aload_n (k := 0) hX rfl 0 rfl dX0_init_22 ?_
  refine z_iconst (v := 0) hX rfl dX0_init_23 ?_
  refine z_put (j := 3) hX zin0 zok0 znm0 fl_X0_22 rfl (by decide) rfl rfl hini rfl rfl rfl rfl dX0_init_24 ?_
  show WL X D A 1 ((q0, .inr (0, [.int 0, .ref r1, .int 0, .int 0, .int 0])) :: [(r1, .inl (gc 0, 20, .inl fun _ => 0))]) 1 20 27 _ []
  refine z_aload_n (k := 0) hX rfl 0 rfl dX0_init_27 ?_
  refine z_iconst (v := 0) hX rfl dX0_init_28 ?_
  refine z_put (j := 4) hX zin0 zok0 znm0 fl_X0_25 rfl (by decide) rfl rfl hini rfl rfl rfl rfl dX0_init_29 ?_
  show WL X D A 1 ((q0, .inr (0, [.int 0, .ref r1, .int 0, .int 0, .int 0])) :: [(r1, .inl (gc 0, 20, .inl fun _ => 0))]) 1 20 32 _ []
  exact kk (fun o c => match o with | 0 => (match c with | 0 => q0 | 2 => r1 | _ => 0) | _ => 0) rfl 32 1 20 _ (by decide) (by decide) dX0_init_32
def fs0_3 : List Value := [.int 0, .int 0, .int 0, .null, .null]
theorem hfs_3 : ∀ j, j < 5 → defaultValue (zty3 j) = vp_V fs0_3 j := by decide +kernel
def rmI_3 : Room := ⟨2, 8, 437, 40⟩
def Bk_3 (gc : Nat → ClassId) (a : Nat → Nat → Nat) : va_W := (a 0 0, .inr (3, [.int 0, .int 0, .int 0, .ref (a 0 4), .ref (a 1 0)])) :: ([((a 0 4), .inl (gc 0, 100, .inl fun _ => 0))] ++ Bk_1 gc (fun _ c => a 1 c))
theorem mk_3 (l : Launch) (D : va_G) (gc : Nat → ClassId) : CI l D gc 3 yX3_init bX3_init 1 rmI_3 8 437 fs0_3 EX (Bk_3 gc) := by
  refine CI.of rfl (by decide) rfl rfl (fun X A q0 hl hX hr hini hE kk => ?_)
  show WL X D A 1 [(q0, .inr (3, [.int 0, .int 0, .int 0, .null, .null]))] 0 0 0 _ []
  refine z_aload_n (k := 0) hX rfl 0 rfl dX3_init_0 ?_
  refine z_obj hX oi_X3 (by decide) (by rw [hr]; decide) dX3_init_1 ?_
  refine z_aload_n (k := 0) hX rfl 0 rfl dX3_init_4 ?_
  refine z_iconst (v := 0) hX rfl dX3_init_5 ?_
  refine z_put (j := 0) hX zin3 zok3 znm3 fl_X3_7 rfl (by decide) rfl rfl hini rfl rfl rfl rfl dX3_init_6 ?_
  show WL X D A 1 ((q0, .inr (3, [.int 0, .int 0, .int 0, .null, .null])) :: []) 0 0 9 _ []
  refine z_aload_n (k := 0) hX rfl 0 rfl dX3_init_9 ?_
  refine z_iconst (v := 0) hX rfl dX3_init_10 ?_
  refine z_put (j := 1) hX zin3 zok3 znm3 fl_X3_13 rfl (by decide) rfl rfl hini rfl rfl rfl rfl dX3_init_11 ?_
  show WL X D A 1 ((q0, .inr (3, [.int 0, .int 0, .int 0, .null, .null])) :: []) 0 0 14 _ []
  refine z_aload_n (k := 0) hX rfl 0 rfl dX3_init_14 ?_
  refine z_iconst (v := 0) hX rfl dX3_init_15 ?_
  refine z_put (j := 2) hX zin3 zok3 znm3 fl_X3_16 rfl (by decide) rfl rfl hini rfl rfl rfl rfl dX3_init_16 ?_
  show WL X D A 1 ((q0, .inr (3, [.int 0, .int 0, .int 0, .null, .null])) :: []) 0 0 19 _ []
  refine z_aload_n (k := 0) hX rfl 0 rfl dX3_init_19 ?_
  refine z_bipush (v := 100) hX (by decide) dX3_init_20 ?_
  refine z_newa (atype := .int) (i := 0) (a0 := (100, .inl fun _ => 0)) (N' := 100) hX ac_int rfl (fun _ => rfl) (fun _ _ h => h) (by decide) (by decide) (by decide) (by rw [hr]; decide) dX3_init_22 (fun r1 => ?_)
  show WL X D A 1 ((q0, .inr (3, [.int 0, .int 0, .int 0, .null, .null])) :: [(r1, .inl (gc 0, 100, .inl fun _ => 0))]) 1 100 24 _ [.ref r1, .ref q0]
  refine z_put (j := 3) hX zin3 zok3 znm3 fl_X3_20 rfl (by decide) rfl rfl hini rfl rfl rfl rfl dX3_init_24 ?_
  show WL X D A 1 ((q0, .inr (3, [.int 0, .int 0, .int 0, .ref r1, .null])) :: [(r1, .inl (gc 0, 100, .inl fun _ => 0))]) 1 100 27 _ []
  refine z_aload_n (k := 0) hX rfl 0 rfl dX3_init_27 ?_
  refine z_initN hX (mk_1 X.2.1 D gc) zin1 zok1 rfl ck_X3_24 ib_1 mf_X1_init rfl rfl in_X1_init  hE.2.2.2.2.2.1 (fun U hW => EX.warm hW hE) (fun U U' e h => EX.same e h) hfs_1 ⟨rfl, rfl, by rw [hr]; decide, by rw [hr]; decide⟩ (by rw [hr]; decide) (fun q => Nat.le_of_ble_eq_true rfl) dX3_init_28 dX3_init_31 dX3_init_32 (fun b2 => ?_)
  show WL X D A 1 ((q0, .inr (3, [.int 0, .int 0, .int 0, .ref r1, .null])) :: ([(r1, .inl (gc 0, 100, .inl fun _ => 0))] ++ Bk_1 gc b2)) 8 437 35 _ [.ref (b2 0 0), .ref q0]
  refine z_put (j := 4) hX zin3 zok3 znm3 fl_X3_27 rfl (by decide) rfl rfl hini rfl rfl rfl rfl dX3_init_35 ?_
  show WL X D A 1 ((q0, .inr (3, [.int 0, .int 0, .int 0, .ref r1, .ref (b2 0 0)])) :: ([(r1, .inl (gc 0, 100, .inl fun _ => 0))] ++ Bk_1 gc b2)) 8 437 38 _ []
  exact kk (fun o c => match o with | 0 => (match c with | 0 => q0 | 4 => r1 | _ => 0) | 1 => b2 0 c | _ => 0) rfl 38 8 437 _ (by decide) (by decide) dX3_init_38
