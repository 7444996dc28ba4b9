/-! making 7: the constructor of the class itself; written by wip/whole/make/gen75.py -/
def fs0_6 : List Value := [.null, .null, .null, .null, .null, .null, .null, .null, .null, .null, .int 0, .int 0, .int 0, .int 0]
theorem hfs_6 : ∀ j, j < 14 → defaultValue (zty6 j) = vp_V fs0_6 j := by decide +kernel
def rmI_6 : Room := ⟨3, 118, 3599, 60⟩
def Bk_6 (gc : Nat → ClassId) (a : Nat → Nat → Nat) : va_W := (a 0 0, .inr (6, [.ref (a 2 0), .ref (a 4 0), .ref (a 6 0), .ref (a 8 0), .ref (a 10 0), .ref (a 12 0), .ref (a 14 0), .ref (a 0 8), .ref (a 16 0), .ref (a 18 0), .int 0, .int (-1), .int (-1), .int 0])) :: ((a 0 8), .inl (gc 3, 6, .inr (.inr (.inr (.inr (va_up (va_up (va_up (va_up (va_up (va_up (fun _ => none) 0 (some (a 20 0))) 1 (some (a 22 0))) 2 (some (a 24 0))) 3 (some (a 26 0))) 4 (some (a 28 0))) 5 (some (a 30 0)))))))) :: ((((((((((((((([] ++ Bk_5 gc (fun o c => a (2 + o) c)) ++ Bk_5 gc (fun o c => a (4 + o) c)) ++ Bk_5 gc (fun o c => a (6 + o) c)) ++ Bk_2 gc (fun o c => a (8 + o) c)) ++ Bk_2 gc (fun o c => a (10 + o) c)) ++ Bk_3 gc (fun o c => a (12 + o) c)) ++ Bk_1 gc (fun o c => a (14 + o) c)) ++ Bk_0 gc (fun o c => a (16 + o) c)) ++ Bk_4 gc (fun o c => a (18 + o) c)) ++ Bk_1 gc (fun o c => a (20 + o) c)) ++ Bk_1 gc (fun o c => a (22 + o) c)) ++ Bk_1 gc (fun o c => a (24 + o) c)) ++ Bk_1 gc (fun o c => a (26 + o) c)) ++ Bk_1 gc (fun o c => a (28 + o) c)) ++ Bk_1 gc (fun o c => a (30 + o) c))
theorem mk_6 (l : Launch) (D : va_G) (gc : Nat → ClassId) : CI l D gc 6 yX6_init bX6_init 2 rmI_6 118 3599 fs0_6 EX (Bk_6 gc) := by
  refine CI.of rfl (by decide) rfl rfl (fun X A q0 hl hX hr hini hE kk => ?_)
  show WL X D A 2 [(q0, .inr (6, [.null, .null, .null, .null, .null, .null, .null, .null, .null, .null, .int 0, .int 0, .int 0, .int 0]))] 0 0 0 _ []
  refine z_aload_n (k := 0) hX rfl 0 rfl dX6_init_0 ?_
  refine z_obj hX oi_X6 (by decide) (by rw [hr]; decide) dX6_init_1 ?_
  refine z_aload_n (k := 0) hX rfl 0 rfl dX6_init_4 ?_
  refine z_initNc hX (mk_5 X.2.1 D gc) zin5 zok5 rfl ck_X6_9 ib_5 mf_X5_init rfl rfl in_X5_init hE.1 (fun U hW => EX.warm hW hE) (fun U U' e h => EX.same e h) hfs_5 ⟨rfl, rfl, by rw [hr]; decide, by rw [hr]; decide⟩ (by rw [hr]; decide) (fun q => Nat.le_of_ble_eq_true rfl) dX6_init_5 dX6_init_8 dX6_init_9 (fun b1 => ?_)
  show WL X D A 2 ((q0, .inr (6, [.null, .null, .null, .null, .null, .null, .null, .null, .null, .null, .int 0, .int 0, .int 0, .int 0])) :: ([] ++ Bk_5 gc b1)) 11 92 12 _ [.ref (b1 0 0), .ref q0]
  refine z_put (j := 0) hX zin6 zok6 znm6 fl_X6_12 rfl (by decide) rfl rfl hini rfl rfl rfl rfl dX6_init_12 ?_
  show WL X D A 2 ((q0, .inr (6, [.ref (b1 0 0), .null, .null, .null, .null, .null, .null, .null, .null, .null, .int 0, .int 0, .int 0, .int 0])) :: ([] ++ Bk_5 gc b1)) 11 92 15 _ []
  refine z_aload_n (k := 0) hX rfl 0 rfl dX6_init_15 ?_
  refine z_initNc hX (mk_5 X.2.1 D gc) zin5 zok5 rfl ck_X6_9 ib_5 mf_X5_init rfl rfl in_X5_init hE.1 (fun U hW => EX.warm hW hE) (fun U U' e h => EX.same e h) hfs_5 ⟨rfl, rfl, by rw [hr]; decide, by rw [hr]; decide⟩ (by rw [hr]; decide) (fun q => Nat.le_of_ble_eq_true rfl) dX6_init_16 dX6_init_19 dX6_init_20 (fun b2 => ?_)
  show WL X D A 2 ((q0, .inr (6, [.ref (b1 0 0), .null, .null, .null, .null, .null, .null, .null, .null, .null, .int 0, .int 0, .int 0, .int 0])) :: (([] ++ Bk_5 gc b1) ++ Bk_5 gc b2)) 22 184 23 _ [.ref (b2 0 0), .ref q0]
  refine z_put (j := 1) hX zin6 zok6 znm6 fl_X6_18 rfl (by decide) rfl rfl hini rfl rfl rfl rfl dX6_init_23 ?_
  show WL X D A 2 ((q0, .inr (6, [.ref (b1 0 0), .ref (b2 0 0), .null, .null, .null, .null, .null, .null, .null, .null, .int 0, .int 0, .int 0, .int 0])) :: (([] ++ Bk_5 gc b1) ++ Bk_5 gc b2)) 22 184 26 _ []
  refine z_aload_n (k := 0) hX rfl 0 rfl dX6_init_26 ?_
  refine z_initNc hX (mk_5 X.2.1 D gc) zin5 zok5 rfl ck_X6_9 ib_5 mf_X5_init rfl rfl in_X5_init hE.1 (fun U hW => EX.warm hW hE) (fun U U' e h => EX.same e h) hfs_5 ⟨rfl, rfl, by rw [hr]; decide, by rw [hr]; decide⟩ (by rw [hr]; decide) (fun q => Nat.le_of_ble_eq_true rfl) dX6_init_27 dX6_init_30 dX6_init_31 (fun b3 => ?_)
  show WL X D A 2 ((q0, .inr (6, [.ref (b1 0 0), .ref (b2 0 0), .null, .null, .null, .null, .null, .null, .null, .null, .int 0, .int 0, .int 0, .int 0])) :: ((([] ++ Bk_5 gc b1) ++ Bk_5 gc b2) ++ Bk_5 gc b3)) 33 276 34 _ [.ref (b3 0 0), .ref q0]
  refine z_put (j := 2) hX zin6 zok6 znm6 fl_X6_21 rfl (by decide) rfl rfl hini rfl rfl rfl rfl dX6_init_34 ?_
  show WL X D A 2 ((q0, .inr (6, [.ref (b1 0 0), .ref (b2 0 0), .ref (b3 0 0), .null, .null, .null, .null, .null, .null, .null, .int 0, .int 0, .int 0, .int 0])) :: ((([] ++ Bk_5 gc b1) ++ Bk_5 gc b2) ++ Bk_5 gc b3)) 33 276 37 _ []
  refine z_aload_n (k := 0) hX rfl 0 rfl dX6_init_37 ?_
  refine z_initNc hX (mk_2 X.2.1 D gc) zin2 zok2 rfl ck_X6_24 ib_2 mf_X2_init rfl rfl in_X2_init hE.2.1 (fun U hW => EX.warm hW hE) (fun U U' e h => EX.same e h) hfs_2 ⟨rfl, rfl, by rw [hr]; decide, by rw [hr]; decide⟩ (by rw [hr]; decide) (fun q => Nat.le_of_ble_eq_true rfl) dX6_init_38 dX6_init_41 dX6_init_42 (fun b4 => ?_)
  show WL X D A 2 ((q0, .inr (6, [.ref (b1 0 0), .ref (b2 0 0), .ref (b3 0 0), .null, .null, .null, .null, .null, .null, .null, .int 0, .int 0, .int 0, .int 0])) :: (((([] ++ Bk_5 gc b1) ++ Bk_5 gc b2) ++ Bk_5 gc b3) ++ Bk_2 gc b4)) 40 331 45 _ [.ref (b4 0 0), .ref q0]
  refine z_put (j := 3) hX zin6 zok6 znm6 fl_X6_27 rfl (by decide) rfl rfl hini rfl rfl rfl rfl dX6_init_45 ?_
  show WL X D A 2 ((q0, .inr (6, [.ref (b1 0 0), .ref (b2 0 0), .ref (b3 0 0), .ref (b4 0 0), .null, .null, .null, .null, .null, .null, .int 0, .int 0, .int 0, .int 0])) :: (((([] ++ Bk_5 gc b1) ++ Bk_5 gc b2) ++ Bk_5 gc b3) ++ Bk_2 gc b4)) 40 331 48 _ []
  refine z_aload_n (k := 0) hX rfl 0 rfl dX6_init_48 ?_
  refine z_initNc hX (mk_2 X.2.1 D gc) zin2 zok2 rfl ck_X6_24 ib_2 mf_X2_init rfl rfl in_X2_init hE.2.1 (fun U hW => EX.warm hW hE) (fun U U' e h => EX.same e h) hfs_2 ⟨rfl, rfl, by rw [hr]; decide, by rw [hr]; decide⟩ (by rw [hr]; decide) (fun q => Nat.le_of_ble_eq_true rfl) dX6_init_49 dX6_init_52 dX6_init_53 (fun b5 => ?_)
  show WL X D A 2 ((q0, .inr (6, [.ref (b1 0 0), .ref (b2 0 0), .ref (b3 0 0), .ref (b4 0 0), .null, .null, .null, .null, .null, .null, .int 0, .int 0, .int 0, .int 0])) :: ((((([] ++ Bk_5 gc b1) ++ Bk_5 gc b2) ++ Bk_5 gc b3) ++ Bk_2 gc b4) ++ Bk_2 gc b5)) 47 386 56 _ [.ref (b5 0 0), .ref q0]
  refine z_put (j := 4) hX zin6 zok6 znm6 fl_X6_31 rfl (by decide) rfl rfl hini rfl rfl rfl rfl dX6_init_56 ?_
  show WL X D A 2 ((q0, .inr (6, [.ref (b1 0 0), .ref (b2 0 0), .ref (b3 0 0), .ref (b4 0 0), .ref (b5 0 0), .null, .null, .null, .null, .null, .int 0, .int 0, .int 0, .int 0])) :: ((((([] ++ Bk_5 gc b1) ++ Bk_5 gc b2) ++ Bk_5 gc b3) ++ Bk_2 gc b4) ++ Bk_2 gc b5)) 47 386 59 _ []
  refine z_aload_n (k := 0) hX rfl 0 rfl dX6_init_59 ?_
  refine z_initNc hX (mk_3 X.2.1 D gc) zin3 zok3 rfl ck_X6_34 ib_3 mf_X3_init rfl rfl in_X3_init hE.2.2.1 (fun U hW => EX.warm hW hE) (fun U U' e h => EX.same e h) hfs_3 ⟨rfl, rfl, by rw [hr]; decide, by rw [hr]; decide⟩ (by rw [hr]; decide) (fun q => Nat.le_of_ble_eq_true rfl) dX6_init_60 dX6_init_63 dX6_init_64 (fun b6 => ?_)
  show WL X D A 2 ((q0, .inr (6, [.ref (b1 0 0), .ref (b2 0 0), .ref (b3 0 0), .ref (b4 0 0), .ref (b5 0 0), .null, .null, .null, .null, .null, .int 0, .int 0, .int 0, .int 0])) :: (((((([] ++ Bk_5 gc b1) ++ Bk_5 gc b2) ++ Bk_5 gc b3) ++ Bk_2 gc b4) ++ Bk_2 gc b5) ++ Bk_3 gc b6)) 56 828 67 _ [.ref (b6 0 0), .ref q0]
  refine z_put (j := 5) hX zin6 zok6 znm6 fl_X6_37 rfl (by decide) rfl rfl hini rfl rfl rfl rfl dX6_init_67 ?_
  show WL X D A 2 ((q0, .inr (6, [.ref (b1 0 0), .ref (b2 0 0), .ref (b3 0 0), .ref (b4 0 0), .ref (b5 0 0), .ref (b6 0 0), .null, .null, .null, .null, .int 0, .int 0, .int 0, .int 0])) :: (((((([] ++ Bk_5 gc b1) ++ Bk_5 gc b2) ++ Bk_5 gc b3) ++ Bk_2 gc b4) ++ Bk_2 gc b5) ++ Bk_3 gc b6)) 56 828 70 _ []
  refine z_aload_n (k := 0) hX rfl 0 rfl dX6_init_70 ?_
  refine z_initNc hX (mk_1 X.2.1 D gc) zin1 zok1 rfl ck_X6_41 ib_1 mf_X1_init rfl rfl in_X1_init hE.2.2.2.1 (fun U hW => EX.warm hW hE) (fun U U' e h => EX.same e h) hfs_1 ⟨rfl, rfl, by rw [hr]; decide, by rw [hr]; decide⟩ (by rw [hr]; decide) (fun q => Nat.le_of_ble_eq_true rfl) dX6_init_71 dX6_init_74 dX6_init_75 (fun b7 => ?_)
  show WL X D A 2 ((q0, .inr (6, [.ref (b1 0 0), .ref (b2 0 0), .ref (b3 0 0), .ref (b4 0 0), .ref (b5 0 0), .ref (b6 0 0), .null, .null, .null, .null, .int 0, .int 0, .int 0, .int 0])) :: ((((((([] ++ Bk_5 gc b1) ++ Bk_5 gc b2) ++ Bk_5 gc b3) ++ Bk_2 gc b4) ++ Bk_2 gc b5) ++ Bk_3 gc b6) ++ Bk_1 gc b7)) 63 1165 78 _ [.ref (b7 0 0), .ref q0]
  refine z_put (j := 6) hX zin6 zok6 znm6 fl_X6_44 rfl (by decide) rfl rfl hini rfl rfl rfl rfl dX6_init_78 ?_
  show WL X D A 2 ((q0, .inr (6, [.ref (b1 0 0), .ref (b2 0 0), .ref (b3 0 0), .ref (b4 0 0), .ref (b5 0 0), .ref (b6 0 0), .ref (b7 0 0), .null, .null, .null, .int 0, .int 0, .int 0, .int 0])) :: ((((((([] ++ Bk_5 gc b1) ++ Bk_5 gc b2) ++ Bk_5 gc b3) ++ Bk_2 gc b4) ++ Bk_2 gc b5) ++ Bk_3 gc b6) ++ Bk_1 gc b7)) 63 1165 81 _ []
  refine z_aload_n (k := 0) hX rfl 0 rfl dX6_init_81 ?_
  refine z_bipush (v := 6) hX (by decide) dX6_init_82 ?_
  refine z_newqc (N' := 6) hX ck_X6_41 hE.2.2.2.2.2.2 (by decide) (by decide) (by decide) (by rw [hr]; decide) dX6_init_84 (fun r8 => ?_)
  refine z_swap ?_
  show WL X D A 2 ((q0, .inr (6, [.ref (b1 0 0), .ref (b2 0 0), .ref (b3 0 0), .ref (b4 0 0), .ref (b5 0 0), .ref (b6 0 0), .ref (b7 0 0), .null, .null, .null, .int 0, .int 0, .int 0, .int 0])) :: (r8, .inl (gc 3, 6, .inr (.inr (.inr (.inr (fun _ => none)))))) :: ((((((([] ++ Bk_5 gc b1) ++ Bk_5 gc b2) ++ Bk_5 gc b3) ++ Bk_2 gc b4) ++ Bk_2 gc b5) ++ Bk_3 gc b6) ++ Bk_1 gc b7)) 64 1171 87 _ [.ref r8, .ref q0]
  refine z_put (j := 7) hX zin6 zok6 znm6 fl_X6_48 rfl (by decide) rfl rfl hini rfl rfl rfl rfl dX6_init_87 ?_
  show WL X D A 2 ((q0, .inr (6, [.ref (b1 0 0), .ref (b2 0 0), .ref (b3 0 0), .ref (b4 0 0), .ref (b5 0 0), .ref (b6 0 0), .ref (b7 0 0), .ref r8, .null, .null, .int 0, .int 0, .int 0, .int 0])) :: (r8, .inl (gc 3, 6, .inr (.inr (.inr (.inr (fun _ => none)))))) :: ((((((([] ++ Bk_5 gc b1) ++ Bk_5 gc b2) ++ Bk_5 gc b3) ++ Bk_2 gc b4) ++ Bk_2 gc b5) ++ Bk_3 gc b6) ++ Bk_1 gc b7)) 64 1171 90 _ []
  refine z_aload_n (k := 0) hX rfl 0 rfl dX6_init_90 ?_
  refine z_initNd hX (mk_0 X.2.1 D gc) zin0 zok0 rfl ck_X6_52 ib_0 mf_X0_init rfl rfl in_X0_init hE.2.2.2.2.1 (fun U hW => EX.warm hW hE) (fun U U' e h => EX.same e h) hfs_0 ⟨rfl, rfl, by rw [hr]; decide, by rw [hr]; decide⟩ (by rw [hr]; decide) (fun q => Nat.le_of_ble_eq_true rfl) dX6_init_91 dX6_init_94 dX6_init_95 (fun b9 => ?_)
  show WL X D A 2 ((q0, .inr (6, [.ref (b1 0 0), .ref (b2 0 0), .ref (b3 0 0), .ref (b4 0 0), .ref (b5 0 0), .ref (b6 0 0), .ref (b7 0 0), .ref r8, .null, .null, .int 0, .int 0, .int 0, .int 0])) :: (r8, .inl (gc 3, 6, .inr (.inr (.inr (.inr (fun _ => none)))))) :: (((((((([] ++ Bk_5 gc b1) ++ Bk_5 gc b2) ++ Bk_5 gc b3) ++ Bk_2 gc b4) ++ Bk_2 gc b5) ++ Bk_3 gc b6) ++ Bk_1 gc b7) ++ Bk_0 gc b9)) 66 1196 98 _ [.ref (b9 0 0), .ref q0]
  refine z_put (j := 8) hX zin6 zok6 znm6 fl_X6_55 rfl (by decide) rfl rfl hini rfl rfl rfl rfl dX6_init_98 ?_
  show WL X D A 2 ((q0, .inr (6, [.ref (b1 0 0), .ref (b2 0 0), .ref (b3 0 0), .ref (b4 0 0), .ref (b5 0 0), .ref (b6 0 0), .ref (b7 0 0), .ref r8, .ref (b9 0 0), .null, .int 0, .int 0, .int 0, .int 0])) :: (r8, .inl (gc 3, 6, .inr (.inr (.inr (.inr (fun _ => none)))))) :: (((((((([] ++ Bk_5 gc b1) ++ Bk_5 gc b2) ++ Bk_5 gc b3) ++ Bk_2 gc b4) ++ Bk_2 gc b5) ++ Bk_3 gc b6) ++ Bk_1 gc b7) ++ Bk_0 gc b9)) 66 1196 101 _ []
  refine z_aload_n (k := 0) hX rfl 0 rfl dX6_init_101 ?_
  refine z_initPd hX (mk_4 X.2.1 D gc) zin4 zok4 rfl ck_X6_59 ib_4 mf_X4_init rfl rfl in_X4_init ml_X6_61 (fun U hW => EX.warm hW hE) (fun U U' e h => EX.same e h) hfs_4 ⟨rfl, rfl, by rw [hr]; decide, by rw [hr]; decide⟩ (by rw [hr]; decide) (fun q => Nat.le_of_ble_eq_true rfl) dX6_init_102 dX6_init_105 dX6_init_106 (fun b10 => ?_)
  show WL X D A 2 ((q0, .inr (6, [.ref (b1 0 0), .ref (b2 0 0), .ref (b3 0 0), .ref (b4 0 0), .ref (b5 0 0), .ref (b6 0 0), .ref (b7 0 0), .ref r8, .ref (b9 0 0), .null, .int 0, .int 0, .int 0, .int 0])) :: (r8, .inl (gc 3, 6, .inr (.inr (.inr (.inr (fun _ => none)))))) :: ((((((((([] ++ Bk_5 gc b1) ++ Bk_5 gc b2) ++ Bk_5 gc b3) ++ Bk_2 gc b4) ++ Bk_2 gc b5) ++ Bk_3 gc b6) ++ Bk_1 gc b7) ++ Bk_0 gc b9) ++ Bk_4 gc b10)) 76 1577 109 _ [.ref (b10 0 0), .ref q0]
  refine z_put (j := 9) hX zin6 zok6 znm6 fl_X6_62 rfl (by decide) rfl rfl hini rfl rfl rfl rfl dX6_init_109 ?_
  show WL X D A 2 ((q0, .inr (6, [.ref (b1 0 0), .ref (b2 0 0), .ref (b3 0 0), .ref (b4 0 0), .ref (b5 0 0), .ref (b6 0 0), .ref (b7 0 0), .ref r8, .ref (b9 0 0), .ref (b10 0 0), .int 0, .int 0, .int 0, .int 0])) :: (r8, .inl (gc 3, 6, .inr (.inr (.inr (.inr (fun _ => none)))))) :: ((((((((([] ++ Bk_5 gc b1) ++ Bk_5 gc b2) ++ Bk_5 gc b3) ++ Bk_2 gc b4) ++ Bk_2 gc b5) ++ Bk_3 gc b6) ++ Bk_1 gc b7) ++ Bk_0 gc b9) ++ Bk_4 gc b10)) 76 1577 112 _ []
  refine z_aload_n (k := 0) hX rfl 0 rfl dX6_init_112 ?_
  refine z_iconst (v := 0) hX rfl dX6_init_113 ?_
  refine z_put (j := 10) hX zin6 zok6 znm6 fl_X6_66 rfl (by decide) rfl rfl hini rfl rfl rfl rfl dX6_init_114 ?_
  show WL X D A 2 ((q0, .inr (6, [.ref (b1 0 0), .ref (b2 0 0), .ref (b3 0 0), .ref (b4 0 0), .ref (b5 0 0), .ref (b6 0 0), .ref (b7 0 0), .ref r8, .ref (b9 0 0), .ref (b10 0 0), .int 0, .int 0, .int 0, .int 0])) :: (r8, .inl (gc 3, 6, .inr (.inr (.inr (.inr (fun _ => none)))))) :: ((((((((([] ++ Bk_5 gc b1) ++ Bk_5 gc b2) ++ Bk_5 gc b3) ++ Bk_2 gc b4) ++ Bk_2 gc b5) ++ Bk_3 gc b6) ++ Bk_1 gc b7) ++ Bk_0 gc b9) ++ Bk_4 gc b10)) 76 1577 117 _ []
  refine z_aload_n (k := 0) hX rfl 0 rfl dX6_init_117 ?_
  refine z_iconst (v := (-1)) hX rfl dX6_init_118 ?_
  refine z_put (j := 11) hX zin6 zok6 znm6 fl_X6_70 rfl (by decide) rfl rfl hini rfl rfl rfl rfl dX6_init_119 ?_
  show WL X D A 2 ((q0, .inr (6, [.ref (b1 0 0), .ref (b2 0 0), .ref (b3 0 0), .ref (b4 0 0), .ref (b5 0 0), .ref (b6 0 0), .ref (b7 0 0), .ref r8, .ref (b9 0 0), .ref (b10 0 0), .int 0, .int (-1), .int 0, .int 0])) :: (r8, .inl (gc 3, 6, .inr (.inr (.inr (.inr (fun _ => none)))))) :: ((((((((([] ++ Bk_5 gc b1) ++ Bk_5 gc b2) ++ Bk_5 gc b3) ++ Bk_2 gc b4) ++ Bk_2 gc b5) ++ Bk_3 gc b6) ++ Bk_1 gc b7) ++ Bk_0 gc b9) ++ Bk_4 gc b10)) 76 1577 122 _ []
  refine z_aload_n (k := 0) hX rfl 0 rfl dX6_init_122 ?_
  refine z_iconst (v := (-1)) hX rfl dX6_init_123 ?_
  refine z_put (j := 12) hX zin6 zok6 znm6 fl_X6_73 rfl (by decide) rfl rfl hini rfl rfl rfl rfl dX6_init_124 ?_
  show WL X D A 2 ((q0, .inr (6, [.ref (b1 0 0), .ref (b2 0 0), .ref (b3 0 0), .ref (b4 0 0), .ref (b5 0 0), .ref (b6 0 0), .ref (b7 0 0), .ref r8, .ref (b9 0 0), .ref (b10 0 0), .int 0, .int (-1), .int (-1), .int 0])) :: (r8, .inl (gc 3, 6, .inr (.inr (.inr (.inr (fun _ => none)))))) :: ((((((((([] ++ Bk_5 gc b1) ++ Bk_5 gc b2) ++ Bk_5 gc b3) ++ Bk_2 gc b4) ++ Bk_2 gc b5) ++ Bk_3 gc b6) ++ Bk_1 gc b7) ++ Bk_0 gc b9) ++ Bk_4 gc b10)) 76 1577 127 _ []
  refine z_aload_n (k := 0) hX rfl 0 rfl dX6_init_127 ?_
  refine z_iconst (v := 0) hX rfl dX6_init_128 ?_
  refine z_put (j := 13) hX zin6 zok6 znm6 fl_X6_76 rfl (by decide) rfl rfl hini rfl rfl rfl rfl dX6_init_129 ?_
  show WL X D A 2 ((q0, .inr (6, [.ref (b1 0 0), .ref (b2 0 0), .ref (b3 0 0), .ref (b4 0 0), .ref (b5 0 0), .ref (b6 0 0), .ref (b7 0 0), .ref r8, .ref (b9 0 0), .ref (b10 0 0), .int 0, .int (-1), .int (-1), .int 0])) :: (r8, .inl (gc 3, 6, .inr (.inr (.inr (.inr (fun _ => none)))))) :: ((((((((([] ++ Bk_5 gc b1) ++ Bk_5 gc b2) ++ Bk_5 gc b3) ++ Bk_2 gc b4) ++ Bk_2 gc b5) ++ Bk_3 gc b6) ++ Bk_1 gc b7) ++ Bk_0 gc b9) ++ Bk_4 gc b10)) 76 1577 132 _ []
  refine z_iconst (v := 0) hX rfl dX6_init_132 ?_
  refine z_istore_n (k := 1) (L2 := [(1, .int 0), (0, .ref q0)]) hX rfl (by decide) rfl dX6_init_133 ?_
  refine z_iload_n (k := 1) hX rfl 0 rfl dX6_init_134 ?_
  refine z_bipush (v := 6) hX (by decide) dX6_init_135 ?_
  refine z_geF hX (by decide) dX6_init_137 ?_
  refine z_aload_n (k := 0) hX rfl 1 rfl dX6_init_140 ?_
  refine z_get (j := 7) (q := 0) hX zin6 fl_X6_48 rfl (by decide) rfl rfl rfl rfl dX6_init_141 ?_
  refine z_iload_n (k := 1) hX rfl 0 rfl dX6_init_144 ?_
  refine z_initNd hX (mk_1 X.2.1 D gc) zin1 zok1 rfl ck_X6_41 ib_1 mf_X1_init rfl rfl in_X1_init hE.2.2.2.1 (fun U hW => EX.warm hW hE) (fun U U' e h => EX.same e h) hfs_1 ⟨rfl, rfl, by rw [hr]; decide, by rw [hr]; decide⟩ (by rw [hr]; decide) (fun q => Nat.le_of_ble_eq_true rfl) dX6_init_145 dX6_init_148 dX6_init_149 (fun b11 => ?_)
  show WL X D A 2 ((q0, .inr (6, [.ref (b1 0 0), .ref (b2 0 0), .ref (b3 0 0), .ref (b4 0 0), .ref (b5 0 0), .ref (b6 0 0), .ref (b7 0 0), .ref r8, .ref (b9 0 0), .ref (b10 0 0), .int 0, .int (-1), .int (-1), .int 0])) :: (r8, .inl (gc 3, 6, .inr (.inr (.inr (.inr (fun _ => none)))))) :: (((((((((([] ++ Bk_5 gc b1) ++ Bk_5 gc b2) ++ Bk_5 gc b3) ++ Bk_2 gc b4) ++ Bk_2 gc b5) ++ Bk_3 gc b6) ++ Bk_1 gc b7) ++ Bk_0 gc b9) ++ Bk_4 gc b10) ++ Bk_1 gc b11)) 83 1914 152 _ [.ref (b11 0 0), .int 0, .ref r8]
  refine z_astqc (j := 0) hX (show ¬ (_ ∨ _) from by decide) (by decide) dX6_init_152 ?_
  show WL X D A 2 ((q0, .inr (6, [.ref (b1 0 0), .ref (b2 0 0), .ref (b3 0 0), .ref (b4 0 0), .ref (b5 0 0), .ref (b6 0 0), .ref (b7 0 0), .ref r8, .ref (b9 0 0), .ref (b10 0 0), .int 0, .int (-1), .int (-1), .int 0])) :: (r8, .inl (gc 3, 6, .inr (.inr (.inr (.inr (va_up (fun _ => none) 0 (some (b11 0 0)))))))) :: (((((((((([] ++ Bk_5 gc b1) ++ Bk_5 gc b2) ++ Bk_5 gc b3) ++ Bk_2 gc b4) ++ Bk_2 gc b5) ++ Bk_3 gc b6) ++ Bk_1 gc b7) ++ Bk_0 gc b9) ++ Bk_4 gc b10) ++ Bk_1 gc b11)) 83 1914 153 _ []
  refine z_iinc (v := 1) (L2 := [(1, .int 1), (0, .ref q0)]) hX 0 rfl (by decide) (by decide) rfl dX6_init_153 ?_
  refine z_goto hX dX6_init_156 ?_
  refine z_iload_n (k := 1) hX rfl 0 rfl dX6_init_134 ?_
  refine z_bipush (v := 6) hX (by decide) dX6_init_135 ?_
  refine z_geF hX (by decide) dX6_init_137 ?_
  refine z_aload_n (k := 0) hX rfl 1 rfl dX6_init_140 ?_
  refine z_get (j := 7) (q := 0) hX zin6 fl_X6_48 rfl (by decide) rfl rfl rfl rfl dX6_init_141 ?_
  refine z_iload_n (k := 1) hX rfl 0 rfl dX6_init_144 ?_
  refine z_initNd hX (mk_1 X.2.1 D gc) zin1 zok1 rfl ck_X6_41 ib_1 mf_X1_init rfl rfl in_X1_init hE.2.2.2.1 (fun U hW => EX.warm hW hE) (fun U U' e h => EX.same e h) hfs_1 ⟨rfl, rfl, by rw [hr]; decide, by rw [hr]; decide⟩ (by rw [hr]; decide) (fun q => Nat.le_of_ble_eq_true rfl) dX6_init_145 dX6_init_148 dX6_init_149 (fun b12 => ?_)
  show WL X D A 2 ((q0, .inr (6, [.ref (b1 0 0), .ref (b2 0 0), .ref (b3 0 0), .ref (b4 0 0), .ref (b5 0 0), .ref (b6 0 0), .ref (b7 0 0), .ref r8, .ref (b9 0 0), .ref (b10 0 0), .int 0, .int (-1), .int (-1), .int 0])) :: (r8, .inl (gc 3, 6, .inr (.inr (.inr (.inr (va_up (fun _ => none) 0 (some (b11 0 0)))))))) :: ((((((((((([] ++ Bk_5 gc b1) ++ Bk_5 gc b2) ++ Bk_5 gc b3) ++ Bk_2 gc b4) ++ Bk_2 gc b5) ++ Bk_3 gc b6) ++ Bk_1 gc b7) ++ Bk_0 gc b9) ++ Bk_4 gc b10) ++ Bk_1 gc b11) ++ Bk_1 gc b12)) 90 2251 152 _ [.ref (b12 0 0), .int 1, .ref r8]
  refine z_astqc (j := 1) hX (show ¬ (_ ∨ _) from by decide) (by decide) dX6_init_152 ?_
  show WL X D A 2 ((q0, .inr (6, [.ref (b1 0 0), .ref (b2 0 0), .ref (b3 0 0), .ref (b4 0 0), .ref (b5 0 0), .ref (b6 0 0), .ref (b7 0 0), .ref r8, .ref (b9 0 0), .ref (b10 0 0), .int 0, .int (-1), .int (-1), .int 0])) :: (r8, .inl (gc 3, 6, .inr (.inr (.inr (.inr (va_up (va_up (fun _ => none) 0 (some (b11 0 0))) 1 (some (b12 0 0)))))))) :: ((((((((((([] ++ Bk_5 gc b1) ++ Bk_5 gc b2) ++ Bk_5 gc b3) ++ Bk_2 gc b4) ++ Bk_2 gc b5) ++ Bk_3 gc b6) ++ Bk_1 gc b7) ++ Bk_0 gc b9) ++ Bk_4 gc b10) ++ Bk_1 gc b11) ++ Bk_1 gc b12)) 90 2251 153 _ []
  refine z_iinc (v := 2) (L2 := [(1, .int 2), (0, .ref q0)]) hX 0 rfl (by decide) (by decide) rfl dX6_init_153 ?_
  refine z_goto hX dX6_init_156 ?_
  refine z_iload_n (k := 1) hX rfl 0 rfl dX6_init_134 ?_
  refine z_bipush (v := 6) hX (by decide) dX6_init_135 ?_
  refine z_geF hX (by decide) dX6_init_137 ?_
  refine z_aload_n (k := 0) hX rfl 1 rfl dX6_init_140 ?_
  refine z_get (j := 7) (q := 0) hX zin6 fl_X6_48 rfl (by decide) rfl rfl rfl rfl dX6_init_141 ?_
  refine z_iload_n (k := 1) hX rfl 0 rfl dX6_init_144 ?_
  refine z_initNd hX (mk_1 X.2.1 D gc) zin1 zok1 rfl ck_X6_41 ib_1 mf_X1_init rfl rfl in_X1_init hE.2.2.2.1 (fun U hW => EX.warm hW hE) (fun U U' e h => EX.same e h) hfs_1 ⟨rfl, rfl, by rw [hr]; decide, by rw [hr]; decide⟩ (by rw [hr]; decide) (fun q => Nat.le_of_ble_eq_true rfl) dX6_init_145 dX6_init_148 dX6_init_149 (fun b13 => ?_)
  show WL X D A 2 ((q0, .inr (6, [.ref (b1 0 0), .ref (b2 0 0), .ref (b3 0 0), .ref (b4 0 0), .ref (b5 0 0), .ref (b6 0 0), .ref (b7 0 0), .ref r8, .ref (b9 0 0), .ref (b10 0 0), .int 0, .int (-1), .int (-1), .int 0])) :: (r8, .inl (gc 3, 6, .inr (.inr (.inr (.inr (va_up (va_up (fun _ => none) 0 (some (b11 0 0))) 1 (some (b12 0 0)))))))) :: (((((((((((([] ++ Bk_5 gc b1) ++ Bk_5 gc b2) ++ Bk_5 gc b3) ++ Bk_2 gc b4) ++ Bk_2 gc b5) ++ Bk_3 gc b6) ++ Bk_1 gc b7) ++ Bk_0 gc b9) ++ Bk_4 gc b10) ++ Bk_1 gc b11) ++ Bk_1 gc b12) ++ Bk_1 gc b13)) 97 2588 152 _ [.ref (b13 0 0), .int 2, .ref r8]
  refine z_astqc (j := 2) hX (show ¬ (_ ∨ _) from by decide) (by decide) dX6_init_152 ?_
  show WL X D A 2 ((q0, .inr (6, [.ref (b1 0 0), .ref (b2 0 0), .ref (b3 0 0), .ref (b4 0 0), .ref (b5 0 0), .ref (b6 0 0), .ref (b7 0 0), .ref r8, .ref (b9 0 0), .ref (b10 0 0), .int 0, .int (-1), .int (-1), .int 0])) :: (r8, .inl (gc 3, 6, .inr (.inr (.inr (.inr (va_up (va_up (va_up (fun _ => none) 0 (some (b11 0 0))) 1 (some (b12 0 0))) 2 (some (b13 0 0)))))))) :: (((((((((((([] ++ Bk_5 gc b1) ++ Bk_5 gc b2) ++ Bk_5 gc b3) ++ Bk_2 gc b4) ++ Bk_2 gc b5) ++ Bk_3 gc b6) ++ Bk_1 gc b7) ++ Bk_0 gc b9) ++ Bk_4 gc b10) ++ Bk_1 gc b11) ++ Bk_1 gc b12) ++ Bk_1 gc b13)) 97 2588 153 _ []
  refine z_iinc (v := 3) (L2 := [(1, .int 3), (0, .ref q0)]) hX 0 rfl (by decide) (by decide) rfl dX6_init_153 ?_
  refine z_goto hX dX6_init_156 ?_
  refine z_iload_n (k := 1) hX rfl 0 rfl dX6_init_134 ?_
  refine z_bipush (v := 6) hX (by decide) dX6_init_135 ?_
  refine z_geF hX (by decide) dX6_init_137 ?_
  refine z_aload_n (k := 0) hX rfl 1 rfl dX6_init_140 ?_
  refine z_get (j := 7) (q := 0) hX zin6 fl_X6_48 rfl (by decide) rfl rfl rfl rfl dX6_init_141 ?_
  refine z_iload_n (k := 1) hX rfl 0 rfl dX6_init_144 ?_
  refine z_initNd hX (mk_1 X.2.1 D gc) zin1 zok1 rfl ck_X6_41 ib_1 mf_X1_init rfl rfl in_X1_init hE.2.2.2.1 (fun U hW => EX.warm hW hE) (fun U U' e h => EX.same e h) hfs_1 ⟨rfl, rfl, by rw [hr]; decide, by rw [hr]; decide⟩ (by rw [hr]; decide) (fun q => Nat.le_of_ble_eq_true rfl) dX6_init_145 dX6_init_148 dX6_init_149 (fun b14 => ?_)
  show WL X D A 2 ((q0, .inr (6, [.ref (b1 0 0), .ref (b2 0 0), .ref (b3 0 0), .ref (b4 0 0), .ref (b5 0 0), .ref (b6 0 0), .ref (b7 0 0), .ref r8, .ref (b9 0 0), .ref (b10 0 0), .int 0, .int (-1), .int (-1), .int 0])) :: (r8, .inl (gc 3, 6, .inr (.inr (.inr (.inr (va_up (va_up (va_up (fun _ => none) 0 (some (b11 0 0))) 1 (some (b12 0 0))) 2 (some (b13 0 0)))))))) :: ((((((((((((([] ++ Bk_5 gc b1) ++ Bk_5 gc b2) ++ Bk_5 gc b3) ++ Bk_2 gc b4) ++ Bk_2 gc b5) ++ Bk_3 gc b6) ++ Bk_1 gc b7) ++ Bk_0 gc b9) ++ Bk_4 gc b10) ++ Bk_1 gc b11) ++ Bk_1 gc b12) ++ Bk_1 gc b13) ++ Bk_1 gc b14)) 104 2925 152 _ [.ref (b14 0 0), .int 3, .ref r8]
  refine z_astqc (j := 3) hX (show ¬ (_ ∨ _) from by decide) (by decide) dX6_init_152 ?_
  show WL X D A 2 ((q0, .inr (6, [.ref (b1 0 0), .ref (b2 0 0), .ref (b3 0 0), .ref (b4 0 0), .ref (b5 0 0), .ref (b6 0 0), .ref (b7 0 0), .ref r8, .ref (b9 0 0), .ref (b10 0 0), .int 0, .int (-1), .int (-1), .int 0])) :: (r8, .inl (gc 3, 6, .inr (.inr (.inr (.inr (va_up (va_up (va_up (va_up (fun _ => none) 0 (some (b11 0 0))) 1 (some (b12 0 0))) 2 (some (b13 0 0))) 3 (some (b14 0 0)))))))) :: ((((((((((((([] ++ Bk_5 gc b1) ++ Bk_5 gc b2) ++ Bk_5 gc b3) ++ Bk_2 gc b4) ++ Bk_2 gc b5) ++ Bk_3 gc b6) ++ Bk_1 gc b7) ++ Bk_0 gc b9) ++ Bk_4 gc b10) ++ Bk_1 gc b11) ++ Bk_1 gc b12) ++ Bk_1 gc b13) ++ Bk_1 gc b14)) 104 2925 153 _ []
  refine z_iinc (v := 4) (L2 := [(1, .int 4), (0, .ref q0)]) hX 0 rfl (by decide) (by decide) rfl dX6_init_153 ?_
  refine z_goto hX dX6_init_156 ?_
  refine z_iload_n (k := 1) hX rfl 0 rfl dX6_init_134 ?_
  refine z_bipush (v := 6) hX (by decide) dX6_init_135 ?_
  refine z_geF hX (by decide) dX6_init_137 ?_
  refine z_aload_n (k := 0) hX rfl 1 rfl dX6_init_140 ?_
  refine z_get (j := 7) (q := 0) hX zin6 fl_X6_48 rfl (by decide) rfl rfl rfl rfl dX6_init_141 ?_
  refine z_iload_n (k := 1) hX rfl 0 rfl dX6_init_144 ?_
  refine z_initNd hX (mk_1 X.2.1 D gc) zin1 zok1 rfl ck_X6_41 ib_1 mf_X1_init rfl rfl in_X1_init hE.2.2.2.1 (fun U hW => EX.warm hW hE) (fun U U' e h => EX.same e h) hfs_1 ⟨rfl, rfl, by rw [hr]; decide, by rw [hr]; decide⟩ (by rw [hr]; decide) (fun q => Nat.le_of_ble_eq_true rfl) dX6_init_145 dX6_init_148 dX6_init_149 (fun b15 => ?_)
  show WL X D A 2 ((q0, .inr (6, [.ref (b1 0 0), .ref (b2 0 0), .ref (b3 0 0), .ref (b4 0 0), .ref (b5 0 0), .ref (b6 0 0), .ref (b7 0 0), .ref r8, .ref (b9 0 0), .ref (b10 0 0), .int 0, .int (-1), .int (-1), .int 0])) :: (r8, .inl (gc 3, 6, .inr (.inr (.inr (.inr (va_up (va_up (va_up (va_up (fun _ => none) 0 (some (b11 0 0))) 1 (some (b12 0 0))) 2 (some (b13 0 0))) 3 (some (b14 0 0)))))))) :: (((((((((((((([] ++ Bk_5 gc b1) ++ Bk_5 gc b2) ++ Bk_5 gc b3) ++ Bk_2 gc b4) ++ Bk_2 gc b5) ++ Bk_3 gc b6) ++ Bk_1 gc b7) ++ Bk_0 gc b9) ++ Bk_4 gc b10) ++ Bk_1 gc b11) ++ Bk_1 gc b12) ++ Bk_1 gc b13) ++ Bk_1 gc b14) ++ Bk_1 gc b15)) 111 3262 152 _ [.ref (b15 0 0), .int 4, .ref r8]
  refine z_astqc (j := 4) hX (show ¬ (_ ∨ _) from by decide) (by decide) dX6_init_152 ?_
  show WL X D A 2 ((q0, .inr (6, [.ref (b1 0 0), .ref (b2 0 0), .ref (b3 0 0), .ref (b4 0 0), .ref (b5 0 0), .ref (b6 0 0), .ref (b7 0 0), .ref r8, .ref (b9 0 0), .ref (b10 0 0), .int 0, .int (-1), .int (-1), .int 0])) :: (r8, .inl (gc 3, 6, .inr (.inr (.inr (.inr (va_up (va_up (va_up (va_up (va_up (fun _ => none) 0 (some (b11 0 0))) 1 (some (b12 0 0))) 2 (some (b13 0 0))) 3 (some (b14 0 0))) 4 (some (b15 0 0)))))))) :: (((((((((((((([] ++ Bk_5 gc b1) ++ Bk_5 gc b2) ++ Bk_5 gc b3) ++ Bk_2 gc b4) ++ Bk_2 gc b5) ++ Bk_3 gc b6) ++ Bk_1 gc b7) ++ Bk_0 gc b9) ++ Bk_4 gc b10) ++ Bk_1 gc b11) ++ Bk_1 gc b12) ++ Bk_1 gc b13) ++ Bk_1 gc b14) ++ Bk_1 gc b15)) 111 3262 153 _ []
  refine z_iinc (v := 5) (L2 := [(1, .int 5), (0, .ref q0)]) hX 0 rfl (by decide) (by decide) rfl dX6_init_153 ?_
  refine z_goto hX dX6_init_156 ?_
  refine z_iload_n (k := 1) hX rfl 0 rfl dX6_init_134 ?_
  refine z_bipush (v := 6) hX (by decide) dX6_init_135 ?_
  refine z_geF hX (by decide) dX6_init_137 ?_
  refine z_aload_n (k := 0) hX rfl 1 rfl dX6_init_140 ?_
  refine z_get (j := 7) (q := 0) hX zin6 fl_X6_48 rfl (by decide) rfl rfl rfl rfl dX6_init_141 ?_
  refine z_iload_n (k := 1) hX rfl 0 rfl dX6_init_144 ?_
  refine z_initNd hX (mk_1 X.2.1 D gc) zin1 zok1 rfl ck_X6_41 ib_1 mf_X1_init rfl rfl in_X1_init hE.2.2.2.1 (fun U hW => EX.warm hW hE) (fun U U' e h => EX.same e h) hfs_1 ⟨rfl, rfl, by rw [hr]; decide, by rw [hr]; decide⟩ (by rw [hr]; decide) (fun q => Nat.le_of_ble_eq_true rfl) dX6_init_145 dX6_init_148 dX6_init_149 (fun b16 => ?_)
  show WL X D A 2 ((q0, .inr (6, [.ref (b1 0 0), .ref (b2 0 0), .ref (b3 0 0), .ref (b4 0 0), .ref (b5 0 0), .ref (b6 0 0), .ref (b7 0 0), .ref r8, .ref (b9 0 0), .ref (b10 0 0), .int 0, .int (-1), .int (-1), .int 0])) :: (r8, .inl (gc 3, 6, .inr (.inr (.inr (.inr (va_up (va_up (va_up (va_up (va_up (fun _ => none) 0 (some (b11 0 0))) 1 (some (b12 0 0))) 2 (some (b13 0 0))) 3 (some (b14 0 0))) 4 (some (b15 0 0)))))))) :: ((((((((((((((([] ++ Bk_5 gc b1) ++ Bk_5 gc b2) ++ Bk_5 gc b3) ++ Bk_2 gc b4) ++ Bk_2 gc b5) ++ Bk_3 gc b6) ++ Bk_1 gc b7) ++ Bk_0 gc b9) ++ Bk_4 gc b10) ++ Bk_1 gc b11) ++ Bk_1 gc b12) ++ Bk_1 gc b13) ++ Bk_1 gc b14) ++ Bk_1 gc b15) ++ Bk_1 gc b16)) 118 3599 152 _ [.ref (b16 0 0), .int 5, .ref r8]
  refine z_astqc (j := 5) hX (show ¬ (_ ∨ _) from by decide) (by decide) dX6_init_152 ?_
  show WL X D A 2 ((q0, .inr (6, [.ref (b1 0 0), .ref (b2 0 0), .ref (b3 0 0), .ref (b4 0 0), .ref (b5 0 0), .ref (b6 0 0), .ref (b7 0 0), .ref r8, .ref (b9 0 0), .ref (b10 0 0), .int 0, .int (-1), .int (-1), .int 0])) :: (r8, .inl (gc 3, 6, .inr (.inr (.inr (.inr (va_up (va_up (va_up (va_up (va_up (va_up (fun _ => none) 0 (some (b11 0 0))) 1 (some (b12 0 0))) 2 (some (b13 0 0))) 3 (some (b14 0 0))) 4 (some (b15 0 0))) 5 (some (b16 0 0)))))))) :: ((((((((((((((([] ++ Bk_5 gc b1) ++ Bk_5 gc b2) ++ Bk_5 gc b3) ++ Bk_2 gc b4) ++ Bk_2 gc b5) ++ Bk_3 gc b6) ++ Bk_1 gc b7) ++ Bk_0 gc b9) ++ Bk_4 gc b10) ++ Bk_1 gc b11) ++ Bk_1 gc b12) ++ Bk_1 gc b13) ++ Bk_1 gc b14) ++ Bk_1 gc b15) ++ Bk_1 gc b16)) 118 3599 153 _ []
  refine z_iinc (v := 6) (L2 := [(1, .int 6), (0, .ref q0)]) hX 0 rfl (by decide) (by decide) rfl dX6_init_153 ?_
  refine z_goto hX dX6_init_156 ?_
  refine z_iload_n (k := 1) hX rfl 0 rfl dX6_init_134 ?_
  refine z_bipush (v := 6) hX (by decide) dX6_init_135 ?_
  refine z_geT hX (by decide) dX6_init_137 ?_
  exact kk (fun o c => match o with | 0 => (match c with | 0 => q0 | 8 => r8 | _ => 0) | 2 => b1 0 c | 3 => b1 1 c | 4 => b2 0 c | 5 => b2 1 c | 6 => b3 0 c | 7 => b3 1 c | 8 => b4 0 c | 9 => b4 1 c | 10 => b5 0 c | 11 => b5 1 c | 12 => b6 0 c | 13 => b6 1 c | 14 => b7 0 c | 15 => b7 1 c | 16 => b9 0 c | 17 => b9 1 c | 18 => b10 0 c | 19 => b10 1 c | 20 => b11 0 c | 21 => b11 1 c | 22 => b12 0 c | 23 => b12 1 c | 24 => b13 0 c | 25 => b13 1 c | 26 => b14 0 c | 27 => b14 1 c | 28 => b15 0 c | 29 => b15 1 c | 30 => b16 0 c | 31 => b16 1 c | _ => 0) rfl 159 118 3599 _ (by decide) (by decide) dX6_init_159
