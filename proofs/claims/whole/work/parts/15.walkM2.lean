/-! the pure functions and the walks; written by wip/whole/gen_walk.py -/
abbrev rm_X7_takesHead : Room := { frames := 3, cells := 0, slots := 0, locals := 124 }
def f_X7_takesHead (P : Pm) (a1 : Int32) : Option (Int32 × Pm) :=
  Option.bind (f_X7_next P) (fun x1 => (if x1 = 99 then (if inb a1 60 = true then nb (up2 P 21 (ix a1) 1) (fun P3 => bn2 (f_X7_takesWord P3 4 5) (fun x4 P5 => (if x4 = 0 ∨ x4 = 1 then some (x4, P5) else none))) else none) else (if x1 = 100 then (if inb a1 60 = true then nb (up2 P 21 (ix a1) 0) (fun P8 => bn2 (f_X7_takesWord P8 0 4) (fun x9 P10 => (if x9 = 0 ∨ x9 = 1 then some (x9, P10) else none))) else none) else (if x1 = 109 then (if inb a1 60 = true then nb (up2 P 21 (ix a1) 2) (fun P13 => bn2 (f_X7_takesWord P13 9 4) (fun x14 P15 => (if x14 = 0 ∨ x14 = 1 then some (x14, P15) else none))) else none) else (if x1 = 115 then (if inb a1 60 = true then nb (up2 P 21 (ix a1) 3) (fun P18 => bn2 (f_X7_takesWord P18 13 6) (fun x19 P20 => (if x19 = 0 ∨ x19 = 1 then some (x19, P20) else none))) else none) else (if inb a1 60 = true then nb (up2 P 21 (ix a1) 4) (fun P23 => bn2 (f_X7_takesWord P23 19 4) (fun x24 P25 => (if x24 = 0 ∨ x24 = 1 then some (x24, P25) else none))) else none))))))
set_option maxHeartbeats 4000000 in
set_option maxRecDepth 100000 in
theorem c_X7_takesHead (l : Launch) (G : GE) {σ : Mm} {lm : Ml}  {P : Pm} {a1 : Int32} {rz : Int32} {Pz : Pm} (h : f_X7_takesHead P a1 = some (rz, Pz)) : CM l G yX7_takesHead bX7_takesHead 2 (Option.some Jvm.ClassFile.FieldType.boolean) rm_X7_takesHead [.ref (gA G 17 0), .int a1] (m1 σ 17 P) lm (some (.int rz)) (m1 σ 17 Pz) lm := by
  refine CM.of (own := zR7) (L0 := [(0, .ref (gA G 17 0)), (1, .int a1)]) (by decide +kernel) rfl (Nat.le_of_ble_eq_true rfl) rfl (fun X hl hX hR hQ => ?_)
  unfold f_X7_takesHead at h
  refine r_aload_n hX rfl 0 rfl dX7_takesHead_0 ?_
  obtain ⟨x1, hc1, h⟩ := bn_e h
  refine r_callVi hX hR (c_X7_next (σ := σ) X.2.1 G hc1) rfl rfl mf_X7_next ml_X7_292 in_X7_next se_X7_next rfl rfl ⟨rfl, rfl, Nat.le_of_ble_eq_true rfl, Nat.le_of_ble_eq_true rfl⟩ rfl (st := []) rfl (Nat.le_of_ble_eq_true rfl) dX7_takesHead_1 ?_
  by_cases hc0 : x1 = 99
  · replace h := ip_e hc0 h
    refine r_lsw (off := 58) (tgt := 62) hX (by decide) (by rw [hc0]; rfl) (by decide) dX7_takesHead_4 ?_
    refine r_aload_n hX rfl 0 rfl dX7_takesHead_62 ?_
    refine gf_7_20 (o := 17) hX fl_X7_71 rfl m1_g dX7_takesHead_63 ?_
    refine r_iload_n hX rfl 1 rfl dX7_takesHead_66 ?_
    refine r_iconst (v := 1) hX (by decide) dX7_takesHead_67 ?_
    obtain ⟨hk2, h⟩ := kc_e h
    obtain ⟨P3, hP3, h⟩ := nb_e h
    refine pa_7_21 (o := 17) hX rfl m1_g hk2 (m1_w hP3) dX7_takesHead_68 ?_
    refine r_aload_n hX rfl 0 rfl dX7_takesHead_69 ?_
    refine r_iconst (v := 4) hX (by decide) dX7_takesHead_70 ?_
    refine r_iconst (v := 5) hX (by decide) dX7_takesHead_71 ?_
    obtain ⟨x4, P5, hc5, h⟩ := bn2_e h
    refine r_callVi hX hR (c_X7_takesWord (σ := σ) X.2.1 G hc5) rfl rfl mf_X7_takesWord ml_X7_322 in_X7_takesWord se_X7_takesWord rfl rfl ⟨rfl, rfl, Nat.le_of_ble_eq_true rfl, Nat.le_of_ble_eq_true rfl⟩ rfl (st := []) rfl (Nat.le_of_ble_eq_true rfl) dX7_takesHead_72 ?_
    obtain ⟨hk6, h⟩ := kc_e h
    have g0 := Option.some.inj h
    obtain ⟨q0, g1⟩ := Prod.mk.inj g0
    subst q0
    subst g1
    exact r_zret hX hk6 hQ dX7_takesHead_75
  · replace h := in_e hc0 h
    by_cases hc1 : x1 = 100
    · replace h := ip_e hc1 h
      refine r_lsw (off := 44) (tgt := 48) hX (by decide) (by rw [hc1]; rfl) (by decide) dX7_takesHead_4 ?_
      refine r_aload_n hX rfl 0 rfl dX7_takesHead_48 ?_
      refine gf_7_20 (o := 17) hX fl_X7_71 rfl m1_g dX7_takesHead_49 ?_
      refine r_iload_n hX rfl 1 rfl dX7_takesHead_52 ?_
      refine r_iconst (v := 0) hX (by decide) dX7_takesHead_53 ?_
      obtain ⟨hk7, h⟩ := kc_e h
      obtain ⟨P8, hP8, h⟩ := nb_e h
      refine pa_7_21 (o := 17) hX rfl m1_g hk7 (m1_w hP8) dX7_takesHead_54 ?_
      refine r_aload_n hX rfl 0 rfl dX7_takesHead_55 ?_
      refine r_iconst (v := 0) hX (by decide) dX7_takesHead_56 ?_
      refine r_iconst (v := 4) hX (by decide) dX7_takesHead_57 ?_
      obtain ⟨x9, P10, hc10, h⟩ := bn2_e h
      refine r_callVi hX hR (c_X7_takesWord (σ := σ) X.2.1 G hc10) rfl rfl mf_X7_takesWord ml_X7_322 in_X7_takesWord se_X7_takesWord rfl rfl ⟨rfl, rfl, Nat.le_of_ble_eq_true rfl, Nat.le_of_ble_eq_true rfl⟩ rfl (st := []) rfl (Nat.le_of_ble_eq_true rfl) dX7_takesHead_58 ?_
      obtain ⟨hk11, h⟩ := kc_e h
      have g0 := Option.some.inj h
      obtain ⟨q0, g1⟩ := Prod.mk.inj g0
      subst q0
      subst g1
      exact r_zret hX hk11 hQ dX7_takesHead_61
    · replace h := in_e hc1 h
      by_cases hc2 : x1 = 109
      · replace h := ip_e hc2 h
        refine r_lsw (off := 72) (tgt := 76) hX (by decide) (by rw [hc2]; rfl) (by decide) dX7_takesHead_4 ?_
        refine r_aload_n hX rfl 0 rfl dX7_takesHead_76 ?_
        refine gf_7_20 (o := 17) hX fl_X7_71 rfl m1_g dX7_takesHead_77 ?_
        refine r_iload_n hX rfl 1 rfl dX7_takesHead_80 ?_
        refine r_iconst (v := 2) hX (by decide) dX7_takesHead_81 ?_
        obtain ⟨hk12, h⟩ := kc_e h
        obtain ⟨P13, hP13, h⟩ := nb_e h
        refine pa_7_21 (o := 17) hX rfl m1_g hk12 (m1_w hP13) dX7_takesHead_82 ?_
        refine r_aload_n hX rfl 0 rfl dX7_takesHead_83 ?_
        refine r_bipush (v := 9) hX (by decide) dX7_takesHead_84 ?_
        refine r_iconst (v := 4) hX (by decide) dX7_takesHead_86 ?_
        obtain ⟨x14, P15, hc15, h⟩ := bn2_e h
        refine r_callVi hX hR (c_X7_takesWord (σ := σ) X.2.1 G hc15) rfl rfl mf_X7_takesWord ml_X7_322 in_X7_takesWord se_X7_takesWord rfl rfl ⟨rfl, rfl, Nat.le_of_ble_eq_true rfl, Nat.le_of_ble_eq_true rfl⟩ rfl (st := []) rfl (Nat.le_of_ble_eq_true rfl) dX7_takesHead_87 ?_
        obtain ⟨hk16, h⟩ := kc_e h
        have g0 := Option.some.inj h
        obtain ⟨q0, g1⟩ := Prod.mk.inj g0
        subst q0
        subst g1
        exact r_zret hX hk16 hQ dX7_takesHead_90
      · replace h := in_e hc2 h
        by_cases hc3 : x1 = 115
        · replace h := ip_e hc3 h
          refine r_lsw (off := 87) (tgt := 91) hX (by decide) (by rw [hc3]; rfl) (by decide) dX7_takesHead_4 ?_
          refine r_aload_n hX rfl 0 rfl dX7_takesHead_91 ?_
          refine gf_7_20 (o := 17) hX fl_X7_71 rfl m1_g dX7_takesHead_92 ?_
          refine r_iload_n hX rfl 1 rfl dX7_takesHead_95 ?_
          refine r_iconst (v := 3) hX (by decide) dX7_takesHead_96 ?_
          obtain ⟨hk17, h⟩ := kc_e h
          obtain ⟨P18, hP18, h⟩ := nb_e h
          refine pa_7_21 (o := 17) hX rfl m1_g hk17 (m1_w hP18) dX7_takesHead_97 ?_
          refine r_aload_n hX rfl 0 rfl dX7_takesHead_98 ?_
          refine r_bipush (v := 13) hX (by decide) dX7_takesHead_99 ?_
          refine r_bipush (v := 6) hX (by decide) dX7_takesHead_101 ?_
          obtain ⟨x19, P20, hc20, h⟩ := bn2_e h
          refine r_callVi hX hR (c_X7_takesWord (σ := σ) X.2.1 G hc20) rfl rfl mf_X7_takesWord ml_X7_322 in_X7_takesWord se_X7_takesWord rfl rfl ⟨rfl, rfl, Nat.le_of_ble_eq_true rfl, Nat.le_of_ble_eq_true rfl⟩ rfl (st := []) rfl (Nat.le_of_ble_eq_true rfl) dX7_takesHead_103 ?_
          obtain ⟨hk21, h⟩ := kc_e h
          have g0 := Option.some.inj h
          obtain ⟨q0, g1⟩ := Prod.mk.inj g0
          subst q0
          subst g1
          exact r_zret hX hk21 hQ dX7_takesHead_106
        · replace h := in_e hc3 h
          have hD : WW X G 2 (m1 σ 17 P) lm 107 [(0, .ref (gA G 17 0)), (1, .int a1)] [] := by
            refine r_aload_n hX rfl 0 rfl dX7_takesHead_107 ?_
            refine gf_7_20 (o := 17) hX fl_X7_71 rfl m1_g dX7_takesHead_108 ?_
            refine r_iload_n hX rfl 1 rfl dX7_takesHead_111 ?_
            refine r_iconst (v := 4) hX (by decide) dX7_takesHead_112 ?_
            obtain ⟨hk22, h⟩ := kc_e h
            obtain ⟨P23, hP23, h⟩ := nb_e h
            refine pa_7_21 (o := 17) hX rfl m1_g hk22 (m1_w hP23) dX7_takesHead_113 ?_
            refine r_aload_n hX rfl 0 rfl dX7_takesHead_114 ?_
            refine r_bipush (v := 19) hX (by decide) dX7_takesHead_115 ?_
            refine r_iconst (v := 4) hX (by decide) dX7_takesHead_117 ?_
            obtain ⟨x24, P25, hc25, h⟩ := bn2_e h
            refine r_callVi hX hR (c_X7_takesWord (σ := σ) X.2.1 G hc25) rfl rfl mf_X7_takesWord ml_X7_322 in_X7_takesWord se_X7_takesWord rfl rfl ⟨rfl, rfl, Nat.le_of_ble_eq_true rfl, Nat.le_of_ble_eq_true rfl⟩ rfl (st := []) rfl (Nat.le_of_ble_eq_true rfl) dX7_takesHead_118 ?_
            obtain ⟨hk26, h⟩ := kc_e h
            have g0 := Option.some.inj h
            obtain ⟨q0, g1⟩ := Prod.mk.inj g0
            subst q0
            subst g1
            exact r_zret hX hk26 hQ dX7_takesHead_121
          have j0 := i32n (n := 99) hc0 rfl
          have j1 := i32n (n := 100) hc1 rfl
          have j2 := i32n (n := 109) hc2 rfl
          have j3 := i32n (n := 115) hc3 rfl
          refine r_lsw (off := 103) (tgt := 107) hX (by decide) ?_ (by decide) dX7_takesHead_4 hD
          simp [Op.lookupswitch.offset, j0, Ne.symm j0, j1, Ne.symm j1, j2, Ne.symm j2, j3, Ne.symm j3]
abbrev rm_X7_takesClause : Room := { frames := 5, cells := 0, slots := 0, locals := 169 }
def f_X7_takesClause_J54 (P : Pm) : Option (Int32 × Pm) :=
  some (1, P)
def f_X7_takesClause (P : Pm) (a1 : Int32) : Option (Int32 × Pm) :=
  bn2 (f_X7_takesHead P a1) (fun x1 P2 => (if x1 = 0 then some (0, P2) else bn2 (f_X7_takesNumber P2) (fun x3 P4 => (if x3 = 0 then some (0, P4) else (if inb a1 60 = true then nb (up2 P4 22 (ix a1) (P4 0 17)) (fun P6 => (if inb a1 60 = true then (if 2 ≤ (P6 21 (ix a1)) then f_X7_takesClause_J54 P6 else bn2 (f_X7_takes P6 32) (fun x8 P9 => (if x8 = 0 then some (0, P9) else bn2 (f_X7_takesE P9 a1) (fun x10 P11 => (if x10 = 0 then some (0, P11) else f_X7_takesClause_J54 P11))))) else none)) else none)))))
set_option maxHeartbeats 4000000 in
set_option maxRecDepth 100000 in
theorem c_X7_takesClause (l : Launch) (G : GE) {σ : Mm} {lm : Ml}  {P : Pm} {a1 : Int32} {rz : Int32} {Pz : Pm} (h : f_X7_takesClause P a1 = some (rz, Pz)) : CM l G yX7_takesClause bX7_takesClause 2 (Option.some Jvm.ClassFile.FieldType.boolean) rm_X7_takesClause [.ref (gA G 17 0), .int a1] (m1 σ 17 P) lm (some (.int rz)) (m1 σ 17 Pz) lm := by
  refine CM.of (own := zR7) (L0 := [(0, .ref (gA G 17 0)), (1, .int a1)]) (by decide +kernel) rfl (Nat.le_of_ble_eq_true rfl) rfl (fun X hl hX hR hQ => ?_)
  have K54 : ∀ (P : Pm) (_ : True), f_X7_takesClause_J54 P = some (rz, Pz) → WW X G 2 (m1 σ 17 P) lm 54 [] [] := by
    intro P _ h
    unfold f_X7_takesClause_J54 at h
    refine r_iconst (v := 1) hX (by decide) dX7_takesClause_54 ?_
    refine r_goto hX dX7_takesClause_55 ?_
    have g0 := Option.some.inj h
    obtain ⟨q0, g1⟩ := Prod.mk.inj g0
    subst q0
    subst g1
    exact r_zret hX (Or.inr rfl) hQ dX7_takesClause_59
  unfold f_X7_takesClause at h
  refine r_aload_n hX rfl 0 rfl dX7_takesClause_0 ?_
  refine r_iload_n hX rfl 1 rfl dX7_takesClause_1 ?_
  obtain ⟨x1, P2, hc2, h⟩ := bn2_e h
  refine r_callVi hX hR (c_X7_takesHead (σ := σ) X.2.1 G hc2) rfl rfl mf_X7_takesHead ml_X7_326 in_X7_takesHead se_X7_takesHead rfl rfl ⟨rfl, rfl, Nat.le_of_ble_eq_true rfl, Nat.le_of_ble_eq_true rfl⟩ rfl (st := []) rfl (Nat.le_of_ble_eq_true rfl) dX7_takesClause_2 ?_
  refine r_if_eq hX dX7_takesClause_5 (fun hc => ?_) (fun hc => ?_)
  · replace h := ip_e hc h
    refine r_iconst (v := 0) hX (by decide) dX7_takesClause_15 ?_
    have g0 := Option.some.inj h
    obtain ⟨q0, g1⟩ := Prod.mk.inj g0
    subst q0
    subst g1
    exact r_zret hX (Or.inl rfl) hQ dX7_takesClause_16
  · replace h := in_e hc h
    refine r_aload_n hX rfl 0 rfl dX7_takesClause_8 ?_
    obtain ⟨x3, P4, hc4, h⟩ := bn2_e h
    refine r_callVi hX hR (c_X7_takesNumber (σ := σ) X.2.1 G hc4) rfl rfl mf_X7_takesNumber ml_X7_310 in_X7_takesNumber se_X7_takesNumber rfl rfl ⟨rfl, rfl, Nat.le_of_ble_eq_true rfl, Nat.le_of_ble_eq_true rfl⟩ rfl (st := []) rfl (Nat.le_of_ble_eq_true rfl) dX7_takesClause_9 ?_
    refine r_if_ne hX dX7_takesClause_12 (fun hc => ?_) (fun hc => ?_)
    · replace h := in_e hc h
      refine r_aload_n hX rfl 0 rfl dX7_takesClause_17 ?_
      refine gf_7_21 (o := 17) hX fl_X7_74 rfl m1_g dX7_takesClause_18 ?_
      refine r_iload_n hX rfl 1 rfl dX7_takesClause_21 ?_
      refine r_aload_n hX rfl 0 rfl dX7_takesClause_22 ?_
      refine gf_7_17 (o := 17) hX fl_X7_62 rfl m1_g dX7_takesClause_23 ?_
      obtain ⟨hk5, h⟩ := kc_e h
      obtain ⟨P6, hP6, h⟩ := nb_e h
      refine pa_7_22 (o := 17) hX rfl m1_g hk5 (m1_w hP6) dX7_takesClause_26 ?_
      refine r_aload_n hX rfl 0 rfl dX7_takesClause_27 ?_
      refine gf_7_20 (o := 17) hX fl_X7_71 rfl m1_g dX7_takesClause_28 ?_
      refine r_iload_n hX rfl 1 rfl dX7_takesClause_31 ?_
      obtain ⟨hk7, h⟩ := kc_e h
      refine ga_7_21 (o := 17) hX rfl m1_g hk7 dX7_takesClause_32 ?_
      refine r_iconst (v := 2) hX (by decide) dX7_takesClause_33 ?_
      refine r_icmp_ge hX dX7_takesClause_34 (fun hc => ?_) (fun hc => ?_)
      · replace h := ip_e hc h
        exact WW.sub [] rfl (K54 P6 trivial h)
      · replace h := in_e hc h
        refine r_aload_n hX rfl 0 rfl dX7_takesClause_37 ?_
        refine r_bipush (v := 32) hX (by decide) dX7_takesClause_38 ?_
        obtain ⟨x8, P9, hc9, h⟩ := bn2_e h
        refine r_callVi hX hR (c_X7_takes (σ := σ) X.2.1 G hc9) rfl rfl mf_X7_takes ml_X7_296 in_X7_takes se_X7_takes rfl rfl ⟨rfl, rfl, Nat.le_of_ble_eq_true rfl, Nat.le_of_ble_eq_true rfl⟩ rfl (st := []) rfl (Nat.le_of_ble_eq_true rfl) dX7_takesClause_40 ?_
        refine r_if_eq hX dX7_takesClause_43 (fun hc => ?_) (fun hc => ?_)
        · replace h := ip_e hc h
          refine r_iconst (v := 0) hX (by decide) dX7_takesClause_58 ?_
          have g0 := Option.some.inj h
          obtain ⟨q0, g1⟩ := Prod.mk.inj g0
          subst q0
          subst g1
          exact r_zret hX (Or.inl rfl) hQ dX7_takesClause_59
        · replace h := in_e hc h
          refine r_aload_n hX rfl 0 rfl dX7_takesClause_46 ?_
          refine r_iload_n hX rfl 1 rfl dX7_takesClause_47 ?_
          obtain ⟨x10, P11, hc11, h⟩ := bn2_e h
          refine r_callVi hX hR (c_X7_takesE (σ := σ) X.2.1 G hc11) rfl rfl mf_X7_takesE ml_X7_329 in_X7_takesE se_X7_takesE rfl rfl ⟨rfl, rfl, Nat.le_of_ble_eq_true rfl, Nat.le_of_ble_eq_true rfl⟩ rfl (st := []) rfl (Nat.le_of_ble_eq_true rfl) dX7_takesClause_48 ?_
          refine r_if_eq hX dX7_takesClause_51 (fun hc => ?_) (fun hc => ?_)
          · replace h := ip_e hc h
            refine r_iconst (v := 0) hX (by decide) dX7_takesClause_58 ?_
            have g0 := Option.some.inj h
            obtain ⟨q0, g1⟩ := Prod.mk.inj g0
            subst q0
            subst g1
            exact r_zret hX (Or.inl rfl) hQ dX7_takesClause_59
          · replace h := in_e hc h
            exact WW.sub [] rfl (K54 P11 trivial h)
    · replace h := ip_e hc h
      refine r_iconst (v := 0) hX (by decide) dX7_takesClause_15 ?_
      have g0 := Option.some.inj h
      obtain ⟨q0, g1⟩ := Prod.mk.inj g0
      subst q0
      subst g1
      exact r_zret hX (Or.inl rfl) hQ dX7_takesClause_16
abbrev rm_X7_goesText : Room := { frames := 6, cells := 0, slots := 0, locals := 190 }
def f_X7_goesText_B15 (v1 : Int32) (v2 : Int32) (P : Pm) : Option ((Int32 × Pm) ⊕ (Int32 × Pm)) :=
  bn2 (f_X7_takesClause P ((10 * v1) + v2)) (fun x1 P2 => (if x1 = 0 then wr (some (0, P2)) else (if inb v1 6 = true then nb (up2 P2 20 (ix v1) (v2 + 1)) (fun P4 => (if (P4 0 16) = (P4 0 15) then wr (some (1, P4)) else (if (v2 + 1) = 10 then wr (some (0, P4)) else bn2 (f_X7_takes P4 59) (fun x5 P6 => (if x5 = 0 then wr (some (0, P6)) else some (.inl ((v2 + 1), P6))))))) else none)))
def f_X7_goesText_H15 (P : Pm) (v1 : Int32) (v2 : Int32) : Option (Int32 × Pm) :=
  iter (fun t => f_X7_goesText_B15 v1 t.1 t.2) 200 (v2, P)
def f_X7_goesText (P : Pm) (a1 : Int32) : Option (Int32 × Pm) :=
  nb (up2 P 0 16 0) (fun P7 => nb (up2 P7 0 26 (100 * a1)) (fun P8 => f_X7_goesText_H15 P8 a1 0))
set_option maxHeartbeats 4000000 in
set_option maxRecDepth 100000 in
theorem c_X7_goesText (l : Launch) (G : GE) {σ : Mm} {lm : Ml}  {P : Pm} {a1 : Int32} {rz : Int32} {Pz : Pm} (h : f_X7_goesText P a1 = some (rz, Pz)) : CM l G yX7_goesText bX7_goesText 3 (Option.some Jvm.ClassFile.FieldType.boolean) rm_X7_goesText [.ref (gA G 17 0), .int a1] (m1 σ 17 P) lm (some (.int rz)) (m1 σ 17 Pz) lm := by
  refine CM.of (own := zR7) (L0 := [(0, .ref (gA G 17 0)), (1, .int a1)]) (by decide +kernel) rfl (Nat.le_of_ble_eq_true rfl) rfl (fun X hl hX hR hQ => ?_)
  have K15 : ∀ (P : Pm) (v1 : Int32) (v2 : Int32) (_ : True), f_X7_goesText_H15 P v1 v2 = some (rz, Pz) → WW X G 3 (m1 σ 17 P) lm 15 [(0, .ref (gA G 17 0)), (1, .int v1), (2, .int v2)] [] := by
    intro P v1 v2 _ h
    unfold f_X7_goesText_H15 at h
    have hit := h
    refine iter_w (P := fun t : Int32 × Pm => WW X G 3 (m1 σ 17 t.2) lm 15 [(0, .ref (gA G 17 0)), (1, .int v1), (2, .int t.1)] []) (x := (rz, Pz)) ?_ 200 (v2, P) hit
    clear hit
    clear h
    intro t z1 hb hin1 hex1
    obtain ⟨v2, P⟩ := t
    have h : f_X7_goesText_B15 v1 v2 P = some z1 := hb
    clear hb
    unfold f_X7_goesText_B15 at h
    refine r_aload_n hX rfl 0 rfl dX7_goesText_15 ?_
    refine r_bipush (v := 10) hX (by decide) dX7_goesText_16 ?_
    refine r_iload_n hX rfl 1 rfl dX7_goesText_18 ?_
    refine r_imul hX dX7_goesText_19 ?_
    refine r_iload_n hX rfl 2 rfl dX7_goesText_20 ?_
    refine r_iadd hX dX7_goesText_21 ?_
    obtain ⟨x1, P2, hc2, h⟩ := bn2_e h
    refine r_callVi hX hR (c_X7_takesClause (σ := σ) X.2.1 G hc2) rfl rfl mf_X7_takesClause ml_X7_332 in_X7_takesClause se_X7_takesClause rfl rfl ⟨rfl, rfl, Nat.le_of_ble_eq_true rfl, Nat.le_of_ble_eq_true rfl⟩ rfl (st := []) rfl (Nat.le_of_ble_eq_true rfl) dX7_goesText_22 ?_
    refine r_if_ne hX dX7_goesText_25 (fun hc => ?_) (fun hc => ?_)
    · replace h := in_e hc h
      refine r_iinc (v := v2 + 1) (L2 := [(2, .int (v2 + 1)), (0, .ref (gA G 17 0)), (1, .int v1)]) hX 2 rfl rfl (by decide) rfl dX7_goesText_30 ?_
      refine r_aload_n hX rfl 1 rfl dX7_goesText_33 ?_
      refine gf_7_19 (o := 17) hX fl_X7_68 rfl m1_g dX7_goesText_34 ?_
      refine r_iload_n hX rfl 2 rfl dX7_goesText_37 ?_
      refine r_iload_n hX rfl 0 rfl dX7_goesText_38 ?_
      obtain ⟨hk3, h⟩ := kc_e h
      obtain ⟨P4, hP4, h⟩ := nb_e h
      refine pa_7_20 (o := 17) hX rfl m1_g hk3 (m1_w hP4) dX7_goesText_39 ?_
      refine r_aload_n hX rfl 1 rfl dX7_goesText_40 ?_
      refine gf_7_16 (o := 17) hX fl_X7_59 rfl m1_g dX7_goesText_41 ?_
      refine r_aload_n hX rfl 1 rfl dX7_goesText_44 ?_
      refine gf_7_15 (o := 17) hX fl_X7_56 rfl m1_g dX7_goesText_45 ?_
      refine r_icmp_ne hX dX7_goesText_48 (fun hc => ?_) (fun hc => ?_)
      · replace h := in_e hc h
        refine r_iload_n hX rfl 0 rfl dX7_goesText_53 ?_
        refine r_bipush (v := 10) hX (by decide) dX7_goesText_54 ?_
        refine r_icmp_eq hX dX7_goesText_56 (fun hc => ?_) (fun hc => ?_)
        · replace h := ip_e hc h
          refine r_iconst (v := 0) hX (by decide) dX7_goesText_68 ?_
          obtain ⟨y1, h, e1⟩ := wr_e h
          rw [hex1 _ e1] at h
          have g0 := Option.some.inj h
          obtain ⟨q0, g1⟩ := Prod.mk.inj g0
          subst q0
          subst g1
          exact r_zret hX (Or.inl rfl) hQ dX7_goesText_69
        · replace h := in_e hc h
          refine r_aload_n hX rfl 1 rfl dX7_goesText_59 ?_
          refine r_bipush (v := 59) hX (by decide) dX7_goesText_60 ?_
          obtain ⟨x5, P6, hc6, h⟩ := bn2_e h
          refine r_callVi hX hR (c_X7_takes (σ := σ) X.2.1 G hc6) rfl rfl mf_X7_takes ml_X7_296 in_X7_takes se_X7_takes rfl rfl ⟨rfl, rfl, Nat.le_of_ble_eq_true rfl, Nat.le_of_ble_eq_true rfl⟩ rfl (st := []) rfl (Nat.le_of_ble_eq_true rfl) dX7_goesText_62 ?_
          refine r_if_ne hX dX7_goesText_65 (fun hc => ?_) (fun hc => ?_)
          · replace h := in_e hc h
            exact WW.sub [1, 2, 0] rfl (hin1 _ (Option.some.inj h).symm)
          · replace h := ip_e hc h
            refine r_iconst (v := 0) hX (by decide) dX7_goesText_68 ?_
            obtain ⟨y1, h, e1⟩ := wr_e h
            rw [hex1 _ e1] at h
            have g0 := Option.some.inj h
            obtain ⟨q0, g1⟩ := Prod.mk.inj g0
            subst q0
            subst g1
            exact r_zret hX (Or.inl rfl) hQ dX7_goesText_69
      · replace h := ip_e hc h
        refine r_iconst (v := 1) hX (by decide) dX7_goesText_51 ?_
        obtain ⟨y1, h, e1⟩ := wr_e h
        rw [hex1 _ e1] at h
        have g0 := Option.some.inj h
        obtain ⟨q0, g1⟩ := Prod.mk.inj g0
        subst q0
        subst g1
        exact r_zret hX (Or.inr rfl) hQ dX7_goesText_52
    · replace h := ip_e hc h
      refine r_iconst (v := 0) hX (by decide) dX7_goesText_28 ?_
      obtain ⟨y1, h, e1⟩ := wr_e h
      rw [hex1 _ e1] at h
      have g0 := Option.some.inj h
      obtain ⟨q0, g1⟩ := Prod.mk.inj g0
      subst q0
      subst g1
      exact r_zret hX (Or.inl rfl) hQ dX7_goesText_29
  unfold f_X7_goesText at h
  refine r_aload_n hX rfl 0 rfl dX7_goesText_0 ?_
  refine r_iconst (v := 0) hX (by decide) dX7_goesText_1 ?_
  obtain ⟨P7, hP7, h⟩ := nb_e h
  refine pf_7_16 (o := 17) hX fl_X7_59 rfl m1_g dX7_goesText_2 (m1_w hP7) ?_
  refine r_aload_n hX rfl 0 rfl dX7_goesText_5 ?_
  refine r_bipush (v := 100) hX (by decide) dX7_goesText_6 ?_
  refine r_iload_n hX rfl 1 rfl dX7_goesText_8 ?_
  refine r_imul hX dX7_goesText_9 ?_
  obtain ⟨P8, hP8, h⟩ := nb_e h
  refine pf_7_26 (o := 17) hX fl_X7_89 rfl m1_g dX7_goesText_10 (m1_w hP8) ?_
  refine r_iconst (v := 0) hX (by decide) dX7_goesText_13 ?_
  refine r_istore_n (L2 := [(2, .int 0), (0, .ref (gA G 17 0)), (1, .int a1)]) hX rfl (by decide) rfl dX7_goesText_14 ?_
  exact WW.sub [1, 2, 0] rfl (K15 P8 a1 0 trivial h)
abbrev rm_X7_country : Room := { frames := 7, cells := 0, slots := 0, locals := 212 }
def f_X7_country (P : Pm) : Option (Int32 × Pm) :=
  (if (P 0 13) = 6 then some ((-4), P) else bn2 (f_X7_goesText P (P 0 13)) (fun x1 P2 => nb (up2 P2 0 15 0) (fun P3 => (if x1 = 0 then some (((-10) - (P3 0 16)), P3) else nb (up2 P3 0 14 (P3 0 13)) (fun P4 => nb (up2 P4 0 13 ((P4 0 13) + 1)) (fun P5 => some ((P5 0 14), P5)))))))
set_option maxHeartbeats 4000000 in
set_option maxRecDepth 100000 in
theorem c_X7_country (l : Launch) (G : GE) {σ : Mm} {lm : Ml}  {P : Pm} {rz : Int32} {Pz : Pm} (h : f_X7_country P = some (rz, Pz)) : CM l G yX7_country bX7_country 2 (Option.some Jvm.ClassFile.FieldType.int) rm_X7_country [.ref (gA G 17 0)] (m1 σ 17 P) lm (some (.int rz)) (m1 σ 17 Pz) lm := by
  refine CM.of (own := zR7) (L0 := [(0, .ref (gA G 17 0))]) (by decide +kernel) rfl (Nat.le_of_ble_eq_true rfl) rfl (fun X hl hX hR hQ => ?_)
  unfold f_X7_country at h
  refine r_aload_n hX rfl 0 rfl dX7_country_0 ?_
  refine gf_7_13 (o := 17) hX fl_X7_50 rfl m1_g dX7_country_1 ?_
  refine r_bipush (v := 6) hX (by decide) dX7_country_4 ?_
  refine r_icmp_ne hX dX7_country_6 (fun hc => ?_) (fun hc => ?_)
  · replace h := in_e hc h
    refine r_aload_n hX rfl 0 rfl dX7_country_12 ?_
    refine r_aload_n hX rfl 0 rfl dX7_country_13 ?_
    refine gf_7_13 (o := 17) hX fl_X7_50 rfl m1_g dX7_country_14 ?_
    obtain ⟨x1, P2, hc2, h⟩ := bn2_e h
    refine r_callVi hX hR (c_X7_goesText (σ := σ) X.2.1 G hc2) rfl rfl mf_X7_goesText ml_X7_335 in_X7_goesText se_X7_goesText rfl rfl ⟨rfl, rfl, Nat.le_of_ble_eq_true rfl, Nat.le_of_ble_eq_true rfl⟩ rfl (st := []) rfl (Nat.le_of_ble_eq_true rfl) dX7_country_17 ?_
    refine r_istore_n (L2 := [(1, .int x1), (0, .ref (gA G 17 0))]) hX rfl (by decide) rfl dX7_country_20 ?_
    refine r_aload_n hX rfl 1 rfl dX7_country_21 ?_
    refine r_iconst (v := 0) hX (by decide) dX7_country_22 ?_
    obtain ⟨P3, hP3, h⟩ := nb_e h
    refine pf_7_15 (o := 17) hX fl_X7_56 rfl m1_g dX7_country_23 (m1_w hP3) ?_
    refine r_iload_n hX rfl 0 rfl dX7_country_26 ?_
    refine r_if_ne hX dX7_country_27 (fun hc => ?_) (fun hc => ?_)
    · replace h := in_e hc h
      refine r_aload_n hX rfl 1 rfl dX7_country_38 ?_
      refine r_aload_n hX rfl 1 rfl dX7_country_39 ?_
      refine gf_7_13 (o := 17) hX fl_X7_50 rfl m1_g dX7_country_40 ?_
      obtain ⟨P4, hP4, h⟩ := nb_e h
      refine pf_7_14 (o := 17) hX fl_X7_53 rfl m1_g dX7_country_43 (m1_w hP4) ?_
      refine r_aload_n hX rfl 1 rfl dX7_country_46 ?_
      refine r_dup hX rfl dX7_country_47 ?_
      refine gf_7_13 (o := 17) hX fl_X7_50 rfl m1_g dX7_country_48 ?_
      refine r_iconst (v := 1) hX (by decide) dX7_country_51 ?_
      refine r_iadd hX dX7_country_52 ?_
      obtain ⟨P5, hP5, h⟩ := nb_e h
      refine pf_7_13 (o := 17) hX fl_X7_50 rfl m1_g dX7_country_53 (m1_w hP5) ?_
      refine r_aload_n hX rfl 1 rfl dX7_country_56 ?_
      refine gf_7_14 (o := 17) hX fl_X7_53 rfl m1_g dX7_country_57 ?_
      have g0 := Option.some.inj h
      obtain ⟨q0, g1⟩ := Prod.mk.inj g0
      subst q0
      subst g1
      exact r_iret hX hQ dX7_country_60
    · replace h := ip_e hc h
      refine r_bipush (v := (-10)) hX (by decide) dX7_country_30 ?_
      refine r_aload_n hX rfl 1 rfl dX7_country_32 ?_
      refine gf_7_16 (o := 17) hX fl_X7_59 rfl m1_g dX7_country_33 ?_
      refine r_isub hX dX7_country_36 ?_
      have g0 := Option.some.inj h
      obtain ⟨q0, g1⟩ := Prod.mk.inj g0
      subst q0
      subst g1
      exact r_iret hX hQ dX7_country_37
  · replace h := ip_e hc h
    refine r_bipush (v := (-4)) hX (by decide) dX7_country_9 ?_
    have g0 := Option.some.inj h
    obtain ⟨q0, g1⟩ := Prod.mk.inj g0
    subst q0
    subst g1
    exact r_iret hX hQ dX7_country_11
abbrev rm_X7_begin : Room := { frames := 0, cells := 0, slots := 0, locals := 60 }
def f_X7_begin (P : Pm) : Option (Int32) :=
  (if 0 ≤ (P 0 14) then some (10 * (P 0 14)) else some 0)
set_option maxHeartbeats 4000000 in
set_option maxRecDepth 100000 in
theorem c_X7_begin (l : Launch) (G : GE) {σ : Mm} {lm : Ml}  {P : Pm} {rz : Int32} (h : f_X7_begin P = some rz) : CM l G yX7_begin bX7_begin 1 (Option.some Jvm.ClassFile.FieldType.int) rm_X7_begin [.ref (gA G 17 0)] (m1 σ 17 P) lm (some (.int rz)) (m1 σ 17 P) lm := by
  refine CM.of (own := zR7) (L0 := [(0, .ref (gA G 17 0))]) (by decide +kernel) rfl (Nat.le_of_ble_eq_true rfl) rfl (fun X hl hX hR hQ => ?_)
  unfold f_X7_begin at h
  refine r_aload_n hX rfl 0 rfl dX7_begin_0 ?_
  refine gf_7_14 (o := 17) hX fl_X7_53 rfl m1_g dX7_begin_1 ?_
  refine r_if_ge hX dX7_begin_4 (fun hc => ?_) (fun hc => ?_)
  · replace h := ip_e hc h
    refine r_bipush (v := 10) hX (by decide) dX7_begin_11 ?_
    refine r_aload_n hX rfl 0 rfl dX7_begin_13 ?_
    refine gf_7_14 (o := 17) hX fl_X7_53 rfl m1_g dX7_begin_14 ?_
    refine r_imul hX dX7_begin_17 ?_
    have g0 := Option.some.inj h
    subst g0
    exact r_iret hX hQ dX7_begin_18
  · replace h := in_e hc h
    refine r_iconst (v := 0) hX (by decide) dX7_begin_7 ?_
    refine r_goto hX dX7_begin_8 ?_
    have g0 := Option.some.inj h
    subst g0
    exact r_iret hX hQ dX7_begin_18
abbrev rm_X7_behind : Room := { frames := 0, cells := 0, slots := 0, locals := 60 }
def f_X7_behind (P : Pm) : Option (Int32) :=
  (if 0 ≤ (P 0 14) then (if inb (P 0 14) 6 = true then some ((10 * (P 0 14)) + (P 20 (ix (P 0 14)))) else none) else some 0)
set_option maxHeartbeats 4000000 in
set_option maxRecDepth 100000 in
theorem c_X7_behind (l : Launch) (G : GE) {σ : Mm} {lm : Ml}  {P : Pm} {rz : Int32} (h : f_X7_behind P = some rz) : CM l G yX7_behind bX7_behind 1 (Option.some Jvm.ClassFile.FieldType.int) rm_X7_behind [.ref (gA G 17 0)] (m1 σ 17 P) lm (some (.int rz)) (m1 σ 17 P) lm := by
  refine CM.of (own := zR7) (L0 := [(0, .ref (gA G 17 0))]) (by decide +kernel) rfl (Nat.le_of_ble_eq_true rfl) rfl (fun X hl hX hR hQ => ?_)
  unfold f_X7_behind at h
  refine r_aload_n hX rfl 0 rfl dX7_behind_0 ?_
  refine gf_7_14 (o := 17) hX fl_X7_53 rfl m1_g dX7_behind_1 ?_
  refine r_if_ge hX dX7_behind_4 (fun hc => ?_) (fun hc => ?_)
  · replace h := ip_e hc h
    refine r_bipush (v := 10) hX (by decide) dX7_behind_11 ?_
    refine r_aload_n hX rfl 0 rfl dX7_behind_13 ?_
    refine gf_7_14 (o := 17) hX fl_X7_53 rfl m1_g dX7_behind_14 ?_
    refine r_imul hX dX7_behind_17 ?_
    refine r_aload_n hX rfl 0 rfl dX7_behind_18 ?_
    refine gf_7_19 (o := 17) hX fl_X7_68 rfl m1_g dX7_behind_19 ?_
    refine r_aload_n hX rfl 0 rfl dX7_behind_22 ?_
    refine gf_7_14 (o := 17) hX fl_X7_53 rfl m1_g dX7_behind_23 ?_
    obtain ⟨hk1, h⟩ := kc_e h
    refine ga_7_20 (o := 17) hX rfl m1_g hk1 dX7_behind_26 ?_
    refine r_iadd hX dX7_behind_27 ?_
    have g0 := Option.some.inj h
    subst g0
    exact r_iret hX hQ dX7_behind_28
  · replace h := in_e hc h
    refine r_iconst (v := 0) hX (by decide) dX7_behind_7 ?_
    refine r_goto hX dX7_behind_8 ?_
    have g0 := Option.some.inj h
    subst g0
    exact r_iret hX hQ dX7_behind_28
abbrev rm_X7_lastOf : Room := { frames := 1, cells := 0, slots := 0, locals := 80 }
def f_X7_lastOf_J46 (P : Pm) (v3 : Int32) : Option (Int32) :=
  some v3
def f_X7_lastOf_J39 (P : Pm) (v1 : Int32) (v4 : Int32) (w0 : Int32) : Option ((Int32 × Int32) ⊕ (Int32)) :=
  some (.inl (w0, (v4 + 1)))
def f_X7_lastOf_B8 (P : Pm) (v1 : Int32) (v3 : Int32) (v4 : Int32) : Option ((Int32 × Int32) ⊕ (Int32)) :=
  Option.bind (f_X7_behind P) (fun x1 => (if x1 ≤ v4 then some (.inr v3) else (if inb v4 60 = true then (if (P 21 (ix v4)) = v1 then (if inb v4 60 = true then f_X7_lastOf_J39 P v1 v4 (P 22 (ix v4)) else none) else f_X7_lastOf_J39 P v1 v4 v3) else none)))
def f_X7_lastOf_H8 (P : Pm) (v1 : Int32) (v3 : Int32) (v4 : Int32) : Option (Int32) :=
  Option.bind (iter (fun t => f_X7_lastOf_B8 P v1 t.1 t.2) 200 (v3, v4)) (fun v3 => f_X7_lastOf_J46 P v3)
def f_X7_lastOf (P : Pm) (a1 : Int32) (a2 : Int32) : Option (Int32) :=
  Option.bind (f_X7_begin P) (fun x4 => f_X7_lastOf_H8 P a1 a2 x4)
set_option maxHeartbeats 4000000 in
set_option maxRecDepth 100000 in
theorem c_X7_lastOf (l : Launch) (G : GE) {σ : Mm} {lm : Ml}  {P : Pm} {a1 : Int32} {a2 : Int32} {rz : Int32} (h : f_X7_lastOf P a1 a2 = some rz) : CM l G yX7_lastOf bX7_lastOf 5 (Option.some Jvm.ClassFile.FieldType.int) rm_X7_lastOf [.ref (gA G 17 0), .int a1, .int a2] (m1 σ 17 P) lm (some (.int rz)) (m1 σ 17 P) lm := by
  refine CM.of (own := zR7) (L0 := [(0, .ref (gA G 17 0)), (1, .int a1), (2, .int a2)]) (by decide +kernel) rfl (Nat.le_of_ble_eq_true rfl) rfl (fun X hl hX hR hQ => ?_)
  have K46 : ∀ (v3 : Int32) (_ : True), f_X7_lastOf_J46 P v3 = some rz → WW X G 5 (m1 σ 17 P) lm 46 [(3, .int v3)] [] := by
    intro v3 _ h
    unfold f_X7_lastOf_J46 at h
    refine r_iload_n hX rfl 0 rfl dX7_lastOf_46 ?_
    have g0 := Option.some.inj h
    subst g0
    exact r_iret hX hQ dX7_lastOf_47
  have K8 : ∀ (v1 : Int32) (v3 : Int32) (v4 : Int32) (_ : True), f_X7_lastOf_H8 P v1 v3 v4 = some rz → WW X G 5 (m1 σ 17 P) lm 8 [(0, .ref (gA G 17 0)), (1, .int v1), (3, .int v3), (4, .int v4)] [] := by
    intro v1 v3 v4 _ h
    unfold f_X7_lastOf_H8 at h
    obtain ⟨e_v3, hit, hO⟩ := bn_e h
    refine iter_w (P := fun t : Int32 × Int32 => WW X G 5 (m1 σ 17 P) lm 8 [(0, .ref (gA G 17 0)), (1, .int v1), (3, .int t.1), (4, .int t.2)] []) (x := e_v3) ?_ 200 (v3, v4) hit
    clear hit
    intro t z1 hb hin1 hex1
    obtain ⟨v3, v4⟩ := t
    have h : f_X7_lastOf_B8 P v1 v3 v4 = some z1 := hb
    clear hb
    have K39 : ∀ (v4 : Int32) (w0 : Int32) (_ : True), f_X7_lastOf_J39 P v1 v4 w0 = some z1 → WW X G 5 (m1 σ 17 P) lm 39 [(0, .ref (gA G 17 0)), (1, .int v1), (4, .int v4)] [.int w0] := by
      intro v4 w0 _ h
      unfold f_X7_lastOf_J39 at h
      refine r_istore_n (L2 := [(3, .int w0), (0, .ref (gA G 17 0)), (1, .int v1), (4, .int v4)]) hX rfl (by decide) rfl dX7_lastOf_39 ?_
      refine r_iinc (v := v4 + 1) (L2 := [(4, .int (v4 + 1)), (3, .int w0), (0, .ref (gA G 17 0)), (1, .int v1)]) hX 3 rfl rfl (by decide) rfl dX7_lastOf_40 ?_
      refine r_goto hX dX7_lastOf_43 ?_
      exact WW.sub [2, 3, 1, 0] rfl (hin1 _ (Option.some.inj h).symm)
    unfold f_X7_lastOf_B8 at h
    refine r_iload hX 3 rfl dX7_lastOf_8 ?_
    refine r_aload_n hX rfl 0 rfl dX7_lastOf_10 ?_
    obtain ⟨x1, hc1, h⟩ := bn_e h
    refine r_callVi hX hR (c_X7_behind (σ := σ) X.2.1 G hc1) rfl rfl mf_X7_behind ml_X7_341 in_X7_behind se_X7_behind rfl rfl ⟨rfl, rfl, Nat.le_of_ble_eq_true rfl, Nat.le_of_ble_eq_true rfl⟩ rfl (st := [.int v4]) rfl (Nat.le_of_ble_eq_true rfl) dX7_lastOf_11 ?_
    refine r_icmp_ge hX dX7_lastOf_14 (fun hc => ?_) (fun hc => ?_)
    · replace h := ip_e hc h
      have g0 := hex1 _ (Option.some.inj h).symm
      subst g0
      exact WW.sub [2] rfl (K46 v3 trivial hO)
    · replace h := in_e hc h
      refine r_aload_n hX rfl 0 rfl dX7_lastOf_17 ?_
      refine gf_7_20 (o := 17) hX fl_X7_71 rfl m1_g dX7_lastOf_18 ?_
      refine r_iload hX 3 rfl dX7_lastOf_21 ?_
      obtain ⟨hk2, h⟩ := kc_e h
      refine ga_7_21 (o := 17) hX rfl m1_g hk2 dX7_lastOf_23 ?_
      refine r_iload_n hX rfl 1 rfl dX7_lastOf_24 ?_
      refine r_icmp_ne hX dX7_lastOf_25 (fun hc => ?_) (fun hc => ?_)
      · replace h := in_e hc h
        refine r_iload_n hX rfl 2 rfl dX7_lastOf_38 ?_
        exact WW.sub [0, 1, 3] rfl (K39 v4 v3 trivial h)
      · replace h := ip_e hc h
        refine r_aload_n hX rfl 0 rfl dX7_lastOf_28 ?_
        refine gf_7_21 (o := 17) hX fl_X7_74 rfl m1_g dX7_lastOf_29 ?_
        refine r_iload hX 3 rfl dX7_lastOf_32 ?_
        obtain ⟨hk3, h⟩ := kc_e h
        refine ga_7_22 (o := 17) hX rfl m1_g hk3 dX7_lastOf_34 ?_
        refine r_goto hX dX7_lastOf_35 ?_
        exact WW.sub [0, 1, 3] rfl (K39 v4 (P 22 (ix v4)) trivial h)
  unfold f_X7_lastOf at h
  refine r_iload_n hX rfl 2 rfl dX7_lastOf_0 ?_
  refine r_istore_n (L2 := [(3, .int a2), (0, .ref (gA G 17 0)), (1, .int a1), (2, .int a2)]) hX rfl (by decide) rfl dX7_lastOf_1 ?_
  refine r_aload_n hX rfl 1 rfl dX7_lastOf_2 ?_
  obtain ⟨x4, hc4, h⟩ := bn_e h
  refine r_callVi hX hR (c_X7_begin (σ := σ) X.2.1 G hc4) rfl rfl mf_X7_begin ml_X7_338 in_X7_begin se_X7_begin rfl rfl ⟨rfl, rfl, Nat.le_of_ble_eq_true rfl, Nat.le_of_ble_eq_true rfl⟩ rfl (st := []) rfl (Nat.le_of_ble_eq_true rfl) dX7_lastOf_3 ?_
  refine r_istore (L2 := [(4, .int x4), (3, .int a2), (0, .ref (gA G 17 0)), (1, .int a1), (2, .int a2)]) hX (by decide) rfl dX7_lastOf_6 ?_
  exact WW.sub [2, 3, 1, 0] rfl (K8 a1 a2 x4 trivial h)
abbrev rm_X7_mark : Room := { frames := 2, cells := 0, slots := 0, locals := 104 }
def f_X7_mark (P : Pm) : Option (Int32) :=
  (if (P 0 30) < 0 then Option.bind (f_X7_lastOf P 2 10) (fun x1 => some x1) else some (P 0 30))
set_option maxHeartbeats 4000000 in
set_option maxRecDepth 100000 in
theorem c_X7_mark (l : Launch) (G : GE) {σ : Mm} {lm : Ml}  {P : Pm} {rz : Int32} (h : f_X7_mark P = some rz) : CM l G yX7_mark bX7_mark 1 (Option.some Jvm.ClassFile.FieldType.int) rm_X7_mark [.ref (gA G 17 0)] (m1 σ 17 P) lm (some (.int rz)) (m1 σ 17 P) lm := by
  refine CM.of (own := zR7) (L0 := [(0, .ref (gA G 17 0))]) (by decide +kernel) rfl (Nat.le_of_ble_eq_true rfl) rfl (fun X hl hX hR hQ => ?_)
  unfold f_X7_mark at h
  refine r_aload_n hX rfl 0 rfl dX7_mark_0 ?_
  refine gf_7_30 (o := 17) hX fl_X7_101 rfl m1_g dX7_mark_1 ?_
  refine r_if_lt hX dX7_mark_4 (fun hc => ?_) (fun hc => ?_)
  · replace h := ip_e hc h
    refine r_aload_n hX rfl 0 rfl dX7_mark_14 ?_
    refine r_iconst (v := 2) hX (by decide) dX7_mark_15 ?_
    refine r_bipush (v := 10) hX (by decide) dX7_mark_16 ?_
    obtain ⟨x1, hc1, h⟩ := bn_e h
    refine r_callVi hX hR (c_X7_lastOf (σ := σ) X.2.1 G hc1) rfl rfl mf_X7_lastOf ml_X7_344 in_X7_lastOf se_X7_lastOf rfl rfl ⟨rfl, rfl, Nat.le_of_ble_eq_true rfl, Nat.le_of_ble_eq_true rfl⟩ rfl (st := []) rfl (Nat.le_of_ble_eq_true rfl) dX7_mark_18 ?_
    have g0 := Option.some.inj h
    subst g0
    exact r_iret hX hQ dX7_mark_21
  · replace h := in_e hc h
    refine r_aload_n hX rfl 0 rfl dX7_mark_7 ?_
    refine gf_7_30 (o := 17) hX fl_X7_101 rfl m1_g dX7_mark_8 ?_
    refine r_goto hX dX7_mark_11 ?_
    have g0 := Option.some.inj h
    subst g0
    exact r_iret hX hQ dX7_mark_21
abbrev rm_X7_factOf : Room := { frames := 0, cells := 0, slots := 0, locals := 60 }
def f_X7_factOf (P : Pm) (a1 : Int32) (a2 : Int32) : Option (Int32) :=
  (if a1 = 0 then some a2 else (if a1 = 1 then (if inb a2 6 = true then some (P 4 (ix a2)) else none) else (if a1 = 2 then (if inb a2 6 = true then some (P 5 (ix a2)) else none) else (if a1 = 3 then (if inb a2 6 = true then some ((P 8 (ix a2)) / 10) else none) else (if a1 = 4 then (if inb a2 6 = true then some (P 9 (ix a2)) else none) else some ((P 0 2) - (P 0 2) / 10 * 10))))))
set_option maxHeartbeats 4000000 in
set_option maxRecDepth 100000 in
theorem c_X7_factOf (l : Launch) (G : GE) {σ : Mm} {lm : Ml}  {P : Pm} {a1 : Int32} {a2 : Int32} {rz : Int32} (h : f_X7_factOf P a1 a2 = some rz) : CM l G yX7_factOf bX7_factOf 3 (Option.some Jvm.ClassFile.FieldType.int) rm_X7_factOf [.ref (gA G 17 0), .int a1, .int a2] (m1 σ 17 P) lm (some (.int rz)) (m1 σ 17 P) lm := by
  refine CM.of (own := zR7) (L0 := [(0, .ref (gA G 17 0)), (1, .int a1), (2, .int a2)]) (by decide +kernel) rfl (Nat.le_of_ble_eq_true rfl) rfl (fun X hl hX hR hQ => ?_)
  unfold f_X7_factOf at h
  refine r_iload_n hX rfl 1 rfl dX7_factOf_0 ?_
  by_cases hc0 : a1 = 0
  · replace h := ip_e hc0 h
    refine r_tswI (k := 0) (off := 35) (tgt := 36) hX hc0 (by decide) (by decide) (by decide) dX7_factOf_1 ?_
    refine r_iload_n hX rfl 2 rfl dX7_factOf_36 ?_
    have g0 := Option.some.inj h
    subst g0
    exact r_iret hX hQ dX7_factOf_37
  · replace h := in_e hc0 h
    by_cases hc1 : a1 = 1
    · replace h := ip_e hc1 h
      refine r_tswI (k := 1) (off := 37) (tgt := 38) hX hc1 (by decide) (by decide) (by decide) dX7_factOf_1 ?_
      refine r_aload_n hX rfl 0 rfl dX7_factOf_38 ?_
      refine gf_7_3 (o := 17) hX fl_X7_19 rfl m1_g dX7_factOf_39 ?_
      refine r_iload_n hX rfl 2 rfl dX7_factOf_42 ?_
      obtain ⟨hk1, h⟩ := kc_e h
      refine ga_7_4 (o := 17) hX rfl m1_g hk1 dX7_factOf_43 ?_
      have g0 := Option.some.inj h
      subst g0
      exact r_iret hX hQ dX7_factOf_44
    · replace h := in_e hc1 h
      by_cases hc2 : a1 = 2
      · replace h := ip_e hc2 h
        refine r_tswI (k := 2) (off := 44) (tgt := 45) hX hc2 (by decide) (by decide) (by decide) dX7_factOf_1 ?_
        refine r_aload_n hX rfl 0 rfl dX7_factOf_45 ?_
        refine gf_7_4 (o := 17) hX fl_X7_23 rfl m1_g dX7_factOf_46 ?_
        refine r_iload_n hX rfl 2 rfl dX7_factOf_49 ?_
        obtain ⟨hk2, h⟩ := kc_e h
        refine ga_7_5 (o := 17) hX rfl m1_g hk2 dX7_factOf_50 ?_
        have g0 := Option.some.inj h
        subst g0
        exact r_iret hX hQ dX7_factOf_51
      · replace h := in_e hc2 h
        by_cases hc3 : a1 = 3
        · replace h := ip_e hc3 h
          refine r_tswI (k := 3) (off := 51) (tgt := 52) hX hc3 (by decide) (by decide) (by decide) dX7_factOf_1 ?_
          refine r_aload_n hX rfl 0 rfl dX7_factOf_52 ?_
          refine gf_7_7 (o := 17) hX fl_X7_32 rfl m1_g dX7_factOf_53 ?_
          refine r_iload_n hX rfl 2 rfl dX7_factOf_56 ?_
          obtain ⟨hk3, h⟩ := kc_e h
          refine ga_7_8 (o := 17) hX rfl m1_g hk3 dX7_factOf_57 ?_
          refine r_bipush (v := 10) hX (by decide) dX7_factOf_58 ?_
          refine r_idiv hX (by decide) dX7_factOf_60 ?_
          have g0 := Option.some.inj h
          subst g0
          exact r_iret hX hQ dX7_factOf_61
        · replace h := in_e hc3 h
          by_cases hc4 : a1 = 4
          · replace h := ip_e hc4 h
            refine r_tswI (k := 4) (off := 61) (tgt := 62) hX hc4 (by decide) (by decide) (by decide) dX7_factOf_1 ?_
            refine r_aload_n hX rfl 0 rfl dX7_factOf_62 ?_
            refine gf_7_8 (o := 17) hX fl_X7_35 rfl m1_g dX7_factOf_63 ?_
            refine r_iload_n hX rfl 2 rfl dX7_factOf_66 ?_
            obtain ⟨hk4, h⟩ := kc_e h
            refine ga_7_9 (o := 17) hX rfl m1_g hk4 dX7_factOf_67 ?_
            have g0 := Option.some.inj h
            subst g0
            exact r_iret hX hQ dX7_factOf_68
          · replace h := in_e hc4 h
            have hD : WW X G 3 (m1 σ 17 P) lm 69 [(0, .ref (gA G 17 0)), (1, .int a1), (2, .int a2)] [] := by
              refine r_aload_n hX rfl 0 rfl dX7_factOf_69 ?_
              refine gf_7_2 (o := 17) hX fl_X7_16 rfl m1_g dX7_factOf_70 ?_
              refine r_bipush (v := 10) hX (by decide) dX7_factOf_73 ?_
              refine r_irem hX (by decide) dX7_factOf_75 ?_
              have g0 := Option.some.inj h
              subst g0
              exact r_iret hX hQ dX7_factOf_76
            refine r_tswD (tgt := 69) hX ?_ (by decide) dX7_factOf_1 hD
            have j0 := i32n (n := 0) hc0 rfl
            have j1 := i32n (n := 1) hc1 rfl
            have j2 := i32n (n := 2) hc2 rfl
            have j3 := i32n (n := 3) hc3 rfl
            have j4 := i32n (n := 4) hc4 rfl
            omega
abbrev rm_X7_holds : Room := { frames := 1, cells := 0, slots := 0, locals := 82 }
def f_X7_holds_J243 (P : Pm) : Option (Int32 × Pm) :=
  (if inb 0 100 = true then (if (P 33 (ix 0)) = 0 ∨ (P 33 (ix 0)) = 1 then some ((P 33 (ix 0)), P) else none) else none)
def f_X7_holds_J237 (P : Pm) (v1 : Int32) (v2 : Int32) (v3 : Int32) (v4 : Int32) : Option ((Int32 × Int32 × Pm) ⊕ (Pm)) :=
  some (.inl (v3, (v4 + 1), P))
def f_X7_holds_J233 (P : Pm) (v1 : Int32) (v2 : Int32) (v3 : Int32) (v4 : Int32) (w0 : Int32) (w1 : Int32) : Option ((Int32 × Int32 × Pm) ⊕ (Pm)) :=
  (if inb w1 100 = true then (if w0 = 0 ∨ w0 = 1 then nb (up2 P 33 (ix w1) w0) (fun P5 => f_X7_holds_J237 P5 v1 v2 (v3 + 1) v4) else none) else none)
def f_X7_holds_J139 (P : Pm) (v1 : Int32) (v2 : Int32) (v3 : Int32) (v4 : Int32) (w0 : Int32) (w1 : Int32) : Option ((Int32 × Int32 × Pm) ⊕ (Pm)) :=
  (if inb w1 100 = true then (if w0 = 0 ∨ w0 = 1 then nb (up2 P 33 (ix w1) w0) (fun P8 => f_X7_holds_J237 P8 v1 v2 v3 v4) else none) else none)
def f_X7_holds_J134 (P : Pm) (v1 : Int32) (v2 : Int32) (v3 : Int32) (v4 : Int32) (w0 : Int32) : Option ((Int32 × Int32 × Pm) ⊕ (Pm)) :=
  f_X7_holds_J139 P v1 v2 v3 v4 1 w0
def f_X7_holds_J110 (P : Pm) (v1 : Int32) (v2 : Int32) (v3 : Int32) (v4 : Int32) (w0 : Int32) : Option ((Int32 × Int32 × Pm) ⊕ (Pm)) :=
  f_X7_holds_J139 P v1 v2 v3 v4 0 w0
def f_X7_holds_J60 (P : Pm) (v1 : Int32) (v2 : Int32) (v3 : Int32) (v4 : Int32) (w0 : Int32) (w1 : Int32) : Option ((Int32 × Int32 × Pm) ⊕ (Pm)) :=
  (if inb w1 100 = true then (if w0 = 0 ∨ w0 = 1 then nb (up2 P 33 (ix w1) w0) (fun P11 => f_X7_holds_J237 P11 v1 v2 v3 v4) else none) else none)
def f_X7_holds_B10 (v1 : Int32) (v2 : Int32) (v3 : Int32) (v4 : Int32) (P : Pm) : Option ((Int32 × Int32 × Pm) ⊕ (Pm)) :=
  (if inb v1 60 = true then (if (P 24 (ix v1)) ≤ v4 then some (.inr P) else (if inb v4 600 = true then (if (P 25 (ix v4)) = (-33) then (if inb (v3 - 1) 100 = true then (if (P 33 (ix (v3 - 1))) = 0 then f_X7_holds_J60 P v1 v2 v3 v4 1 (v3 - 1) else f_X7_holds_J60 P v1 v2 v3 v4 0 (v3 - 1)) else none) else (if 0 ≤ (P 25 (ix v4)) then Option.bind (f_X7_factOf P ((P 25 (ix v4)) / 1000) v2) (fun x14 => (if (((P 25 (ix v4)) / 100) - ((P 25 (ix v4)) / 100) / 10 * 10) = 0 then (if ((P 25 (ix v4)) - (P 25 (ix v4)) / 100 * 100) ≤ x14 then f_X7_holds_J233 P v1 v2 v3 v4 0 v3 else f_X7_holds_J233 P v1 v2 v3 v4 1 v3) else (if (((P 25 (ix v4)) / 100) - ((P 25 (ix v4)) / 100) / 10 * 10) = 1 then (if x14 = ((P 25 (ix v4)) - (P 25 (ix v4)) / 100 * 100) then f_X7_holds_J233 P v1 v2 v3 v4 1 v3 else f_X7_holds_J233 P v1 v2 v3 v4 0 v3) else (if x14 ≤ ((P 25 (ix v4)) - (P 25 (ix v4)) / 100 * 100) then f_X7_holds_J233 P v1 v2 v3 v4 0 v3 else f_X7_holds_J233 P v1 v2 v3 v4 1 v3)))) else (if (P 25 (ix v4)) = (-38) then (if inb ((v3 + (-1)) - 1) 100 = true then (if (P 33 (ix ((v3 + (-1)) - 1))) = 0 then f_X7_holds_J110 P v1 v2 (v3 + (-1)) v4 ((v3 + (-1)) - 1) else (if inb (v3 + (-1)) 100 = true then (if (P 33 (ix (v3 + (-1)))) = 0 then f_X7_holds_J110 P v1 v2 (v3 + (-1)) v4 ((v3 + (-1)) - 1) else f_X7_holds_J139 P v1 v2 (v3 + (-1)) v4 1 ((v3 + (-1)) - 1)) else none)) else none) else (if inb ((v3 + (-1)) - 1) 100 = true then (if (P 33 (ix ((v3 + (-1)) - 1))) = 0 then (if inb (v3 + (-1)) 100 = true then (if (P 33 (ix (v3 + (-1)))) = 0 then f_X7_holds_J139 P v1 v2 (v3 + (-1)) v4 0 ((v3 + (-1)) - 1) else f_X7_holds_J134 P v1 v2 (v3 + (-1)) v4 ((v3 + (-1)) - 1)) else none) else f_X7_holds_J134 P v1 v2 (v3 + (-1)) v4 ((v3 + (-1)) - 1)) else none)))) else none)) else none)
def f_X7_holds_H10 (P : Pm) (v1 : Int32) (v2 : Int32) (v3 : Int32) (v4 : Int32) : Option (Int32 × Pm) :=
  Option.bind (iter (fun t => f_X7_holds_B10 v1 v2 t.1 t.2.1 t.2.2) 200 (v3, v4, P)) (fun P => f_X7_holds_J243 P)
def f_X7_holds (P : Pm) (a1 : Int32) (a2 : Int32) : Option (Int32 × Pm) :=
  (if inb a1 60 = true then f_X7_holds_H10 P a1 a2 0 (P 23 (ix a1)) else none)
set_option maxHeartbeats 4000000 in
set_option maxRecDepth 100000 in
theorem c_X7_holds (l : Launch) (G : GE) {σ : Mm} {lm : Ml}  {P : Pm} {a1 : Int32} {a2 : Int32} {rz : Int32} {Pz : Pm} (h : f_X7_holds P a1 a2 = some (rz, Pz)) : CM l G yX7_holds bX7_holds 8 (Option.some Jvm.ClassFile.FieldType.boolean) rm_X7_holds [.ref (gA G 17 0), .int a1, .int a2] (m1 σ 17 P) lm (some (.int rz)) (m1 σ 17 Pz) lm := by
  refine CM.of (own := zR7) (L0 := [(0, .ref (gA G 17 0)), (1, .int a1), (2, .int a2)]) (by decide +kernel) rfl (Nat.le_of_ble_eq_true rfl) rfl (fun X hl hX hR hQ => ?_)
  have K243 : ∀ (P : Pm) (_ : True), f_X7_holds_J243 P = some (rz, Pz) → WW X G 8 (m1 σ 17 P) lm 243 [(0, .ref (gA G 17 0))] [] := by
    intro P _ h
    unfold f_X7_holds_J243 at h
    refine r_aload_n hX rfl 0 rfl dX7_holds_243 ?_
    refine gf_7_32 (o := 17) hX fl_X7_107 rfl m1_g dX7_holds_244 ?_
    refine r_iconst (v := 0) hX (by decide) dX7_holds_247 ?_
    obtain ⟨hk1, h⟩ := kc_e h
    refine ga_7_33 (o := 17) hX rfl m1_g hk1 dX7_holds_248 ?_
    obtain ⟨hk2, h⟩ := kc_e h
    have g0 := Option.some.inj h
    obtain ⟨q0, g1⟩ := Prod.mk.inj g0
    subst q0
    subst g1
    exact r_zret hX hk2 hQ dX7_holds_249
  have K10 : ∀ (P : Pm) (v1 : Int32) (v2 : Int32) (v3 : Int32) (v4 : Int32) (_ : True), f_X7_holds_H10 P v1 v2 v3 v4 = some (rz, Pz) → WW X G 8 (m1 σ 17 P) lm 10 [(0, .ref (gA G 17 0)), (1, .int v1), (2, .int v2), (3, .int v3), (4, .int v4)] [] := by
    intro P v1 v2 v3 v4 _ h
    unfold f_X7_holds_H10 at h
    obtain ⟨e_P, hit, hO⟩ := bn_e h
    refine iter_w (P := fun t : Int32 × Int32 × Pm => WW X G 8 (m1 σ 17 t.2.2) lm 10 [(0, .ref (gA G 17 0)), (1, .int v1), (2, .int v2), (3, .int t.1), (4, .int t.2.1)] []) (x := e_P) ?_ 200 (v3, v4, P) hit
    clear hit
    intro t z1 hb hin1 hex1
    obtain ⟨v3, v4, P⟩ := t
    have h : f_X7_holds_B10 v1 v2 v3 v4 P = some z1 := hb
    clear hb
    have K237 : ∀ (P : Pm) (v3 : Int32) (v4 : Int32) (_ : True), f_X7_holds_J237 P v1 v2 v3 v4 = some z1 → WW X G 8 (m1 σ 17 P) lm 237 [(0, .ref (gA G 17 0)), (1, .int v1), (2, .int v2), (3, .int v3), (4, .int v4)] [] := by
      intro P v3 v4 _ h
      unfold f_X7_holds_J237 at h
      refine r_iinc (v := v4 + 1) (L2 := [(4, .int (v4 + 1)), (0, .ref (gA G 17 0)), (1, .int v1), (2, .int v2), (3, .int v3)]) hX 4 rfl rfl (by decide) rfl dX7_holds_237 ?_
      refine r_goto hX dX7_holds_240 ?_
      exact WW.sub [1, 2, 3, 4, 0] rfl (hin1 _ (Option.some.inj h).symm)
    have K233 : ∀ (P : Pm) (v3 : Int32) (v4 : Int32) (w0 : Int32) (w1 : Int32) (_ : True), f_X7_holds_J233 P v1 v2 v3 v4 w0 w1 = some z1 → WW X G 8 (m1 σ 17 P) lm 233 [(0, .ref (gA G 17 0)), (1, .int v1), (2, .int v2), (3, .int v3), (4, .int v4)] [.int w0, .int w1, .ref (gA G 17 33)] := by
      intro P v3 v4 w0 w1 _ h
      unfold f_X7_holds_J233 at h
      obtain ⟨hk3, h⟩ := kc_e h
      obtain ⟨hk4, h⟩ := kc_e h
      obtain ⟨P5, hP5, h⟩ := nb_e h
      refine pa_7_33 (o := 17) hk4 hX rfl m1_g hk3 (m1_w hP5) dX7_holds_233 ?_
      refine r_iinc (v := v3 + 1) (L2 := [(3, .int (v3 + 1)), (0, .ref (gA G 17 0)), (1, .int v1), (2, .int v2), (4, .int v4)]) hX 3 rfl rfl (by decide) rfl dX7_holds_234 ?_
      exact WW.sub [1, 2, 3, 0, 4] rfl (K237 P5 (v3 + 1) v4 trivial h)
    have K139 : ∀ (P : Pm) (v3 : Int32) (v4 : Int32) (w0 : Int32) (w1 : Int32) (_ : True), f_X7_holds_J139 P v1 v2 v3 v4 w0 w1 = some z1 → WW X G 8 (m1 σ 17 P) lm 139 [(0, .ref (gA G 17 0)), (1, .int v1), (2, .int v2), (3, .int v3), (4, .int v4)] [.int w0, .int w1, .ref (gA G 17 33)] := by
      intro P v3 v4 w0 w1 _ h
      unfold f_X7_holds_J139 at h
      obtain ⟨hk6, h⟩ := kc_e h
      obtain ⟨hk7, h⟩ := kc_e h
      obtain ⟨P8, hP8, h⟩ := nb_e h
      refine pa_7_33 (o := 17) hk7 hX rfl m1_g hk6 (m1_w hP8) dX7_holds_139 ?_
      refine r_goto hX dX7_holds_140 ?_
      exact WW.sub [0, 1, 2, 3, 4] rfl (K237 P8 v3 v4 trivial h)
    have K134 : ∀ (P : Pm) (v3 : Int32) (v4 : Int32) (w0 : Int32) (_ : True), f_X7_holds_J134 P v1 v2 v3 v4 w0 = some z1 → WW X G 8 (m1 σ 17 P) lm 134 [(0, .ref (gA G 17 0)), (1, .int v1), (2, .int v2), (3, .int v3), (4, .int v4)] [.int w0, .ref (gA G 17 33)] := by
      intro P v3 v4 w0 _ h
      unfold f_X7_holds_J134 at h
      refine r_iconst (v := 1) hX (by decide) dX7_holds_134 ?_
      refine r_goto hX dX7_holds_135 ?_
      exact WW.sub [0, 1, 2, 3, 4] rfl (K139 P v3 v4 1 w0 trivial h)
    have K110 : ∀ (P : Pm) (v3 : Int32) (v4 : Int32) (w0 : Int32) (_ : True), f_X7_holds_J110 P v1 v2 v3 v4 w0 = some z1 → WW X G 8 (m1 σ 17 P) lm 110 [(0, .ref (gA G 17 0)), (1, .int v1), (2, .int v2), (3, .int v3), (4, .int v4)] [.int w0, .ref (gA G 17 33)] := by
      intro P v3 v4 w0 _ h
      unfold f_X7_holds_J110 at h
      refine r_iconst (v := 0) hX (by decide) dX7_holds_110 ?_
      refine r_goto hX dX7_holds_111 ?_
      exact WW.sub [0, 1, 2, 3, 4] rfl (K139 P v3 v4 0 w0 trivial h)
    have K60 : ∀ (P : Pm) (v3 : Int32) (v4 : Int32) (w0 : Int32) (w1 : Int32) (_ : True), f_X7_holds_J60 P v1 v2 v3 v4 w0 w1 = some z1 → WW X G 8 (m1 σ 17 P) lm 60 [(0, .ref (gA G 17 0)), (1, .int v1), (2, .int v2), (3, .int v3), (4, .int v4)] [.int w0, .int w1, .ref (gA G 17 33)] := by
      intro P v3 v4 w0 w1 _ h
      unfold f_X7_holds_J60 at h
      obtain ⟨hk9, h⟩ := kc_e h
      obtain ⟨hk10, h⟩ := kc_e h
      obtain ⟨P11, hP11, h⟩ := nb_e h
      refine pa_7_33 (o := 17) hk10 hX rfl m1_g hk9 (m1_w hP11) dX7_holds_60 ?_
      refine r_goto hX dX7_holds_61 ?_
      exact WW.sub [0, 1, 2, 3, 4] rfl (K237 P11 v3 v4 trivial h)
    unfold f_X7_holds_B10 at h
    refine r_iload hX 4 rfl dX7_holds_10 ?_
    refine r_aload_n hX rfl 0 rfl dX7_holds_12 ?_
    refine gf_7_23 (o := 17) hX fl_X7_80 rfl m1_g dX7_holds_13 ?_
    refine r_iload_n hX rfl 1 rfl dX7_holds_16 ?_
    obtain ⟨hk12, h⟩ := kc_e h
    refine ga_7_24 (o := 17) hX rfl m1_g hk12 dX7_holds_17 ?_
    refine r_icmp_ge hX dX7_holds_18 (fun hc => ?_) (fun hc => ?_)
    · replace h := ip_e hc h
      have g0 := hex1 _ (Option.some.inj h).symm
      subst g0
      exact WW.sub [0] rfl (K243 P trivial hO)
    · replace h := in_e hc h
      refine r_aload_n hX rfl 0 rfl dX7_holds_21 ?_
      refine gf_7_24 (o := 17) hX fl_X7_83 rfl m1_g dX7_holds_22 ?_
      refine r_iload hX 4 rfl dX7_holds_25 ?_
      obtain ⟨hk13, h⟩ := kc_e h
      refine ga_7_25 (o := 17) hX rfl m1_g hk13 dX7_holds_27 ?_
      refine r_istore (L2 := [(5, .int (P 25 (ix v4))), (0, .ref (gA G 17 0)), (1, .int v1), (2, .int v2), (3, .int v3), (4, .int v4)]) hX (by decide) rfl dX7_holds_28 ?_
      refine r_iload hX 0 rfl dX7_holds_30 ?_
      refine r_bipush (v := (-33)) hX (by decide) dX7_holds_32 ?_
      refine r_icmp_ne hX dX7_holds_34 (fun hc => ?_) (fun hc => ?_)
      · replace h := in_e hc h
        refine r_iload hX 0 rfl dX7_holds_64 ?_
        refine r_if_ge hX dX7_holds_66 (fun hc => ?_) (fun hc => ?_)
        · replace h := ip_e hc h
          refine r_aload_n hX rfl 1 rfl dX7_holds_143 ?_
          refine r_iload hX 0 rfl dX7_holds_144 ?_
          refine r_sipush (v := 1000) hX (by decide) dX7_holds_146 ?_
          refine r_idiv hX (by decide) dX7_holds_149 ?_
          refine r_iload_n hX rfl 3 rfl dX7_holds_150 ?_
          obtain ⟨x14, hc14, h⟩ := bn_e h
          refine r_callVi hX hR (c_X7_factOf (σ := σ) X.2.1 G hc14) rfl rfl mf_X7_factOf ml_X7_347 in_X7_factOf se_X7_factOf rfl rfl ⟨rfl, rfl, Nat.le_of_ble_eq_true rfl, Nat.le_of_ble_eq_true rfl⟩ rfl (st := []) rfl (Nat.le_of_ble_eq_true rfl) dX7_holds_151 ?_
          refine r_istore (L2 := [(6, .int x14), (5, .int (P 25 (ix v4))), (0, .ref (gA G 17 0)), (1, .int v1), (2, .int v2), (3, .int v3), (4, .int v4)]) hX (by decide) rfl dX7_holds_154 ?_
          refine r_iload hX 1 rfl dX7_holds_156 ?_
          refine r_bipush (v := 100) hX (by decide) dX7_holds_158 ?_
          refine r_idiv hX (by decide) dX7_holds_160 ?_
          refine r_bipush (v := 10) hX (by decide) dX7_holds_161 ?_
          refine r_irem hX (by decide) dX7_holds_163 ?_
          refine r_istore (L2 := [(7, .int (((P 25 (ix v4)) / 100) - ((P 25 (ix v4)) / 100) / 10 * 10)), (6, .int x14), (5, .int (P 25 (ix v4))), (0, .ref (gA G 17 0)), (1, .int v1), (2, .int v2), (3, .int v3), (4, .int v4)]) hX (by decide) rfl dX7_holds_164 ?_
          refine r_aload_n hX rfl 3 rfl dX7_holds_166 ?_
          refine gf_7_32 (o := 17) hX fl_X7_107 rfl m1_g dX7_holds_167 ?_
          refine r_iload_n hX rfl 6 rfl dX7_holds_170 ?_
          refine r_iload hX 0 rfl dX7_holds_171 ?_
          refine r_if_ne hX dX7_holds_173 (fun hc => ?_) (fun hc => ?_)
          · replace h := in_e hc h
            refine r_iload hX 0 rfl dX7_holds_194 ?_
            refine r_iconst (v := 1) hX (by decide) dX7_holds_196 ?_
            refine r_icmp_ne hX dX7_holds_197 (fun hc => ?_) (fun hc => ?_)
            · replace h := in_e hc h
              refine r_iload hX 1 rfl dX7_holds_218 ?_
              refine r_iload hX 2 rfl dX7_holds_220 ?_
              refine r_bipush (v := 100) hX (by decide) dX7_holds_222 ?_
              refine r_irem hX (by decide) dX7_holds_224 ?_
              refine r_icmp_le hX dX7_holds_225 (fun hc => ?_) (fun hc => ?_)
              · replace h := ip_e hc h
                refine r_iconst (v := 0) hX (by decide) dX7_holds_232 ?_
                exact WW.sub [3, 4, 5, 6, 7] rfl (K233 P v3 v4 0 v3 trivial h)
              · replace h := in_e hc h
                refine r_iconst (v := 1) hX (by decide) dX7_holds_228 ?_
                refine r_goto hX dX7_holds_229 ?_
                exact WW.sub [3, 4, 5, 6, 7] rfl (K233 P v3 v4 1 v3 trivial h)
            · replace h := ip_e hc h
              refine r_iload hX 1 rfl dX7_holds_200 ?_
              refine r_iload hX 2 rfl dX7_holds_202 ?_
              refine r_bipush (v := 100) hX (by decide) dX7_holds_204 ?_
              refine r_irem hX (by decide) dX7_holds_206 ?_
              refine r_icmp_ne hX dX7_holds_207 (fun hc => ?_) (fun hc => ?_)
              · replace h := in_e hc h
                refine r_iconst (v := 0) hX (by decide) dX7_holds_214 ?_
                refine r_goto hX dX7_holds_215 ?_
                exact WW.sub [3, 4, 5, 6, 7] rfl (K233 P v3 v4 0 v3 trivial h)
              · replace h := ip_e hc h
                refine r_iconst (v := 1) hX (by decide) dX7_holds_210 ?_
                refine r_goto hX dX7_holds_211 ?_
                exact WW.sub [3, 4, 5, 6, 7] rfl (K233 P v3 v4 1 v3 trivial h)
          · replace h := ip_e hc h
            refine r_iload hX 1 rfl dX7_holds_176 ?_
            refine r_iload hX 2 rfl dX7_holds_178 ?_
            refine r_bipush (v := 100) hX (by decide) dX7_holds_180 ?_
            refine r_irem hX (by decide) dX7_holds_182 ?_
            refine r_icmp_ge hX dX7_holds_183 (fun hc => ?_) (fun hc => ?_)
            · replace h := ip_e hc h
              refine r_iconst (v := 0) hX (by decide) dX7_holds_190 ?_
              refine r_goto hX dX7_holds_191 ?_
              exact WW.sub [3, 4, 5, 6, 7] rfl (K233 P v3 v4 0 v3 trivial h)
            · replace h := in_e hc h
              refine r_iconst (v := 1) hX (by decide) dX7_holds_186 ?_
              refine r_goto hX dX7_holds_187 ?_
              exact WW.sub [3, 4, 5, 6, 7] rfl (K233 P v3 v4 1 v3 trivial h)
        · replace h := in_e hc h
          refine r_iinc (v := v3 + (-1)) (L2 := [(3, .int (v3 + (-1))), (5, .int (P 25 (ix v4))), (0, .ref (gA G 17 0)), (1, .int v1), (2, .int v2), (4, .int v4)]) hX 4 rfl (congrArg (fun z : Int32 => v3 + z) (by decide : Int32.ofInt (-1) = (-1))) (by decide) rfl dX7_holds_69 ?_
          refine r_aload_n hX rfl 2 rfl dX7_holds_72 ?_
          refine gf_7_32 (o := 17) hX fl_X7_107 rfl m1_g dX7_holds_73 ?_
          refine r_iload_n hX rfl 0 rfl dX7_holds_76 ?_
          refine r_iconst (v := 1) hX (by decide) dX7_holds_77 ?_
          refine r_isub hX dX7_holds_78 ?_
          refine r_iload hX 1 rfl dX7_holds_79 ?_
          refine r_bipush (v := (-38)) hX (by decide) dX7_holds_81 ?_
          refine r_icmp_ne hX dX7_holds_83 (fun hc => ?_) (fun hc => ?_)
          · replace h := in_e hc h
            refine r_aload_n hX rfl 2 rfl dX7_holds_114 ?_
            refine gf_7_32 (o := 17) hX fl_X7_107 rfl m1_g dX7_holds_115 ?_
            refine r_iload_n hX rfl 0 rfl dX7_holds_118 ?_
            refine r_iconst (v := 1) hX (by decide) dX7_holds_119 ?_
            refine r_isub hX dX7_holds_120 ?_
            obtain ⟨hk15, h⟩ := kc_e h
            refine ga_7_33 (o := 17) hX rfl m1_g hk15 dX7_holds_121 ?_
            refine r_if_ne hX dX7_holds_122 (fun hc => ?_) (fun hc => ?_)
            · replace h := in_e hc h
              exact WW.sub [2, 3, 4, 0, 5] rfl (K134 P (v3 + (-1)) v4 ((v3 + (-1)) - 1) trivial h)
            · replace h := ip_e hc h
              refine r_aload_n hX rfl 2 rfl dX7_holds_125 ?_
              refine gf_7_32 (o := 17) hX fl_X7_107 rfl m1_g dX7_holds_126 ?_
              refine r_iload_n hX rfl 0 rfl dX7_holds_129 ?_
              obtain ⟨hk16, h⟩ := kc_e h
              refine ga_7_33 (o := 17) hX rfl m1_g hk16 dX7_holds_130 ?_
              refine r_if_eq hX dX7_holds_131 (fun hc => ?_) (fun hc => ?_)
              · replace h := ip_e hc h
                refine r_iconst (v := 0) hX (by decide) dX7_holds_138 ?_
                exact WW.sub [2, 3, 4, 0, 5] rfl (K139 P (v3 + (-1)) v4 0 ((v3 + (-1)) - 1) trivial h)
              · replace h := in_e hc h
                exact WW.sub [2, 3, 4, 0, 5] rfl (K134 P (v3 + (-1)) v4 ((v3 + (-1)) - 1) trivial h)
          · replace h := ip_e hc h
            refine r_aload_n hX rfl 2 rfl dX7_holds_86 ?_
            refine gf_7_32 (o := 17) hX fl_X7_107 rfl m1_g dX7_holds_87 ?_
            refine r_iload_n hX rfl 0 rfl dX7_holds_90 ?_
            refine r_iconst (v := 1) hX (by decide) dX7_holds_91 ?_
            refine r_isub hX dX7_holds_92 ?_
            obtain ⟨hk17, h⟩ := kc_e h
            refine ga_7_33 (o := 17) hX rfl m1_g hk17 dX7_holds_93 ?_
            refine r_if_eq hX dX7_holds_94 (fun hc => ?_) (fun hc => ?_)
            · replace h := ip_e hc h
              exact WW.sub [2, 3, 4, 0, 5] rfl (K110 P (v3 + (-1)) v4 ((v3 + (-1)) - 1) trivial h)
            · replace h := in_e hc h
              refine r_aload_n hX rfl 2 rfl dX7_holds_97 ?_
              refine gf_7_32 (o := 17) hX fl_X7_107 rfl m1_g dX7_holds_98 ?_
              refine r_iload_n hX rfl 0 rfl dX7_holds_101 ?_
              obtain ⟨hk18, h⟩ := kc_e h
              refine ga_7_33 (o := 17) hX rfl m1_g hk18 dX7_holds_102 ?_
              refine r_if_eq hX dX7_holds_103 (fun hc => ?_) (fun hc => ?_)
              · replace h := ip_e hc h
                exact WW.sub [2, 3, 4, 0, 5] rfl (K110 P (v3 + (-1)) v4 ((v3 + (-1)) - 1) trivial h)
              · replace h := in_e hc h
                refine r_iconst (v := 1) hX (by decide) dX7_holds_106 ?_
                refine r_goto hX dX7_holds_107 ?_
                exact WW.sub [2, 3, 4, 0, 5] rfl (K139 P (v3 + (-1)) v4 1 ((v3 + (-1)) - 1) trivial h)
      · replace h := ip_e hc h
        refine r_aload_n hX rfl 1 rfl dX7_holds_37 ?_
        refine gf_7_32 (o := 17) hX fl_X7_107 rfl m1_g dX7_holds_38 ?_
        refine r_iload_n hX rfl 4 rfl dX7_holds_41 ?_
        refine r_iconst (v := 1) hX (by decide) dX7_holds_42 ?_
        refine r_isub hX dX7_holds_43 ?_
        refine r_aload_n hX rfl 1 rfl dX7_holds_44 ?_
        refine gf_7_32 (o := 17) hX fl_X7_107 rfl m1_g dX7_holds_45 ?_
        refine r_iload_n hX rfl 4 rfl dX7_holds_48 ?_
        refine r_iconst (v := 1) hX (by decide) dX7_holds_49 ?_
        refine r_isub hX dX7_holds_50 ?_
        obtain ⟨hk19, h⟩ := kc_e h
        refine ga_7_33 (o := 17) hX rfl m1_g hk19 dX7_holds_51 ?_
        refine r_if_ne hX dX7_holds_52 (fun hc => ?_) (fun hc => ?_)
        · replace h := in_e hc h
          refine r_iconst (v := 0) hX (by decide) dX7_holds_59 ?_
          exact WW.sub [1, 2, 3, 4, 5] rfl (K60 P v3 v4 0 (v3 - 1) trivial h)
        · replace h := ip_e hc h
          refine r_iconst (v := 1) hX (by decide) dX7_holds_55 ?_
          refine r_goto hX dX7_holds_56 ?_
          exact WW.sub [1, 2, 3, 4, 5] rfl (K60 P v3 v4 1 (v3 - 1) trivial h)
  unfold f_X7_holds at h
  refine r_iconst (v := 0) hX (by decide) dX7_holds_0 ?_
  refine r_istore_n (L2 := [(3, .int 0), (0, .ref (gA G 17 0)), (1, .int a1), (2, .int a2)]) hX rfl (by decide) rfl dX7_holds_1 ?_
  refine r_aload_n hX rfl 1 rfl dX7_holds_2 ?_
  refine gf_7_22 (o := 17) hX fl_X7_77 rfl m1_g dX7_holds_3 ?_
  refine r_iload_n hX rfl 2 rfl dX7_holds_6 ?_
  obtain ⟨hk20, h⟩ := kc_e h
  refine ga_7_23 (o := 17) hX rfl m1_g hk20 dX7_holds_7 ?_
  refine r_istore (L2 := [(4, .int (P 23 (ix a1))), (3, .int 0), (0, .ref (gA G 17 0)), (1, .int a1), (2, .int a2)]) hX (by decide) rfl dX7_holds_8 ?_
  exact WW.sub [2, 3, 4, 1, 0] rfl (K10 P a1 a2 0 (P 23 (ix a1)) trivial h)
abbrev rm_X7_rate : Room := { frames := 2, cells := 0, slots := 0, locals := 109 }
def f_X7_rate_J71 (P : Pm) (v2 : Int32) : Option (Int32 × Pm) :=
  (if 0 ≤ v2 then some (v2, P) else some (0, P))
def f_X7_rate_J65 (P : Pm) (v1 : Int32) (v2 : Int32) (v3 : Int32) : Option ((Int32 × Int32 × Pm) ⊕ (Int32 × Pm)) :=
  some (.inl (v2, (v3 + 1), P))
def f_X7_rate_J63 (P : Pm) (v1 : Int32) (v3 : Int32) (w0 : Int32) (w1 : Int32) : Option ((Int32 × Int32 × Pm) ⊕ (Int32 × Pm)) :=
  f_X7_rate_J65 P v1 (w1 + w0) v3
def f_X7_rate_B7 (v1 : Int32) (v2 : Int32) (v3 : Int32) (P : Pm) : Option ((Int32 × Int32 × Pm) ⊕ (Int32 × Pm)) :=
  Option.bind (f_X7_behind P) (fun x1 => (if x1 ≤ v3 then some (.inr (v2, P)) else (if inb v3 60 = true then (if 1 < (P 21 (ix v3)) then f_X7_rate_J65 P v1 v2 v3 else bn2 (f_X7_holds P v3 v1) (fun x3 P4 => (if x3 = 0 then f_X7_rate_J65 P4 v1 v2 v3 else (if inb v3 60 = true then (if (P4 21 (ix v3)) = 0 then (if inb v3 60 = true then f_X7_rate_J63 P4 v1 v3 (P4 22 (ix v3)) v2 else none) else (if inb v3 60 = true then f_X7_rate_J63 P4 v1 v3 (-(P4 22 (ix v3))) v2 else none)) else none)))) else none)))
def f_X7_rate_H7 (P : Pm) (v1 : Int32) (v2 : Int32) (v3 : Int32) : Option (Int32 × Pm) :=
  bn2 (iter (fun t => f_X7_rate_B7 v1 t.1 t.2.1 t.2.2) 200 (v2, v3, P)) (fun v2 P => f_X7_rate_J71 P v2)
def f_X7_rate (P : Pm) (a1 : Int32) : Option (Int32 × Pm) :=
  Option.bind (f_X7_begin P) (fun x8 => f_X7_rate_H7 P a1 1 x8)
set_option maxHeartbeats 4000000 in
set_option maxRecDepth 100000 in
theorem c_X7_rate (l : Launch) (G : GE) {σ : Mm} {lm : Ml}  {P : Pm} {a1 : Int32} {rz : Int32} {Pz : Pm} (h : f_X7_rate P a1 = some (rz, Pz)) : CM l G yX7_rate bX7_rate 4 (Option.some Jvm.ClassFile.FieldType.int) rm_X7_rate [.ref (gA G 17 0), .int a1] (m1 σ 17 P) lm (some (.int rz)) (m1 σ 17 Pz) lm := by
  refine CM.of (own := zR7) (L0 := [(0, .ref (gA G 17 0)), (1, .int a1)]) (by decide +kernel) rfl (Nat.le_of_ble_eq_true rfl) rfl (fun X hl hX hR hQ => ?_)
  have K71 : ∀ (P : Pm) (v2 : Int32) (_ : True), f_X7_rate_J71 P v2 = some (rz, Pz) → WW X G 4 (m1 σ 17 P) lm 71 [(2, .int v2)] [] := by
    intro P v2 _ h
    unfold f_X7_rate_J71 at h
    refine r_iload_n hX rfl 0 rfl dX7_rate_71 ?_
    refine r_if_ge hX dX7_rate_72 (fun hc => ?_) (fun hc => ?_)
    · replace h := ip_e hc h
      refine r_iload_n hX rfl 0 rfl dX7_rate_79 ?_
      have g0 := Option.some.inj h
      obtain ⟨q0, g1⟩ := Prod.mk.inj g0
      subst q0
      subst g1
      exact r_iret hX hQ dX7_rate_80
    · replace h := in_e hc h
      refine r_iconst (v := 0) hX (by decide) dX7_rate_75 ?_
      refine r_goto hX dX7_rate_76 ?_
      have g0 := Option.some.inj h
      obtain ⟨q0, g1⟩ := Prod.mk.inj g0
      subst q0
      subst g1
      exact r_iret hX hQ dX7_rate_80
  have K7 : ∀ (P : Pm) (v1 : Int32) (v2 : Int32) (v3 : Int32) (_ : True), f_X7_rate_H7 P v1 v2 v3 = some (rz, Pz) → WW X G 4 (m1 σ 17 P) lm 7 [(0, .ref (gA G 17 0)), (1, .int v1), (2, .int v2), (3, .int v3)] [] := by
    intro P v1 v2 v3 _ h
    unfold f_X7_rate_H7 at h
    obtain ⟨e_v2, e_P, hit, hO⟩ := bn2_e h
    refine iter_w (P := fun t : Int32 × Int32 × Pm => WW X G 4 (m1 σ 17 t.2.2) lm 7 [(0, .ref (gA G 17 0)), (1, .int v1), (2, .int t.1), (3, .int t.2.1)] []) (x := (e_v2, e_P)) ?_ 200 (v2, v3, P) hit
    clear hit
    intro t z1 hb hin1 hex1
    obtain ⟨v2, v3, P⟩ := t
    have h : f_X7_rate_B7 v1 v2 v3 P = some z1 := hb
    clear hb
    have K65 : ∀ (P : Pm) (v2 : Int32) (v3 : Int32) (_ : True), f_X7_rate_J65 P v1 v2 v3 = some z1 → WW X G 4 (m1 σ 17 P) lm 65 [(0, .ref (gA G 17 0)), (1, .int v1), (2, .int v2), (3, .int v3)] [] := by
      intro P v2 v3 _ h
      unfold f_X7_rate_J65 at h
      refine r_iinc (v := v3 + 1) (L2 := [(3, .int (v3 + 1)), (0, .ref (gA G 17 0)), (1, .int v1), (2, .int v2)]) hX 3 rfl rfl (by decide) rfl dX7_rate_65 ?_
      refine r_goto hX dX7_rate_68 ?_
      exact WW.sub [1, 2, 3, 0] rfl (hin1 _ (Option.some.inj h).symm)
    have K63 : ∀ (P : Pm) (v3 : Int32) (w0 : Int32) (w1 : Int32) (_ : True), f_X7_rate_J63 P v1 v3 w0 w1 = some z1 → WW X G 4 (m1 σ 17 P) lm 63 [(0, .ref (gA G 17 0)), (1, .int v1), (3, .int v3)] [.int w0, .int w1] := by
      intro P v3 w0 w1 _ h
      unfold f_X7_rate_J63 at h
      refine r_iadd hX dX7_rate_63 ?_
      refine r_istore_n (L2 := [(2, .int (w1 + w0)), (0, .ref (gA G 17 0)), (1, .int v1), (3, .int v3)]) hX rfl (by decide) rfl dX7_rate_64 ?_
      exact WW.sub [1, 2, 0, 3] rfl (K65 P (w1 + w0) v3 trivial h)
    unfold f_X7_rate_B7 at h
    refine r_iload_n hX rfl 3 rfl dX7_rate_7 ?_
    refine r_aload_n hX rfl 0 rfl dX7_rate_8 ?_
    obtain ⟨x1, hc1, h⟩ := bn_e h
    refine r_callVi hX hR (c_X7_behind (σ := σ) X.2.1 G hc1) rfl rfl mf_X7_behind ml_X7_341 in_X7_behind se_X7_behind rfl rfl ⟨rfl, rfl, Nat.le_of_ble_eq_true rfl, Nat.le_of_ble_eq_true rfl⟩ rfl (st := [.int v3]) rfl (Nat.le_of_ble_eq_true rfl) dX7_rate_9 ?_
    refine r_icmp_ge hX dX7_rate_12 (fun hc => ?_) (fun hc => ?_)
    · replace h := ip_e hc h
      have g0 := hex1 _ (Option.some.inj h).symm
      obtain ⟨q0, g1⟩ := Prod.mk.inj g0
      subst q0
      subst g1
      exact WW.sub [2] rfl (K71 P v2 trivial hO)
    · replace h := in_e hc h
      refine r_aload_n hX rfl 0 rfl dX7_rate_15 ?_
      refine gf_7_20 (o := 17) hX fl_X7_71 rfl m1_g dX7_rate_16 ?_
      refine r_iload_n hX rfl 3 rfl dX7_rate_19 ?_
      obtain ⟨hk2, h⟩ := kc_e h
      refine ga_7_21 (o := 17) hX rfl m1_g hk2 dX7_rate_20 ?_
      refine r_iconst (v := 1) hX (by decide) dX7_rate_21 ?_
      refine r_icmp_gt hX dX7_rate_22 (fun hc => ?_) (fun hc => ?_)
      · replace h := ip_e hc h
        exact WW.sub [0, 1, 2, 3] rfl (K65 P v2 v3 trivial h)
      · replace h := in_e hc h
        refine r_aload_n hX rfl 0 rfl dX7_rate_25 ?_
        refine r_iload_n hX rfl 3 rfl dX7_rate_26 ?_
        refine r_iload_n hX rfl 1 rfl dX7_rate_27 ?_
        obtain ⟨x3, P4, hc4, h⟩ := bn2_e h
        refine r_callVi hX hR (c_X7_holds (σ := σ) X.2.1 G hc4) rfl rfl mf_X7_holds ml_X7_350 in_X7_holds se_X7_holds rfl rfl ⟨rfl, rfl, Nat.le_of_ble_eq_true rfl, Nat.le_of_ble_eq_true rfl⟩ rfl (st := []) rfl (Nat.le_of_ble_eq_true rfl) dX7_rate_28 ?_
        refine r_if_ne hX dX7_rate_31 (fun hc => ?_) (fun hc => ?_)
        · replace h := in_e hc h
          refine r_iload_n hX rfl 2 rfl dX7_rate_37 ?_
          refine r_aload_n hX rfl 0 rfl dX7_rate_38 ?_
          refine gf_7_20 (o := 17) hX fl_X7_71 rfl m1_g dX7_rate_39 ?_
          refine r_iload_n hX rfl 3 rfl dX7_rate_42 ?_
          obtain ⟨hk5, h⟩ := kc_e h
          refine ga_7_21 (o := 17) hX rfl m1_g hk5 dX7_rate_43 ?_
          refine r_if_ne hX dX7_rate_44 (fun hc => ?_) (fun hc => ?_)
          · replace h := in_e hc h
            refine r_aload_n hX rfl 0 rfl dX7_rate_56 ?_
            refine gf_7_21 (o := 17) hX fl_X7_74 rfl m1_g dX7_rate_57 ?_
            refine r_iload_n hX rfl 3 rfl dX7_rate_60 ?_
            obtain ⟨hk6, h⟩ := kc_e h
            refine ga_7_22 (o := 17) hX rfl m1_g hk6 dX7_rate_61 ?_
            refine r_ineg hX dX7_rate_62 ?_
            exact WW.sub [0, 1, 3] rfl (K63 P4 v3 (-(P4 22 (ix v3))) v2 trivial h)
          · replace h := ip_e hc h
            refine r_aload_n hX rfl 0 rfl dX7_rate_47 ?_
            refine gf_7_21 (o := 17) hX fl_X7_74 rfl m1_g dX7_rate_48 ?_
            refine r_iload_n hX rfl 3 rfl dX7_rate_51 ?_
            obtain ⟨hk7, h⟩ := kc_e h
            refine ga_7_22 (o := 17) hX rfl m1_g hk7 dX7_rate_52 ?_
            refine r_goto hX dX7_rate_53 ?_
            exact WW.sub [0, 1, 3] rfl (K63 P4 v3 (P4 22 (ix v3)) v2 trivial h)
        · replace h := ip_e hc h
          refine r_goto hX dX7_rate_34 ?_
          exact WW.sub [0, 1, 2, 3] rfl (K65 P4 v2 v3 trivial h)
  unfold f_X7_rate at h
  refine r_iconst (v := 1) hX (by decide) dX7_rate_0 ?_
  refine r_istore_n (L2 := [(2, .int 1), (0, .ref (gA G 17 0)), (1, .int a1)]) hX rfl (by decide) rfl dX7_rate_1 ?_
  refine r_aload_n hX rfl 1 rfl dX7_rate_2 ?_
  obtain ⟨x8, hc8, h⟩ := bn_e h
  refine r_callVi hX hR (c_X7_begin (σ := σ) X.2.1 G hc8) rfl rfl mf_X7_begin ml_X7_338 in_X7_begin se_X7_begin rfl rfl ⟨rfl, rfl, Nat.le_of_ble_eq_true rfl, Nat.le_of_ble_eq_true rfl⟩ rfl (st := []) rfl (Nat.le_of_ble_eq_true rfl) dX7_rate_3 ?_
  refine r_istore_n (L2 := [(3, .int x8), (2, .int 1), (0, .ref (gA G 17 0)), (1, .int a1)]) hX rfl (by decide) rfl dX7_rate_6 ?_
  exact WW.sub [2, 3, 1, 0] rfl (K7 P a1 1 x8 trivial h)
abbrev rm_X7_asks : Room := { frames := 3, cells := 0, slots := 0, locals := 124 }
def f_X7_asks_J115 (P : Pm) (v1 : Int32) : Option (Int32) :=
  (if inb v1 6 = true then some (P 6 (ix v1)) else none)
def f_X7_asks (P : Pm) (a1 : Int32) : Option (Int32) :=
  (if inb a1 6 = true then (if (P 4 (ix a1)) = 2 then (if inb a1 6 = true then some (2 * (P 6 (ix a1))) else none) else (if (P 4 (ix a1)) = 5 then Option.bind (f_X7_mark P) (fun x4 => (if 0 ≤ ((P 0 0) - x4) then (if inb a1 6 = true then (if (2 * (P 6 (ix a1))) ≤ ((P 0 0) - x4) then (if inb a1 6 = true then some (2 * (P 6 (ix a1))) else none) else some ((P 0 0) - x4)) else none) else some 0)) else (if (P 4 (ix a1)) = 6 then (if inb a1 6 = true then (if inb ((4 * a1) + ((P 0 2) - (P 0 2) / 4 * 4)) 24 = true then some ((P 6 (ix a1)) + (P 12 (ix ((4 * a1) + ((P 0 2) - (P 0 2) / 4 * 4))))) else none) else none) else f_X7_asks_J115 P a1))) else none)
set_option maxHeartbeats 4000000 in
set_option maxRecDepth 100000 in
theorem c_X7_asks (l : Launch) (G : GE) {σ : Mm} {lm : Ml}  {P : Pm} {a1 : Int32} {rz : Int32} (h : f_X7_asks P a1 = some rz) : CM l G yX7_asks bX7_asks 3 (Option.some Jvm.ClassFile.FieldType.int) rm_X7_asks [.ref (gA G 17 0), .int a1] (m1 σ 17 P) lm (some (.int rz)) (m1 σ 17 P) lm := by
  refine CM.of (own := zR7) (L0 := [(0, .ref (gA G 17 0)), (1, .int a1)]) (by decide +kernel) rfl (Nat.le_of_ble_eq_true rfl) rfl (fun X hl hX hR hQ => ?_)
  have K115 : ∀ (v1 : Int32) (_ : True), f_X7_asks_J115 P v1 = some rz → WW X G 3 (m1 σ 17 P) lm 115 [(0, .ref (gA G 17 0)), (1, .int v1)] [] := by
    intro v1 _ h
    unfold f_X7_asks_J115 at h
    refine r_aload_n hX rfl 0 rfl dX7_asks_115 ?_
    refine gf_7_5 (o := 17) hX fl_X7_26 rfl m1_g dX7_asks_116 ?_
    refine r_iload_n hX rfl 1 rfl dX7_asks_119 ?_
    obtain ⟨hk1, h⟩ := kc_e h
    refine ga_7_6 (o := 17) hX rfl m1_g hk1 dX7_asks_120 ?_
    have g0 := Option.some.inj h
    subst g0
    exact r_iret hX hQ dX7_asks_121
  unfold f_X7_asks at h
  refine r_aload_n hX rfl 0 rfl dX7_asks_0 ?_
  refine gf_7_3 (o := 17) hX fl_X7_19 rfl m1_g dX7_asks_1 ?_
  refine r_iload_n hX rfl 1 rfl dX7_asks_4 ?_
  obtain ⟨hk2, h⟩ := kc_e h
  refine ga_7_4 (o := 17) hX rfl m1_g hk2 dX7_asks_5 ?_
  by_cases hc0 : (P 4 (ix a1)) = 2
  · replace h := ip_e hc0 h
    refine r_tswI (k := 2) (off := 34) (tgt := 40) hX hc0 (by decide) (by decide) (by decide) dX7_asks_6 ?_
    refine r_iconst (v := 2) hX (by decide) dX7_asks_40 ?_
    refine r_aload_n hX rfl 0 rfl dX7_asks_41 ?_
    refine gf_7_5 (o := 17) hX fl_X7_26 rfl m1_g dX7_asks_42 ?_
    refine r_iload_n hX rfl 1 rfl dX7_asks_45 ?_
    obtain ⟨hk3, h⟩ := kc_e h
    refine ga_7_6 (o := 17) hX rfl m1_g hk3 dX7_asks_46 ?_
    refine r_imul hX dX7_asks_47 ?_
    have g0 := Option.some.inj h
    subst g0
    exact r_iret hX hQ dX7_asks_48
  · replace h := in_e hc0 h
    by_cases hc1 : (P 4 (ix a1)) = 5
    · replace h := ip_e hc1 h
      refine r_tswI (k := 5) (off := 43) (tgt := 49) hX hc1 (by decide) (by decide) (by decide) dX7_asks_6 ?_
      refine r_aload_n hX rfl 0 rfl dX7_asks_49 ?_
      refine gf_7_0 (o := 17) hX fl_X7_7 rfl m1_g dX7_asks_50 ?_
      refine r_aload_n hX rfl 0 rfl dX7_asks_53 ?_
      obtain ⟨x4, hc4, h⟩ := bn_e h
      refine r_callVi hX hR (c_X7_mark (σ := σ) X.2.1 G hc4) rfl rfl mf_X7_mark ml_X7_353 in_X7_mark se_X7_mark rfl rfl ⟨rfl, rfl, Nat.le_of_ble_eq_true rfl, Nat.le_of_ble_eq_true rfl⟩ rfl (st := [.int (P 0 0)]) rfl (Nat.le_of_ble_eq_true rfl) dX7_asks_54 ?_
      refine r_isub hX dX7_asks_57 ?_
      refine r_istore_n (L2 := [(2, .int ((P 0 0) - x4)), (0, .ref (gA G 17 0)), (1, .int a1)]) hX rfl (by decide) rfl dX7_asks_58 ?_
      refine r_iload_n hX rfl 0 rfl dX7_asks_59 ?_
      refine r_if_ge hX dX7_asks_60 (fun hc => ?_) (fun hc => ?_)
      · replace h := ip_e hc h
        refine r_iload_n hX rfl 0 rfl dX7_asks_67 ?_
        refine r_iconst (v := 2) hX (by decide) dX7_asks_68 ?_
        refine r_aload_n hX rfl 1 rfl dX7_asks_69 ?_
        refine gf_7_5 (o := 17) hX fl_X7_26 rfl m1_g dX7_asks_70 ?_
        refine r_iload_n hX rfl 2 rfl dX7_asks_73 ?_
        obtain ⟨hk5, h⟩ := kc_e h
        refine ga_7_6 (o := 17) hX rfl m1_g hk5 dX7_asks_74 ?_
        refine r_imul hX dX7_asks_75 ?_
        refine r_icmp_ge hX dX7_asks_76 (fun hc => ?_) (fun hc => ?_)
        · replace h := ip_e hc h
          refine r_iconst (v := 2) hX (by decide) dX7_asks_83 ?_
          refine r_aload_n hX rfl 1 rfl dX7_asks_84 ?_
          refine gf_7_5 (o := 17) hX fl_X7_26 rfl m1_g dX7_asks_85 ?_
          refine r_iload_n hX rfl 2 rfl dX7_asks_88 ?_
          obtain ⟨hk6, h⟩ := kc_e h
          refine ga_7_6 (o := 17) hX rfl m1_g hk6 dX7_asks_89 ?_
          refine r_imul hX dX7_asks_90 ?_
          have g0 := Option.some.inj h
          subst g0
          exact r_iret hX hQ dX7_asks_91
        · replace h := in_e hc h
          refine r_iload_n hX rfl 0 rfl dX7_asks_79 ?_
          refine r_goto hX dX7_asks_80 ?_
          have g0 := Option.some.inj h
          subst g0
          exact r_iret hX hQ dX7_asks_91
      · replace h := in_e hc h
        refine r_iconst (v := 0) hX (by decide) dX7_asks_63 ?_
        refine r_goto hX dX7_asks_64 ?_
        have g0 := Option.some.inj h
        subst g0
        exact r_iret hX hQ dX7_asks_91
    · replace h := in_e hc1 h
      by_cases hc2 : (P 4 (ix a1)) = 6
      · replace h := ip_e hc2 h
        refine r_tswI (k := 6) (off := 86) (tgt := 92) hX hc2 (by decide) (by decide) (by decide) dX7_asks_6 ?_
        refine r_aload_n hX rfl 0 rfl dX7_asks_92 ?_
        refine gf_7_5 (o := 17) hX fl_X7_26 rfl m1_g dX7_asks_93 ?_
        refine r_iload_n hX rfl 1 rfl dX7_asks_96 ?_
        obtain ⟨hk7, h⟩ := kc_e h
        refine ga_7_6 (o := 17) hX rfl m1_g hk7 dX7_asks_97 ?_
        refine r_aload_n hX rfl 0 rfl dX7_asks_98 ?_
        refine gf_7_11 (o := 17) hX fl_X7_44 rfl m1_g dX7_asks_99 ?_
        refine r_iconst (v := 4) hX (by decide) dX7_asks_102 ?_
        refine r_iload_n hX rfl 1 rfl dX7_asks_103 ?_
        refine r_imul hX dX7_asks_104 ?_
        refine r_aload_n hX rfl 0 rfl dX7_asks_105 ?_
        refine gf_7_2 (o := 17) hX fl_X7_16 rfl m1_g dX7_asks_106 ?_
        refine r_iconst (v := 4) hX (by decide) dX7_asks_109 ?_
        refine r_irem hX (by decide) dX7_asks_110 ?_
        refine r_iadd hX dX7_asks_111 ?_
        obtain ⟨hk8, h⟩ := kc_e h
        refine ga_7_12 (o := 17) hX rfl m1_g hk8 dX7_asks_112 ?_
        refine r_iadd hX dX7_asks_113 ?_
        have g0 := Option.some.inj h
        subst g0
        exact r_iret hX hQ dX7_asks_114
      · replace h := in_e hc2 h
        have hD : WW X G 3 (m1 σ 17 P) lm 115 [(0, .ref (gA G 17 0)), (1, .int a1)] [] := by
          exact WW.sub [0, 1] rfl (K115 a1 trivial h)
        by_cases hg0 : (P 4 (ix a1)) = 3
        · exact r_tswI (k := 3) (off := 109) (tgt := 115) hX hg0 (by decide) (by decide) (by decide) dX7_asks_6 hD
        by_cases hg1 : (P 4 (ix a1)) = 4
        · exact r_tswI (k := 4) (off := 109) (tgt := 115) hX hg1 (by decide) (by decide) (by decide) dX7_asks_6 hD
        refine r_tswD (tgt := 115) hX ?_ (by decide) dX7_asks_6 hD
        have j0 := i32n (n := 2) hc0 rfl
        have j1 := i32n (n := 5) hc1 rfl
        have j2 := i32n (n := 6) hc2 rfl
        have j3 := i32n (n := 3) hg0 rfl
        have j4 := i32n (n := 4) hg1 rfl
        omega
abbrev rm_X7_keeps : Room := { frames := 0, cells := 0, slots := 0, locals := 60 }
def f_X7_keeps_J20 (P : Pm) (v1 : Int32) : Option (Int32) :=
  (if inb v1 6 = true then some (3 + (P 5 (ix v1))) else none)
def f_X7_keeps (P : Pm) (a1 : Int32) : Option (Int32) :=
  (if inb a1 6 = true then (if (P 4 (ix a1)) = 1 then f_X7_keeps_J20 P a1 else (if inb a1 6 = true then (if (P 4 (ix a1)) = 4 then f_X7_keeps_J20 P a1 else some 3) else none)) else none)
set_option maxHeartbeats 4000000 in
set_option maxRecDepth 100000 in
theorem c_X7_keeps (l : Launch) (G : GE) {σ : Mm} {lm : Ml}  {P : Pm} {a1 : Int32} {rz : Int32} (h : f_X7_keeps P a1 = some rz) : CM l G yX7_keeps bX7_keeps 2 (Option.some Jvm.ClassFile.FieldType.int) rm_X7_keeps [.ref (gA G 17 0), .int a1] (m1 σ 17 P) lm (some (.int rz)) (m1 σ 17 P) lm := by
  refine CM.of (own := zR7) (L0 := [(0, .ref (gA G 17 0)), (1, .int a1)]) (by decide +kernel) rfl (Nat.le_of_ble_eq_true rfl) rfl (fun X hl hX hR hQ => ?_)
  have K20 : ∀ (v1 : Int32) (_ : True), f_X7_keeps_J20 P v1 = some rz → WW X G 2 (m1 σ 17 P) lm 20 [(0, .ref (gA G 17 0)), (1, .int v1)] [] := by
    intro v1 _ h
    unfold f_X7_keeps_J20 at h
    refine r_iconst (v := 3) hX (by decide) dX7_keeps_20 ?_
    refine r_aload_n hX rfl 0 rfl dX7_keeps_21 ?_
    refine gf_7_4 (o := 17) hX fl_X7_23 rfl m1_g dX7_keeps_22 ?_
    refine r_iload_n hX rfl 1 rfl dX7_keeps_25 ?_
    obtain ⟨hk1, h⟩ := kc_e h
    refine ga_7_5 (o := 17) hX rfl m1_g hk1 dX7_keeps_26 ?_
    refine r_iadd hX dX7_keeps_27 ?_
    refine r_goto hX dX7_keeps_28 ?_
    have g0 := Option.some.inj h
    subst g0
    exact r_iret hX hQ dX7_keeps_32
  unfold f_X7_keeps at h
  refine r_aload_n hX rfl 0 rfl dX7_keeps_0 ?_
  refine gf_7_3 (o := 17) hX fl_X7_19 rfl m1_g dX7_keeps_1 ?_
  refine r_iload_n hX rfl 1 rfl dX7_keeps_4 ?_
  obtain ⟨hk2, h⟩ := kc_e h
  refine ga_7_4 (o := 17) hX rfl m1_g hk2 dX7_keeps_5 ?_
  refine r_iconst (v := 1) hX (by decide) dX7_keeps_6 ?_
  refine r_icmp_eq hX dX7_keeps_7 (fun hc => ?_) (fun hc => ?_)
  · replace h := ip_e hc h
    exact WW.sub [0, 1] rfl (K20 a1 trivial h)
  · replace h := in_e hc h
    refine r_aload_n hX rfl 0 rfl dX7_keeps_10 ?_
    refine gf_7_3 (o := 17) hX fl_X7_19 rfl m1_g dX7_keeps_11 ?_
    refine r_iload_n hX rfl 1 rfl dX7_keeps_14 ?_
    obtain ⟨hk3, h⟩ := kc_e h
    refine ga_7_4 (o := 17) hX rfl m1_g hk3 dX7_keeps_15 ?_
    refine r_iconst (v := 4) hX (by decide) dX7_keeps_16 ?_
    refine r_icmp_ne hX dX7_keeps_17 (fun hc => ?_) (fun hc => ?_)
    · replace h := in_e hc h
      refine r_iconst (v := 3) hX (by decide) dX7_keeps_31 ?_
      have g0 := Option.some.inj h
      subst g0
      exact r_iret hX hQ dX7_keeps_32
    · replace h := ip_e hc h
      exact WW.sub [0, 1] rfl (K20 a1 trivial h)
abbrev rm_X7_staysAway : Room := { frames := 0, cells := 0, slots := 0, locals := 60 }
def f_X7_staysAway (P : Pm) (a1 : Int32) : Option (Int32) :=
  (if inb a1 6 = true then (if (P 4 (ix a1)) = 4 then (if inb a1 6 = true then (if (P 10 (ix a1)) ≤ 30 then some 0 else some 1) else none) else some 0) else none)
set_option maxHeartbeats 4000000 in
set_option maxRecDepth 100000 in
theorem c_X7_staysAway (l : Launch) (G : GE) {σ : Mm} {lm : Ml}  {P : Pm} {a1 : Int32} {rz : Int32} (h : f_X7_staysAway P a1 = some rz) : CM l G yX7_staysAway bX7_staysAway 2 (Option.some Jvm.ClassFile.FieldType.boolean) rm_X7_staysAway [.ref (gA G 17 0), .int a1] (m1 σ 17 P) lm (some (.int rz)) (m1 σ 17 P) lm := by
  refine CM.of (own := zR7) (L0 := [(0, .ref (gA G 17 0)), (1, .int a1)]) (by decide +kernel) rfl (Nat.le_of_ble_eq_true rfl) rfl (fun X hl hX hR hQ => ?_)
  unfold f_X7_staysAway at h
  refine r_aload_n hX rfl 0 rfl dX7_staysAway_0 ?_
  refine gf_7_3 (o := 17) hX fl_X7_19 rfl m1_g dX7_staysAway_1 ?_
  refine r_iload_n hX rfl 1 rfl dX7_staysAway_4 ?_
  obtain ⟨hk1, h⟩ := kc_e h
  refine ga_7_4 (o := 17) hX rfl m1_g hk1 dX7_staysAway_5 ?_
  refine r_iconst (v := 4) hX (by decide) dX7_staysAway_6 ?_
  refine r_icmp_ne hX dX7_staysAway_7 (fun hc => ?_) (fun hc => ?_)
  · replace h := in_e hc h
    refine r_iconst (v := 0) hX (by decide) dX7_staysAway_25 ?_
    have g0 := Option.some.inj h
    subst g0
    exact r_zret hX (Or.inl rfl) hQ dX7_staysAway_26
  · replace h := ip_e hc h
    refine r_aload_n hX rfl 0 rfl dX7_staysAway_10 ?_
    refine gf_7_9 (o := 17) hX fl_X7_38 rfl m1_g dX7_staysAway_11 ?_
    refine r_iload_n hX rfl 1 rfl dX7_staysAway_14 ?_
    obtain ⟨hk2, h⟩ := kc_e h
    refine ga_7_10 (o := 17) hX rfl m1_g hk2 dX7_staysAway_15 ?_
    refine r_bipush (v := 30) hX (by decide) dX7_staysAway_16 ?_
    refine r_icmp_le hX dX7_staysAway_18 (fun hc => ?_) (fun hc => ?_)
    · replace h := ip_e hc h
      refine r_iconst (v := 0) hX (by decide) dX7_staysAway_25 ?_
      have g0 := Option.some.inj h
      subst g0
      exact r_zret hX (Or.inl rfl) hQ dX7_staysAway_26
    · replace h := in_e hc h
      refine r_iconst (v := 1) hX (by decide) dX7_staysAway_21 ?_
      refine r_goto hX dX7_staysAway_22 ?_
      have g0 := Option.some.inj h
      subst g0
      exact r_zret hX (Or.inr rfl) hQ dX7_staysAway_26
abbrev rm_X7_brings : Room := { frames := 0, cells := 0, slots := 0, locals := 60 }
def f_X7_brings_J21 (P : Pm) (v1 : Int32) : Option (Int32) :=
  (if inb v1 6 = true then (if inb v1 6 = true then some ((P 8 (ix v1)) - ((P 8 (ix v1)) / 10)) else none) else none)
def f_X7_brings (P : Pm) (a1 : Int32) : Option (Int32) :=
  (if inb a1 6 = true then (if (P 4 (ix a1)) = 3 then f_X7_brings_J21 P a1 else (if inb a1 6 = true then (if (P 4 (ix a1)) = 6 then f_X7_brings_J21 P a1 else (if inb a1 6 = true then some (P 8 (ix a1)) else none)) else none)) else none)
set_option maxHeartbeats 4000000 in
set_option maxRecDepth 100000 in
theorem c_X7_brings (l : Launch) (G : GE) {σ : Mm} {lm : Ml}  {P : Pm} {a1 : Int32} {rz : Int32} (h : f_X7_brings P a1 = some rz) : CM l G yX7_brings bX7_brings 2 (Option.some Jvm.ClassFile.FieldType.int) rm_X7_brings [.ref (gA G 17 0), .int a1] (m1 σ 17 P) lm (some (.int rz)) (m1 σ 17 P) lm := by
  refine CM.of (own := zR7) (L0 := [(0, .ref (gA G 17 0)), (1, .int a1)]) (by decide +kernel) rfl (Nat.le_of_ble_eq_true rfl) rfl (fun X hl hX hR hQ => ?_)
  have K21 : ∀ (v1 : Int32) (_ : True), f_X7_brings_J21 P v1 = some rz → WW X G 2 (m1 σ 17 P) lm 21 [(0, .ref (gA G 17 0)), (1, .int v1)] [] := by
    intro v1 _ h
    unfold f_X7_brings_J21 at h
    refine r_aload_n hX rfl 0 rfl dX7_brings_21 ?_
    refine gf_7_7 (o := 17) hX fl_X7_32 rfl m1_g dX7_brings_22 ?_
    refine r_iload_n hX rfl 1 rfl dX7_brings_25 ?_
    obtain ⟨hk1, h⟩ := kc_e h
    refine ga_7_8 (o := 17) hX rfl m1_g hk1 dX7_brings_26 ?_
    refine r_aload_n hX rfl 0 rfl dX7_brings_27 ?_
    refine gf_7_7 (o := 17) hX fl_X7_32 rfl m1_g dX7_brings_28 ?_
    refine r_iload_n hX rfl 1 rfl dX7_brings_31 ?_
    obtain ⟨hk2, h⟩ := kc_e h
    refine ga_7_8 (o := 17) hX rfl m1_g hk2 dX7_brings_32 ?_
    refine r_bipush (v := 10) hX (by decide) dX7_brings_33 ?_
    refine r_idiv hX (by decide) dX7_brings_35 ?_
    refine r_isub hX dX7_brings_36 ?_
    refine r_goto hX dX7_brings_37 ?_
    have g0 := Option.some.inj h
    subst g0
    exact r_iret hX hQ dX7_brings_46
  unfold f_X7_brings at h
  refine r_aload_n hX rfl 0 rfl dX7_brings_0 ?_
  refine gf_7_3 (o := 17) hX fl_X7_19 rfl m1_g dX7_brings_1 ?_
  refine r_iload_n hX rfl 1 rfl dX7_brings_4 ?_
  obtain ⟨hk3, h⟩ := kc_e h
  refine ga_7_4 (o := 17) hX rfl m1_g hk3 dX7_brings_5 ?_
  refine r_iconst (v := 3) hX (by decide) dX7_brings_6 ?_
  refine r_icmp_eq hX dX7_brings_7 (fun hc => ?_) (fun hc => ?_)
  · replace h := ip_e hc h
    exact WW.sub [0, 1] rfl (K21 a1 trivial h)
  · replace h := in_e hc h
    refine r_aload_n hX rfl 0 rfl dX7_brings_10 ?_
    refine gf_7_3 (o := 17) hX fl_X7_19 rfl m1_g dX7_brings_11 ?_
    refine r_iload_n hX rfl 1 rfl dX7_brings_14 ?_
    obtain ⟨hk4, h⟩ := kc_e h
    refine ga_7_4 (o := 17) hX rfl m1_g hk4 dX7_brings_15 ?_
    refine r_bipush (v := 6) hX (by decide) dX7_brings_16 ?_
    refine r_icmp_ne hX dX7_brings_18 (fun hc => ?_) (fun hc => ?_)
    · replace h := in_e hc h
      refine r_aload_n hX rfl 0 rfl dX7_brings_40 ?_
      refine gf_7_7 (o := 17) hX fl_X7_32 rfl m1_g dX7_brings_41 ?_
      refine r_iload_n hX rfl 1 rfl dX7_brings_44 ?_
      obtain ⟨hk5, h⟩ := kc_e h
      refine ga_7_8 (o := 17) hX rfl m1_g hk5 dX7_brings_45 ?_
      have g0 := Option.some.inj h
      subst g0
      exact r_iret hX hQ dX7_brings_46
    · replace h := ip_e hc h
      exact WW.sub [0, 1] rfl (K21 a1 trivial h)
abbrev rm_X7_of : Room := { frames := 4, cells := 0, slots := 0, locals := 146 }
def f_X7_of (P : Pm) (a1 : Int32) (a2 : Int32) : Option (Int32 × Pm) :=
  Option.bind (f_X7_isBorrower P a1) (fun x1 => (if x1 = 0 then some ((-1), P) else (if a2 = 0 then (if inb a1 6 = true then some ((P 4 (ix a1)), P) else none) else (if a2 = 1 then (if inb a1 6 = true then some ((P 5 (ix a1)), P) else none) else (if a2 = 2 then (if inb a1 6 = true then some ((P 6 (ix a1)), P) else none) else (if a2 = 3 then (if inb a1 6 = true then some ((P 7 (ix a1)), P) else none) else (if a2 = 4 then (if inb a1 6 = true then some ((P 8 (ix a1)), P) else none) else (if a2 = 5 then (if inb a1 6 = true then some ((P 9 (ix a1)), P) else none) else (if a2 = 6 then (if inb a1 6 = true then some ((P 10 (ix a1)), P) else none) else (if a2 = 7 then (if inb a1 6 = true then some ((P 11 (ix a1)), P) else none) else (if a2 = 8 then bn2 (f_X7_rate P a1) (fun x10 P11 => some (x10, P11)) else (if a2 = 9 then Option.bind (f_X7_asks P a1) (fun x12 => some (x12, P)) else (if a2 = 10 then Option.bind (f_X7_keeps P a1) (fun x13 => some (x13, P)) else (if a2 = 11 then Option.bind (f_X7_staysAway P a1) (fun x14 => (if x14 = 0 then some (0, P) else some (1, P))) else (if a2 = 12 then Option.bind (f_X7_brings P a1) (fun x15 => some (x15, P)) else some ((-1), P))))))))))))))))
set_option maxHeartbeats 4000000 in
set_option maxRecDepth 100000 in
theorem c_X7_of (l : Launch) (G : GE) {σ : Mm} {lm : Ml}  {P : Pm} {a1 : Int32} {a2 : Int32} {rz : Int32} {Pz : Pm} (h : f_X7_of P a1 a2 = some (rz, Pz)) : CM l G yX7_of bX7_of 3 (Option.some Jvm.ClassFile.FieldType.int) rm_X7_of [.ref (gA G 17 0), .int a1, .int a2] (m1 σ 17 P) lm (some (.int rz)) (m1 σ 17 Pz) lm := by
  refine CM.of (own := zR7) (L0 := [(0, .ref (gA G 17 0)), (1, .int a1), (2, .int a2)]) (by decide +kernel) rfl (Nat.le_of_ble_eq_true rfl) rfl (fun X hl hX hR hQ => ?_)
  unfold f_X7_of at h
  refine r_aload_n hX rfl 0 rfl dX7_of_0 ?_
  refine r_iload_n hX rfl 1 rfl dX7_of_1 ?_
  obtain ⟨x1, hc1, h⟩ := bn_e h
  refine r_callVi hX hR (c_X7_isBorrower (σ := σ) X.2.1 G hc1) rfl rfl mf_X7_isBorrower ml_X7_274 in_X7_isBorrower se_X7_isBorrower rfl rfl ⟨rfl, rfl, Nat.le_of_ble_eq_true rfl, Nat.le_of_ble_eq_true rfl⟩ rfl (st := []) rfl (Nat.le_of_ble_eq_true rfl) dX7_of_2 ?_
  refine r_if_ne hX dX7_of_5 (fun hc => ?_) (fun hc => ?_)
  · replace h := in_e hc h
    refine r_iload_n hX rfl 2 rfl dX7_of_10 ?_
    by_cases hc0 : a2 = 0
    · replace h := ip_e hc0 h
      refine r_tswI (k := 0) (off := 65) (tgt := 76) hX hc0 (by decide) (by decide) (by decide) dX7_of_11 ?_
      refine r_aload_n hX rfl 0 rfl dX7_of_76 ?_
      refine gf_7_3 (o := 17) hX fl_X7_19 rfl m1_g dX7_of_77 ?_
      refine r_iload_n hX rfl 1 rfl dX7_of_80 ?_
      obtain ⟨hk2, h⟩ := kc_e h
      refine ga_7_4 (o := 17) hX rfl m1_g hk2 dX7_of_81 ?_
      have g0 := Option.some.inj h
      obtain ⟨q0, g1⟩ := Prod.mk.inj g0
      subst q0
      subst g1
      exact r_iret hX hQ dX7_of_82
    · replace h := in_e hc0 h
      by_cases hc1 : a2 = 1
      · replace h := ip_e hc1 h
        refine r_tswI (k := 1) (off := 72) (tgt := 83) hX hc1 (by decide) (by decide) (by decide) dX7_of_11 ?_
        refine r_aload_n hX rfl 0 rfl dX7_of_83 ?_
        refine gf_7_4 (o := 17) hX fl_X7_23 rfl m1_g dX7_of_84 ?_
        refine r_iload_n hX rfl 1 rfl dX7_of_87 ?_
        obtain ⟨hk3, h⟩ := kc_e h
        refine ga_7_5 (o := 17) hX rfl m1_g hk3 dX7_of_88 ?_
        have g0 := Option.some.inj h
        obtain ⟨q0, g1⟩ := Prod.mk.inj g0
        subst q0
        subst g1
        exact r_iret hX hQ dX7_of_89
      · replace h := in_e hc1 h
        by_cases hc2 : a2 = 2
        · replace h := ip_e hc2 h
          refine r_tswI (k := 2) (off := 79) (tgt := 90) hX hc2 (by decide) (by decide) (by decide) dX7_of_11 ?_
          refine r_aload_n hX rfl 0 rfl dX7_of_90 ?_
          refine gf_7_5 (o := 17) hX fl_X7_26 rfl m1_g dX7_of_91 ?_
          refine r_iload_n hX rfl 1 rfl dX7_of_94 ?_
          obtain ⟨hk4, h⟩ := kc_e h
          refine ga_7_6 (o := 17) hX rfl m1_g hk4 dX7_of_95 ?_
          have g0 := Option.some.inj h
          obtain ⟨q0, g1⟩ := Prod.mk.inj g0
          subst q0
          subst g1
          exact r_iret hX hQ dX7_of_96
        · replace h := in_e hc2 h
          by_cases hc3 : a2 = 3
          · replace h := ip_e hc3 h
            refine r_tswI (k := 3) (off := 86) (tgt := 97) hX hc3 (by decide) (by decide) (by decide) dX7_of_11 ?_
            refine r_aload_n hX rfl 0 rfl dX7_of_97 ?_
            refine gf_7_6 (o := 17) hX fl_X7_29 rfl m1_g dX7_of_98 ?_
            refine r_iload_n hX rfl 1 rfl dX7_of_101 ?_
            obtain ⟨hk5, h⟩ := kc_e h
            refine ga_7_7 (o := 17) hX rfl m1_g hk5 dX7_of_102 ?_
            have g0 := Option.some.inj h
            obtain ⟨q0, g1⟩ := Prod.mk.inj g0
            subst q0
            subst g1
            exact r_iret hX hQ dX7_of_103
          · replace h := in_e hc3 h
            by_cases hc4 : a2 = 4
            · replace h := ip_e hc4 h
              refine r_tswI (k := 4) (off := 93) (tgt := 104) hX hc4 (by decide) (by decide) (by decide) dX7_of_11 ?_
              refine r_aload_n hX rfl 0 rfl dX7_of_104 ?_
              refine gf_7_7 (o := 17) hX fl_X7_32 rfl m1_g dX7_of_105 ?_
              refine r_iload_n hX rfl 1 rfl dX7_of_108 ?_
              obtain ⟨hk6, h⟩ := kc_e h
              refine ga_7_8 (o := 17) hX rfl m1_g hk6 dX7_of_109 ?_
              have g0 := Option.some.inj h
              obtain ⟨q0, g1⟩ := Prod.mk.inj g0
              subst q0
              subst g1
              exact r_iret hX hQ dX7_of_110
            · replace h := in_e hc4 h
              by_cases hc5 : a2 = 5
              · replace h := ip_e hc5 h
                refine r_tswI (k := 5) (off := 100) (tgt := 111) hX hc5 (by decide) (by decide) (by decide) dX7_of_11 ?_
                refine r_aload_n hX rfl 0 rfl dX7_of_111 ?_
                refine gf_7_8 (o := 17) hX fl_X7_35 rfl m1_g dX7_of_112 ?_
                refine r_iload_n hX rfl 1 rfl dX7_of_115 ?_
                obtain ⟨hk7, h⟩ := kc_e h
                refine ga_7_9 (o := 17) hX rfl m1_g hk7 dX7_of_116 ?_
                have g0 := Option.some.inj h
                obtain ⟨q0, g1⟩ := Prod.mk.inj g0
                subst q0
                subst g1
                exact r_iret hX hQ dX7_of_117
              · replace h := in_e hc5 h
                by_cases hc6 : a2 = 6
                · replace h := ip_e hc6 h
                  refine r_tswI (k := 6) (off := 107) (tgt := 118) hX hc6 (by decide) (by decide) (by decide) dX7_of_11 ?_
                  refine r_aload_n hX rfl 0 rfl dX7_of_118 ?_
                  refine gf_7_9 (o := 17) hX fl_X7_38 rfl m1_g dX7_of_119 ?_
                  refine r_iload_n hX rfl 1 rfl dX7_of_122 ?_
                  obtain ⟨hk8, h⟩ := kc_e h
                  refine ga_7_10 (o := 17) hX rfl m1_g hk8 dX7_of_123 ?_
                  have g0 := Option.some.inj h
                  obtain ⟨q0, g1⟩ := Prod.mk.inj g0
                  subst q0
                  subst g1
                  exact r_iret hX hQ dX7_of_124
                · replace h := in_e hc6 h
                  by_cases hc7 : a2 = 7
                  · replace h := ip_e hc7 h
                    refine r_tswI (k := 7) (off := 114) (tgt := 125) hX hc7 (by decide) (by decide) (by decide) dX7_of_11 ?_
                    refine r_aload_n hX rfl 0 rfl dX7_of_125 ?_
                    refine gf_7_10 (o := 17) hX fl_X7_41 rfl m1_g dX7_of_126 ?_
                    refine r_iload_n hX rfl 1 rfl dX7_of_129 ?_
                    obtain ⟨hk9, h⟩ := kc_e h
                    refine ga_7_11 (o := 17) hX rfl m1_g hk9 dX7_of_130 ?_
                    have g0 := Option.some.inj h
                    obtain ⟨q0, g1⟩ := Prod.mk.inj g0
                    subst q0
                    subst g1
                    exact r_iret hX hQ dX7_of_131
                  · replace h := in_e hc7 h
                    by_cases hc8 : a2 = 8
                    · replace h := ip_e hc8 h
                      refine r_tswI (k := 8) (off := 121) (tgt := 132) hX hc8 (by decide) (by decide) (by decide) dX7_of_11 ?_
                      refine r_aload_n hX rfl 0 rfl dX7_of_132 ?_
                      refine r_iload_n hX rfl 1 rfl dX7_of_133 ?_
                      obtain ⟨x10, P11, hc11, h⟩ := bn2_e h
                      refine r_callVi hX hR (c_X7_rate (σ := σ) X.2.1 G hc11) rfl rfl mf_X7_rate ml_X7_356 in_X7_rate se_X7_rate rfl rfl ⟨rfl, rfl, Nat.le_of_ble_eq_true rfl, Nat.le_of_ble_eq_true rfl⟩ rfl (st := []) rfl (Nat.le_of_ble_eq_true rfl) dX7_of_134 ?_
                      have g0 := Option.some.inj h
                      obtain ⟨q0, g1⟩ := Prod.mk.inj g0
                      subst q0
                      subst g1
                      exact r_iret hX hQ dX7_of_137
                    · replace h := in_e hc8 h
                      by_cases hc9 : a2 = 9
                      · replace h := ip_e hc9 h
                        refine r_tswI (k := 9) (off := 127) (tgt := 138) hX hc9 (by decide) (by decide) (by decide) dX7_of_11 ?_
                        refine r_aload_n hX rfl 0 rfl dX7_of_138 ?_
                        refine r_iload_n hX rfl 1 rfl dX7_of_139 ?_
                        obtain ⟨x12, hc12, h⟩ := bn_e h
                        refine r_callVi hX hR (c_X7_asks (σ := σ) X.2.1 G hc12) rfl rfl mf_X7_asks ml_X7_359 in_X7_asks se_X7_asks rfl rfl ⟨rfl, rfl, Nat.le_of_ble_eq_true rfl, Nat.le_of_ble_eq_true rfl⟩ rfl (st := []) rfl (Nat.le_of_ble_eq_true rfl) dX7_of_140 ?_
                        have g0 := Option.some.inj h
                        obtain ⟨q0, g1⟩ := Prod.mk.inj g0
                        subst q0
                        subst g1
                        exact r_iret hX hQ dX7_of_143
                      · replace h := in_e hc9 h
                        by_cases hc10 : a2 = 10
                        · replace h := ip_e hc10 h
                          refine r_tswI (k := 10) (off := 133) (tgt := 144) hX hc10 (by decide) (by decide) (by decide) dX7_of_11 ?_
                          refine r_aload_n hX rfl 0 rfl dX7_of_144 ?_
                          refine r_iload_n hX rfl 1 rfl dX7_of_145 ?_
                          obtain ⟨x13, hc13, h⟩ := bn_e h
                          refine r_callVi hX hR (c_X7_keeps (σ := σ) X.2.1 G hc13) rfl rfl mf_X7_keeps ml_X7_362 in_X7_keeps se_X7_keeps rfl rfl ⟨rfl, rfl, Nat.le_of_ble_eq_true rfl, Nat.le_of_ble_eq_true rfl⟩ rfl (st := []) rfl (Nat.le_of_ble_eq_true rfl) dX7_of_146 ?_
                          have g0 := Option.some.inj h
                          obtain ⟨q0, g1⟩ := Prod.mk.inj g0
                          subst q0
                          subst g1
                          exact r_iret hX hQ dX7_of_149
                        · replace h := in_e hc10 h
                          by_cases hc11 : a2 = 11
                          · replace h := ip_e hc11 h
                            refine r_tswI (k := 11) (off := 139) (tgt := 150) hX hc11 (by decide) (by decide) (by decide) dX7_of_11 ?_
                            refine r_aload_n hX rfl 0 rfl dX7_of_150 ?_
                            refine r_iload_n hX rfl 1 rfl dX7_of_151 ?_
                            obtain ⟨x14, hc14, h⟩ := bn_e h
                            refine r_callVi hX hR (c_X7_staysAway (σ := σ) X.2.1 G hc14) rfl rfl mf_X7_staysAway ml_X7_365 in_X7_staysAway se_X7_staysAway rfl rfl ⟨rfl, rfl, Nat.le_of_ble_eq_true rfl, Nat.le_of_ble_eq_true rfl⟩ rfl (st := []) rfl (Nat.le_of_ble_eq_true rfl) dX7_of_152 ?_
                            refine r_if_eq hX dX7_of_155 (fun hc => ?_) (fun hc => ?_)
                            · replace h := ip_e hc h
                              refine r_iconst (v := 0) hX (by decide) dX7_of_162 ?_
                              have g0 := Option.some.inj h
                              obtain ⟨q0, g1⟩ := Prod.mk.inj g0
                              subst q0
                              subst g1
                              exact r_iret hX hQ dX7_of_163
                            · replace h := in_e hc h
                              refine r_iconst (v := 1) hX (by decide) dX7_of_158 ?_
                              refine r_goto hX dX7_of_159 ?_
                              have g0 := Option.some.inj h
                              obtain ⟨q0, g1⟩ := Prod.mk.inj g0
                              subst q0
                              subst g1
                              exact r_iret hX hQ dX7_of_163
                          · replace h := in_e hc11 h
                            by_cases hc12 : a2 = 12
                            · replace h := ip_e hc12 h
                              refine r_tswI (k := 12) (off := 153) (tgt := 164) hX hc12 (by decide) (by decide) (by decide) dX7_of_11 ?_
                              refine r_aload_n hX rfl 0 rfl dX7_of_164 ?_
                              refine r_iload_n hX rfl 1 rfl dX7_of_165 ?_
                              obtain ⟨x15, hc15, h⟩ := bn_e h
                              refine r_callVi hX hR (c_X7_brings (σ := σ) X.2.1 G hc15) rfl rfl mf_X7_brings ml_X7_368 in_X7_brings se_X7_brings rfl rfl ⟨rfl, rfl, Nat.le_of_ble_eq_true rfl, Nat.le_of_ble_eq_true rfl⟩ rfl (st := []) rfl (Nat.le_of_ble_eq_true rfl) dX7_of_166 ?_
                              have g0 := Option.some.inj h
                              obtain ⟨q0, g1⟩ := Prod.mk.inj g0
                              subst q0
                              subst g1
                              exact r_iret hX hQ dX7_of_169
                            · replace h := in_e hc12 h
                              have hD : WW X G 3 (m1 σ 17 P) lm 170 [(0, .ref (gA G 17 0)), (1, .int a1), (2, .int a2)] [] := by
                                refine r_iconst (v := (-1)) hX (by decide) dX7_of_170 ?_
                                have g0 := Option.some.inj h
                                obtain ⟨q0, g1⟩ := Prod.mk.inj g0
                                subst q0
                                subst g1
                                exact r_iret hX hQ dX7_of_171
                              refine r_tswD (tgt := 170) hX ?_ (by decide) dX7_of_11 hD
                              have j0 := i32n (n := 0) hc0 rfl
                              have j1 := i32n (n := 1) hc1 rfl
                              have j2 := i32n (n := 2) hc2 rfl
                              have j3 := i32n (n := 3) hc3 rfl
                              have j4 := i32n (n := 4) hc4 rfl
                              have j5 := i32n (n := 5) hc5 rfl
                              have j6 := i32n (n := 6) hc6 rfl
                              have j7 := i32n (n := 7) hc7 rfl
                              have j8 := i32n (n := 8) hc8 rfl
                              have j9 := i32n (n := 9) hc9 rfl
                              have j10 := i32n (n := 10) hc10 rfl
                              have j11 := i32n (n := 11) hc11 rfl
                              have j12 := i32n (n := 12) hc12 rfl
                              omega
  · replace h := ip_e hc h
    refine r_iconst (v := (-1)) hX (by decide) dX7_of_8 ?_
    have g0 := Option.some.inj h
    obtain ⟨q0, g1⟩ := Prod.mk.inj g0
    subst q0
    subst g1
    exact r_iret hX hQ dX7_of_9
abbrev rm_X7_allOwes : Room := { frames := 0, cells := 0, slots := 0, locals := 60 }
def f_X7_allOwes_J27 (P : Pm) (v1 : Int32) : Option (Int32) :=
  some v1
def f_X7_allOwes_B4 (P : Pm) (v1 : Int32) (v2 : Int32) : Option ((Int32 × Int32) ⊕ (Int32)) :=
  (if (P 0 1) ≤ v2 then some (.inr v1) else (if inb v2 6 = true then some (.inl ((v1 + (P 10 (ix v2))), (v2 + 1))) else none))
def f_X7_allOwes_H4 (P : Pm) (v1 : Int32) (v2 : Int32) : Option (Int32) :=
  Option.bind (iter (fun t => f_X7_allOwes_B4 P t.1 t.2) 200 (v1, v2)) (fun v1 => f_X7_allOwes_J27 P v1)
def f_X7_allOwes (P : Pm) : Option (Int32) :=
  f_X7_allOwes_H4 P 0 0
set_option maxHeartbeats 4000000 in
set_option maxRecDepth 100000 in
theorem c_X7_allOwes (l : Launch) (G : GE) {σ : Mm} {lm : Ml}  {P : Pm} {rz : Int32} (h : f_X7_allOwes P = some rz) : CM l G yX7_allOwes bX7_allOwes 3 (Option.some Jvm.ClassFile.FieldType.int) rm_X7_allOwes [.ref (gA G 17 0)] (m1 σ 17 P) lm (some (.int rz)) (m1 σ 17 P) lm := by
  refine CM.of (own := zR7) (L0 := [(0, .ref (gA G 17 0))]) (by decide +kernel) rfl (Nat.le_of_ble_eq_true rfl) rfl (fun X hl hX hR hQ => ?_)
  have K27 : ∀ (v1 : Int32) (_ : True), f_X7_allOwes_J27 P v1 = some rz → WW X G 3 (m1 σ 17 P) lm 27 [(1, .int v1)] [] := by
    intro v1 _ h
    unfold f_X7_allOwes_J27 at h
    refine r_iload_n hX rfl 0 rfl dX7_allOwes_27 ?_
    have g0 := Option.some.inj h
    subst g0
    exact r_iret hX hQ dX7_allOwes_28
  have K4 : ∀ (v1 : Int32) (v2 : Int32) (_ : True), f_X7_allOwes_H4 P v1 v2 = some rz → WW X G 3 (m1 σ 17 P) lm 4 [(0, .ref (gA G 17 0)), (1, .int v1), (2, .int v2)] [] := by
    intro v1 v2 _ h
    unfold f_X7_allOwes_H4 at h
    obtain ⟨e_v1, hit, hO⟩ := bn_e h
    refine iter_w (P := fun t : Int32 × Int32 => WW X G 3 (m1 σ 17 P) lm 4 [(0, .ref (gA G 17 0)), (1, .int t.1), (2, .int t.2)] []) (x := e_v1) ?_ 200 (v1, v2) hit
    clear hit
    intro t z1 hb hin1 hex1
    obtain ⟨v1, v2⟩ := t
    have h : f_X7_allOwes_B4 P v1 v2 = some z1 := hb
    clear hb
    unfold f_X7_allOwes_B4 at h
    refine r_iload_n hX rfl 2 rfl dX7_allOwes_4 ?_
    refine r_aload_n hX rfl 0 rfl dX7_allOwes_5 ?_
    refine gf_7_1 (o := 17) hX fl_X7_13 rfl m1_g dX7_allOwes_6 ?_
    refine r_icmp_ge hX dX7_allOwes_9 (fun hc => ?_) (fun hc => ?_)
    · replace h := ip_e hc h
      have g0 := hex1 _ (Option.some.inj h).symm
      subst g0
      exact WW.sub [1] rfl (K27 v1 trivial hO)
    · replace h := in_e hc h
      refine r_iload_n hX rfl 1 rfl dX7_allOwes_12 ?_
      refine r_aload_n hX rfl 0 rfl dX7_allOwes_13 ?_
      refine gf_7_9 (o := 17) hX fl_X7_38 rfl m1_g dX7_allOwes_14 ?_
      refine r_iload_n hX rfl 2 rfl dX7_allOwes_17 ?_
      obtain ⟨hk1, h⟩ := kc_e h
      refine ga_7_10 (o := 17) hX rfl m1_g hk1 dX7_allOwes_18 ?_
      refine r_iadd hX dX7_allOwes_19 ?_
      refine r_istore_n (L2 := [(1, .int (v1 + (P 10 (ix v2)))), (0, .ref (gA G 17 0)), (2, .int v2)]) hX rfl (by decide) rfl dX7_allOwes_20 ?_
      refine r_iinc (v := v2 + 1) (L2 := [(2, .int (v2 + 1)), (1, .int (v1 + (P 10 (ix v2)))), (0, .ref (gA G 17 0))]) hX 2 rfl rfl (by decide) rfl dX7_allOwes_21 ?_
      refine r_goto hX dX7_allOwes_24 ?_
      exact WW.sub [2, 1, 0] rfl (hin1 _ (Option.some.inj h).symm)
  unfold f_X7_allOwes at h
  refine r_iconst (v := 0) hX (by decide) dX7_allOwes_0 ?_
  refine r_istore_n (L2 := [(1, .int 0), (0, .ref (gA G 17 0))]) hX rfl (by decide) rfl dX7_allOwes_1 ?_
  refine r_iconst (v := 0) hX (by decide) dX7_allOwes_2 ?_
  refine r_istore_n (L2 := [(2, .int 0), (1, .int 0), (0, .ref (gA G 17 0))]) hX rfl (by decide) rfl dX7_allOwes_3 ?_
  exact WW.sub [2, 1, 0] rfl (K4 0 0 trivial h)
abbrev rm_X7_told : Room := { frames := 3, cells := 0, slots := 0, locals := 124 }
def f_X7_told (P : Pm) (a1 : Int32) : Option (Int32) :=
  Option.bind (f_X7_in P a1 10 (9 + (P 0 1))) (fun x1 => (if x1 = 0 then (if a1 = 0 then some (P 0 2) else (if a1 = 1 then some (P 0 0) else (if a1 = 2 then Option.bind (f_X7_mark P) (fun x2 => some x2) else (if a1 = 3 then Option.bind (f_X7_lastOf P 3 0) (fun x3 => some x3) else (if a1 = 4 then Option.bind (f_X7_lastOf P 4 0) (fun x4 => some x4) else (if a1 = 5 then Option.bind (f_X7_allOwes P) (fun x5 => some x5) else some (-1))))))) else (if inb (a1 - 10) 6 = true then some (P 13 (ix (a1 - 10))) else none)))
set_option maxHeartbeats 4000000 in
set_option maxRecDepth 100000 in
theorem c_X7_told (l : Launch) (G : GE) {σ : Mm} {lm : Ml}  {P : Pm} {a1 : Int32} {rz : Int32} (h : f_X7_told P a1 = some rz) : CM l G yX7_told bX7_told 2 (Option.some Jvm.ClassFile.FieldType.int) rm_X7_told [.ref (gA G 17 0), .int a1] (m1 σ 17 P) lm (some (.int rz)) (m1 σ 17 P) lm := by
  refine CM.of (own := zR7) (L0 := [(0, .ref (gA G 17 0)), (1, .int a1)]) (by decide +kernel) rfl (Nat.le_of_ble_eq_true rfl) rfl (fun X hl hX hR hQ => ?_)
  unfold f_X7_told at h
  refine r_aload_n hX rfl 0 rfl dX7_told_0 ?_
  refine r_iload_n hX rfl 1 rfl dX7_told_1 ?_
  refine r_bipush (v := 10) hX (by decide) dX7_told_2 ?_
  refine r_bipush (v := 9) hX (by decide) dX7_told_4 ?_
  refine r_aload_n hX rfl 0 rfl dX7_told_6 ?_
  refine gf_7_1 (o := 17) hX fl_X7_13 rfl m1_g dX7_told_7 ?_
  refine r_iadd hX dX7_told_10 ?_
  obtain ⟨x1, hc1, h⟩ := bn_e h
  refine r_callVi hX hR (c_X7_in (σ := σ) X.2.1 G hc1) rfl rfl mf_X7_in ml_X7_263 in_X7_in se_X7_in rfl rfl ⟨rfl, rfl, Nat.le_of_ble_eq_true rfl, Nat.le_of_ble_eq_true rfl⟩ rfl (st := []) rfl (Nat.le_of_ble_eq_true rfl) dX7_told_11 ?_
  refine r_if_eq hX dX7_told_14 (fun hc => ?_) (fun hc => ?_)
  · replace h := ip_e hc h
    refine r_iload_n hX rfl 1 rfl dX7_told_27 ?_
    by_cases hc0 : a1 = 0
    · replace h := ip_e hc0 h
      refine r_tswI (k := 0) (off := 40) (tgt := 68) hX hc0 (by decide) (by decide) (by decide) dX7_told_28 ?_
      refine r_aload_n hX rfl 0 rfl dX7_told_68 ?_
      refine gf_7_2 (o := 17) hX fl_X7_16 rfl m1_g dX7_told_69 ?_
      have g0 := Option.some.inj h
      subst g0
      exact r_iret hX hQ dX7_told_72
    · replace h := in_e hc0 h
      by_cases hc1 : a1 = 1
      · replace h := ip_e hc1 h
        refine r_tswI (k := 1) (off := 45) (tgt := 73) hX hc1 (by decide) (by decide) (by decide) dX7_told_28 ?_
        refine r_aload_n hX rfl 0 rfl dX7_told_73 ?_
        refine gf_7_0 (o := 17) hX fl_X7_7 rfl m1_g dX7_told_74 ?_
        have g0 := Option.some.inj h
        subst g0
        exact r_iret hX hQ dX7_told_77
      · replace h := in_e hc1 h
        by_cases hc2 : a1 = 2
        · replace h := ip_e hc2 h
          refine r_tswI (k := 2) (off := 50) (tgt := 78) hX hc2 (by decide) (by decide) (by decide) dX7_told_28 ?_
          refine r_aload_n hX rfl 0 rfl dX7_told_78 ?_
          obtain ⟨x2, hc2, h⟩ := bn_e h
          refine r_callVi hX hR (c_X7_mark (σ := σ) X.2.1 G hc2) rfl rfl mf_X7_mark ml_X7_353 in_X7_mark se_X7_mark rfl rfl ⟨rfl, rfl, Nat.le_of_ble_eq_true rfl, Nat.le_of_ble_eq_true rfl⟩ rfl (st := []) rfl (Nat.le_of_ble_eq_true rfl) dX7_told_79 ?_
          have g0 := Option.some.inj h
          subst g0
          exact r_iret hX hQ dX7_told_82
        · replace h := in_e hc2 h
          by_cases hc3 : a1 = 3
          · replace h := ip_e hc3 h
            refine r_tswI (k := 3) (off := 55) (tgt := 83) hX hc3 (by decide) (by decide) (by decide) dX7_told_28 ?_
            refine r_aload_n hX rfl 0 rfl dX7_told_83 ?_
            refine r_iconst (v := 3) hX (by decide) dX7_told_84 ?_
            refine r_iconst (v := 0) hX (by decide) dX7_told_85 ?_
            obtain ⟨x3, hc3, h⟩ := bn_e h
            refine r_callVi hX hR (c_X7_lastOf (σ := σ) X.2.1 G hc3) rfl rfl mf_X7_lastOf ml_X7_344 in_X7_lastOf se_X7_lastOf rfl rfl ⟨rfl, rfl, Nat.le_of_ble_eq_true rfl, Nat.le_of_ble_eq_true rfl⟩ rfl (st := []) rfl (Nat.le_of_ble_eq_true rfl) dX7_told_86 ?_
            have g0 := Option.some.inj h
            subst g0
            exact r_iret hX hQ dX7_told_89
          · replace h := in_e hc3 h
            by_cases hc4 : a1 = 4
            · replace h := ip_e hc4 h
              refine r_tswI (k := 4) (off := 62) (tgt := 90) hX hc4 (by decide) (by decide) (by decide) dX7_told_28 ?_
              refine r_aload_n hX rfl 0 rfl dX7_told_90 ?_
              refine r_iconst (v := 4) hX (by decide) dX7_told_91 ?_
              refine r_iconst (v := 0) hX (by decide) dX7_told_92 ?_
              obtain ⟨x4, hc4, h⟩ := bn_e h
              refine r_callVi hX hR (c_X7_lastOf (σ := σ) X.2.1 G hc4) rfl rfl mf_X7_lastOf ml_X7_344 in_X7_lastOf se_X7_lastOf rfl rfl ⟨rfl, rfl, Nat.le_of_ble_eq_true rfl, Nat.le_of_ble_eq_true rfl⟩ rfl (st := []) rfl (Nat.le_of_ble_eq_true rfl) dX7_told_93 ?_
              have g0 := Option.some.inj h
              subst g0
              exact r_iret hX hQ dX7_told_96
            · replace h := in_e hc4 h
              by_cases hc5 : a1 = 5
              · replace h := ip_e hc5 h
                refine r_tswI (k := 5) (off := 69) (tgt := 97) hX hc5 (by decide) (by decide) (by decide) dX7_told_28 ?_
                refine r_aload_n hX rfl 0 rfl dX7_told_97 ?_
                obtain ⟨x5, hc5, h⟩ := bn_e h
                refine r_callVi hX hR (c_X7_allOwes (σ := σ) X.2.1 G hc5) rfl rfl mf_X7_allOwes ml_X7_371 in_X7_allOwes se_X7_allOwes rfl rfl ⟨rfl, rfl, Nat.le_of_ble_eq_true rfl, Nat.le_of_ble_eq_true rfl⟩ rfl (st := []) rfl (Nat.le_of_ble_eq_true rfl) dX7_told_98 ?_
                have g0 := Option.some.inj h
                subst g0
                exact r_iret hX hQ dX7_told_101
              · replace h := in_e hc5 h
                have hD : WW X G 2 (m1 σ 17 P) lm 102 [(0, .ref (gA G 17 0)), (1, .int a1)] [] := by
                  refine r_iconst (v := (-1)) hX (by decide) dX7_told_102 ?_
                  have g0 := Option.some.inj h
                  subst g0
                  exact r_iret hX hQ dX7_told_103
                refine r_tswD (tgt := 102) hX ?_ (by decide) dX7_told_28 hD
                have j0 := i32n (n := 0) hc0 rfl
                have j1 := i32n (n := 1) hc1 rfl
                have j2 := i32n (n := 2) hc2 rfl
                have j3 := i32n (n := 3) hc3 rfl
                have j4 := i32n (n := 4) hc4 rfl
                have j5 := i32n (n := 5) hc5 rfl
                omega
  · replace h := in_e hc h
    refine r_aload_n hX rfl 0 rfl dX7_told_17 ?_
    refine gf_7_12 (o := 17) hX fl_X7_47 rfl m1_g dX7_told_18 ?_
    refine r_iload_n hX rfl 1 rfl dX7_told_21 ?_
    refine r_bipush (v := 10) hX (by decide) dX7_told_22 ?_
    refine r_isub hX dX7_told_24 ?_
    obtain ⟨hk6, h⟩ := kc_e h
    refine ga_7_13 (o := 17) hX rfl m1_g hk6 dX7_told_25 ?_
    have g0 := Option.some.inj h
    subst g0
    exact r_iret hX hQ dX7_told_26
abbrev rm_X7_goHaving : Room := { frames := 3, cells := 0, slots := 0, locals := 132 }
def f_X7_goHaving (P : Pm) (a1 : Int32) : Option (Pm) :=
  (if inb a1 6 = true then bn2 (f_X7_rate P a1) (fun x2 P3 => (if inb a1 6 = true then Option.bind (f_X7_held P3 ((P 10 (ix a1)) + ((x2 * (P3 8 (ix a1))) / 10)) 99999) (fun x5 => (if inb a1 6 = true then nb (up2 P3 10 (ix a1) x5) (fun P7 => (if inb a1 6 = true then Option.bind (f_X7_held P7 ((P7 9 (ix a1)) - 1) 99) (fun x9 => (if inb a1 6 = true then nb (up2 P7 9 (ix a1) x9) (fun P11 => (if inb a1 6 = true then (if (P11 9 (ix a1)) ≤ 0 then Option.bind (f_X7_staysAway P11 a1) (fun x13 => (if x13 = 0 then Option.bind (f_X7_brings P11 a1) (fun x14 => Option.bind (f_X7_held P11 ((P11 0 0) + x14) 9999) (fun x15 => nb (up2 P11 0 0 x15) (fun P16 => (if inb a1 6 = true then nb (up2 P16 8 (ix a1) 0) (fun P18 => some P18) else none)))) else Option.bind (f_X7_keeps P11 a1) (fun x19 => (if inb a1 6 = true then nb (up2 P11 9 (ix a1) x19) (fun P21 => some P21) else none)))) else some P11) else none)) else none)) else none)) else none)) else none)) else none)
set_option maxHeartbeats 4000000 in
set_option maxRecDepth 100000 in
theorem c_X7_goHaving (l : Launch) (G : GE) {σ : Mm} {lm : Ml}  {P : Pm} {a1 : Int32} {Pz : Pm} (h : f_X7_goHaving P a1 = some Pz) : CM l G yX7_goHaving bX7_goHaving 2 (Option.none : Option Jvm.ClassFile.FieldType) rm_X7_goHaving [.ref (gA G 17 0), .int a1] (m1 σ 17 P) lm (none) (m1 σ 17 Pz) lm := by
  refine CM.of (own := zR7) (L0 := [(0, .ref (gA G 17 0)), (1, .int a1)]) (by decide +kernel) rfl (Nat.le_of_ble_eq_true rfl) rfl (fun X hl hX hR hQ => ?_)
  unfold f_X7_goHaving at h
  refine r_aload_n hX rfl 0 rfl dX7_goHaving_0 ?_
  refine gf_7_9 (o := 17) hX fl_X7_38 rfl m1_g dX7_goHaving_1 ?_
  refine r_iload_n hX rfl 1 rfl dX7_goHaving_4 ?_
  refine r_aload_n hX rfl 0 rfl dX7_goHaving_5 ?_
  refine r_aload_n hX rfl 0 rfl dX7_goHaving_6 ?_
  refine gf_7_9 (o := 17) hX fl_X7_38 rfl m1_g dX7_goHaving_7 ?_
  refine r_iload_n hX rfl 1 rfl dX7_goHaving_10 ?_
  obtain ⟨hk1, h⟩ := kc_e h
  refine ga_7_10 (o := 17) hX rfl m1_g hk1 dX7_goHaving_11 ?_
  refine r_aload_n hX rfl 0 rfl dX7_goHaving_12 ?_
  refine r_iload_n hX rfl 1 rfl dX7_goHaving_13 ?_
  obtain ⟨x2, P3, hc3, h⟩ := bn2_e h
  refine r_callVi hX hR (c_X7_rate (σ := σ) X.2.1 G hc3) rfl rfl mf_X7_rate ml_X7_356 in_X7_rate se_X7_rate rfl rfl ⟨rfl, rfl, Nat.le_of_ble_eq_true rfl, Nat.le_of_ble_eq_true rfl⟩ rfl (st := [.int (P 10 (ix a1)), .ref (gA G 17 0), .int a1, .ref (gA G 17 10)]) rfl (Nat.le_of_ble_eq_true rfl) dX7_goHaving_14 ?_
  refine r_aload_n hX rfl 0 rfl dX7_goHaving_17 ?_
  refine gf_7_7 (o := 17) hX fl_X7_32 rfl m1_g dX7_goHaving_18 ?_
  refine r_iload_n hX rfl 1 rfl dX7_goHaving_21 ?_
  obtain ⟨hk4, h⟩ := kc_e h
  refine ga_7_8 (o := 17) hX rfl m1_g hk4 dX7_goHaving_22 ?_
  refine r_imul hX dX7_goHaving_23 ?_
  refine r_bipush (v := 10) hX (by decide) dX7_goHaving_24 ?_
  refine r_idiv hX (by decide) dX7_goHaving_26 ?_
  refine r_iadd hX dX7_goHaving_27 ?_
  refine r_ldcw hX co_X7_374 dX7_goHaving_28 ?_
  obtain ⟨x5, hc5, h⟩ := bn_e h
  refine r_callVi hX hR (c_X7_held (σ := σ) X.2.1 G hc5) rfl rfl mf_X7_held ml_X7_284 in_X7_held se_X7_held rfl rfl ⟨rfl, rfl, Nat.le_of_ble_eq_true rfl, Nat.le_of_ble_eq_true rfl⟩ rfl (st := [.int a1, .ref (gA G 17 10)]) rfl (Nat.le_of_ble_eq_true rfl) dX7_goHaving_31 ?_
  obtain ⟨hk6, h⟩ := kc_e h
  obtain ⟨P7, hP7, h⟩ := nb_e h
  refine pa_7_10 (o := 17) hX rfl m1_g hk6 (m1_w hP7) dX7_goHaving_34 ?_
  refine r_aload_n hX rfl 0 rfl dX7_goHaving_35 ?_
  refine gf_7_8 (o := 17) hX fl_X7_35 rfl m1_g dX7_goHaving_36 ?_
  refine r_iload_n hX rfl 1 rfl dX7_goHaving_39 ?_
  refine r_aload_n hX rfl 0 rfl dX7_goHaving_40 ?_
  refine r_aload_n hX rfl 0 rfl dX7_goHaving_41 ?_
  refine gf_7_8 (o := 17) hX fl_X7_35 rfl m1_g dX7_goHaving_42 ?_
  refine r_iload_n hX rfl 1 rfl dX7_goHaving_45 ?_
  obtain ⟨hk8, h⟩ := kc_e h
  refine ga_7_9 (o := 17) hX rfl m1_g hk8 dX7_goHaving_46 ?_
  refine r_iconst (v := 1) hX (by decide) dX7_goHaving_47 ?_
  refine r_isub hX dX7_goHaving_48 ?_
  refine r_bipush (v := 99) hX (by decide) dX7_goHaving_49 ?_
  obtain ⟨x9, hc9, h⟩ := bn_e h
  refine r_callVi hX hR (c_X7_held (σ := σ) X.2.1 G hc9) rfl rfl mf_X7_held ml_X7_284 in_X7_held se_X7_held rfl rfl ⟨rfl, rfl, Nat.le_of_ble_eq_true rfl, Nat.le_of_ble_eq_true rfl⟩ rfl (st := [.int a1, .ref (gA G 17 9)]) rfl (Nat.le_of_ble_eq_true rfl) dX7_goHaving_51 ?_
  obtain ⟨hk10, h⟩ := kc_e h
  obtain ⟨P11, hP11, h⟩ := nb_e h
  refine pa_7_9 (o := 17) hX rfl m1_g hk10 (m1_w hP11) dX7_goHaving_54 ?_
  refine r_aload_n hX rfl 0 rfl dX7_goHaving_55 ?_
  refine gf_7_8 (o := 17) hX fl_X7_35 rfl m1_g dX7_goHaving_56 ?_
  refine r_iload_n hX rfl 1 rfl dX7_goHaving_59 ?_
  obtain ⟨hk12, h⟩ := kc_e h
  refine ga_7_9 (o := 17) hX rfl m1_g hk12 dX7_goHaving_60 ?_
  refine r_if_le hX dX7_goHaving_61 (fun hc => ?_) (fun hc => ?_)
  · replace h := ip_e hc h
    refine r_aload_n hX rfl 0 rfl dX7_goHaving_65 ?_
    refine r_iload_n hX rfl 1 rfl dX7_goHaving_66 ?_
    obtain ⟨x13, hc13, h⟩ := bn_e h
    refine r_callVi hX hR (c_X7_staysAway (σ := σ) X.2.1 G hc13) rfl rfl mf_X7_staysAway ml_X7_365 in_X7_staysAway se_X7_staysAway rfl rfl ⟨rfl, rfl, Nat.le_of_ble_eq_true rfl, Nat.le_of_ble_eq_true rfl⟩ rfl (st := []) rfl (Nat.le_of_ble_eq_true rfl) dX7_goHaving_67 ?_
    refine r_if_eq hX dX7_goHaving_70 (fun hc => ?_) (fun hc => ?_)
    · replace h := ip_e hc h
      refine r_aload_n hX rfl 0 rfl dX7_goHaving_85 ?_
      refine r_aload_n hX rfl 0 rfl dX7_goHaving_86 ?_
      refine r_aload_n hX rfl 0 rfl dX7_goHaving_87 ?_
      refine gf_7_0 (o := 17) hX fl_X7_7 rfl m1_g dX7_goHaving_88 ?_
      refine r_aload_n hX rfl 0 rfl dX7_goHaving_91 ?_
      refine r_iload_n hX rfl 1 rfl dX7_goHaving_92 ?_
      obtain ⟨x14, hc14, h⟩ := bn_e h
      refine r_callVi hX hR (c_X7_brings (σ := σ) X.2.1 G hc14) rfl rfl mf_X7_brings ml_X7_368 in_X7_brings se_X7_brings rfl rfl ⟨rfl, rfl, Nat.le_of_ble_eq_true rfl, Nat.le_of_ble_eq_true rfl⟩ rfl (st := [.int (P11 0 0), .ref (gA G 17 0), .ref (gA G 17 0)]) rfl (Nat.le_of_ble_eq_true rfl) dX7_goHaving_93 ?_
      refine r_iadd hX dX7_goHaving_96 ?_
      refine r_sipush (v := 9999) hX (by decide) dX7_goHaving_97 ?_
      obtain ⟨x15, hc15, h⟩ := bn_e h
      refine r_callVi hX hR (c_X7_held (σ := σ) X.2.1 G hc15) rfl rfl mf_X7_held ml_X7_284 in_X7_held se_X7_held rfl rfl ⟨rfl, rfl, Nat.le_of_ble_eq_true rfl, Nat.le_of_ble_eq_true rfl⟩ rfl (st := [.ref (gA G 17 0)]) rfl (Nat.le_of_ble_eq_true rfl) dX7_goHaving_100 ?_
      obtain ⟨P16, hP16, h⟩ := nb_e h
      refine pf_7_0 (o := 17) hX fl_X7_7 rfl m1_g dX7_goHaving_103 (m1_w hP16) ?_
      refine r_aload_n hX rfl 0 rfl dX7_goHaving_106 ?_
      refine gf_7_7 (o := 17) hX fl_X7_32 rfl m1_g dX7_goHaving_107 ?_
      refine r_iload_n hX rfl 1 rfl dX7_goHaving_110 ?_
      refine r_iconst (v := 0) hX (by decide) dX7_goHaving_111 ?_
      obtain ⟨hk17, h⟩ := kc_e h
      obtain ⟨P18, hP18, h⟩ := nb_e h
      refine pa_7_8 (o := 17) hX rfl m1_g hk17 (m1_w hP18) dX7_goHaving_112 ?_
      have g0 := Option.some.inj h
      subst g0
      exact r_vret hX hQ dX7_goHaving_113
    · replace h := in_e hc h
      refine r_aload_n hX rfl 0 rfl dX7_goHaving_73 ?_
      refine gf_7_8 (o := 17) hX fl_X7_35 rfl m1_g dX7_goHaving_74 ?_
      refine r_iload_n hX rfl 1 rfl dX7_goHaving_77 ?_
      refine r_aload_n hX rfl 0 rfl dX7_goHaving_78 ?_
      refine r_iload_n hX rfl 1 rfl dX7_goHaving_79 ?_
      obtain ⟨x19, hc19, h⟩ := bn_e h
      refine r_callVi hX hR (c_X7_keeps (σ := σ) X.2.1 G hc19) rfl rfl mf_X7_keeps ml_X7_362 in_X7_keeps se_X7_keeps rfl rfl ⟨rfl, rfl, Nat.le_of_ble_eq_true rfl, Nat.le_of_ble_eq_true rfl⟩ rfl (st := [.int a1, .ref (gA G 17 9)]) rfl (Nat.le_of_ble_eq_true rfl) dX7_goHaving_80 ?_
      obtain ⟨hk20, h⟩ := kc_e h
      obtain ⟨P21, hP21, h⟩ := nb_e h
      refine pa_7_9 (o := 17) hX rfl m1_g hk20 (m1_w hP21) dX7_goHaving_83 ?_
      have g0 := Option.some.inj h
      subst g0
      exact r_vret hX hQ dX7_goHaving_84
  · replace h := in_e hc h
    have g0 := Option.some.inj h
    subst g0
    exact r_vret hX hQ dX7_goHaving_64
