/-! the pure functions and the walks; written by wip/whole/gen_walk.py -/
abbrev rm_X6_within : Room := { frames := 0, cells := 0, slots := 0, locals := 60 }
def f_X6_within (a0 : Int32) (a1 : Int32) (a2 : Int32) : Option (Int32) :=
  (if a0 < a1 then some 0 else (if a2 < a0 then some 0 else some 1))
set_option maxHeartbeats 4000000 in
set_option maxRecDepth 100000 in
theorem c_X6_within (l : Launch) (G : GE) {σ : Mm} {lm : Ml}  {a0 : Int32} {a1 : Int32} {a2 : Int32} {rz : Int32} (h : f_X6_within a0 a1 a2 = some rz) : CM l G yX6_within bX6_within 3 (Option.some Jvm.ClassFile.FieldType.boolean) rm_X6_within [.int a0, .int a1, .int a2] σ lm (some (.int rz)) σ lm := by
  refine CM.of (own := zR6) (L0 := [(0, .int a0), (1, .int a1), (2, .int a2)]) (by decide +kernel) rfl (Nat.le_of_ble_eq_true rfl) rfl (fun X hl hX hR hQ => ?_)
  unfold f_X6_within at h
  refine r_iload_n hX rfl 0 rfl dX6_within_0 ?_
  refine r_iload_n hX rfl 1 rfl dX6_within_1 ?_
  refine r_icmp_lt hX dX6_within_2 (fun hc => ?_) (fun hc => ?_)
  · replace h := ip_e hc h
    refine r_iconst (v := 0) hX (by decide) dX6_within_14 ?_
    have g0 := Option.some.inj h
    subst g0
    exact r_zret hX (Or.inl rfl) hQ dX6_within_15
  · replace h := in_e hc h
    refine r_iload_n hX rfl 0 rfl dX6_within_5 ?_
    refine r_iload_n hX rfl 2 rfl dX6_within_6 ?_
    refine r_icmp_gt hX dX6_within_7 (fun hc => ?_) (fun hc => ?_)
    · replace h := ip_e hc h
      refine r_iconst (v := 0) hX (by decide) dX6_within_14 ?_
      have g0 := Option.some.inj h
      subst g0
      exact r_zret hX (Or.inl rfl) hQ dX6_within_15
    · replace h := in_e hc h
      refine r_iconst (v := 1) hX (by decide) dX6_within_10 ?_
      refine r_goto hX dX6_within_11 ?_
      have g0 := Option.some.inj h
      subst g0
      exact r_zret hX (Or.inr rfl) hQ dX6_within_15
abbrev rm_X6_borrower : Room := { frames := 1, cells := 0, slots := 0, locals := 86 }
def f_X6_borrower (s : Mm) (a1 : Int32) (a2 : Int32) (a3 : Int32) (a4 : Int32) : Option (Int32 × Mm) :=
  Option.bind (f_X6_within a1 0 6) (fun x1 => (if x1 = 0 then some ((-1), s) else Option.bind (f_X6_within a2 0 9) (fun x2 => (if x2 = 0 then some ((-2), s) else Option.bind (f_X6_within a3 1 99) (fun x3 => (if x3 = 0 then some ((-2), s) else Option.bind (f_X6_within a4 1 20) (fun x4 => (if x4 = 0 then some ((-2), s) else (if ((s 1) 0 2) < 6 then bn2 (f_X5_join (s 1) a1 a2 a3 a4) (fun x5 p6 => nb (setO s 1 p6) (fun s7 => some (x5, s7))) else some ((-4), s))))))))))
set_option maxHeartbeats 4000000 in
set_option maxRecDepth 100000 in
theorem c_X6_borrower (l : Launch) (G : GE) {lm : Ml}  {s : Mm} {a1 : Int32} {a2 : Int32} {a3 : Int32} {a4 : Int32} {rz : Int32} {sz : Mm} (h : f_X6_borrower s a1 a2 a3 a4 = some (rz, sz)) : CM l G yX6_borrower bX6_borrower 5 (Option.some Jvm.ClassFile.FieldType.int) rm_X6_borrower [.ref (gA G 0 0), .int a1, .int a2, .int a3, .int a4] s lm (some (.int rz)) sz lm := by
  refine CM.of (own := zR6) (L0 := [(0, .ref (gA G 0 0)), (1, .int a1), (2, .int a2), (3, .int a3), (4, .int a4)]) (by decide +kernel) rfl (Nat.le_of_ble_eq_true rfl) rfl (fun X hl hX hR hQ => ?_)
  unfold f_X6_borrower at h
  refine r_iload_n hX rfl 1 rfl dX6_borrower_0 ?_
  refine r_iconst (v := 0) hX (by decide) dX6_borrower_1 ?_
  refine r_bipush (v := 6) hX (by decide) dX6_borrower_2 ?_
  obtain ⟨x1, hc1, h⟩ := bn_e h
  refine r_callSi hX hR (c_X6_within (σ := s) X.2.1 G hc1) rfl rfl mf_X6_within ml_X6_80 st_X6_within ⟨rfl, rfl, Nat.le_of_ble_eq_true rfl, Nat.le_of_ble_eq_true rfl⟩ rfl (st := []) rfl (Nat.le_of_ble_eq_true rfl) dX6_borrower_4 ?_
  refine r_if_ne hX dX6_borrower_7 (fun hc => ?_) (fun hc => ?_)
  · replace h := in_e hc h
    refine r_iload_n hX rfl 2 rfl dX6_borrower_12 ?_
    refine r_iconst (v := 0) hX (by decide) dX6_borrower_13 ?_
    refine r_bipush (v := 9) hX (by decide) dX6_borrower_14 ?_
    obtain ⟨x2, hc2, h⟩ := bn_e h
    refine r_callSi hX hR (c_X6_within (σ := s) X.2.1 G hc2) rfl rfl mf_X6_within ml_X6_80 st_X6_within ⟨rfl, rfl, Nat.le_of_ble_eq_true rfl, Nat.le_of_ble_eq_true rfl⟩ rfl (st := []) rfl (Nat.le_of_ble_eq_true rfl) dX6_borrower_16 ?_
    refine r_if_eq hX dX6_borrower_19 (fun hc => ?_) (fun hc => ?_)
    · replace h := ip_e hc h
      refine r_bipush (v := (-2)) hX (by decide) dX6_borrower_43 ?_
      have g0 := Option.some.inj h
      obtain ⟨q0, g1⟩ := Prod.mk.inj g0
      subst q0
      subst g1
      exact r_iret hX hQ dX6_borrower_45
    · replace h := in_e hc h
      refine r_iload_n hX rfl 3 rfl dX6_borrower_22 ?_
      refine r_iconst (v := 1) hX (by decide) dX6_borrower_23 ?_
      refine r_bipush (v := 99) hX (by decide) dX6_borrower_24 ?_
      obtain ⟨x3, hc3, h⟩ := bn_e h
      refine r_callSi hX hR (c_X6_within (σ := s) X.2.1 G hc3) rfl rfl mf_X6_within ml_X6_80 st_X6_within ⟨rfl, rfl, Nat.le_of_ble_eq_true rfl, Nat.le_of_ble_eq_true rfl⟩ rfl (st := []) rfl (Nat.le_of_ble_eq_true rfl) dX6_borrower_26 ?_
      refine r_if_eq hX dX6_borrower_29 (fun hc => ?_) (fun hc => ?_)
      · replace h := ip_e hc h
        refine r_bipush (v := (-2)) hX (by decide) dX6_borrower_43 ?_
        have g0 := Option.some.inj h
        obtain ⟨q0, g1⟩ := Prod.mk.inj g0
        subst q0
        subst g1
        exact r_iret hX hQ dX6_borrower_45
      · replace h := in_e hc h
        refine r_iload hX 4 rfl dX6_borrower_32 ?_
        refine r_iconst (v := 1) hX (by decide) dX6_borrower_34 ?_
        refine r_bipush (v := 20) hX (by decide) dX6_borrower_35 ?_
        obtain ⟨x4, hc4, h⟩ := bn_e h
        refine r_callSi hX hR (c_X6_within (σ := s) X.2.1 G hc4) rfl rfl mf_X6_within ml_X6_80 st_X6_within ⟨rfl, rfl, Nat.le_of_ble_eq_true rfl, Nat.le_of_ble_eq_true rfl⟩ rfl (st := []) rfl (Nat.le_of_ble_eq_true rfl) dX6_borrower_37 ?_
        refine r_if_ne hX dX6_borrower_40 (fun hc => ?_) (fun hc => ?_)
        · replace h := in_e hc h
          refine r_aload_n hX rfl 0 rfl dX6_borrower_46 ?_
          refine gf_6_0 (o := 0) hX fl_X6_12 rfl rfl dX6_borrower_47 ?_
          refine gf_5_2 (o := 1) hX fl_X6_84 rfl rfl dX6_borrower_50 ?_
          refine r_bipush (v := 6) hX (by decide) dX6_borrower_53 ?_
          refine r_icmp_lt hX dX6_borrower_55 (fun hc => ?_) (fun hc => ?_)
          · replace h := ip_e hc h
            refine r_aload_n hX rfl 0 rfl dX6_borrower_61 ?_
            refine gf_6_0 (o := 0) hX fl_X6_12 rfl rfl dX6_borrower_62 ?_
            refine r_iload_n hX rfl 1 rfl dX6_borrower_65 ?_
            refine r_iload_n hX rfl 2 rfl dX6_borrower_66 ?_
            refine r_iload_n hX rfl 3 rfl dX6_borrower_67 ?_
            refine r_iload hX 4 rfl dX6_borrower_68 ?_
            obtain ⟨x5, p6, hc6, h⟩ := bn2_e h
            obtain ⟨s7, hs7, h⟩ := nb_e h
            refine r_callVi hX hR (c_X5_join (σ := s) X.2.1 G rfl hc6) m1_i hs7.symm mf_X5_join ml_X6_87 in_X5_join se_X5_join rfl rfl ⟨rfl, rfl, Nat.le_of_ble_eq_true rfl, Nat.le_of_ble_eq_true rfl⟩ rfl (st := []) rfl (Nat.le_of_ble_eq_true rfl) dX6_borrower_70 ?_
            have g0 := Option.some.inj h
            obtain ⟨q0, g1⟩ := Prod.mk.inj g0
            subst q0
            subst g1
            exact r_iret hX hQ dX6_borrower_73
          · replace h := in_e hc h
            refine r_bipush (v := (-4)) hX (by decide) dX6_borrower_58 ?_
            have g0 := Option.some.inj h
            obtain ⟨q0, g1⟩ := Prod.mk.inj g0
            subst q0
            subst g1
            exact r_iret hX hQ dX6_borrower_60
        · replace h := ip_e hc h
          refine r_bipush (v := (-2)) hX (by decide) dX6_borrower_43 ?_
          have g0 := Option.some.inj h
          obtain ⟨q0, g1⟩ := Prod.mk.inj g0
          subst q0
          subst g1
          exact r_iret hX hQ dX6_borrower_45
  · replace h := ip_e hc h
    refine r_iconst (v := (-1)) hX (by decide) dX6_borrower_10 ?_
    have g0 := Option.some.inj h
    obtain ⟨q0, g1⟩ := Prod.mk.inj g0
    subst q0
    subst g1
    exact r_iret hX hQ dX6_borrower_11
abbrev rm_X6_known : Room := { frames := 1, cells := 0, slots := 0, locals := 82 }
def f_X6_known (s : Mm) (a1 : Int32) : Option (Int32) :=
  Option.bind (f_X6_within a1 0 (((s 1) 0 2) - 1)) (fun x1 => (if x1 = 0 ∨ x1 = 1 then some x1 else none))
set_option maxHeartbeats 4000000 in
set_option maxRecDepth 100000 in
theorem c_X6_known (l : Launch) (G : GE) {lm : Ml}  {s : Mm} {a1 : Int32} {rz : Int32} (h : f_X6_known s a1 = some rz) : CM l G yX6_known bX6_known 2 (Option.some Jvm.ClassFile.FieldType.boolean) rm_X6_known [.ref (gA G 0 0), .int a1] s lm (some (.int rz)) s lm := by
  refine CM.of (own := zR6) (L0 := [(0, .ref (gA G 0 0)), (1, .int a1)]) (by decide +kernel) rfl (Nat.le_of_ble_eq_true rfl) rfl (fun X hl hX hR hQ => ?_)
  unfold f_X6_known at h
  refine r_iload_n hX rfl 1 rfl dX6_known_0 ?_
  refine r_iconst (v := 0) hX (by decide) dX6_known_1 ?_
  refine r_aload_n hX rfl 0 rfl dX6_known_2 ?_
  refine gf_6_0 (o := 0) hX fl_X6_12 rfl rfl dX6_known_3 ?_
  refine gf_5_2 (o := 1) hX fl_X6_84 rfl rfl dX6_known_6 ?_
  refine r_iconst (v := 1) hX (by decide) dX6_known_9 ?_
  refine r_isub hX dX6_known_10 ?_
  obtain ⟨x1, hc1, h⟩ := bn_e h
  refine r_callSi hX hR (c_X6_within (σ := s) X.2.1 G hc1) rfl rfl mf_X6_within ml_X6_80 st_X6_within ⟨rfl, rfl, Nat.le_of_ble_eq_true rfl, Nat.le_of_ble_eq_true rfl⟩ rfl (st := []) rfl (Nat.le_of_ble_eq_true rfl) dX6_known_11 ?_
  obtain ⟨hk2, h⟩ := kc_e h
  have g0 := Option.some.inj h
  subst g0
  exact r_zret hX hk2 hQ dX6_known_14
abbrev rm_X6_rules : Room := { frames := 1, cells := 0, slots := 0, locals := 82 }
def f_X6_rules (s : Mm) : Option (Nat) :=
  Option.bind (f_X6_within ((s 0) 0 11) 0 (((s 0) 0 10) - 1)) (fun x1 => (if x1 = 0 then some 7 else (if inb ((s 0) 0 11) 6 = true then some (8 + ix ((s 0) 0 11)) else none)))
set_option maxHeartbeats 4000000 in
set_option maxRecDepth 100000 in
theorem c_X6_rules (l : Launch) (G : GE) {lm : Ml}  {s : Mm} {rz : Nat} (h : f_X6_rules s = some rz) : CM l G yX6_rules bX6_rules 1 (Option.some (Jvm.ClassFile.FieldType.object "WellLendsDepth$Country")) rm_X6_rules [.ref (gA G 0 0)] s lm (some (.ref (gA G rz 0))) s lm := by
  refine CM.of (own := zR6) (L0 := [(0, .ref (gA G 0 0))]) (by decide +kernel) rfl (Nat.le_of_ble_eq_true rfl) rfl (fun X hl hX hR hQ => ?_)
  unfold f_X6_rules at h
  refine r_aload_n hX rfl 0 rfl dX6_rules_0 ?_
  refine gf_6_11 (o := 0) hX fl_X6_70 rfl rfl dX6_rules_1 ?_
  refine r_iconst (v := 0) hX (by decide) dX6_rules_4 ?_
  refine r_aload_n hX rfl 0 rfl dX6_rules_5 ?_
  refine gf_6_10 (o := 0) hX fl_X6_66 rfl rfl dX6_rules_6 ?_
  refine r_iconst (v := 1) hX (by decide) dX6_rules_9 ?_
  refine r_isub hX dX6_rules_10 ?_
  obtain ⟨x1, hc1, h⟩ := bn_e h
  refine r_callSi hX hR (c_X6_within (σ := s) X.2.1 G hc1) rfl rfl mf_X6_within ml_X6_80 st_X6_within ⟨rfl, rfl, Nat.le_of_ble_eq_true rfl, Nat.le_of_ble_eq_true rfl⟩ rfl (st := []) rfl (Nat.le_of_ble_eq_true rfl) dX6_rules_11 ?_
  refine r_if_eq hX dX6_rules_14 (fun hc => ?_) (fun hc => ?_)
  · replace h := ip_e hc h
    refine r_aload_n hX rfl 0 rfl dX6_rules_29 ?_
    refine gf_6_6 (o := 0) hX fl_X6_44 rfl rfl dX6_rules_30 ?_
    have g0 := Option.some.inj h
    subst g0
    exact r_aret hX hQ dX6_rules_33
  · replace h := in_e hc h
    refine r_aload_n hX rfl 0 rfl dX6_rules_17 ?_
    refine gf_6_7 (o := 0) hX fl_X6_48 rfl rfl dX6_rules_18 ?_
    refine r_aload_n hX rfl 0 rfl dX6_rules_21 ?_
    refine gf_6_11 (o := 0) hX fl_X6_70 rfl rfl dX6_rules_22 ?_
    obtain ⟨hk2, h⟩ := kc_e h
    refine r_aaldC hX hk2 dX6_rules_25 ?_
    refine r_goto hX dX6_rules_26 ?_
    have g0 := Option.some.inj h
    subst g0
    exact r_aret hX hQ dX6_rules_33
abbrev rm_X6_of : Room := { frames := 2, cells := 0, slots := 0, locals := 110 }
def f_X6_of (s : Mm) (a1 : Int32) (a2 : Int32) : Option (Int32 × Mm) :=
  Option.bind (f_X6_known s a1) (fun x1 => (if x1 = 0 then some ((-1), s) else (if a2 = 0 then (if inb a1 6 = true then some (((s 1) 5 (ix a1)), s) else none) else (if a2 = 1 then (if inb a1 6 = true then some (((s 1) 6 (ix a1)), s) else none) else (if a2 = 2 then (if inb a1 6 = true then some (((s 1) 7 (ix a1)), s) else none) else (if a2 = 3 then (if inb a1 6 = true then some (((s 1) 8 (ix a1)), s) else none) else (if a2 = 4 then (if inb a1 6 = true then some (((s 1) 9 (ix a1)), s) else none) else (if a2 = 5 then (if inb a1 6 = true then some (((s 1) 10 (ix a1)), s) else none) else (if a2 = 6 then (if inb a1 6 = true then some (((s 1) 11 (ix a1)), s) else none) else (if a2 = 7 then (if inb a1 6 = true then some (((s 1) 12 (ix a1)), s) else none) else (if a2 = 8 then Option.bind (f_X6_rules s) (fun x10 => (if kdo x10 = 1 then bn2 (f_X1_rate (s x10) (s 1) a1) (fun x12 p13 => nb (setO s x10 p13) (fun s14 => some (x12, s14))) else none)) else (if a2 = 9 then Option.bind (f_X6_rules s) (fun x15 => (if kdo x15 = 1 then Option.bind (f_X5_asks (s 1) a1 ((s x15) 0 0)) (fun x17 => some (x17, s)) else none)) else (if a2 = 10 then Option.bind (f_X5_keeps (s 1) a1) (fun x18 => some (x18, s)) else (if a2 = 11 then Option.bind (f_X5_staysAway (s 1) a1) (fun x19 => (if x19 = 0 then some (0, s) else some (1, s))) else (if a2 = 12 then Option.bind (f_X5_bringsBack (s 1) a1) (fun x20 => some (x20, s)) else some ((-1), s))))))))))))))))
set_option maxHeartbeats 4000000 in
set_option maxRecDepth 100000 in
theorem c_X6_of (l : Launch) (G : GE) {lm : Ml}  {s : Mm} {a1 : Int32} {a2 : Int32} {rz : Int32} {sz : Mm} (h : f_X6_of s a1 a2 = some (rz, sz)) : CM l G yX6_of bX6_of 3 (Option.some Jvm.ClassFile.FieldType.int) rm_X6_of [.ref (gA G 0 0), .int a1, .int a2] s lm (some (.int rz)) sz lm := by
  refine CM.of (own := zR6) (L0 := [(0, .ref (gA G 0 0)), (1, .int a1), (2, .int a2)]) (by decide +kernel) rfl (Nat.le_of_ble_eq_true rfl) rfl (fun X hl hX hR hQ => ?_)
  unfold f_X6_of at h
  refine r_aload_n hX rfl 0 rfl dX6_of_0 ?_
  refine r_iload_n hX rfl 1 rfl dX6_of_1 ?_
  obtain ⟨x1, hc1, h⟩ := bn_e h
  refine r_callVi hX hR (c_X6_known X.2.1 G hc1) rfl rfl mf_X6_known ml_X6_91 in_X6_known se_X6_known rfl rfl ⟨rfl, rfl, Nat.le_of_ble_eq_true rfl, Nat.le_of_ble_eq_true rfl⟩ rfl (st := []) rfl (Nat.le_of_ble_eq_true rfl) dX6_of_2 ?_
  refine r_if_ne hX dX6_of_5 (fun hc => ?_) (fun hc => ?_)
  · replace h := in_e hc h
    refine r_iload_n hX rfl 2 rfl dX6_of_10 ?_
    by_cases hc0 : a2 = 0
    · replace h := ip_e hc0 h
      refine r_tswI (k := 0) (off := 65) (tgt := 76) hX hc0 (by decide) (by decide) (by decide) dX6_of_11 ?_
      refine r_aload_n hX rfl 0 rfl dX6_of_76 ?_
      refine gf_6_0 (o := 0) hX fl_X6_12 rfl rfl dX6_of_77 ?_
      refine gf_5_4 (o := 1) hX fl_X6_95 rfl rfl dX6_of_80 ?_
      refine r_iload_n hX rfl 1 rfl dX6_of_83 ?_
      obtain ⟨hk2, h⟩ := kc_e h
      refine ga_5_5 (o := 1) hX rfl rfl hk2 dX6_of_84 ?_
      have g0 := Option.some.inj h
      obtain ⟨q0, g1⟩ := Prod.mk.inj g0
      subst q0
      subst g1
      exact r_iret hX hQ dX6_of_85
    · replace h := in_e hc0 h
      by_cases hc1 : a2 = 1
      · replace h := ip_e hc1 h
        refine r_tswI (k := 1) (off := 75) (tgt := 86) hX hc1 (by decide) (by decide) (by decide) dX6_of_11 ?_
        refine r_aload_n hX rfl 0 rfl dX6_of_86 ?_
        refine gf_6_0 (o := 0) hX fl_X6_12 rfl rfl dX6_of_87 ?_
        refine gf_5_5 (o := 1) hX fl_X6_99 rfl rfl dX6_of_90 ?_
        refine r_iload_n hX rfl 1 rfl dX6_of_93 ?_
        obtain ⟨hk3, h⟩ := kc_e h
        refine ga_5_6 (o := 1) hX rfl rfl hk3 dX6_of_94 ?_
        have g0 := Option.some.inj h
        obtain ⟨q0, g1⟩ := Prod.mk.inj g0
        subst q0
        subst g1
        exact r_iret hX hQ dX6_of_95
      · replace h := in_e hc1 h
        by_cases hc2 : a2 = 2
        · replace h := ip_e hc2 h
          refine r_tswI (k := 2) (off := 85) (tgt := 96) hX hc2 (by decide) (by decide) (by decide) dX6_of_11 ?_
          refine r_aload_n hX rfl 0 rfl dX6_of_96 ?_
          refine gf_6_0 (o := 0) hX fl_X6_12 rfl rfl dX6_of_97 ?_
          refine gf_5_6 (o := 1) hX fl_X6_102 rfl rfl dX6_of_100 ?_
          refine r_iload_n hX rfl 1 rfl dX6_of_103 ?_
          obtain ⟨hk4, h⟩ := kc_e h
          refine ga_5_7 (o := 1) hX rfl rfl hk4 dX6_of_104 ?_
          have g0 := Option.some.inj h
          obtain ⟨q0, g1⟩ := Prod.mk.inj g0
          subst q0
          subst g1
          exact r_iret hX hQ dX6_of_105
        · replace h := in_e hc2 h
          by_cases hc3 : a2 = 3
          · replace h := ip_e hc3 h
            refine r_tswI (k := 3) (off := 95) (tgt := 106) hX hc3 (by decide) (by decide) (by decide) dX6_of_11 ?_
            refine r_aload_n hX rfl 0 rfl dX6_of_106 ?_
            refine gf_6_0 (o := 0) hX fl_X6_12 rfl rfl dX6_of_107 ?_
            refine gf_5_7 (o := 1) hX fl_X6_105 rfl rfl dX6_of_110 ?_
            refine r_iload_n hX rfl 1 rfl dX6_of_113 ?_
            obtain ⟨hk5, h⟩ := kc_e h
            refine ga_5_8 (o := 1) hX rfl rfl hk5 dX6_of_114 ?_
            have g0 := Option.some.inj h
            obtain ⟨q0, g1⟩ := Prod.mk.inj g0
            subst q0
            subst g1
            exact r_iret hX hQ dX6_of_115
          · replace h := in_e hc3 h
            by_cases hc4 : a2 = 4
            · replace h := ip_e hc4 h
              refine r_tswI (k := 4) (off := 105) (tgt := 116) hX hc4 (by decide) (by decide) (by decide) dX6_of_11 ?_
              refine r_aload_n hX rfl 0 rfl dX6_of_116 ?_
              refine gf_6_0 (o := 0) hX fl_X6_12 rfl rfl dX6_of_117 ?_
              refine gf_5_8 (o := 1) hX fl_X6_108 rfl rfl dX6_of_120 ?_
              refine r_iload_n hX rfl 1 rfl dX6_of_123 ?_
              obtain ⟨hk6, h⟩ := kc_e h
              refine ga_5_9 (o := 1) hX rfl rfl hk6 dX6_of_124 ?_
              have g0 := Option.some.inj h
              obtain ⟨q0, g1⟩ := Prod.mk.inj g0
              subst q0
              subst g1
              exact r_iret hX hQ dX6_of_125
            · replace h := in_e hc4 h
              by_cases hc5 : a2 = 5
              · replace h := ip_e hc5 h
                refine r_tswI (k := 5) (off := 115) (tgt := 126) hX hc5 (by decide) (by decide) (by decide) dX6_of_11 ?_
                refine r_aload_n hX rfl 0 rfl dX6_of_126 ?_
                refine gf_6_0 (o := 0) hX fl_X6_12 rfl rfl dX6_of_127 ?_
                refine gf_5_9 (o := 1) hX fl_X6_111 rfl rfl dX6_of_130 ?_
                refine r_iload_n hX rfl 1 rfl dX6_of_133 ?_
                obtain ⟨hk7, h⟩ := kc_e h
                refine ga_5_10 (o := 1) hX rfl rfl hk7 dX6_of_134 ?_
                have g0 := Option.some.inj h
                obtain ⟨q0, g1⟩ := Prod.mk.inj g0
                subst q0
                subst g1
                exact r_iret hX hQ dX6_of_135
              · replace h := in_e hc5 h
                by_cases hc6 : a2 = 6
                · replace h := ip_e hc6 h
                  refine r_tswI (k := 6) (off := 125) (tgt := 136) hX hc6 (by decide) (by decide) (by decide) dX6_of_11 ?_
                  refine r_aload_n hX rfl 0 rfl dX6_of_136 ?_
                  refine gf_6_0 (o := 0) hX fl_X6_12 rfl rfl dX6_of_137 ?_
                  refine gf_5_10 (o := 1) hX fl_X6_114 rfl rfl dX6_of_140 ?_
                  refine r_iload_n hX rfl 1 rfl dX6_of_143 ?_
                  obtain ⟨hk8, h⟩ := kc_e h
                  refine ga_5_11 (o := 1) hX rfl rfl hk8 dX6_of_144 ?_
                  have g0 := Option.some.inj h
                  obtain ⟨q0, g1⟩ := Prod.mk.inj g0
                  subst q0
                  subst g1
                  exact r_iret hX hQ dX6_of_145
                · replace h := in_e hc6 h
                  by_cases hc7 : a2 = 7
                  · replace h := ip_e hc7 h
                    refine r_tswI (k := 7) (off := 135) (tgt := 146) hX hc7 (by decide) (by decide) (by decide) dX6_of_11 ?_
                    refine r_aload_n hX rfl 0 rfl dX6_of_146 ?_
                    refine gf_6_0 (o := 0) hX fl_X6_12 rfl rfl dX6_of_147 ?_
                    refine gf_5_11 (o := 1) hX fl_X6_117 rfl rfl dX6_of_150 ?_
                    refine r_iload_n hX rfl 1 rfl dX6_of_153 ?_
                    obtain ⟨hk9, h⟩ := kc_e h
                    refine ga_5_12 (o := 1) hX rfl rfl hk9 dX6_of_154 ?_
                    have g0 := Option.some.inj h
                    obtain ⟨q0, g1⟩ := Prod.mk.inj g0
                    subst q0
                    subst g1
                    exact r_iret hX hQ dX6_of_155
                  · replace h := in_e hc7 h
                    by_cases hc8 : a2 = 8
                    · replace h := ip_e hc8 h
                      refine r_tswI (k := 8) (off := 145) (tgt := 156) hX hc8 (by decide) (by decide) (by decide) dX6_of_11 ?_
                      refine r_aload_n hX rfl 0 rfl dX6_of_156 ?_
                      obtain ⟨x10, hc10, h⟩ := bn_e h
                      obtain ⟨hk11, h⟩ := kc_e h
                      refine r_callVi hX hR (c_X6_rules X.2.1 G hc10) rfl rfl mf_X6_rules ml_X6_120 in_X6_rules se_X6_rules rfl rfl ⟨rfl, rfl, Nat.le_of_ble_eq_true rfl, Nat.le_of_ble_eq_true rfl⟩ rfl (st := []) rfl (Nat.le_of_ble_eq_true rfl) dX6_of_157 ?_
                      refine r_aload_n hX rfl 0 rfl dX6_of_160 ?_
                      refine gf_6_0 (o := 0) hX fl_X6_12 rfl rfl dX6_of_161 ?_
                      refine r_iload_n hX rfl 1 rfl dX6_of_164 ?_
                      obtain ⟨x12, p13, hc13, h⟩ := bn2_e h
                      obtain ⟨s14, hs14, h⟩ := nb_e h
                      refine r_callVi hX hR (c_X1_rate (σ := s) X.2.1 G hk11 rfl (kd_ne hk11 (rfl : kdo 1 = 5) (by decide)) hc13) (m2_i (kd_ne hk11 (rfl : kdo 1 = 5) (by decide))) ((m2_b1 (kd_ne hk11 (rfl : kdo 1 = 5) (by decide))).trans hs14.symm) mf_X1_rate ml_X6_124 in_X1_rate se_X1_rate hk11 rfl ⟨rfl, rfl, Nat.le_of_ble_eq_true rfl, Nat.le_of_ble_eq_true rfl⟩ rfl (st := []) rfl (Nat.le_of_ble_eq_true rfl) dX6_of_165 ?_
                      have g0 := Option.some.inj h
                      obtain ⟨q0, g1⟩ := Prod.mk.inj g0
                      subst q0
                      subst g1
                      exact r_iret hX hQ dX6_of_168
                    · replace h := in_e hc8 h
                      by_cases hc9 : a2 = 9
                      · replace h := ip_e hc9 h
                        refine r_tswI (k := 9) (off := 158) (tgt := 169) hX hc9 (by decide) (by decide) (by decide) dX6_of_11 ?_
                        refine r_aload_n hX rfl 0 rfl dX6_of_169 ?_
                        refine gf_6_0 (o := 0) hX fl_X6_12 rfl rfl dX6_of_170 ?_
                        refine r_iload_n hX rfl 1 rfl dX6_of_173 ?_
                        refine r_aload_n hX rfl 0 rfl dX6_of_174 ?_
                        obtain ⟨x15, hc15, h⟩ := bn_e h
                        obtain ⟨hk16, h⟩ := kc_e h
                        refine r_callVi hX hR (c_X6_rules X.2.1 G hc15) rfl rfl mf_X6_rules ml_X6_120 in_X6_rules se_X6_rules rfl rfl ⟨rfl, rfl, Nat.le_of_ble_eq_true rfl, Nat.le_of_ble_eq_true rfl⟩ rfl (st := [.int a1, .ref (gA G 1 0)]) rfl (Nat.le_of_ble_eq_true rfl) dX6_of_175 ?_
                        refine gf_1_0 hX fl_X6_128 hk16 rfl dX6_of_178 ?_
                        obtain ⟨x17, hc17, h⟩ := bn_e h
                        refine r_callVi hX hR (c_X5_asks (σ := s) X.2.1 G rfl hc17) m1_i m1_i mf_X5_asks ml_X6_131 in_X5_asks se_X5_asks rfl rfl ⟨rfl, rfl, Nat.le_of_ble_eq_true rfl, Nat.le_of_ble_eq_true rfl⟩ rfl (st := []) rfl (Nat.le_of_ble_eq_true rfl) dX6_of_181 ?_
                        have g0 := Option.some.inj h
                        obtain ⟨q0, g1⟩ := Prod.mk.inj g0
                        subst q0
                        subst g1
                        exact r_iret hX hQ dX6_of_184
                      · replace h := in_e hc9 h
                        by_cases hc10 : a2 = 10
                        · replace h := ip_e hc10 h
                          refine r_tswI (k := 10) (off := 174) (tgt := 185) hX hc10 (by decide) (by decide) (by decide) dX6_of_11 ?_
                          refine r_aload_n hX rfl 0 rfl dX6_of_185 ?_
                          refine gf_6_0 (o := 0) hX fl_X6_12 rfl rfl dX6_of_186 ?_
                          refine r_iload_n hX rfl 1 rfl dX6_of_189 ?_
                          obtain ⟨x18, hc18, h⟩ := bn_e h
                          refine r_callVi hX hR (c_X5_keeps (σ := s) X.2.1 G rfl hc18) m1_i m1_i mf_X5_keeps ml_X6_135 in_X5_keeps se_X5_keeps rfl rfl ⟨rfl, rfl, Nat.le_of_ble_eq_true rfl, Nat.le_of_ble_eq_true rfl⟩ rfl (st := []) rfl (Nat.le_of_ble_eq_true rfl) dX6_of_190 ?_
                          have g0 := Option.some.inj h
                          obtain ⟨q0, g1⟩ := Prod.mk.inj g0
                          subst q0
                          subst g1
                          exact r_iret hX hQ dX6_of_193
                        · replace h := in_e hc10 h
                          by_cases hc11 : a2 = 11
                          · replace h := ip_e hc11 h
                            refine r_tswI (k := 11) (off := 183) (tgt := 194) hX hc11 (by decide) (by decide) (by decide) dX6_of_11 ?_
                            refine r_aload_n hX rfl 0 rfl dX6_of_194 ?_
                            refine gf_6_0 (o := 0) hX fl_X6_12 rfl rfl dX6_of_195 ?_
                            refine r_iload_n hX rfl 1 rfl dX6_of_198 ?_
                            obtain ⟨x19, hc19, h⟩ := bn_e h
                            refine r_callVi hX hR (c_X5_staysAway (σ := s) X.2.1 G rfl hc19) m1_i m1_i mf_X5_staysAway ml_X6_139 in_X5_staysAway se_X5_staysAway rfl rfl ⟨rfl, rfl, Nat.le_of_ble_eq_true rfl, Nat.le_of_ble_eq_true rfl⟩ rfl (st := []) rfl (Nat.le_of_ble_eq_true rfl) dX6_of_199 ?_
                            refine r_if_eq hX dX6_of_202 (fun hc => ?_) (fun hc => ?_)
                            · replace h := ip_e hc h
                              refine r_iconst (v := 0) hX (by decide) dX6_of_209 ?_
                              have g0 := Option.some.inj h
                              obtain ⟨q0, g1⟩ := Prod.mk.inj g0
                              subst q0
                              subst g1
                              exact r_iret hX hQ dX6_of_210
                            · replace h := in_e hc h
                              refine r_iconst (v := 1) hX (by decide) dX6_of_205 ?_
                              refine r_goto hX dX6_of_206 ?_
                              have g0 := Option.some.inj h
                              obtain ⟨q0, g1⟩ := Prod.mk.inj g0
                              subst q0
                              subst g1
                              exact r_iret hX hQ dX6_of_210
                          · replace h := in_e hc11 h
                            by_cases hc12 : a2 = 12
                            · replace h := ip_e hc12 h
                              refine r_tswI (k := 12) (off := 200) (tgt := 211) hX hc12 (by decide) (by decide) (by decide) dX6_of_11 ?_
                              refine r_aload_n hX rfl 0 rfl dX6_of_211 ?_
                              refine gf_6_0 (o := 0) hX fl_X6_12 rfl rfl dX6_of_212 ?_
                              refine r_iload_n hX rfl 1 rfl dX6_of_215 ?_
                              obtain ⟨x20, hc20, h⟩ := bn_e h
                              refine r_callVi hX hR (c_X5_bringsBack (σ := s) X.2.1 G rfl hc20) m1_i m1_i mf_X5_bringsBack ml_X6_142 in_X5_bringsBack se_X5_bringsBack rfl rfl ⟨rfl, rfl, Nat.le_of_ble_eq_true rfl, Nat.le_of_ble_eq_true rfl⟩ rfl (st := []) rfl (Nat.le_of_ble_eq_true rfl) dX6_of_216 ?_
                              have g0 := Option.some.inj h
                              obtain ⟨q0, g1⟩ := Prod.mk.inj g0
                              subst q0
                              subst g1
                              exact r_iret hX hQ dX6_of_219
                            · replace h := in_e hc12 h
                              have hD : WW X G 3 s lm 220 [(0, .ref (gA G 0 0)), (1, .int a1), (2, .int a2)] [] := by
                                refine r_iconst (v := (-1)) hX (by decide) dX6_of_220 ?_
                                have g0 := Option.some.inj h
                                obtain ⟨q0, g1⟩ := Prod.mk.inj g0
                                subst q0
                                subst g1
                                exact r_iret hX hQ dX6_of_221
                              refine r_tswD (tgt := 220) hX ?_ (by decide) dX6_of_11 hD
                              have j0 := i32n (n := 0) hc0 rfl
                              have j1 := i32n (n := 1) hc1 rfl
                              have j2 := i32n (n := 2) hc2 rfl
                              have j3 := i32n (n := 3) hc3 rfl
                              have j4 := i32n (n := 4) hc4 rfl
                              have j5 := i32n (n := 5) hc5 rfl
                              have j6 := i32n (n := 6) hc6 rfl
                              have j7 := i32n (n := 7) hc7 rfl
                              have j8 := i32n (n := 8) hc8 rfl
                              have j9 := i32n (n := 9) hc9 rfl
                              have j10 := i32n (n := 10) hc10 rfl
                              have j11 := i32n (n := 11) hc11 rfl
                              have j12 := i32n (n := 12) hc12 rfl
                              omega
  · replace h := ip_e hc h
    refine r_iconst (v := (-1)) hX (by decide) dX6_of_8 ?_
    have g0 := Option.some.inj h
    obtain ⟨q0, g1⟩ := Prod.mk.inj g0
    subst q0
    subst g1
    exact r_iret hX hQ dX6_of_9
abbrev rm_X6_set : Room := { frames := 2, cells := 0, slots := 0, locals := 103 }
def f_X6_set_J66 (s : Mm) (v1 : Int32) (v2 : Int32) (v3 : Int32) (w0 : Int32) : Option (Int32 × Mm) :=
  (if v2 = 0 then (if inb v1 6 = true then nb (setO s 1 (up2 (s 1) 7 (ix v1) v3)) (fun s4 => some (w0, s4)) else none) else (if inb v1 6 = true then nb (setO s 1 (up2 (s 1) 8 (ix v1) v3)) (fun s2 => some (w0, s2)) else none))
def f_X6_set_J32 (s : Mm) (v1 : Int32) (v2 : Int32) (v3 : Int32) (w0 : Int32) (w1 : Int32) (w2 : Int32) : Option (Int32 × Mm) :=
  Option.bind (f_X6_within w2 w1 w0) (fun x5 => (if x5 = 0 then some ((-2), s) else (if v2 = 0 then (if inb v1 6 = true then f_X6_set_J66 s v1 v2 v3 ((s 1) 7 (ix v1)) else none) else (if inb v1 6 = true then f_X6_set_J66 s v1 v2 v3 ((s 1) 8 (ix v1)) else none))))
def f_X6_set (s : Mm) (a1 : Int32) (a2 : Int32) (a3 : Int32) : Option (Int32 × Mm) :=
  Option.bind (f_X6_known s a1) (fun x8 => (if x8 = 0 then some ((-1), s) else Option.bind (f_X6_within a2 0 1) (fun x9 => (if x9 = 0 then some ((-1), s) else (if a2 = 0 then f_X6_set_J32 s a1 a2 a3 99 1 a3 else f_X6_set_J32 s a1 a2 a3 20 1 a3)))))
set_option maxHeartbeats 4000000 in
set_option maxRecDepth 100000 in
theorem c_X6_set (l : Launch) (G : GE) {lm : Ml}  {s : Mm} {a1 : Int32} {a2 : Int32} {a3 : Int32} {rz : Int32} {sz : Mm} (h : f_X6_set s a1 a2 a3 = some (rz, sz)) : CM l G yX6_set bX6_set 5 (Option.some Jvm.ClassFile.FieldType.int) rm_X6_set [.ref (gA G 0 0), .int a1, .int a2, .int a3] s lm (some (.int rz)) sz lm := by
  refine CM.of (own := zR6) (L0 := [(0, .ref (gA G 0 0)), (1, .int a1), (2, .int a2), (3, .int a3)]) (by decide +kernel) rfl (Nat.le_of_ble_eq_true rfl) rfl (fun X hl hX hR hQ => ?_)
  have K66 : ∀ (s : Mm) (v1 : Int32) (v2 : Int32) (v3 : Int32) (w0 : Int32) (_ : True), f_X6_set_J66 s v1 v2 v3 w0 = some (rz, sz) → WW X G 5 s lm 66 [(0, .ref (gA G 0 0)), (1, .int v1), (2, .int v2), (3, .int v3)] [.int w0] := by
    intro s v1 v2 v3 w0 _ h
    unfold f_X6_set_J66 at h
    refine r_istore (L2 := [(4, .int w0), (0, .ref (gA G 0 0)), (1, .int v1), (2, .int v2), (3, .int v3)]) hX (by decide) rfl dX6_set_66 ?_
    refine r_iload_n hX rfl 3 rfl dX6_set_68 ?_
    refine r_if_ne hX dX6_set_69 (fun hc => ?_) (fun hc => ?_)
    · replace h := in_e hc h
      refine r_aload_n hX rfl 1 rfl dX6_set_85 ?_
      refine gf_6_0 (o := 0) hX fl_X6_12 rfl rfl dX6_set_86 ?_
      refine gf_5_7 (o := 1) hX fl_X6_105 rfl rfl dX6_set_89 ?_
      refine r_iload_n hX rfl 2 rfl dX6_set_92 ?_
      refine r_iload_n hX rfl 4 rfl dX6_set_93 ?_
      obtain ⟨hk1, h⟩ := kc_e h
      obtain ⟨s2, hs2, h⟩ := nb_e h
      refine pa_5_8 (o := 1) hX rfl rfl hk1 hs2.symm dX6_set_94 ?_
      refine r_iload hX 0 rfl dX6_set_95 ?_
      have g0 := Option.some.inj h
      obtain ⟨q0, g1⟩ := Prod.mk.inj g0
      subst q0
      subst g1
      exact r_iret hX hQ dX6_set_97
    · replace h := ip_e hc h
      refine r_aload_n hX rfl 1 rfl dX6_set_72 ?_
      refine gf_6_0 (o := 0) hX fl_X6_12 rfl rfl dX6_set_73 ?_
      refine gf_5_6 (o := 1) hX fl_X6_102 rfl rfl dX6_set_76 ?_
      refine r_iload_n hX rfl 2 rfl dX6_set_79 ?_
      refine r_iload_n hX rfl 4 rfl dX6_set_80 ?_
      obtain ⟨hk3, h⟩ := kc_e h
      obtain ⟨s4, hs4, h⟩ := nb_e h
      refine pa_5_7 (o := 1) hX rfl rfl hk3 hs4.symm dX6_set_81 ?_
      refine r_goto hX dX6_set_82 ?_
      refine r_iload hX 0 rfl dX6_set_95 ?_
      have g0 := Option.some.inj h
      obtain ⟨q0, g1⟩ := Prod.mk.inj g0
      subst q0
      subst g1
      exact r_iret hX hQ dX6_set_97
  have K32 : ∀ (s : Mm) (v1 : Int32) (v2 : Int32) (v3 : Int32) (w0 : Int32) (w1 : Int32) (w2 : Int32) (_ : True), f_X6_set_J32 s v1 v2 v3 w0 w1 w2 = some (rz, sz) → WW X G 5 s lm 32 [(0, .ref (gA G 0 0)), (1, .int v1), (2, .int v2), (3, .int v3)] [.int w0, .int w1, .int w2] := by
    intro s v1 v2 v3 w0 w1 w2 _ h
    unfold f_X6_set_J32 at h
    obtain ⟨x5, hc5, h⟩ := bn_e h
    refine r_callSi hX hR (c_X6_within (σ := s) X.2.1 G hc5) rfl rfl mf_X6_within ml_X6_80 st_X6_within ⟨rfl, rfl, Nat.le_of_ble_eq_true rfl, Nat.le_of_ble_eq_true rfl⟩ rfl (st := []) rfl (Nat.le_of_ble_eq_true rfl) dX6_set_32 ?_
    refine r_if_ne hX dX6_set_35 (fun hc => ?_) (fun hc => ?_)
    · replace h := in_e hc h
      refine r_iload_n hX rfl 2 rfl dX6_set_41 ?_
      refine r_if_ne hX dX6_set_42 (fun hc => ?_) (fun hc => ?_)
      · replace h := in_e hc h
        refine r_aload_n hX rfl 0 rfl dX6_set_57 ?_
        refine gf_6_0 (o := 0) hX fl_X6_12 rfl rfl dX6_set_58 ?_
        refine gf_5_7 (o := 1) hX fl_X6_105 rfl rfl dX6_set_61 ?_
        refine r_iload_n hX rfl 1 rfl dX6_set_64 ?_
        obtain ⟨hk6, h⟩ := kc_e h
        refine ga_5_8 (o := 1) hX rfl rfl hk6 dX6_set_65 ?_
        exact WW.sub [0, 1, 2, 3] rfl (K66 s v1 v2 v3 ((s 1) 8 (ix v1)) trivial h)
      · replace h := ip_e hc h
        refine r_aload_n hX rfl 0 rfl dX6_set_45 ?_
        refine gf_6_0 (o := 0) hX fl_X6_12 rfl rfl dX6_set_46 ?_
        refine gf_5_6 (o := 1) hX fl_X6_102 rfl rfl dX6_set_49 ?_
        refine r_iload_n hX rfl 1 rfl dX6_set_52 ?_
        obtain ⟨hk7, h⟩ := kc_e h
        refine ga_5_7 (o := 1) hX rfl rfl hk7 dX6_set_53 ?_
        refine r_goto hX dX6_set_54 ?_
        exact WW.sub [0, 1, 2, 3] rfl (K66 s v1 v2 v3 ((s 1) 7 (ix v1)) trivial h)
    · replace h := ip_e hc h
      refine r_bipush (v := (-2)) hX (by decide) dX6_set_38 ?_
      have g0 := Option.some.inj h
      obtain ⟨q0, g1⟩ := Prod.mk.inj g0
      subst q0
      subst g1
      exact r_iret hX hQ dX6_set_40
  unfold f_X6_set at h
  refine r_aload_n hX rfl 0 rfl dX6_set_0 ?_
  refine r_iload_n hX rfl 1 rfl dX6_set_1 ?_
  obtain ⟨x8, hc8, h⟩ := bn_e h
  refine r_callVi hX hR (c_X6_known X.2.1 G hc8) rfl rfl mf_X6_known ml_X6_91 in_X6_known se_X6_known rfl rfl ⟨rfl, rfl, Nat.le_of_ble_eq_true rfl, Nat.le_of_ble_eq_true rfl⟩ rfl (st := []) rfl (Nat.le_of_ble_eq_true rfl) dX6_set_2 ?_
  refine r_if_eq hX dX6_set_5 (fun hc => ?_) (fun hc => ?_)
  · replace h := ip_e hc h
    refine r_iconst (v := (-1)) hX (by decide) dX6_set_17 ?_
    have g0 := Option.some.inj h
    obtain ⟨q0, g1⟩ := Prod.mk.inj g0
    subst q0
    subst g1
    exact r_iret hX hQ dX6_set_18
  · replace h := in_e hc h
    refine r_iload_n hX rfl 2 rfl dX6_set_8 ?_
    refine r_iconst (v := 0) hX (by decide) dX6_set_9 ?_
    refine r_iconst (v := 1) hX (by decide) dX6_set_10 ?_
    obtain ⟨x9, hc9, h⟩ := bn_e h
    refine r_callSi hX hR (c_X6_within (σ := s) X.2.1 G hc9) rfl rfl mf_X6_within ml_X6_80 st_X6_within ⟨rfl, rfl, Nat.le_of_ble_eq_true rfl, Nat.le_of_ble_eq_true rfl⟩ rfl (st := []) rfl (Nat.le_of_ble_eq_true rfl) dX6_set_11 ?_
    refine r_if_ne hX dX6_set_14 (fun hc => ?_) (fun hc => ?_)
    · replace h := in_e hc h
      refine r_iload_n hX rfl 3 rfl dX6_set_19 ?_
      refine r_iconst (v := 1) hX (by decide) dX6_set_20 ?_
      refine r_iload_n hX rfl 2 rfl dX6_set_21 ?_
      refine r_if_ne hX dX6_set_22 (fun hc => ?_) (fun hc => ?_)
      · replace h := in_e hc h
        refine r_bipush (v := 20) hX (by decide) dX6_set_30 ?_
        exact WW.sub [0, 1, 2, 3] rfl (K32 s a1 a2 a3 20 1 a3 trivial h)
      · replace h := ip_e hc h
        refine r_bipush (v := 99) hX (by decide) dX6_set_25 ?_
        refine r_goto hX dX6_set_27 ?_
        exact WW.sub [0, 1, 2, 3] rfl (K32 s a1 a2 a3 99 1 a3 trivial h)
    · replace h := ip_e hc h
      refine r_iconst (v := (-1)) hX (by decide) dX6_set_17 ?_
      have g0 := Option.some.inj h
      obtain ⟨q0, g1⟩ := Prod.mk.inj g0
      subst q0
      subst g1
      exact r_iret hX hQ dX6_set_18
abbrev rm_X6_row : Room := { frames := 2, cells := 0, slots := 0, locals := 103 }
def f_X6_row (s : Mm) (a1 : Int32) (a2 : Int32) (a3 : Int32) : Option (Int32 × Mm) :=
  Option.bind (f_X6_known s a1) (fun x1 => (if x1 = 0 then some ((-1), s) else Option.bind (f_X6_within a2 0 3) (fun x2 => (if x2 = 0 then some ((-1), s) else Option.bind (f_X6_within a3 0 9) (fun x3 => (if x3 = 0 then some ((-2), s) else (if inb a1 6 = true then (if ((s 1) 5 (ix a1)) = 6 then (if inb ((a1 * 4) + a2) 24 = true then (if inb ((a1 * 4) + a2) 24 = true then nb (setO s 1 (up2 (s 1) 14 (ix ((a1 * 4) + a2)) a3)) (fun s7 => some (((s 1) 14 (ix ((a1 * 4) + a2))), s7)) else none) else none) else some ((-3), s)) else none)))))))
set_option maxHeartbeats 4000000 in
set_option maxRecDepth 100000 in
theorem c_X6_row (l : Launch) (G : GE) {lm : Ml}  {s : Mm} {a1 : Int32} {a2 : Int32} {a3 : Int32} {rz : Int32} {sz : Mm} (h : f_X6_row s a1 a2 a3 = some (rz, sz)) : CM l G yX6_row bX6_row 5 (Option.some Jvm.ClassFile.FieldType.int) rm_X6_row [.ref (gA G 0 0), .int a1, .int a2, .int a3] s lm (some (.int rz)) sz lm := by
  refine CM.of (own := zR6) (L0 := [(0, .ref (gA G 0 0)), (1, .int a1), (2, .int a2), (3, .int a3)]) (by decide +kernel) rfl (Nat.le_of_ble_eq_true rfl) rfl (fun X hl hX hR hQ => ?_)
  unfold f_X6_row at h
  refine r_aload_n hX rfl 0 rfl dX6_row_0 ?_
  refine r_iload_n hX rfl 1 rfl dX6_row_1 ?_
  obtain ⟨x1, hc1, h⟩ := bn_e h
  refine r_callVi hX hR (c_X6_known X.2.1 G hc1) rfl rfl mf_X6_known ml_X6_91 in_X6_known se_X6_known rfl rfl ⟨rfl, rfl, Nat.le_of_ble_eq_true rfl, Nat.le_of_ble_eq_true rfl⟩ rfl (st := []) rfl (Nat.le_of_ble_eq_true rfl) dX6_row_2 ?_
  refine r_if_eq hX dX6_row_5 (fun hc => ?_) (fun hc => ?_)
  · replace h := ip_e hc h
    refine r_iconst (v := (-1)) hX (by decide) dX6_row_17 ?_
    have g0 := Option.some.inj h
    obtain ⟨q0, g1⟩ := Prod.mk.inj g0
    subst q0
    subst g1
    exact r_iret hX hQ dX6_row_18
  · replace h := in_e hc h
    refine r_iload_n hX rfl 2 rfl dX6_row_8 ?_
    refine r_iconst (v := 0) hX (by decide) dX6_row_9 ?_
    refine r_iconst (v := 3) hX (by decide) dX6_row_10 ?_
    obtain ⟨x2, hc2, h⟩ := bn_e h
    refine r_callSi hX hR (c_X6_within (σ := s) X.2.1 G hc2) rfl rfl mf_X6_within ml_X6_80 st_X6_within ⟨rfl, rfl, Nat.le_of_ble_eq_true rfl, Nat.le_of_ble_eq_true rfl⟩ rfl (st := []) rfl (Nat.le_of_ble_eq_true rfl) dX6_row_11 ?_
    refine r_if_ne hX dX6_row_14 (fun hc => ?_) (fun hc => ?_)
    · replace h := in_e hc h
      refine r_iload_n hX rfl 3 rfl dX6_row_19 ?_
      refine r_iconst (v := 0) hX (by decide) dX6_row_20 ?_
      refine r_bipush (v := 9) hX (by decide) dX6_row_21 ?_
      obtain ⟨x3, hc3, h⟩ := bn_e h
      refine r_callSi hX hR (c_X6_within (σ := s) X.2.1 G hc3) rfl rfl mf_X6_within ml_X6_80 st_X6_within ⟨rfl, rfl, Nat.le_of_ble_eq_true rfl, Nat.le_of_ble_eq_true rfl⟩ rfl (st := []) rfl (Nat.le_of_ble_eq_true rfl) dX6_row_23 ?_
      refine r_if_ne hX dX6_row_26 (fun hc => ?_) (fun hc => ?_)
      · replace h := in_e hc h
        refine r_aload_n hX rfl 0 rfl dX6_row_32 ?_
        refine gf_6_0 (o := 0) hX fl_X6_12 rfl rfl dX6_row_33 ?_
        refine gf_5_4 (o := 1) hX fl_X6_95 rfl rfl dX6_row_36 ?_
        refine r_iload_n hX rfl 1 rfl dX6_row_39 ?_
        obtain ⟨hk4, h⟩ := kc_e h
        refine ga_5_5 (o := 1) hX rfl rfl hk4 dX6_row_40 ?_
        refine r_bipush (v := 6) hX (by decide) dX6_row_41 ?_
        refine r_icmp_eq hX dX6_row_43 (fun hc => ?_) (fun hc => ?_)
        · replace h := ip_e hc h
          refine r_aload_n hX rfl 0 rfl dX6_row_49 ?_
          refine gf_6_0 (o := 0) hX fl_X6_12 rfl rfl dX6_row_50 ?_
          refine gf_5_13 (o := 1) hX fl_X6_145 rfl rfl dX6_row_53 ?_
          refine r_iload_n hX rfl 1 rfl dX6_row_56 ?_
          refine r_iconst (v := 4) hX (by decide) dX6_row_57 ?_
          refine r_imul hX dX6_row_58 ?_
          refine r_iload_n hX rfl 2 rfl dX6_row_59 ?_
          refine r_iadd hX dX6_row_60 ?_
          obtain ⟨hk5, h⟩ := kc_e h
          refine ga_5_14 (o := 1) hX rfl rfl hk5 dX6_row_61 ?_
          refine r_istore (L2 := [(4, .int ((s 1) 14 (ix ((a1 * 4) + a2)))), (0, .ref (gA G 0 0)), (1, .int a1), (2, .int a2), (3, .int a3)]) hX (by decide) rfl dX6_row_62 ?_
          refine r_aload_n hX rfl 1 rfl dX6_row_64 ?_
          refine gf_6_0 (o := 0) hX fl_X6_12 rfl rfl dX6_row_65 ?_
          refine gf_5_13 (o := 1) hX fl_X6_145 rfl rfl dX6_row_68 ?_
          refine r_iload_n hX rfl 2 rfl dX6_row_71 ?_
          refine r_iconst (v := 4) hX (by decide) dX6_row_72 ?_
          refine r_imul hX dX6_row_73 ?_
          refine r_iload_n hX rfl 3 rfl dX6_row_74 ?_
          refine r_iadd hX dX6_row_75 ?_
          refine r_iload_n hX rfl 4 rfl dX6_row_76 ?_
          obtain ⟨hk6, h⟩ := kc_e h
          obtain ⟨s7, hs7, h⟩ := nb_e h
          refine pa_5_14 (o := 1) hX rfl rfl hk6 hs7.symm dX6_row_77 ?_
          refine r_iload hX 0 rfl dX6_row_78 ?_
          have g0 := Option.some.inj h
          obtain ⟨q0, g1⟩ := Prod.mk.inj g0
          subst q0
          subst g1
          exact r_iret hX hQ dX6_row_80
        · replace h := in_e hc h
          refine r_bipush (v := (-3)) hX (by decide) dX6_row_46 ?_
          have g0 := Option.some.inj h
          obtain ⟨q0, g1⟩ := Prod.mk.inj g0
          subst q0
          subst g1
          exact r_iret hX hQ dX6_row_48
      · replace h := ip_e hc h
        refine r_bipush (v := (-2)) hX (by decide) dX6_row_29 ?_
        have g0 := Option.some.inj h
        obtain ⟨q0, g1⟩ := Prod.mk.inj g0
        subst q0
        subst g1
        exact r_iret hX hQ dX6_row_31
    · replace h := ip_e hc h
      refine r_iconst (v := (-1)) hX (by decide) dX6_row_17 ?_
      have g0 := Option.some.inj h
      obtain ⟨q0, g1⟩ := Prod.mk.inj g0
      subst q0
      subst g1
      exact r_iret hX hQ dX6_row_18
abbrev rm_X6_depth : Room := { frames := 1, cells := 0, slots := 0, locals := 82 }
def f_X6_depth (s : Mm) (a1 : Int32) : Option (Int32 × Mm) :=
  Option.bind (f_X6_within a1 0 9999) (fun x1 => (if x1 = 0 then some ((-2), s) else nb (setO s 1 (up2 (s 1) 0 0 a1)) (fun s2 => some (((s 1) 0 0), s2))))
set_option maxHeartbeats 4000000 in
set_option maxRecDepth 100000 in
theorem c_X6_depth (l : Launch) (G : GE) {lm : Ml}  {s : Mm} {a1 : Int32} {rz : Int32} {sz : Mm} (h : f_X6_depth s a1 = some (rz, sz)) : CM l G yX6_depth bX6_depth 3 (Option.some Jvm.ClassFile.FieldType.int) rm_X6_depth [.ref (gA G 0 0), .int a1] s lm (some (.int rz)) sz lm := by
  refine CM.of (own := zR6) (L0 := [(0, .ref (gA G 0 0)), (1, .int a1)]) (by decide +kernel) rfl (Nat.le_of_ble_eq_true rfl) rfl (fun X hl hX hR hQ => ?_)
  unfold f_X6_depth at h
  refine r_iload_n hX rfl 1 rfl dX6_depth_0 ?_
  refine r_iconst (v := 0) hX (by decide) dX6_depth_1 ?_
  refine r_sipush (v := 9999) hX (by decide) dX6_depth_2 ?_
  obtain ⟨x1, hc1, h⟩ := bn_e h
  refine r_callSi hX hR (c_X6_within (σ := s) X.2.1 G hc1) rfl rfl mf_X6_within ml_X6_80 st_X6_within ⟨rfl, rfl, Nat.le_of_ble_eq_true rfl, Nat.le_of_ble_eq_true rfl⟩ rfl (st := []) rfl (Nat.le_of_ble_eq_true rfl) dX6_depth_5 ?_
  refine r_if_ne hX dX6_depth_8 (fun hc => ?_) (fun hc => ?_)
  · replace h := in_e hc h
    refine r_aload_n hX rfl 0 rfl dX6_depth_14 ?_
    refine gf_6_0 (o := 0) hX fl_X6_12 rfl rfl dX6_depth_15 ?_
    refine gf_5_0 (o := 1) hX fl_X6_148 rfl rfl dX6_depth_18 ?_
    refine r_istore_n (L2 := [(2, .int ((s 1) 0 0)), (0, .ref (gA G 0 0)), (1, .int a1)]) hX rfl (by decide) rfl dX6_depth_21 ?_
    refine r_aload_n hX rfl 1 rfl dX6_depth_22 ?_
    refine gf_6_0 (o := 0) hX fl_X6_12 rfl rfl dX6_depth_23 ?_
    refine r_iload_n hX rfl 2 rfl dX6_depth_26 ?_
    obtain ⟨s2, hs2, h⟩ := nb_e h
    refine pf_5_0 (o := 1) hX fl_X6_148 rfl rfl dX6_depth_27 hs2.symm ?_
    refine r_iload_n hX rfl 0 rfl dX6_depth_30 ?_
    have g0 := Option.some.inj h
    obtain ⟨q0, g1⟩ := Prod.mk.inj g0
    subst q0
    subst g1
    exact r_iret hX hQ dX6_depth_31
  · replace h := ip_e hc h
    refine r_bipush (v := (-2)) hX (by decide) dX6_depth_11 ?_
    have g0 := Option.some.inj h
    obtain ⟨q0, g1⟩ := Prod.mk.inj g0
    subst q0
    subst g1
    exact r_iret hX hQ dX6_depth_13
abbrev rm_X6_change : Room := { frames := 2, cells := 0, slots := 0, locals := 103 }
def f_X6_change (s : Mm) (a1 : Int32) (a2 : Int32) : Option (Int32 × Mm) :=
  Option.bind (f_X6_known s a1) (fun x1 => (if x1 = 0 then some ((-1), s) else Option.bind (f_X6_known s a2) (fun x2 => (if x2 = 0 then some ((-1), s) else (if a1 = a2 then some ((-2), s) else (if inb a1 6 = true then Option.bind (f_X5_trade (s 1) a1 a2) (fun p4 => nb (setO s 1 p4) (fun s5 => some (((s 1) 13 (ix a1)), s5))) else none))))))
set_option maxHeartbeats 4000000 in
set_option maxRecDepth 100000 in
theorem c_X6_change (l : Launch) (G : GE) {lm : Ml}  {s : Mm} {a1 : Int32} {a2 : Int32} {rz : Int32} {sz : Mm} (h : f_X6_change s a1 a2 = some (rz, sz)) : CM l G yX6_change bX6_change 4 (Option.some Jvm.ClassFile.FieldType.int) rm_X6_change [.ref (gA G 0 0), .int a1, .int a2] s lm (some (.int rz)) sz lm := by
  refine CM.of (own := zR6) (L0 := [(0, .ref (gA G 0 0)), (1, .int a1), (2, .int a2)]) (by decide +kernel) rfl (Nat.le_of_ble_eq_true rfl) rfl (fun X hl hX hR hQ => ?_)
  unfold f_X6_change at h
  refine r_aload_n hX rfl 0 rfl dX6_change_0 ?_
  refine r_iload_n hX rfl 1 rfl dX6_change_1 ?_
  obtain ⟨x1, hc1, h⟩ := bn_e h
  refine r_callVi hX hR (c_X6_known X.2.1 G hc1) rfl rfl mf_X6_known ml_X6_91 in_X6_known se_X6_known rfl rfl ⟨rfl, rfl, Nat.le_of_ble_eq_true rfl, Nat.le_of_ble_eq_true rfl⟩ rfl (st := []) rfl (Nat.le_of_ble_eq_true rfl) dX6_change_2 ?_
  refine r_if_eq hX dX6_change_5 (fun hc => ?_) (fun hc => ?_)
  · replace h := ip_e hc h
    refine r_iconst (v := (-1)) hX (by decide) dX6_change_16 ?_
    have g0 := Option.some.inj h
    obtain ⟨q0, g1⟩ := Prod.mk.inj g0
    subst q0
    subst g1
    exact r_iret hX hQ dX6_change_17
  · replace h := in_e hc h
    refine r_aload_n hX rfl 0 rfl dX6_change_8 ?_
    refine r_iload_n hX rfl 2 rfl dX6_change_9 ?_
    obtain ⟨x2, hc2, h⟩ := bn_e h
    refine r_callVi hX hR (c_X6_known X.2.1 G hc2) rfl rfl mf_X6_known ml_X6_91 in_X6_known se_X6_known rfl rfl ⟨rfl, rfl, Nat.le_of_ble_eq_true rfl, Nat.le_of_ble_eq_true rfl⟩ rfl (st := []) rfl (Nat.le_of_ble_eq_true rfl) dX6_change_10 ?_
    refine r_if_ne hX dX6_change_13 (fun hc => ?_) (fun hc => ?_)
    · replace h := in_e hc h
      refine r_iload_n hX rfl 1 rfl dX6_change_18 ?_
      refine r_iload_n hX rfl 2 rfl dX6_change_19 ?_
      refine r_icmp_ne hX dX6_change_20 (fun hc => ?_) (fun hc => ?_)
      · replace h := in_e hc h
        refine r_aload_n hX rfl 0 rfl dX6_change_26 ?_
        refine gf_6_0 (o := 0) hX fl_X6_12 rfl rfl dX6_change_27 ?_
        refine gf_5_12 (o := 1) hX fl_X6_151 rfl rfl dX6_change_30 ?_
        refine r_iload_n hX rfl 1 rfl dX6_change_33 ?_
        obtain ⟨hk3, h⟩ := kc_e h
        refine ga_5_13 (o := 1) hX rfl rfl hk3 dX6_change_34 ?_
        refine r_istore_n (L2 := [(3, .int ((s 1) 13 (ix a1))), (0, .ref (gA G 0 0)), (1, .int a1), (2, .int a2)]) hX rfl (by decide) rfl dX6_change_35 ?_
        refine r_aload_n hX rfl 1 rfl dX6_change_36 ?_
        refine gf_6_0 (o := 0) hX fl_X6_12 rfl rfl dX6_change_37 ?_
        refine r_iload_n hX rfl 2 rfl dX6_change_40 ?_
        refine r_iload_n hX rfl 3 rfl dX6_change_41 ?_
        obtain ⟨p4, hc4, h⟩ := bn_e h
        obtain ⟨s5, hs5, h⟩ := nb_e h
        refine r_callVv hX hR (c_X5_trade (σ := s) X.2.1 G rfl hc4) m1_i hs5.symm mf_X5_trade ml_X6_154 in_X5_trade se_X5_trade rfl rfl ⟨rfl, rfl, Nat.le_of_ble_eq_true rfl, Nat.le_of_ble_eq_true rfl⟩ rfl (st := []) rfl (Nat.le_of_ble_eq_true rfl) dX6_change_42 ?_
        refine r_iload_n hX rfl 0 rfl dX6_change_45 ?_
        have g0 := Option.some.inj h
        obtain ⟨q0, g1⟩ := Prod.mk.inj g0
        subst q0
        subst g1
        exact r_iret hX hQ dX6_change_46
      · replace h := ip_e hc h
        refine r_bipush (v := (-2)) hX (by decide) dX6_change_23 ?_
        have g0 := Option.some.inj h
        obtain ⟨q0, g1⟩ := Prod.mk.inj g0
        subst q0
        subst g1
        exact r_iret hX hQ dX6_change_25
    · replace h := ip_e hc h
      refine r_iconst (v := (-1)) hX (by decide) dX6_change_16 ?_
      have g0 := Option.some.inj h
      obtain ⟨q0, g1⟩ := Prod.mk.inj g0
      subst q0
      subst g1
      exact r_iret hX hQ dX6_change_17
abbrev rm_X6_call : Room := { frames := 3, cells := 0, slots := 0, locals := 123 }
def f_X6_call (s : Mm) (a1 : Int32) : Option (Int32 × Mm) :=
  Option.bind (f_X6_known s a1) (fun x1 => (if x1 = 0 then some ((-1), s) else (if inb a1 6 = true then (if ((s 1) 9 (ix a1)) = 0 then some ((-3), s) else Option.bind (f_X5_callIn (s 1) a1) (fun p3 => nb (setO s 1 p3) (fun s4 => some (((s 1) 9 (ix a1)), s4)))) else none)))
set_option maxHeartbeats 4000000 in
set_option maxRecDepth 100000 in
theorem c_X6_call (l : Launch) (G : GE) {lm : Ml}  {s : Mm} {a1 : Int32} {rz : Int32} {sz : Mm} (h : f_X6_call s a1 = some (rz, sz)) : CM l G yX6_call bX6_call 3 (Option.some Jvm.ClassFile.FieldType.int) rm_X6_call [.ref (gA G 0 0), .int a1] s lm (some (.int rz)) sz lm := by
  refine CM.of (own := zR6) (L0 := [(0, .ref (gA G 0 0)), (1, .int a1)]) (by decide +kernel) rfl (Nat.le_of_ble_eq_true rfl) rfl (fun X hl hX hR hQ => ?_)
  unfold f_X6_call at h
  refine r_aload_n hX rfl 0 rfl dX6_call_0 ?_
  refine r_iload_n hX rfl 1 rfl dX6_call_1 ?_
  obtain ⟨x1, hc1, h⟩ := bn_e h
  refine r_callVi hX hR (c_X6_known X.2.1 G hc1) rfl rfl mf_X6_known ml_X6_91 in_X6_known se_X6_known rfl rfl ⟨rfl, rfl, Nat.le_of_ble_eq_true rfl, Nat.le_of_ble_eq_true rfl⟩ rfl (st := []) rfl (Nat.le_of_ble_eq_true rfl) dX6_call_2 ?_
  refine r_if_ne hX dX6_call_5 (fun hc => ?_) (fun hc => ?_)
  · replace h := in_e hc h
    refine r_aload_n hX rfl 0 rfl dX6_call_10 ?_
    refine gf_6_0 (o := 0) hX fl_X6_12 rfl rfl dX6_call_11 ?_
    refine gf_5_8 (o := 1) hX fl_X6_108 rfl rfl dX6_call_14 ?_
    refine r_iload_n hX rfl 1 rfl dX6_call_17 ?_
    obtain ⟨hk2, h⟩ := kc_e h
    refine ga_5_9 (o := 1) hX rfl rfl hk2 dX6_call_18 ?_
    refine r_istore_n (L2 := [(2, .int ((s 1) 9 (ix a1))), (0, .ref (gA G 0 0)), (1, .int a1)]) hX rfl (by decide) rfl dX6_call_19 ?_
    refine r_iload_n hX rfl 0 rfl dX6_call_20 ?_
    refine r_if_ne hX dX6_call_21 (fun hc => ?_) (fun hc => ?_)
    · replace h := in_e hc h
      refine r_aload_n hX rfl 1 rfl dX6_call_27 ?_
      refine gf_6_0 (o := 0) hX fl_X6_12 rfl rfl dX6_call_28 ?_
      refine r_iload_n hX rfl 2 rfl dX6_call_31 ?_
      obtain ⟨p3, hc3, h⟩ := bn_e h
      obtain ⟨s4, hs4, h⟩ := nb_e h
      refine r_callVv hX hR (c_X5_callIn (σ := s) X.2.1 G rfl hc3) m1_i hs4.symm mf_X5_callIn ml_X6_158 in_X5_callIn se_X5_callIn rfl rfl ⟨rfl, rfl, Nat.le_of_ble_eq_true rfl, Nat.le_of_ble_eq_true rfl⟩ rfl (st := []) rfl (Nat.le_of_ble_eq_true rfl) dX6_call_32 ?_
      refine r_iload_n hX rfl 0 rfl dX6_call_35 ?_
      have g0 := Option.some.inj h
      obtain ⟨q0, g1⟩ := Prod.mk.inj g0
      subst q0
      subst g1
      exact r_iret hX hQ dX6_call_36
    · replace h := ip_e hc h
      refine r_bipush (v := (-3)) hX (by decide) dX6_call_24 ?_
      have g0 := Option.some.inj h
      obtain ⟨q0, g1⟩ := Prod.mk.inj g0
      subst q0
      subst g1
      exact r_iret hX hQ dX6_call_26
  · replace h := ip_e hc h
    refine r_iconst (v := (-1)) hX (by decide) dX6_call_8 ?_
    have g0 := Option.some.inj h
    obtain ⟨q0, g1⟩ := Prod.mk.inj g0
    subst q0
    subst g1
    exact r_iret hX hQ dX6_call_9
abbrev rm_X6_feed : Room := { frames := 1, cells := 0, slots := 0, locals := 82 }
def f_X6_feed (s : Mm) (a1 : Int32) : Option (Int32 × Mm) :=
  Option.bind (f_X6_within a1 0 127) (fun x1 => (if x1 = 0 then some ((-2), s) else (if ((s 6) 0 0) < 100 then Option.bind (f_X3_take s a1) (fun s2 => some (((s2 6) 0 0), s2)) else some ((-4), s))))
set_option maxHeartbeats 4000000 in
set_option maxRecDepth 100000 in
theorem c_X6_feed (l : Launch) (G : GE) {lm : Ml}  {s : Mm} {a1 : Int32} {rz : Int32} {sz : Mm} (h : f_X6_feed s a1 = some (rz, sz)) : CM l G yX6_feed bX6_feed 2 (Option.some Jvm.ClassFile.FieldType.int) rm_X6_feed [.ref (gA G 0 0), .int a1] s lm (some (.int rz)) sz lm := by
  refine CM.of (own := zR6) (L0 := [(0, .ref (gA G 0 0)), (1, .int a1)]) (by decide +kernel) rfl (Nat.le_of_ble_eq_true rfl) rfl (fun X hl hX hR hQ => ?_)
  unfold f_X6_feed at h
  refine r_iload_n hX rfl 1 rfl dX6_feed_0 ?_
  refine r_iconst (v := 0) hX (by decide) dX6_feed_1 ?_
  refine r_bipush (v := 127) hX (by decide) dX6_feed_2 ?_
  obtain ⟨x1, hc1, h⟩ := bn_e h
  refine r_callSi hX hR (c_X6_within (σ := s) X.2.1 G hc1) rfl rfl mf_X6_within ml_X6_80 st_X6_within ⟨rfl, rfl, Nat.le_of_ble_eq_true rfl, Nat.le_of_ble_eq_true rfl⟩ rfl (st := []) rfl (Nat.le_of_ble_eq_true rfl) dX6_feed_4 ?_
  refine r_if_ne hX dX6_feed_7 (fun hc => ?_) (fun hc => ?_)
  · replace h := in_e hc h
    refine r_aload_n hX rfl 0 rfl dX6_feed_13 ?_
    refine gf_6_5 (o := 0) hX fl_X6_37 rfl rfl dX6_feed_14 ?_
    refine gf_3_0 (o := 6) hX fl_X6_162 rfl rfl dX6_feed_17 ?_
    refine r_bipush (v := 100) hX (by decide) dX6_feed_20 ?_
    refine r_icmp_lt hX dX6_feed_22 (fun hc => ?_) (fun hc => ?_)
    · replace h := ip_e hc h
      refine r_aload_n hX rfl 0 rfl dX6_feed_28 ?_
      refine gf_6_5 (o := 0) hX fl_X6_37 rfl rfl dX6_feed_29 ?_
      refine r_iload_n hX rfl 1 rfl dX6_feed_32 ?_
      obtain ⟨s2, hc2, h⟩ := bn_e h
      refine r_callVv hX hR (c_X3_take X.2.1 G hc2) rfl rfl mf_X3_take ml_X6_165 in_X3_take se_X3_take rfl rfl ⟨rfl, rfl, Nat.le_of_ble_eq_true rfl, Nat.le_of_ble_eq_true rfl⟩ rfl (st := []) rfl (Nat.le_of_ble_eq_true rfl) dX6_feed_33 ?_
      refine r_aload_n hX rfl 0 rfl dX6_feed_36 ?_
      refine gf_6_5 (o := 0) hX fl_X6_37 rfl rfl dX6_feed_37 ?_
      refine gf_3_0 (o := 6) hX fl_X6_162 rfl rfl dX6_feed_40 ?_
      have g0 := Option.some.inj h
      obtain ⟨q0, g1⟩ := Prod.mk.inj g0
      subst q0
      subst g1
      exact r_iret hX hQ dX6_feed_43
    · replace h := in_e hc h
      refine r_bipush (v := (-4)) hX (by decide) dX6_feed_25 ?_
      have g0 := Option.some.inj h
      obtain ⟨q0, g1⟩ := Prod.mk.inj g0
      subst q0
      subst g1
      exact r_iret hX hQ dX6_feed_27
  · replace h := ip_e hc h
    refine r_bipush (v := (-2)) hX (by decide) dX6_feed_10 ?_
    have g0 := Option.some.inj h
    obtain ⟨q0, g1⟩ := Prod.mk.inj g0
    subst q0
    subst g1
    exact r_iret hX hQ dX6_feed_12
abbrev rm_X6_country : Room := { frames := 100, cells := 0, slots := 0, locals := 3948 }
def f_X6_country (s : Mm) : Option (Int32 × Mm) :=
  (if ((s 0) 0 10) < 6 then (if inb ((s 0) 0 10) 6 = true then bn2 (f_X3_readInto s (8 + ix ((s 0) 0 10))) (fun x2 s3 => nb (setO s3 6 (up2 (s3 6) 0 0 0)) (fun s4 => (if x2 < 0 then nb (setO s4 0 (up2 (s4 0) 0 11 ((s4 0) 0 10))) (fun s5 => nb (setO s5 0 (up2 (s5 0) 0 10 (((s5 0) 0 10) + 1))) (fun s6 => some (((s6 0) 0 11), s6))) else some (((-10) - x2), s4)))) else none) else some ((-4), s))
set_option maxHeartbeats 4000000 in
set_option maxRecDepth 100000 in
theorem c_X6_country (l : Launch) (G : GE) {lm : Ml}  {s : Mm} {rz : Int32} {sz : Mm} (h : f_X6_country s = some (rz, sz)) : CM l G yX6_country bX6_country 2 (Option.some Jvm.ClassFile.FieldType.int) rm_X6_country [.ref (gA G 0 0)] s lm (some (.int rz)) sz lm := by
  refine CM.of (own := zR6) (L0 := [(0, .ref (gA G 0 0))]) (by decide +kernel) rfl (Nat.le_of_ble_eq_true rfl) rfl (fun X hl hX hR hQ => ?_)
  unfold f_X6_country at h
  refine r_aload_n hX rfl 0 rfl dX6_country_0 ?_
  refine gf_6_10 (o := 0) hX fl_X6_66 rfl rfl dX6_country_1 ?_
  refine r_bipush (v := 6) hX (by decide) dX6_country_4 ?_
  refine r_icmp_lt hX dX6_country_6 (fun hc => ?_) (fun hc => ?_)
  · replace h := ip_e hc h
    refine r_aload_n hX rfl 0 rfl dX6_country_12 ?_
    refine gf_6_5 (o := 0) hX fl_X6_37 rfl rfl dX6_country_13 ?_
    refine r_aload_n hX rfl 0 rfl dX6_country_16 ?_
    refine gf_6_7 (o := 0) hX fl_X6_48 rfl rfl dX6_country_17 ?_
    refine r_aload_n hX rfl 0 rfl dX6_country_20 ?_
    refine gf_6_10 (o := 0) hX fl_X6_66 rfl rfl dX6_country_21 ?_
    obtain ⟨hk1, h⟩ := kc_e h
    refine r_aaldC hX hk1 dX6_country_24 ?_
    obtain ⟨x2, s3, hc3, h⟩ := bn2_e h
    refine r_callVi hX hR (c_X3_readInto X.2.1 G (kd_8 hk1) hc3) rfl rfl mf_X3_readInto ml_X6_168 in_X3_readInto se_X3_readInto rfl rfl ⟨rfl, rfl, Nat.le_of_ble_eq_true rfl, Nat.le_of_ble_eq_true rfl⟩ rfl (st := []) rfl (Nat.le_of_ble_eq_true rfl) dX6_country_25 ?_
    refine r_istore_n (L2 := [(1, .int x2), (0, .ref (gA G 0 0))]) hX rfl (by decide) rfl dX6_country_28 ?_
    refine r_aload_n hX rfl 1 rfl dX6_country_29 ?_
    refine gf_6_5 (o := 0) hX fl_X6_37 rfl rfl dX6_country_30 ?_
    refine r_iconst (v := 0) hX (by decide) dX6_country_33 ?_
    obtain ⟨s4, hs4, h⟩ := nb_e h
    refine pf_3_0 (o := 6) hX fl_X6_162 rfl rfl dX6_country_34 hs4.symm ?_
    refine r_iload_n hX rfl 0 rfl dX6_country_37 ?_
    refine r_if_lt hX dX6_country_38 (fun hc => ?_) (fun hc => ?_)
    · replace h := ip_e hc h
      refine r_aload_n hX rfl 1 rfl dX6_country_46 ?_
      refine r_aload_n hX rfl 1 rfl dX6_country_47 ?_
      refine gf_6_10 (o := 0) hX fl_X6_66 rfl rfl dX6_country_48 ?_
      obtain ⟨s5, hs5, h⟩ := nb_e h
      refine pf_6_11 (o := 0) hX fl_X6_70 rfl rfl dX6_country_51 hs5.symm ?_
      refine r_aload_n hX rfl 1 rfl dX6_country_54 ?_
      refine r_dup hX rfl dX6_country_55 ?_
      refine gf_6_10 (o := 0) hX fl_X6_66 rfl rfl dX6_country_56 ?_
      refine r_iconst (v := 1) hX (by decide) dX6_country_59 ?_
      refine r_iadd hX dX6_country_60 ?_
      obtain ⟨s6, hs6, h⟩ := nb_e h
      refine pf_6_10 (o := 0) hX fl_X6_66 rfl rfl dX6_country_61 hs6.symm ?_
      refine r_aload_n hX rfl 1 rfl dX6_country_64 ?_
      refine gf_6_11 (o := 0) hX fl_X6_70 rfl rfl dX6_country_65 ?_
      have g0 := Option.some.inj h
      obtain ⟨q0, g1⟩ := Prod.mk.inj g0
      subst q0
      subst g1
      exact r_iret hX hQ dX6_country_68
    · replace h := in_e hc h
      refine r_bipush (v := (-10)) hX (by decide) dX6_country_41 ?_
      refine r_iload_n hX rfl 0 rfl dX6_country_43 ?_
      refine r_isub hX dX6_country_44 ?_
      have g0 := Option.some.inj h
      obtain ⟨q0, g1⟩ := Prod.mk.inj g0
      subst q0
      subst g1
      exact r_iret hX hQ dX6_country_45
  · replace h := in_e hc h
    refine r_bipush (v := (-4)) hX (by decide) dX6_country_9 ?_
    have g0 := Option.some.inj h
    obtain ⟨q0, g1⟩ := Prod.mk.inj g0
    subst q0
    subst g1
    exact r_iret hX hQ dX6_country_11
abbrev rm_X6_told : Room := { frames := 2, cells := 0, slots := 0, locals := 103 }
def f_X6_told (s : Mm) (a1 : Int32) : Option (Int32) :=
  (if a1 < 10 then (if a1 = 0 then some ((s 1) 0 1) else (if a1 = 1 then some ((s 1) 0 0) else (if a1 = 2 then Option.bind (f_X6_rules s) (fun x1 => (if kdo x1 = 1 then some ((s x1) 0 0) else none)) else (if a1 = 3 then Option.bind (f_X6_rules s) (fun x3 => (if kdo x3 = 1 then some ((s x3) 0 1) else none)) else (if a1 = 4 then Option.bind (f_X6_rules s) (fun x5 => (if kdo x5 = 1 then some ((s x5) 0 2) else none)) else (if a1 = 5 then Option.bind (f_X5_owesOfAll (s 1)) (fun x7 => some x7) else some (-1))))))) else Option.bind (f_X6_known s (a1 - 10)) (fun x8 => (if x8 = 0 then some (-1) else (if inb (a1 - 10) 6 = true then some ((s 1) 13 (ix (a1 - 10))) else none))))
set_option maxHeartbeats 4000000 in
set_option maxRecDepth 100000 in
theorem c_X6_told (l : Launch) (G : GE) {lm : Ml}  {s : Mm} {a1 : Int32} {rz : Int32} (h : f_X6_told s a1 = some rz) : CM l G yX6_told bX6_told 2 (Option.some Jvm.ClassFile.FieldType.int) rm_X6_told [.ref (gA G 0 0), .int a1] s lm (some (.int rz)) s lm := by
  refine CM.of (own := zR6) (L0 := [(0, .ref (gA G 0 0)), (1, .int a1)]) (by decide +kernel) rfl (Nat.le_of_ble_eq_true rfl) rfl (fun X hl hX hR hQ => ?_)
  unfold f_X6_told at h
  refine r_iload_n hX rfl 1 rfl dX6_told_0 ?_
  refine r_bipush (v := 10) hX (by decide) dX6_told_1 ?_
  refine r_icmp_lt hX dX6_told_3 (fun hc => ?_) (fun hc => ?_)
  · replace h := ip_e hc h
    refine r_iload_n hX rfl 1 rfl dX6_told_34 ?_
    by_cases hc0 : a1 = 0
    · replace h := ip_e hc0 h
      refine r_tswI (k := 0) (off := 37) (tgt := 72) hX hc0 (by decide) (by decide) (by decide) dX6_told_35 ?_
      refine r_aload_n hX rfl 0 rfl dX6_told_72 ?_
      refine gf_6_0 (o := 0) hX fl_X6_12 rfl rfl dX6_told_73 ?_
      refine gf_5_1 (o := 1) hX fl_X6_172 rfl rfl dX6_told_76 ?_
      have g0 := Option.some.inj h
      subst g0
      exact r_iret hX hQ dX6_told_79
    · replace h := in_e hc0 h
      by_cases hc1 : a1 = 1
      · replace h := ip_e hc1 h
        refine r_tswI (k := 1) (off := 45) (tgt := 80) hX hc1 (by decide) (by decide) (by decide) dX6_told_35 ?_
        refine r_aload_n hX rfl 0 rfl dX6_told_80 ?_
        refine gf_6_0 (o := 0) hX fl_X6_12 rfl rfl dX6_told_81 ?_
        refine gf_5_0 (o := 1) hX fl_X6_148 rfl rfl dX6_told_84 ?_
        have g0 := Option.some.inj h
        subst g0
        exact r_iret hX hQ dX6_told_87
      · replace h := in_e hc1 h
        by_cases hc2 : a1 = 2
        · replace h := ip_e hc2 h
          refine r_tswI (k := 2) (off := 53) (tgt := 88) hX hc2 (by decide) (by decide) (by decide) dX6_told_35 ?_
          refine r_aload_n hX rfl 0 rfl dX6_told_88 ?_
          obtain ⟨x1, hc1, h⟩ := bn_e h
          obtain ⟨hk2, h⟩ := kc_e h
          refine r_callVi hX hR (c_X6_rules X.2.1 G hc1) rfl rfl mf_X6_rules ml_X6_120 in_X6_rules se_X6_rules rfl rfl ⟨rfl, rfl, Nat.le_of_ble_eq_true rfl, Nat.le_of_ble_eq_true rfl⟩ rfl (st := []) rfl (Nat.le_of_ble_eq_true rfl) dX6_told_89 ?_
          refine gf_1_0 hX fl_X6_128 hk2 rfl dX6_told_92 ?_
          have g0 := Option.some.inj h
          subst g0
          exact r_iret hX hQ dX6_told_95
        · replace h := in_e hc2 h
          by_cases hc3 : a1 = 3
          · replace h := ip_e hc3 h
            refine r_tswI (k := 3) (off := 61) (tgt := 96) hX hc3 (by decide) (by decide) (by decide) dX6_told_35 ?_
            refine r_aload_n hX rfl 0 rfl dX6_told_96 ?_
            obtain ⟨x3, hc3, h⟩ := bn_e h
            obtain ⟨hk4, h⟩ := kc_e h
            refine r_callVi hX hR (c_X6_rules X.2.1 G hc3) rfl rfl mf_X6_rules ml_X6_120 in_X6_rules se_X6_rules rfl rfl ⟨rfl, rfl, Nat.le_of_ble_eq_true rfl, Nat.le_of_ble_eq_true rfl⟩ rfl (st := []) rfl (Nat.le_of_ble_eq_true rfl) dX6_told_97 ?_
            refine gf_1_1 hX fl_X6_175 hk4 rfl dX6_told_100 ?_
            have g0 := Option.some.inj h
            subst g0
            exact r_iret hX hQ dX6_told_103
          · replace h := in_e hc3 h
            by_cases hc4 : a1 = 4
            · replace h := ip_e hc4 h
              refine r_tswI (k := 4) (off := 69) (tgt := 104) hX hc4 (by decide) (by decide) (by decide) dX6_told_35 ?_
              refine r_aload_n hX rfl 0 rfl dX6_told_104 ?_
              obtain ⟨x5, hc5, h⟩ := bn_e h
              obtain ⟨hk6, h⟩ := kc_e h
              refine r_callVi hX hR (c_X6_rules X.2.1 G hc5) rfl rfl mf_X6_rules ml_X6_120 in_X6_rules se_X6_rules rfl rfl ⟨rfl, rfl, Nat.le_of_ble_eq_true rfl, Nat.le_of_ble_eq_true rfl⟩ rfl (st := []) rfl (Nat.le_of_ble_eq_true rfl) dX6_told_105 ?_
              refine gf_1_2 hX fl_X6_178 hk6 rfl dX6_told_108 ?_
              have g0 := Option.some.inj h
              subst g0
              exact r_iret hX hQ dX6_told_111
            · replace h := in_e hc4 h
              by_cases hc5 : a1 = 5
              · replace h := ip_e hc5 h
                refine r_tswI (k := 5) (off := 77) (tgt := 112) hX hc5 (by decide) (by decide) (by decide) dX6_told_35 ?_
                refine r_aload_n hX rfl 0 rfl dX6_told_112 ?_
                refine gf_6_0 (o := 0) hX fl_X6_12 rfl rfl dX6_told_113 ?_
                obtain ⟨x7, hc7, h⟩ := bn_e h
                refine r_callVi hX hR (c_X5_owesOfAll (σ := s) X.2.1 G rfl hc7) m1_i m1_i mf_X5_owesOfAll ml_X6_181 in_X5_owesOfAll se_X5_owesOfAll rfl rfl ⟨rfl, rfl, Nat.le_of_ble_eq_true rfl, Nat.le_of_ble_eq_true rfl⟩ rfl (st := []) rfl (Nat.le_of_ble_eq_true rfl) dX6_told_116 ?_
                have g0 := Option.some.inj h
                subst g0
                exact r_iret hX hQ dX6_told_119
              · replace h := in_e hc5 h
                have hD : WW X G 2 s lm 120 [(0, .ref (gA G 0 0)), (1, .int a1)] [] := by
                  refine r_iconst (v := (-1)) hX (by decide) dX6_told_120 ?_
                  have g0 := Option.some.inj h
                  subst g0
                  exact r_iret hX hQ dX6_told_121
                refine r_tswD (tgt := 120) hX ?_ (by decide) dX6_told_35 hD
                have j0 := i32n (n := 0) hc0 rfl
                have j1 := i32n (n := 1) hc1 rfl
                have j2 := i32n (n := 2) hc2 rfl
                have j3 := i32n (n := 3) hc3 rfl
                have j4 := i32n (n := 4) hc4 rfl
                have j5 := i32n (n := 5) hc5 rfl
                omega
  · replace h := in_e hc h
    refine r_aload_n hX rfl 0 rfl dX6_told_6 ?_
    refine r_iload_n hX rfl 1 rfl dX6_told_7 ?_
    refine r_bipush (v := 10) hX (by decide) dX6_told_8 ?_
    refine r_isub hX dX6_told_10 ?_
    obtain ⟨x8, hc8, h⟩ := bn_e h
    refine r_callVi hX hR (c_X6_known X.2.1 G hc8) rfl rfl mf_X6_known ml_X6_91 in_X6_known se_X6_known rfl rfl ⟨rfl, rfl, Nat.le_of_ble_eq_true rfl, Nat.le_of_ble_eq_true rfl⟩ rfl (st := []) rfl (Nat.le_of_ble_eq_true rfl) dX6_told_11 ?_
    refine r_if_eq hX dX6_told_14 (fun hc => ?_) (fun hc => ?_)
    · replace h := ip_e hc h
      refine r_iconst (v := (-1)) hX (by decide) dX6_told_32 ?_
      have g0 := Option.some.inj h
      subst g0
      exact r_iret hX hQ dX6_told_33
    · replace h := in_e hc h
      refine r_aload_n hX rfl 0 rfl dX6_told_17 ?_
      refine gf_6_0 (o := 0) hX fl_X6_12 rfl rfl dX6_told_18 ?_
      refine gf_5_12 (o := 1) hX fl_X6_151 rfl rfl dX6_told_21 ?_
      refine r_iload_n hX rfl 1 rfl dX6_told_24 ?_
      refine r_bipush (v := 10) hX (by decide) dX6_told_25 ?_
      refine r_isub hX dX6_told_27 ?_
      obtain ⟨hk9, h⟩ := kc_e h
      refine ga_5_13 (o := 1) hX rfl rfl hk9 dX6_told_28 ?_
      refine r_goto hX dX6_told_29 ?_
      have g0 := Option.some.inj h
      subst g0
      exact r_iret hX hQ dX6_told_33
abbrev rm_X6_askedDays : Room := { frames := 1, cells := 0, slots := 0, locals := 82 }
def f_X6_askedDays (a0 : Int32) : Option (Int32) :=
  Option.bind (f_X6_within a0 0 60) (fun x1 => (if x1 = 0 ∨ x1 = 1 then some x1 else none))
set_option maxHeartbeats 4000000 in
set_option maxRecDepth 100000 in
theorem c_X6_askedDays (l : Launch) (G : GE) {σ : Mm} {lm : Ml}  {a0 : Int32} {rz : Int32} (h : f_X6_askedDays a0 = some rz) : CM l G yX6_askedDays bX6_askedDays 1 (Option.some Jvm.ClassFile.FieldType.boolean) rm_X6_askedDays [.int a0] σ lm (some (.int rz)) σ lm := by
  refine CM.of (own := zR6) (L0 := [(0, .int a0)]) (by decide +kernel) rfl (Nat.le_of_ble_eq_true rfl) rfl (fun X hl hX hR hQ => ?_)
  unfold f_X6_askedDays at h
  refine r_iload_n hX rfl 0 rfl dX6_askedDays_0 ?_
  refine r_iconst (v := 0) hX (by decide) dX6_askedDays_1 ?_
  refine r_bipush (v := 60) hX (by decide) dX6_askedDays_2 ?_
  obtain ⟨x1, hc1, h⟩ := bn_e h
  refine r_callSi hX hR (c_X6_within (σ := σ) X.2.1 G hc1) rfl rfl mf_X6_within ml_X6_80 st_X6_within ⟨rfl, rfl, Nat.le_of_ble_eq_true rfl, Nat.le_of_ble_eq_true rfl⟩ rfl (st := []) rfl (Nat.le_of_ble_eq_true rfl) dX6_askedDays_4 ?_
  obtain ⟨hk2, h⟩ := kc_e h
  have g0 := Option.some.inj h
  subst g0
  exact r_zret hX hk2 hQ dX6_askedDays_7
abbrev rm_X6_pass : Room := { frames := 4, cells := 0, slots := 0, locals := 157 }
def f_X6_pass_J60 (s : Mm) : Option (Int32 × Mm) :=
  some (((s 1) 0 0), s)
def f_X6_pass_B35 (v1 : Int32) (v2 : Nat) (v3 : Int32) (s : Mm) : Option ((Int32 × Mm) ⊕ (Mm)) :=
  (if v1 ≤ v3 then some (.inr s) else bn2 (f_X5_goDay (s 1) (s v2) ((s v2) 0 0) (-5)) (fun p1 p2 => nb (setO (setO s 1 p1) v2 p2) (fun s3 => some (.inl ((v3 + 1), s3)))))
def f_X6_pass_H35 (s : Mm) (v1 : Int32) (v2 : Nat) (v3 : Int32) : Option (Int32 × Mm) :=
  Option.bind (iter (fun t => f_X6_pass_B35 v1 v2 t.1 t.2) 200 (v3, s)) (fun s => f_X6_pass_J60 s)
def f_X6_pass (s : Mm) (a1 : Int32) : Option (Int32 × Mm) :=
  Option.bind (f_X6_askedDays a1) (fun x4 => (if x4 = 0 then some ((-2), s) else (if (((s 1) 0 1) + a1) ≤ 9999 then Option.bind (f_X6_rules s) (fun x5 => (if kdo x5 = 1 then f_X6_pass_H35 s a1 x5 0 else none)) else some ((-3), s))))
set_option maxHeartbeats 4000000 in
set_option maxRecDepth 100000 in
theorem c_X6_pass (l : Launch) (G : GE) {lm : Ml}  {s : Mm} {a1 : Int32} {rz : Int32} {sz : Mm} (h : f_X6_pass s a1 = some (rz, sz)) : CM l G yX6_pass bX6_pass 4 (Option.some Jvm.ClassFile.FieldType.int) rm_X6_pass [.ref (gA G 0 0), .int a1] s lm (some (.int rz)) sz lm := by
  refine CM.of (own := zR6) (L0 := [(0, .ref (gA G 0 0)), (1, .int a1)]) (by decide +kernel) rfl (Nat.le_of_ble_eq_true rfl) rfl (fun X hl hX hR hQ => ?_)
  have K60 : ∀ (s : Mm) (_ : True), f_X6_pass_J60 s = some (rz, sz) → WW X G 4 s lm 60 [(0, .ref (gA G 0 0))] [] := by
    intro s _ h
    unfold f_X6_pass_J60 at h
    refine r_aload_n hX rfl 0 rfl dX6_pass_60 ?_
    refine gf_6_0 (o := 0) hX fl_X6_12 rfl rfl dX6_pass_61 ?_
    refine gf_5_0 (o := 1) hX fl_X6_148 rfl rfl dX6_pass_64 ?_
    have g0 := Option.some.inj h
    obtain ⟨q0, g1⟩ := Prod.mk.inj g0
    subst q0
    subst g1
    exact r_iret hX hQ dX6_pass_67
  have K35 : ∀ (s : Mm) (v1 : Int32) (v2 : Nat) (v3 : Int32) (hv2 : kdo v2 = 1) (_ : True), f_X6_pass_H35 s v1 v2 v3 = some (rz, sz) → WW X G 4 s lm 35 [(0, .ref (gA G 0 0)), (1, .int v1), (2, .ref (gA G v2 0)), (3, .int v3)] [] := by
    intro s v1 v2 v3 hv2 _ h
    unfold f_X6_pass_H35 at h
    obtain ⟨e_s, hit, hO⟩ := bn_e h
    refine iter_w (P := fun t : Int32 × Mm => WW X G 4 t.2 lm 35 [(0, .ref (gA G 0 0)), (1, .int v1), (2, .ref (gA G v2 0)), (3, .int t.1)] []) (x := e_s) ?_ 200 (v3, s) hit
    clear hit
    intro t z1 hb hin1 hex1
    obtain ⟨v3, s⟩ := t
    have h : f_X6_pass_B35 v1 v2 v3 s = some z1 := hb
    clear hb
    unfold f_X6_pass_B35 at h
    refine r_iload_n hX rfl 3 rfl dX6_pass_35 ?_
    refine r_iload_n hX rfl 1 rfl dX6_pass_36 ?_
    refine r_icmp_ge hX dX6_pass_37 (fun hc => ?_) (fun hc => ?_)
    · replace h := ip_e hc h
      have g0 := hex1 _ (Option.some.inj h).symm
      subst g0
      exact WW.sub [0] rfl (K60 s trivial hO)
    · replace h := in_e hc h
      refine r_aload_n hX rfl 0 rfl dX6_pass_40 ?_
      refine gf_6_0 (o := 0) hX fl_X6_12 rfl rfl dX6_pass_41 ?_
      refine r_aload_n hX rfl 2 rfl dX6_pass_44 ?_
      refine r_aload_n hX rfl 2 rfl dX6_pass_45 ?_
      refine gf_1_0 hX fl_X6_128 hv2 rfl dX6_pass_46 ?_
      refine r_bipush (v := (-5)) hX (by decide) dX6_pass_49 ?_
      obtain ⟨p1, p2, hc2, h⟩ := bn2_e h
      obtain ⟨s3, hs3, h⟩ := nb_e h
      refine r_callVv hX hR (c_X5_goDay (σ := s) X.2.1 G rfl hv2 (kd_ne (rfl : kdo 1 = 5) hv2 (by decide)) hc2) (m2_i (kd_ne (rfl : kdo 1 = 5) hv2 (by decide))) hs3.symm mf_X5_goDay ml_X6_188 in_X5_goDay se_X5_goDay rfl rfl ⟨rfl, rfl, Nat.le_of_ble_eq_true rfl, Nat.le_of_ble_eq_true rfl⟩ rfl (st := []) rfl (Nat.le_of_ble_eq_true rfl) dX6_pass_51 ?_
      refine r_iinc (v := v3 + 1) (L2 := [(3, .int (v3 + 1)), (0, .ref (gA G 0 0)), (1, .int v1), (2, .ref (gA G v2 0))]) hX 3 rfl rfl (by decide) rfl dX6_pass_54 ?_
      refine r_goto hX dX6_pass_57 ?_
      exact WW.sub [1, 2, 3, 0] rfl (hin1 _ (Option.some.inj h).symm)
  unfold f_X6_pass at h
  refine r_iload_n hX rfl 1 rfl dX6_pass_0 ?_
  obtain ⟨x4, hc4, h⟩ := bn_e h
  refine r_callSi hX hR (c_X6_askedDays (σ := s) X.2.1 G hc4) rfl rfl mf_X6_askedDays ml_X6_185 st_X6_askedDays ⟨rfl, rfl, Nat.le_of_ble_eq_true rfl, Nat.le_of_ble_eq_true rfl⟩ rfl (st := []) rfl (Nat.le_of_ble_eq_true rfl) dX6_pass_1 ?_
  refine r_if_ne hX dX6_pass_4 (fun hc => ?_) (fun hc => ?_)
  · replace h := in_e hc h
    refine r_aload_n hX rfl 0 rfl dX6_pass_10 ?_
    refine gf_6_0 (o := 0) hX fl_X6_12 rfl rfl dX6_pass_11 ?_
    refine gf_5_1 (o := 1) hX fl_X6_172 rfl rfl dX6_pass_14 ?_
    refine r_iload_n hX rfl 1 rfl dX6_pass_17 ?_
    refine r_iadd hX dX6_pass_18 ?_
    refine r_sipush (v := 9999) hX (by decide) dX6_pass_19 ?_
    refine r_icmp_le hX dX6_pass_22 (fun hc => ?_) (fun hc => ?_)
    · replace h := ip_e hc h
      refine r_aload_n hX rfl 0 rfl dX6_pass_28 ?_
      obtain ⟨x5, hc5, h⟩ := bn_e h
      obtain ⟨hk6, h⟩ := kc_e h
      refine r_callVi hX hR (c_X6_rules X.2.1 G hc5) rfl rfl mf_X6_rules ml_X6_120 in_X6_rules se_X6_rules rfl rfl ⟨rfl, rfl, Nat.le_of_ble_eq_true rfl, Nat.le_of_ble_eq_true rfl⟩ rfl (st := []) rfl (Nat.le_of_ble_eq_true rfl) dX6_pass_29 ?_
      refine r_astore_n (L2 := [(2, .ref (gA G x5 0)), (0, .ref (gA G 0 0)), (1, .int a1)]) hX rfl (by decide) rfl dX6_pass_32 ?_
      refine r_iconst (v := 0) hX (by decide) dX6_pass_33 ?_
      refine r_istore_n (L2 := [(3, .int 0), (2, .ref (gA G x5 0)), (0, .ref (gA G 0 0)), (1, .int a1)]) hX rfl (by decide) rfl dX6_pass_34 ?_
      exact WW.sub [2, 3, 1, 0] rfl (K35 s a1 x5 0 hk6 trivial h)
    · replace h := in_e hc h
      refine r_bipush (v := (-3)) hX (by decide) dX6_pass_25 ?_
      have g0 := Option.some.inj h
      obtain ⟨q0, g1⟩ := Prod.mk.inj g0
      subst q0
      subst g1
      exact r_iret hX hQ dX6_pass_27
  · replace h := ip_e hc h
    refine r_bipush (v := (-2)) hX (by decide) dX6_pass_7 ?_
    have g0 := Option.some.inj h
    obtain ⟨q0, g1⟩ := Prod.mk.inj g0
    subst q0
    subst g1
    exact r_iret hX hQ dX6_pass_9
abbrev rm_X6_startTrial : Room := { frames := 9, cells := 0, slots := 0, locals := 422 }
def f_X6_startTrial (s : Mm) : Option (Mm) :=
  Option.bind (f_X5_copyFrom (s 2) (s 1)) (fun p1 => nb (setO s 2 p1) (fun s2 => some s2))
set_option maxHeartbeats 4000000 in
set_option maxRecDepth 100000 in
theorem c_X6_startTrial (l : Launch) (G : GE) {lm : Ml}  {s : Mm} {sz : Mm} (h : f_X6_startTrial s = some sz) : CM l G yX6_startTrial bX6_startTrial 1 (Option.none : Option Jvm.ClassFile.FieldType) rm_X6_startTrial [.ref (gA G 0 0)] s lm (none) sz lm := by
  refine CM.of (own := zR6) (L0 := [(0, .ref (gA G 0 0))]) (by decide +kernel) rfl (Nat.le_of_ble_eq_true rfl) rfl (fun X hl hX hR hQ => ?_)
  unfold f_X6_startTrial at h
  refine r_aload_n hX rfl 0 rfl dX6_startTrial_0 ?_
  refine gf_6_1 (o := 0) hX fl_X6_18 rfl rfl dX6_startTrial_1 ?_
  refine r_aload_n hX rfl 0 rfl dX6_startTrial_4 ?_
  refine gf_6_0 (o := 0) hX fl_X6_12 rfl rfl dX6_startTrial_5 ?_
  obtain ⟨p1, hc1, h⟩ := bn_e h
  obtain ⟨s2, hs2, h⟩ := nb_e h
  refine r_callVv hX hR (c_X5_copyFrom (σ := s) X.2.1 G rfl rfl (by decide) hc1) (m2_i (by decide)) ((m2_b1 (by decide)).trans hs2.symm) mf_X5_copyFrom ml_X6_282 in_X5_copyFrom se_X5_copyFrom rfl rfl ⟨rfl, rfl, Nat.le_of_ble_eq_true rfl, Nat.le_of_ble_eq_true rfl⟩ rfl (st := []) rfl (Nat.le_of_ble_eq_true rfl) dX6_startTrial_8 ?_
  have g0 := Option.some.inj h
  subst g0
  exact r_vret hX hQ dX6_startTrial_11
abbrev rm_X6_goTrial : Room := { frames := 4, cells := 0, slots := 0, locals := 157 }
def f_X6_goTrial_J32 (s : Mm) : Option (Mm) :=
  some s
def f_X6_goTrial_B7 (v1 : Int32) (v2 : Nat) (v3 : Int32) (s : Mm) : Option ((Int32 × Mm) ⊕ (Mm)) :=
  (if v1 ≤ v3 then some (.inr s) else bn2 (f_X5_goDay (s 2) (s v2) ((s v2) 0 0) (-5)) (fun p1 p2 => nb (setO (setO s 2 p1) v2 p2) (fun s3 => some (.inl ((v3 + 1), s3)))))
def f_X6_goTrial_H7 (s : Mm) (v1 : Int32) (v2 : Nat) (v3 : Int32) : Option (Mm) :=
  Option.bind (iter (fun t => f_X6_goTrial_B7 v1 v2 t.1 t.2) 200 (v3, s)) (fun s => f_X6_goTrial_J32 s)
def f_X6_goTrial (s : Mm) (a1 : Int32) : Option (Mm) :=
  Option.bind (f_X6_rules s) (fun x4 => (if kdo x4 = 1 then f_X6_goTrial_H7 s a1 x4 0 else none))
set_option maxHeartbeats 4000000 in
set_option maxRecDepth 100000 in
theorem c_X6_goTrial (l : Launch) (G : GE) {lm : Ml}  {s : Mm} {a1 : Int32} {sz : Mm} (h : f_X6_goTrial s a1 = some sz) : CM l G yX6_goTrial bX6_goTrial 4 (Option.none : Option Jvm.ClassFile.FieldType) rm_X6_goTrial [.ref (gA G 0 0), .int a1] s lm (none) sz lm := by
  refine CM.of (own := zR6) (L0 := [(0, .ref (gA G 0 0)), (1, .int a1)]) (by decide +kernel) rfl (Nat.le_of_ble_eq_true rfl) rfl (fun X hl hX hR hQ => ?_)
  have K32 : ∀ (s : Mm) (_ : True), f_X6_goTrial_J32 s = some sz → WW X G 4 s lm 32 [] [] := by
    intro s _ h
    unfold f_X6_goTrial_J32 at h
    have g0 := Option.some.inj h
    subst g0
    exact r_vret hX hQ dX6_goTrial_32
  have K7 : ∀ (s : Mm) (v1 : Int32) (v2 : Nat) (v3 : Int32) (hv2 : kdo v2 = 1) (_ : True), f_X6_goTrial_H7 s v1 v2 v3 = some sz → WW X G 4 s lm 7 [(0, .ref (gA G 0 0)), (1, .int v1), (2, .ref (gA G v2 0)), (3, .int v3)] [] := by
    intro s v1 v2 v3 hv2 _ h
    unfold f_X6_goTrial_H7 at h
    obtain ⟨e_s, hit, hO⟩ := bn_e h
    refine iter_w (P := fun t : Int32 × Mm => WW X G 4 t.2 lm 7 [(0, .ref (gA G 0 0)), (1, .int v1), (2, .ref (gA G v2 0)), (3, .int t.1)] []) (x := e_s) ?_ 200 (v3, s) hit
    clear hit
    intro t z1 hb hin1 hex1
    obtain ⟨v3, s⟩ := t
    have h : f_X6_goTrial_B7 v1 v2 v3 s = some z1 := hb
    clear hb
    unfold f_X6_goTrial_B7 at h
    refine r_iload_n hX rfl 3 rfl dX6_goTrial_7 ?_
    refine r_iload_n hX rfl 1 rfl dX6_goTrial_8 ?_
    refine r_icmp_ge hX dX6_goTrial_9 (fun hc => ?_) (fun hc => ?_)
    · replace h := ip_e hc h
      have g0 := hex1 _ (Option.some.inj h).symm
      subst g0
      exact WW.sub [] rfl (K32 s trivial hO)
    · replace h := in_e hc h
      refine r_aload_n hX rfl 0 rfl dX6_goTrial_12 ?_
      refine gf_6_1 (o := 0) hX fl_X6_18 rfl rfl dX6_goTrial_13 ?_
      refine r_aload_n hX rfl 2 rfl dX6_goTrial_16 ?_
      refine r_aload_n hX rfl 2 rfl dX6_goTrial_17 ?_
      refine gf_1_0 hX fl_X6_128 hv2 rfl dX6_goTrial_18 ?_
      refine r_bipush (v := (-5)) hX (by decide) dX6_goTrial_21 ?_
      obtain ⟨p1, p2, hc2, h⟩ := bn2_e h
      obtain ⟨s3, hs3, h⟩ := nb_e h
      refine r_callVv hX hR (c_X5_goDay (σ := s) X.2.1 G rfl hv2 (kd_ne (rfl : kdo 2 = 5) hv2 (by decide)) hc2) (m2_i (kd_ne (rfl : kdo 2 = 5) hv2 (by decide))) hs3.symm mf_X5_goDay ml_X6_188 in_X5_goDay se_X5_goDay rfl rfl ⟨rfl, rfl, Nat.le_of_ble_eq_true rfl, Nat.le_of_ble_eq_true rfl⟩ rfl (st := []) rfl (Nat.le_of_ble_eq_true rfl) dX6_goTrial_23 ?_
      refine r_iinc (v := v3 + 1) (L2 := [(3, .int (v3 + 1)), (0, .ref (gA G 0 0)), (1, .int v1), (2, .ref (gA G v2 0))]) hX 3 rfl rfl (by decide) rfl dX6_goTrial_26 ?_
      refine r_goto hX dX6_goTrial_29 ?_
      exact WW.sub [1, 2, 3, 0] rfl (hin1 _ (Option.some.inj h).symm)
  unfold f_X6_goTrial at h
  refine r_aload_n hX rfl 0 rfl dX6_goTrial_0 ?_
  obtain ⟨x4, hc4, h⟩ := bn_e h
  obtain ⟨hk5, h⟩ := kc_e h
  refine r_callVi hX hR (c_X6_rules X.2.1 G hc4) rfl rfl mf_X6_rules ml_X6_120 in_X6_rules se_X6_rules rfl rfl ⟨rfl, rfl, Nat.le_of_ble_eq_true rfl, Nat.le_of_ble_eq_true rfl⟩ rfl (st := []) rfl (Nat.le_of_ble_eq_true rfl) dX6_goTrial_1 ?_
  refine r_astore_n (L2 := [(2, .ref (gA G x4 0)), (0, .ref (gA G 0 0)), (1, .int a1)]) hX rfl (by decide) rfl dX6_goTrial_4 ?_
  refine r_iconst (v := 0) hX (by decide) dX6_goTrial_5 ?_
  refine r_istore_n (L2 := [(3, .int 0), (2, .ref (gA G x4 0)), (0, .ref (gA G 0 0)), (1, .int a1)]) hX rfl (by decide) rfl dX6_goTrial_6 ?_
  exact WW.sub [2, 3, 1, 0] rfl (K7 s a1 x4 0 hk5 trivial h)
abbrev rm_X6_on : Room := { frames := 10, cells := 0, slots := 0, locals := 442 }
def f_X6_on_J43 (s : Mm) (v1 : Int32) (v2 : Int32) : Option (Int32 × Mm) :=
  Option.bind (f_X6_askedDays v1) (fun x1 => (if x1 = 0 then some ((-2), s) else Option.bind (f_X6_startTrial s) (fun s2 => Option.bind (f_X6_goTrial s2 v1) (fun s3 => (if v2 = 0 then some (((s3 2) 0 0), s3) else (if v2 = 1 then some (((s3 2) 0 3), s3) else (if v2 = 2 then Option.bind (f_X5_owesOfAll (s3 2)) (fun x4 => some (x4, s3)) else Option.bind (f_X6_known s3 (v2 - 10)) (fun x5 => (if x5 = 0 then (if inb (v2 - 20) 6 = true then some (((s3 2) 11 (ix (v2 - 20))), s3) else none) else (if inb (v2 - 10) 6 = true then some (((s3 2) 9 (ix (v2 - 10))), s3) else none))))))))))
def f_X6_on_J27 (s : Mm) (v1 : Int32) (v2 : Int32) (w0 : Int32) : Option (Int32 × Mm) :=
  Option.bind (f_X6_within v2 0 2) (fun x8 => (if x8 = 0 then (if w0 = 0 then some ((-1), s) else f_X6_on_J43 s v1 v2) else f_X6_on_J43 s v1 v2))
def f_X6_on_J22 (s : Mm) (v1 : Int32) (v2 : Int32) : Option (Int32 × Mm) :=
  f_X6_on_J27 s v1 v2 1
def f_X6_on (s : Mm) (a1 : Int32) (a2 : Int32) : Option (Int32 × Mm) :=
  Option.bind (f_X6_known s (a2 - 10)) (fun x9 => (if x9 = 0 then Option.bind (f_X6_known s (a2 - 20)) (fun x10 => (if x10 = 0 then f_X6_on_J27 s a1 a2 0 else f_X6_on_J22 s a1 a2)) else f_X6_on_J22 s a1 a2))
set_option maxHeartbeats 4000000 in
set_option maxRecDepth 100000 in
theorem c_X6_on (l : Launch) (G : GE) {lm : Ml}  {s : Mm} {a1 : Int32} {a2 : Int32} {rz : Int32} {sz : Mm} (h : f_X6_on s a1 a2 = some (rz, sz)) : CM l G yX6_on bX6_on 4 (Option.some Jvm.ClassFile.FieldType.int) rm_X6_on [.ref (gA G 0 0), .int a1, .int a2] s lm (some (.int rz)) sz lm := by
  refine CM.of (own := zR6) (L0 := [(0, .ref (gA G 0 0)), (1, .int a1), (2, .int a2)]) (by decide +kernel) rfl (Nat.le_of_ble_eq_true rfl) rfl (fun X hl hX hR hQ => ?_)
  have K43 : ∀ (s : Mm) (v1 : Int32) (v2 : Int32) (_ : True), f_X6_on_J43 s v1 v2 = some (rz, sz) → WW X G 4 s lm 43 [(0, .ref (gA G 0 0)), (1, .int v1), (2, .int v2)] [] := by
    intro s v1 v2 _ h
    unfold f_X6_on_J43 at h
    refine r_iload_n hX rfl 1 rfl dX6_on_43 ?_
    obtain ⟨x1, hc1, h⟩ := bn_e h
    refine r_callSi hX hR (c_X6_askedDays (σ := s) X.2.1 G hc1) rfl rfl mf_X6_askedDays ml_X6_185 st_X6_askedDays ⟨rfl, rfl, Nat.le_of_ble_eq_true rfl, Nat.le_of_ble_eq_true rfl⟩ rfl (st := []) rfl (Nat.le_of_ble_eq_true rfl) dX6_on_44 ?_
    refine r_if_ne hX dX6_on_47 (fun hc => ?_) (fun hc => ?_)
    · replace h := in_e hc h
      refine r_aload_n hX rfl 0 rfl dX6_on_53 ?_
      obtain ⟨s2, hc2, h⟩ := bn_e h
      refine r_callVv hX hR (c_X6_startTrial X.2.1 G hc2) rfl rfl mf_X6_startTrial ml_X6_192 in_X6_startTrial se_X6_startTrial rfl rfl ⟨rfl, rfl, Nat.le_of_ble_eq_true rfl, Nat.le_of_ble_eq_true rfl⟩ rfl (st := []) rfl (Nat.le_of_ble_eq_true rfl) dX6_on_54 ?_
      refine r_aload_n hX rfl 0 rfl dX6_on_57 ?_
      refine r_iload_n hX rfl 1 rfl dX6_on_58 ?_
      obtain ⟨s3, hc3, h⟩ := bn_e h
      refine r_callVv hX hR (c_X6_goTrial X.2.1 G hc3) rfl rfl mf_X6_goTrial ml_X6_195 in_X6_goTrial se_X6_goTrial rfl rfl ⟨rfl, rfl, Nat.le_of_ble_eq_true rfl, Nat.le_of_ble_eq_true rfl⟩ rfl (st := []) rfl (Nat.le_of_ble_eq_true rfl) dX6_on_59 ?_
      refine r_iload_n hX rfl 2 rfl dX6_on_62 ?_
      by_cases hc0 : v2 = 0
      · replace h := ip_e hc0 h
        refine r_tswI (k := 0) (off := 25) (tgt := 88) hX hc0 (by decide) (by decide) (by decide) dX6_on_63 ?_
        refine r_aload_n hX rfl 0 rfl dX6_on_88 ?_
        refine gf_6_1 (o := 0) hX fl_X6_18 rfl rfl dX6_on_89 ?_
        refine gf_5_0 (o := 2) hX fl_X6_148 rfl rfl dX6_on_92 ?_
        have g0 := Option.some.inj h
        obtain ⟨q0, g1⟩ := Prod.mk.inj g0
        subst q0
        subst g1
        exact r_iret hX hQ dX6_on_95
      · replace h := in_e hc0 h
        by_cases hc1 : v2 = 1
        · replace h := ip_e hc1 h
          refine r_tswI (k := 1) (off := 33) (tgt := 96) hX hc1 (by decide) (by decide) (by decide) dX6_on_63 ?_
          refine r_aload_n hX rfl 0 rfl dX6_on_96 ?_
          refine gf_6_1 (o := 0) hX fl_X6_18 rfl rfl dX6_on_97 ?_
          refine gf_5_3 (o := 2) hX fl_X6_198 rfl rfl dX6_on_100 ?_
          have g0 := Option.some.inj h
          obtain ⟨q0, g1⟩ := Prod.mk.inj g0
          subst q0
          subst g1
          exact r_iret hX hQ dX6_on_103
        · replace h := in_e hc1 h
          by_cases hc2 : v2 = 2
          · replace h := ip_e hc2 h
            refine r_tswI (k := 2) (off := 41) (tgt := 104) hX hc2 (by decide) (by decide) (by decide) dX6_on_63 ?_
            refine r_aload_n hX rfl 0 rfl dX6_on_104 ?_
            refine gf_6_1 (o := 0) hX fl_X6_18 rfl rfl dX6_on_105 ?_
            obtain ⟨x4, hc4, h⟩ := bn_e h
            refine r_callVi hX hR (c_X5_owesOfAll (σ := s3) X.2.1 G rfl hc4) m1_i m1_i mf_X5_owesOfAll ml_X6_181 in_X5_owesOfAll se_X5_owesOfAll rfl rfl ⟨rfl, rfl, Nat.le_of_ble_eq_true rfl, Nat.le_of_ble_eq_true rfl⟩ rfl (st := []) rfl (Nat.le_of_ble_eq_true rfl) dX6_on_108 ?_
            have g0 := Option.some.inj h
            obtain ⟨q0, g1⟩ := Prod.mk.inj g0
            subst q0
            subst g1
            exact r_iret hX hQ dX6_on_111
          · replace h := in_e hc2 h
            have hD : WW X G 4 s3 lm 112 [(0, .ref (gA G 0 0)), (1, .int v1), (2, .int v2)] [] := by
              refine r_aload_n hX rfl 0 rfl dX6_on_112 ?_
              refine r_iload_n hX rfl 2 rfl dX6_on_113 ?_
              refine r_bipush (v := 10) hX (by decide) dX6_on_114 ?_
              refine r_isub hX dX6_on_116 ?_
              obtain ⟨x5, hc5, h⟩ := bn_e h
              refine r_callVi hX hR (c_X6_known X.2.1 G hc5) rfl rfl mf_X6_known ml_X6_91 in_X6_known se_X6_known rfl rfl ⟨rfl, rfl, Nat.le_of_ble_eq_true rfl, Nat.le_of_ble_eq_true rfl⟩ rfl (st := []) rfl (Nat.le_of_ble_eq_true rfl) dX6_on_117 ?_
              refine r_if_eq hX dX6_on_120 (fun hc => ?_) (fun hc => ?_)
              · replace h := ip_e hc h
                refine r_aload_n hX rfl 0 rfl dX6_on_138 ?_
                refine gf_6_1 (o := 0) hX fl_X6_18 rfl rfl dX6_on_139 ?_
                refine gf_5_10 (o := 2) hX fl_X6_114 rfl rfl dX6_on_142 ?_
                refine r_iload_n hX rfl 2 rfl dX6_on_145 ?_
                refine r_bipush (v := 20) hX (by decide) dX6_on_146 ?_
                refine r_isub hX dX6_on_148 ?_
                obtain ⟨hk6, h⟩ := kc_e h
                refine ga_5_11 (o := 2) hX rfl rfl hk6 dX6_on_149 ?_
                have g0 := Option.some.inj h
                obtain ⟨q0, g1⟩ := Prod.mk.inj g0
                subst q0
                subst g1
                exact r_iret hX hQ dX6_on_150
              · replace h := in_e hc h
                refine r_aload_n hX rfl 0 rfl dX6_on_123 ?_
                refine gf_6_1 (o := 0) hX fl_X6_18 rfl rfl dX6_on_124 ?_
                refine gf_5_8 (o := 2) hX fl_X6_108 rfl rfl dX6_on_127 ?_
                refine r_iload_n hX rfl 2 rfl dX6_on_130 ?_
                refine r_bipush (v := 10) hX (by decide) dX6_on_131 ?_
                refine r_isub hX dX6_on_133 ?_
                obtain ⟨hk7, h⟩ := kc_e h
                refine ga_5_9 (o := 2) hX rfl rfl hk7 dX6_on_134 ?_
                refine r_goto hX dX6_on_135 ?_
                have g0 := Option.some.inj h
                obtain ⟨q0, g1⟩ := Prod.mk.inj g0
                subst q0
                subst g1
                exact r_iret hX hQ dX6_on_150
            refine r_tswD (tgt := 112) hX ?_ (by decide) dX6_on_63 hD
            have j0 := i32n (n := 0) hc0 rfl
            have j1 := i32n (n := 1) hc1 rfl
            have j2 := i32n (n := 2) hc2 rfl
            omega
    · replace h := ip_e hc h
      refine r_bipush (v := (-2)) hX (by decide) dX6_on_50 ?_
      have g0 := Option.some.inj h
      obtain ⟨q0, g1⟩ := Prod.mk.inj g0
      subst q0
      subst g1
      exact r_iret hX hQ dX6_on_52
  have K27 : ∀ (s : Mm) (v1 : Int32) (v2 : Int32) (w0 : Int32) (_ : True), f_X6_on_J27 s v1 v2 w0 = some (rz, sz) → WW X G 4 s lm 27 [(0, .ref (gA G 0 0)), (1, .int v1), (2, .int v2)] [.int w0] := by
    intro s v1 v2 w0 _ h
    unfold f_X6_on_J27 at h
    refine r_istore_n (L2 := [(3, .int w0), (0, .ref (gA G 0 0)), (1, .int v1), (2, .int v2)]) hX rfl (by decide) rfl dX6_on_27 ?_
    refine r_iload_n hX rfl 3 rfl dX6_on_28 ?_
    refine r_iconst (v := 0) hX (by decide) dX6_on_29 ?_
    refine r_iconst (v := 2) hX (by decide) dX6_on_30 ?_
    obtain ⟨x8, hc8, h⟩ := bn_e h
    refine r_callSi hX hR (c_X6_within (σ := s) X.2.1 G hc8) rfl rfl mf_X6_within ml_X6_80 st_X6_within ⟨rfl, rfl, Nat.le_of_ble_eq_true rfl, Nat.le_of_ble_eq_true rfl⟩ rfl (st := []) rfl (Nat.le_of_ble_eq_true rfl) dX6_on_31 ?_
    refine r_if_ne hX dX6_on_34 (fun hc => ?_) (fun hc => ?_)
    · replace h := in_e hc h
      exact WW.sub [1, 2, 3] rfl (K43 s v1 v2 trivial h)
    · replace h := ip_e hc h
      refine r_iload_n hX rfl 0 rfl dX6_on_37 ?_
      refine r_if_ne hX dX6_on_38 (fun hc => ?_) (fun hc => ?_)
      · replace h := in_e hc h
        exact WW.sub [1, 2, 3] rfl (K43 s v1 v2 trivial h)
      · replace h := ip_e hc h
        refine r_iconst (v := (-1)) hX (by decide) dX6_on_41 ?_
        have g0 := Option.some.inj h
        obtain ⟨q0, g1⟩ := Prod.mk.inj g0
        subst q0
        subst g1
        exact r_iret hX hQ dX6_on_42
  have K22 : ∀ (s : Mm) (v1 : Int32) (v2 : Int32) (_ : True), f_X6_on_J22 s v1 v2 = some (rz, sz) → WW X G 4 s lm 22 [(0, .ref (gA G 0 0)), (1, .int v1), (2, .int v2)] [] := by
    intro s v1 v2 _ h
    unfold f_X6_on_J22 at h
    refine r_iconst (v := 1) hX (by decide) dX6_on_22 ?_
    refine r_goto hX dX6_on_23 ?_
    exact WW.sub [0, 1, 2] rfl (K27 s v1 v2 1 trivial h)
  unfold f_X6_on at h
  refine r_aload_n hX rfl 0 rfl dX6_on_0 ?_
  refine r_iload_n hX rfl 2 rfl dX6_on_1 ?_
  refine r_bipush (v := 10) hX (by decide) dX6_on_2 ?_
  refine r_isub hX dX6_on_4 ?_
  obtain ⟨x9, hc9, h⟩ := bn_e h
  refine r_callVi hX hR (c_X6_known X.2.1 G hc9) rfl rfl mf_X6_known ml_X6_91 in_X6_known se_X6_known rfl rfl ⟨rfl, rfl, Nat.le_of_ble_eq_true rfl, Nat.le_of_ble_eq_true rfl⟩ rfl (st := []) rfl (Nat.le_of_ble_eq_true rfl) dX6_on_5 ?_
  refine r_if_ne hX dX6_on_8 (fun hc => ?_) (fun hc => ?_)
  · replace h := in_e hc h
    exact WW.sub [0, 1, 2] rfl (K22 s a1 a2 trivial h)
  · replace h := ip_e hc h
    refine r_aload_n hX rfl 0 rfl dX6_on_11 ?_
    refine r_iload_n hX rfl 2 rfl dX6_on_12 ?_
    refine r_bipush (v := 20) hX (by decide) dX6_on_13 ?_
    refine r_isub hX dX6_on_15 ?_
    obtain ⟨x10, hc10, h⟩ := bn_e h
    refine r_callVi hX hR (c_X6_known X.2.1 G hc10) rfl rfl mf_X6_known ml_X6_91 in_X6_known se_X6_known rfl rfl ⟨rfl, rfl, Nat.le_of_ble_eq_true rfl, Nat.le_of_ble_eq_true rfl⟩ rfl (st := []) rfl (Nat.le_of_ble_eq_true rfl) dX6_on_16 ?_
    refine r_if_eq hX dX6_on_19 (fun hc => ?_) (fun hc => ?_)
    · replace h := ip_e hc h
      refine r_iconst (v := 0) hX (by decide) dX6_on_26 ?_
      exact WW.sub [0, 1, 2] rfl (K27 s a1 a2 0 trivial h)
    · replace h := in_e hc h
      exact WW.sub [0, 1, 2] rfl (K22 s a1 a2 trivial h)
abbrev rm_X6_lowest : Room := { frames := 10, cells := 0, slots := 0, locals := 442 }
def f_X6_lowest_J79 (s : Mm) (v2 : Int32) (v3 : Int32) (v4 : Int32) : Option (Int32 × Mm) :=
  (if v2 = 0 then some (v3, s) else some (v4, s))
def f_X6_lowest_J73 (s : Mm) (v1 : Int32) (v2 : Int32) (v3 : Int32) (v4 : Int32) (v5 : Int32) : Option ((Int32 × Int32 × Int32 × Mm) ⊕ (Int32 × Int32 × Mm)) :=
  some (.inl (v3, v4, (v5 + 1), s))
def f_X6_lowest_B39 (v1 : Int32) (v2 : Int32) (v3 : Int32) (v4 : Int32) (v5 : Int32) (s : Mm) : Option ((Int32 × Int32 × Int32 × Mm) ⊕ (Int32 × Int32 × Mm)) :=
  (if v1 < v5 then some (.inr (v3, v4, s)) else Option.bind (f_X6_goTrial s 1) (fun s1 => (if v3 ≤ ((s1 2) 0 0) then f_X6_lowest_J73 s1 v1 v2 v3 v4 v5 else f_X6_lowest_J73 s1 v1 v2 ((s1 2) 0 0) v5 v5)))
def f_X6_lowest_H39 (s : Mm) (v1 : Int32) (v2 : Int32) (v3 : Int32) (v4 : Int32) (v5 : Int32) : Option (Int32 × Mm) :=
  bn3 (iter (fun t => f_X6_lowest_B39 v1 v2 t.1 t.2.1 t.2.2.1 t.2.2.2) 200 (v3, v4, v5, s)) (fun v3 v4 s => f_X6_lowest_J79 s v2 v3 v4)
def f_X6_lowest (s : Mm) (a1 : Int32) (a2 : Int32) : Option (Int32 × Mm) :=
  Option.bind (f_X6_within a2 0 1) (fun x2 => (if x2 = 0 then some ((-1), s) else Option.bind (f_X6_askedDays a1) (fun x3 => (if x3 = 0 then some ((-2), s) else Option.bind (f_X6_startTrial s) (fun s4 => f_X6_lowest_H39 s4 a1 a2 ((s4 2) 0 0) 0 1)))))
set_option maxHeartbeats 4000000 in
set_option maxRecDepth 100000 in
theorem c_X6_lowest (l : Launch) (G : GE) {lm : Ml}  {s : Mm} {a1 : Int32} {a2 : Int32} {rz : Int32} {sz : Mm} (h : f_X6_lowest s a1 a2 = some (rz, sz)) : CM l G yX6_lowest bX6_lowest 6 (Option.some Jvm.ClassFile.FieldType.int) rm_X6_lowest [.ref (gA G 0 0), .int a1, .int a2] s lm (some (.int rz)) sz lm := by
  refine CM.of (own := zR6) (L0 := [(0, .ref (gA G 0 0)), (1, .int a1), (2, .int a2)]) (by decide +kernel) rfl (Nat.le_of_ble_eq_true rfl) rfl (fun X hl hX hR hQ => ?_)
  have K79 : ∀ (s : Mm) (v2 : Int32) (v3 : Int32) (v4 : Int32) (_ : True), f_X6_lowest_J79 s v2 v3 v4 = some (rz, sz) → WW X G 6 s lm 79 [(2, .int v2), (3, .int v3), (4, .int v4)] [] := by
    intro s v2 v3 v4 _ h
    unfold f_X6_lowest_J79 at h
    refine r_iload_n hX rfl 0 rfl dX6_lowest_79 ?_
    refine r_if_ne hX dX6_lowest_80 (fun hc => ?_) (fun hc => ?_)
    · replace h := in_e hc h
      refine r_iload hX 2 rfl dX6_lowest_87 ?_
      have g0 := Option.some.inj h
      obtain ⟨q0, g1⟩ := Prod.mk.inj g0
      subst q0
      subst g1
      exact r_iret hX hQ dX6_lowest_89
    · replace h := ip_e hc h
      refine r_iload_n hX rfl 1 rfl dX6_lowest_83 ?_
      refine r_goto hX dX6_lowest_84 ?_
      have g0 := Option.some.inj h
      obtain ⟨q0, g1⟩ := Prod.mk.inj g0
      subst q0
      subst g1
      exact r_iret hX hQ dX6_lowest_89
  have K39 : ∀ (s : Mm) (v1 : Int32) (v2 : Int32) (v3 : Int32) (v4 : Int32) (v5 : Int32) (_ : True), f_X6_lowest_H39 s v1 v2 v3 v4 v5 = some (rz, sz) → WW X G 6 s lm 39 [(0, .ref (gA G 0 0)), (1, .int v1), (2, .int v2), (3, .int v3), (4, .int v4), (5, .int v5)] [] := by
    intro s v1 v2 v3 v4 v5 _ h
    unfold f_X6_lowest_H39 at h
    obtain ⟨e_v3, e_v4, e_s, hit, hO⟩ := bn3_e h
    refine iter_w (P := fun t : Int32 × Int32 × Int32 × Mm => WW X G 6 t.2.2.2 lm 39 [(0, .ref (gA G 0 0)), (1, .int v1), (2, .int v2), (3, .int t.1), (4, .int t.2.1), (5, .int t.2.2.1)] []) (x := (e_v3, e_v4, e_s)) ?_ 200 (v3, v4, v5, s) hit
    clear hit
    intro t z1 hb hin1 hex1
    obtain ⟨v3, v4, v5, s⟩ := t
    have h : f_X6_lowest_B39 v1 v2 v3 v4 v5 s = some z1 := hb
    clear hb
    have K73 : ∀ (s : Mm) (v3 : Int32) (v4 : Int32) (v5 : Int32) (_ : True), f_X6_lowest_J73 s v1 v2 v3 v4 v5 = some z1 → WW X G 6 s lm 73 [(0, .ref (gA G 0 0)), (1, .int v1), (2, .int v2), (3, .int v3), (4, .int v4), (5, .int v5)] [] := by
      intro s v3 v4 v5 _ h
      unfold f_X6_lowest_J73 at h
      refine r_iinc (v := v5 + 1) (L2 := [(5, .int (v5 + 1)), (0, .ref (gA G 0 0)), (1, .int v1), (2, .int v2), (3, .int v3), (4, .int v4)]) hX 5 rfl rfl (by decide) rfl dX6_lowest_73 ?_
      refine r_goto hX dX6_lowest_76 ?_
      exact WW.sub [1, 2, 3, 4, 5, 0] rfl (hin1 _ (Option.some.inj h).symm)
    unfold f_X6_lowest_B39 at h
    refine r_iload hX 5 rfl dX6_lowest_39 ?_
    refine r_iload_n hX rfl 1 rfl dX6_lowest_41 ?_
    refine r_icmp_gt hX dX6_lowest_42 (fun hc => ?_) (fun hc => ?_)
    · replace h := ip_e hc h
      have g0 := hex1 _ (Option.some.inj h).symm
      obtain ⟨q0, g1⟩ := Prod.mk.inj g0
      obtain ⟨q1, g2⟩ := Prod.mk.inj g1
      subst q0
      subst q1
      subst g2
      exact WW.sub [2, 3, 4] rfl (K79 s v2 v3 v4 trivial hO)
    · replace h := in_e hc h
      refine r_aload_n hX rfl 0 rfl dX6_lowest_45 ?_
      refine r_iconst (v := 1) hX (by decide) dX6_lowest_46 ?_
      obtain ⟨s1, hc1, h⟩ := bn_e h
      refine r_callVv hX hR (c_X6_goTrial X.2.1 G hc1) rfl rfl mf_X6_goTrial ml_X6_195 in_X6_goTrial se_X6_goTrial rfl rfl ⟨rfl, rfl, Nat.le_of_ble_eq_true rfl, Nat.le_of_ble_eq_true rfl⟩ rfl (st := []) rfl (Nat.le_of_ble_eq_true rfl) dX6_lowest_47 ?_
      refine r_aload_n hX rfl 0 rfl dX6_lowest_50 ?_
      refine gf_6_1 (o := 0) hX fl_X6_18 rfl rfl dX6_lowest_51 ?_
      refine gf_5_0 (o := 2) hX fl_X6_148 rfl rfl dX6_lowest_54 ?_
      refine r_iload_n hX rfl 3 rfl dX6_lowest_57 ?_
      refine r_icmp_ge hX dX6_lowest_58 (fun hc => ?_) (fun hc => ?_)
      · replace h := ip_e hc h
        exact WW.sub [0, 1, 2, 3, 4, 5] rfl (K73 s1 v3 v4 v5 trivial h)
      · replace h := in_e hc h
        refine r_aload_n hX rfl 0 rfl dX6_lowest_61 ?_
        refine gf_6_1 (o := 0) hX fl_X6_18 rfl rfl dX6_lowest_62 ?_
        refine gf_5_0 (o := 2) hX fl_X6_148 rfl rfl dX6_lowest_65 ?_
        refine r_istore_n (L2 := [(3, .int ((s1 2) 0 0)), (0, .ref (gA G 0 0)), (1, .int v1), (2, .int v2), (4, .int v4), (5, .int v5)]) hX rfl (by decide) rfl dX6_lowest_68 ?_
        refine r_iload hX 5 rfl dX6_lowest_69 ?_
        refine r_istore (L2 := [(4, .int v5), (3, .int ((s1 2) 0 0)), (0, .ref (gA G 0 0)), (1, .int v1), (2, .int v2), (5, .int v5)]) hX (by decide) rfl dX6_lowest_71 ?_
        exact WW.sub [2, 3, 4, 1, 0, 5] rfl (K73 s1 ((s1 2) 0 0) v5 v5 trivial h)
  unfold f_X6_lowest at h
  refine r_iload_n hX rfl 2 rfl dX6_lowest_0 ?_
  refine r_iconst (v := 0) hX (by decide) dX6_lowest_1 ?_
  refine r_iconst (v := 1) hX (by decide) dX6_lowest_2 ?_
  obtain ⟨x2, hc2, h⟩ := bn_e h
  refine r_callSi hX hR (c_X6_within (σ := s) X.2.1 G hc2) rfl rfl mf_X6_within ml_X6_80 st_X6_within ⟨rfl, rfl, Nat.le_of_ble_eq_true rfl, Nat.le_of_ble_eq_true rfl⟩ rfl (st := []) rfl (Nat.le_of_ble_eq_true rfl) dX6_lowest_3 ?_
  refine r_if_ne hX dX6_lowest_6 (fun hc => ?_) (fun hc => ?_)
  · replace h := in_e hc h
    refine r_iload_n hX rfl 1 rfl dX6_lowest_11 ?_
    obtain ⟨x3, hc3, h⟩ := bn_e h
    refine r_callSi hX hR (c_X6_askedDays (σ := s) X.2.1 G hc3) rfl rfl mf_X6_askedDays ml_X6_185 st_X6_askedDays ⟨rfl, rfl, Nat.le_of_ble_eq_true rfl, Nat.le_of_ble_eq_true rfl⟩ rfl (st := []) rfl (Nat.le_of_ble_eq_true rfl) dX6_lowest_12 ?_
    refine r_if_ne hX dX6_lowest_15 (fun hc => ?_) (fun hc => ?_)
    · replace h := in_e hc h
      refine r_aload_n hX rfl 0 rfl dX6_lowest_21 ?_
      obtain ⟨s4, hc4, h⟩ := bn_e h
      refine r_callVv hX hR (c_X6_startTrial X.2.1 G hc4) rfl rfl mf_X6_startTrial ml_X6_192 in_X6_startTrial se_X6_startTrial rfl rfl ⟨rfl, rfl, Nat.le_of_ble_eq_true rfl, Nat.le_of_ble_eq_true rfl⟩ rfl (st := []) rfl (Nat.le_of_ble_eq_true rfl) dX6_lowest_22 ?_
      refine r_aload_n hX rfl 0 rfl dX6_lowest_25 ?_
      refine gf_6_1 (o := 0) hX fl_X6_18 rfl rfl dX6_lowest_26 ?_
      refine gf_5_0 (o := 2) hX fl_X6_148 rfl rfl dX6_lowest_29 ?_
      refine r_istore_n (L2 := [(3, .int ((s4 2) 0 0)), (0, .ref (gA G 0 0)), (1, .int a1), (2, .int a2)]) hX rfl (by decide) rfl dX6_lowest_32 ?_
      refine r_iconst (v := 0) hX (by decide) dX6_lowest_33 ?_
      refine r_istore (L2 := [(4, .int 0), (3, .int ((s4 2) 0 0)), (0, .ref (gA G 0 0)), (1, .int a1), (2, .int a2)]) hX (by decide) rfl dX6_lowest_34 ?_
      refine r_iconst (v := 1) hX (by decide) dX6_lowest_36 ?_
      refine r_istore (L2 := [(5, .int 1), (4, .int 0), (3, .int ((s4 2) 0 0)), (0, .ref (gA G 0 0)), (1, .int a1), (2, .int a2)]) hX (by decide) rfl dX6_lowest_37 ?_
      exact WW.sub [3, 4, 5, 2, 1, 0] rfl (K39 s4 a1 a2 ((s4 2) 0 0) 0 1 trivial h)
    · replace h := ip_e hc h
      refine r_bipush (v := (-2)) hX (by decide) dX6_lowest_18 ?_
      have g0 := Option.some.inj h
      obtain ⟨q0, g1⟩ := Prod.mk.inj g0
      subst q0
      subst g1
      exact r_iret hX hQ dX6_lowest_20
  · replace h := ip_e hc h
    refine r_iconst (v := (-1)) hX (by decide) dX6_lowest_9 ?_
    have g0 := Option.some.inj h
    obtain ⟨q0, g1⟩ := Prod.mk.inj g0
    subst q0
    subst g1
    exact r_iret hX hQ dX6_lowest_10
abbrev rm_X6_first : Room := { frames := 10, cells := 0, slots := 0, locals := 442 }
def f_X6_first_B6 (v1 : Int32) (s : Mm) : Option ((Int32 × Mm) ⊕ (Int32 × Mm)) :=
  (if 60 < v1 then wr (some ((-5), s)) else Option.bind (f_X6_goTrial s 1) (fun s1 => (if ((s1 2) 0 3) ≤ 0 then some (.inl ((v1 + 1), s1)) else wr (some (v1, s1)))))
def f_X6_first_H6 (s : Mm) (v1 : Int32) : Option (Int32 × Mm) :=
  iter (fun t => f_X6_first_B6 t.1 t.2) 200 (v1, s)
def f_X6_first (s : Mm) : Option (Int32 × Mm) :=
  Option.bind (f_X6_startTrial s) (fun s2 => f_X6_first_H6 s2 0)
set_option maxHeartbeats 4000000 in
set_option maxRecDepth 100000 in
theorem c_X6_first (l : Launch) (G : GE) {lm : Ml}  {s : Mm} {rz : Int32} {sz : Mm} (h : f_X6_first s = some (rz, sz)) : CM l G yX6_first bX6_first 2 (Option.some Jvm.ClassFile.FieldType.int) rm_X6_first [.ref (gA G 0 0)] s lm (some (.int rz)) sz lm := by
  refine CM.of (own := zR6) (L0 := [(0, .ref (gA G 0 0))]) (by decide +kernel) rfl (Nat.le_of_ble_eq_true rfl) rfl (fun X hl hX hR hQ => ?_)
  have K6 : ∀ (s : Mm) (v1 : Int32) (_ : True), f_X6_first_H6 s v1 = some (rz, sz) → WW X G 2 s lm 6 [(0, .ref (gA G 0 0)), (1, .int v1)] [] := by
    intro s v1 _ h
    unfold f_X6_first_H6 at h
    have hit := h
    refine iter_w (P := fun t : Int32 × Mm => WW X G 2 t.2 lm 6 [(0, .ref (gA G 0 0)), (1, .int t.1)] []) (x := (rz, sz)) ?_ 200 (v1, s) hit
    clear hit
    clear h
    intro t z1 hb hin1 hex1
    obtain ⟨v1, s⟩ := t
    have h : f_X6_first_B6 v1 s = some z1 := hb
    clear hb
    unfold f_X6_first_B6 at h
    refine r_iload_n hX rfl 1 rfl dX6_first_6 ?_
    refine r_bipush (v := 60) hX (by decide) dX6_first_7 ?_
    refine r_icmp_gt hX dX6_first_9 (fun hc => ?_) (fun hc => ?_)
    · replace h := ip_e hc h
      refine r_bipush (v := (-5)) hX (by decide) dX6_first_35 ?_
      obtain ⟨y1, h, e1⟩ := wr_e h
      rw [hex1 _ e1] at h
      have g0 := Option.some.inj h
      obtain ⟨q0, g1⟩ := Prod.mk.inj g0
      subst q0
      subst g1
      exact r_iret hX hQ dX6_first_37
    · replace h := in_e hc h
      refine r_aload_n hX rfl 0 rfl dX6_first_12 ?_
      refine r_iconst (v := 1) hX (by decide) dX6_first_13 ?_
      obtain ⟨s1, hc1, h⟩ := bn_e h
      refine r_callVv hX hR (c_X6_goTrial X.2.1 G hc1) rfl rfl mf_X6_goTrial ml_X6_195 in_X6_goTrial se_X6_goTrial rfl rfl ⟨rfl, rfl, Nat.le_of_ble_eq_true rfl, Nat.le_of_ble_eq_true rfl⟩ rfl (st := []) rfl (Nat.le_of_ble_eq_true rfl) dX6_first_14 ?_
      refine r_aload_n hX rfl 0 rfl dX6_first_17 ?_
      refine gf_6_1 (o := 0) hX fl_X6_18 rfl rfl dX6_first_18 ?_
      refine gf_5_3 (o := 2) hX fl_X6_198 rfl rfl dX6_first_21 ?_
      refine r_if_le hX dX6_first_24 (fun hc => ?_) (fun hc => ?_)
      · replace h := ip_e hc h
        refine r_iinc (v := v1 + 1) (L2 := [(1, .int (v1 + 1)), (0, .ref (gA G 0 0))]) hX 1 rfl rfl (by decide) rfl dX6_first_29 ?_
        refine r_goto hX dX6_first_32 ?_
        exact WW.sub [1, 0] rfl (hin1 _ (Option.some.inj h).symm)
      · replace h := in_e hc h
        refine r_iload_n hX rfl 1 rfl dX6_first_27 ?_
        obtain ⟨y1, h, e1⟩ := wr_e h
        rw [hex1 _ e1] at h
        have g0 := Option.some.inj h
        obtain ⟨q0, g1⟩ := Prod.mk.inj g0
        subst q0
        subst g1
        exact r_iret hX hQ dX6_first_28
  unfold f_X6_first at h
  refine r_aload_n hX rfl 0 rfl dX6_first_0 ?_
  obtain ⟨s2, hc2, h⟩ := bn_e h
  refine r_callVv hX hR (c_X6_startTrial X.2.1 G hc2) rfl rfl mf_X6_startTrial ml_X6_192 in_X6_startTrial se_X6_startTrial rfl rfl ⟨rfl, rfl, Nat.le_of_ble_eq_true rfl, Nat.le_of_ble_eq_true rfl⟩ rfl (st := []) rfl (Nat.le_of_ble_eq_true rfl) dX6_first_1 ?_
  refine r_iconst (v := 0) hX (by decide) dX6_first_4 ?_
  refine r_istore_n (L2 := [(1, .int 0), (0, .ref (gA G 0 0))]) hX rfl (by decide) rfl dX6_first_5 ?_
  exact WW.sub [1, 0] rfl (K6 s2 0 trivial h)
abbrev rm_X6_turnedOfTrial : Room := { frames := 4, cells := 0, slots := 0, locals := 157 }
def f_X6_turnedOfTrial_J30 (s : Mm) : Option (Int32 × Mm) :=
  some (((s 2) 0 3), s)
def f_X6_turnedOfTrial_B7 (v1 : Int32) (v2 : Nat) (v3 : Int32) (s : Mm) : Option ((Int32 × Mm) ⊕ (Mm)) :=
  (if 30 ≤ v3 then some (.inr s) else bn2 (f_X5_goDay (s 2) (s v2) v1 (-5)) (fun p1 p2 => nb (setO (setO s 2 p1) v2 p2) (fun s3 => some (.inl ((v3 + 1), s3)))))
def f_X6_turnedOfTrial_H7 (s : Mm) (v1 : Int32) (v2 : Nat) (v3 : Int32) : Option (Int32 × Mm) :=
  Option.bind (iter (fun t => f_X6_turnedOfTrial_B7 v1 v2 t.1 t.2) 200 (v3, s)) (fun s => f_X6_turnedOfTrial_J30 s)
def f_X6_turnedOfTrial (s : Mm) (a1 : Int32) : Option (Int32 × Mm) :=
  Option.bind (f_X6_rules s) (fun x4 => (if kdo x4 = 1 then f_X6_turnedOfTrial_H7 s a1 x4 0 else none))
set_option maxHeartbeats 4000000 in
set_option maxRecDepth 100000 in
theorem c_X6_turnedOfTrial (l : Launch) (G : GE) {lm : Ml}  {s : Mm} {a1 : Int32} {rz : Int32} {sz : Mm} (h : f_X6_turnedOfTrial s a1 = some (rz, sz)) : CM l G yX6_turnedOfTrial bX6_turnedOfTrial 4 (Option.some Jvm.ClassFile.FieldType.int) rm_X6_turnedOfTrial [.ref (gA G 0 0), .int a1] s lm (some (.int rz)) sz lm := by
  refine CM.of (own := zR6) (L0 := [(0, .ref (gA G 0 0)), (1, .int a1)]) (by decide +kernel) rfl (Nat.le_of_ble_eq_true rfl) rfl (fun X hl hX hR hQ => ?_)
  have K30 : ∀ (s : Mm) (_ : True), f_X6_turnedOfTrial_J30 s = some (rz, sz) → WW X G 4 s lm 30 [(0, .ref (gA G 0 0))] [] := by
    intro s _ h
    unfold f_X6_turnedOfTrial_J30 at h
    refine r_aload_n hX rfl 0 rfl dX6_turnedOfTrial_30 ?_
    refine gf_6_1 (o := 0) hX fl_X6_18 rfl rfl dX6_turnedOfTrial_31 ?_
    refine gf_5_3 (o := 2) hX fl_X6_198 rfl rfl dX6_turnedOfTrial_34 ?_
    have g0 := Option.some.inj h
    obtain ⟨q0, g1⟩ := Prod.mk.inj g0
    subst q0
    subst g1
    exact r_iret hX hQ dX6_turnedOfTrial_37
  have K7 : ∀ (s : Mm) (v1 : Int32) (v2 : Nat) (v3 : Int32) (hv2 : kdo v2 = 1) (_ : True), f_X6_turnedOfTrial_H7 s v1 v2 v3 = some (rz, sz) → WW X G 4 s lm 7 [(0, .ref (gA G 0 0)), (1, .int v1), (2, .ref (gA G v2 0)), (3, .int v3)] [] := by
    intro s v1 v2 v3 hv2 _ h
    unfold f_X6_turnedOfTrial_H7 at h
    obtain ⟨e_s, hit, hO⟩ := bn_e h
    refine iter_w (P := fun t : Int32 × Mm => WW X G 4 t.2 lm 7 [(0, .ref (gA G 0 0)), (1, .int v1), (2, .ref (gA G v2 0)), (3, .int t.1)] []) (x := e_s) ?_ 200 (v3, s) hit
    clear hit
    intro t z1 hb hin1 hex1
    obtain ⟨v3, s⟩ := t
    have h : f_X6_turnedOfTrial_B7 v1 v2 v3 s = some z1 := hb
    clear hb
    unfold f_X6_turnedOfTrial_B7 at h
    refine r_iload_n hX rfl 3 rfl dX6_turnedOfTrial_7 ?_
    refine r_bipush (v := 30) hX (by decide) dX6_turnedOfTrial_8 ?_
    refine r_icmp_ge hX dX6_turnedOfTrial_10 (fun hc => ?_) (fun hc => ?_)
    · replace h := ip_e hc h
      have g0 := hex1 _ (Option.some.inj h).symm
      subst g0
      exact WW.sub [0] rfl (K30 s trivial hO)
    · replace h := in_e hc h
      refine r_aload_n hX rfl 0 rfl dX6_turnedOfTrial_13 ?_
      refine gf_6_1 (o := 0) hX fl_X6_18 rfl rfl dX6_turnedOfTrial_14 ?_
      refine r_aload_n hX rfl 2 rfl dX6_turnedOfTrial_17 ?_
      refine r_iload_n hX rfl 1 rfl dX6_turnedOfTrial_18 ?_
      refine r_bipush (v := (-5)) hX (by decide) dX6_turnedOfTrial_19 ?_
      obtain ⟨p1, p2, hc2, h⟩ := bn2_e h
      obtain ⟨s3, hs3, h⟩ := nb_e h
      refine r_callVv hX hR (c_X5_goDay (σ := s) X.2.1 G rfl hv2 (kd_ne (rfl : kdo 2 = 5) hv2 (by decide)) hc2) (m2_i (kd_ne (rfl : kdo 2 = 5) hv2 (by decide))) hs3.symm mf_X5_goDay ml_X6_188 in_X5_goDay se_X5_goDay rfl rfl ⟨rfl, rfl, Nat.le_of_ble_eq_true rfl, Nat.le_of_ble_eq_true rfl⟩ rfl (st := []) rfl (Nat.le_of_ble_eq_true rfl) dX6_turnedOfTrial_21 ?_
      refine r_iinc (v := v3 + 1) (L2 := [(3, .int (v3 + 1)), (0, .ref (gA G 0 0)), (1, .int v1), (2, .ref (gA G v2 0))]) hX 3 rfl rfl (by decide) rfl dX6_turnedOfTrial_24 ?_
      refine r_goto hX dX6_turnedOfTrial_27 ?_
      exact WW.sub [1, 2, 3, 0] rfl (hin1 _ (Option.some.inj h).symm)
  unfold f_X6_turnedOfTrial at h
  refine r_aload_n hX rfl 0 rfl dX6_turnedOfTrial_0 ?_
  obtain ⟨x4, hc4, h⟩ := bn_e h
  obtain ⟨hk5, h⟩ := kc_e h
  refine r_callVi hX hR (c_X6_rules X.2.1 G hc4) rfl rfl mf_X6_rules ml_X6_120 in_X6_rules se_X6_rules rfl rfl ⟨rfl, rfl, Nat.le_of_ble_eq_true rfl, Nat.le_of_ble_eq_true rfl⟩ rfl (st := []) rfl (Nat.le_of_ble_eq_true rfl) dX6_turnedOfTrial_1 ?_
  refine r_astore_n (L2 := [(2, .ref (gA G x4 0)), (0, .ref (gA G 0 0)), (1, .int a1)]) hX rfl (by decide) rfl dX6_turnedOfTrial_4 ?_
  refine r_iconst (v := 0) hX (by decide) dX6_turnedOfTrial_5 ?_
  refine r_istore_n (L2 := [(3, .int 0), (2, .ref (gA G x4 0)), (0, .ref (gA G 0 0)), (1, .int a1)]) hX rfl (by decide) rfl dX6_turnedOfTrial_6 ?_
  exact WW.sub [2, 3, 1, 0] rfl (K7 s a1 x4 0 hk5 trivial h)
abbrev rm_X6_whomToCall : Room := { frames := 10, cells := 0, slots := 0, locals := 442 }
def f_X6_whomToCall_J87 (s : Mm) (v2 : Int32) : Option (Int32 × Mm) :=
  some (v2, s)
def f_X6_whomToCall_J81 (s : Mm) (v1 : Int32) (v2 : Int32) (v3 : Int32) (v4 : Int32) : Option ((Int32 × Int32 × Int32 × Mm) ⊕ (Int32 × Mm)) :=
  some (.inl (v2, v3, (v4 + 1), s))
def f_X6_whomToCall_B24 (v1 : Int32) (v2 : Int32) (v3 : Int32) (v4 : Int32) (s : Mm) : Option ((Int32 × Int32 × Int32 × Mm) ⊕ (Int32 × Mm)) :=
  (if ((s 1) 0 2) ≤ v4 then some (.inr (v2, s)) else (if inb v4 6 = true then (if ((s 1) 9 (ix v4)) ≤ 0 then f_X6_whomToCall_J81 s v1 v2 v3 v4 else Option.bind (f_X6_startTrial s) (fun s2 => Option.bind (f_X5_callIn (s2 2) v4) (fun p3 => nb (setO s2 2 p3) (fun s4 => bn2 (f_X6_turnedOfTrial s4 v1) (fun x5 s6 => (if v3 ≤ x5 then f_X6_whomToCall_J81 s6 v1 v2 v3 v4 else f_X6_whomToCall_J81 s6 v1 v4 x5 v4)))))) else none))
def f_X6_whomToCall_H24 (s : Mm) (v1 : Int32) (v2 : Int32) (v3 : Int32) (v4 : Int32) : Option (Int32 × Mm) :=
  bn2 (iter (fun t => f_X6_whomToCall_B24 v1 t.1 t.2.1 t.2.2.1 t.2.2.2) 200 (v2, v3, v4, s)) (fun v2 s => f_X6_whomToCall_J87 s v2)
def f_X6_whomToCall (s : Mm) : Option (Int32 × Mm) :=
  Option.bind (f_X6_rules s) (fun x7 => (if kdo x7 = 1 then Option.bind (f_X6_startTrial s) (fun s9 => bn2 (f_X6_turnedOfTrial s9 ((s x7) 0 0)) (fun x10 s11 => f_X6_whomToCall_H24 s11 ((s x7) 0 0) (-5) x10 0)) else none))
set_option maxHeartbeats 4000000 in
set_option maxRecDepth 100000 in
theorem c_X6_whomToCall (l : Launch) (G : GE) {lm : Ml}  {s : Mm} {rz : Int32} {sz : Mm} (h : f_X6_whomToCall s = some (rz, sz)) : CM l G yX6_whomToCall bX6_whomToCall 6 (Option.some Jvm.ClassFile.FieldType.int) rm_X6_whomToCall [.ref (gA G 0 0)] s lm (some (.int rz)) sz lm := by
  refine CM.of (own := zR6) (L0 := [(0, .ref (gA G 0 0))]) (by decide +kernel) rfl (Nat.le_of_ble_eq_true rfl) rfl (fun X hl hX hR hQ => ?_)
  have K87 : ∀ (s : Mm) (v2 : Int32) (_ : True), f_X6_whomToCall_J87 s v2 = some (rz, sz) → WW X G 6 s lm 87 [(2, .int v2)] [] := by
    intro s v2 _ h
    unfold f_X6_whomToCall_J87 at h
    refine r_iload_n hX rfl 0 rfl dX6_whomToCall_87 ?_
    have g0 := Option.some.inj h
    obtain ⟨q0, g1⟩ := Prod.mk.inj g0
    subst q0
    subst g1
    exact r_iret hX hQ dX6_whomToCall_88
  have K24 : ∀ (s : Mm) (v1 : Int32) (v2 : Int32) (v3 : Int32) (v4 : Int32) (_ : True), f_X6_whomToCall_H24 s v1 v2 v3 v4 = some (rz, sz) → WW X G 6 s lm 24 [(0, .ref (gA G 0 0)), (1, .int v1), (2, .int v2), (3, .int v3), (4, .int v4)] [] := by
    intro s v1 v2 v3 v4 _ h
    unfold f_X6_whomToCall_H24 at h
    obtain ⟨e_v2, e_s, hit, hO⟩ := bn2_e h
    refine iter_w (P := fun t : Int32 × Int32 × Int32 × Mm => WW X G 6 t.2.2.2 lm 24 [(0, .ref (gA G 0 0)), (1, .int v1), (2, .int t.1), (3, .int t.2.1), (4, .int t.2.2.1)] []) (x := (e_v2, e_s)) ?_ 200 (v2, v3, v4, s) hit
    clear hit
    intro t z1 hb hin1 hex1
    obtain ⟨v2, v3, v4, s⟩ := t
    have h : f_X6_whomToCall_B24 v1 v2 v3 v4 s = some z1 := hb
    clear hb
    have K81 : ∀ (s : Mm) (v2 : Int32) (v3 : Int32) (v4 : Int32) (_ : True), f_X6_whomToCall_J81 s v1 v2 v3 v4 = some z1 → WW X G 6 s lm 81 [(0, .ref (gA G 0 0)), (1, .int v1), (2, .int v2), (3, .int v3), (4, .int v4)] [] := by
      intro s v2 v3 v4 _ h
      unfold f_X6_whomToCall_J81 at h
      refine r_iinc (v := v4 + 1) (L2 := [(4, .int (v4 + 1)), (0, .ref (gA G 0 0)), (1, .int v1), (2, .int v2), (3, .int v3)]) hX 4 rfl rfl (by decide) rfl dX6_whomToCall_81 ?_
      refine r_goto hX dX6_whomToCall_84 ?_
      exact WW.sub [1, 2, 3, 4, 0] rfl (hin1 _ (Option.some.inj h).symm)
    unfold f_X6_whomToCall_B24 at h
    refine r_iload hX 4 rfl dX6_whomToCall_24 ?_
    refine r_aload_n hX rfl 0 rfl dX6_whomToCall_26 ?_
    refine gf_6_0 (o := 0) hX fl_X6_12 rfl rfl dX6_whomToCall_27 ?_
    refine gf_5_2 (o := 1) hX fl_X6_84 rfl rfl dX6_whomToCall_30 ?_
    refine r_icmp_ge hX dX6_whomToCall_33 (fun hc => ?_) (fun hc => ?_)
    · replace h := ip_e hc h
      have g0 := hex1 _ (Option.some.inj h).symm
      obtain ⟨q0, g1⟩ := Prod.mk.inj g0
      subst q0
      subst g1
      exact WW.sub [2] rfl (K87 s v2 trivial hO)
    · replace h := in_e hc h
      refine r_aload_n hX rfl 0 rfl dX6_whomToCall_36 ?_
      refine gf_6_0 (o := 0) hX fl_X6_12 rfl rfl dX6_whomToCall_37 ?_
      refine gf_5_8 (o := 1) hX fl_X6_108 rfl rfl dX6_whomToCall_40 ?_
      refine r_iload hX 4 rfl dX6_whomToCall_43 ?_
      obtain ⟨hk1, h⟩ := kc_e h
      refine ga_5_9 (o := 1) hX rfl rfl hk1 dX6_whomToCall_45 ?_
      refine r_if_le hX dX6_whomToCall_46 (fun hc => ?_) (fun hc => ?_)
      · replace h := ip_e hc h
        exact WW.sub [0, 1, 2, 3, 4] rfl (K81 s v2 v3 v4 trivial h)
      · replace h := in_e hc h
        refine r_aload_n hX rfl 0 rfl dX6_whomToCall_49 ?_
        obtain ⟨s2, hc2, h⟩ := bn_e h
        refine r_callVv hX hR (c_X6_startTrial X.2.1 G hc2) rfl rfl mf_X6_startTrial ml_X6_192 in_X6_startTrial se_X6_startTrial rfl rfl ⟨rfl, rfl, Nat.le_of_ble_eq_true rfl, Nat.le_of_ble_eq_true rfl⟩ rfl (st := []) rfl (Nat.le_of_ble_eq_true rfl) dX6_whomToCall_50 ?_
        refine r_aload_n hX rfl 0 rfl dX6_whomToCall_53 ?_
        refine gf_6_1 (o := 0) hX fl_X6_18 rfl rfl dX6_whomToCall_54 ?_
        refine r_iload hX 4 rfl dX6_whomToCall_57 ?_
        obtain ⟨p3, hc3, h⟩ := bn_e h
        obtain ⟨s4, hs4, h⟩ := nb_e h
        refine r_callVv hX hR (c_X5_callIn (σ := s2) X.2.1 G rfl hc3) m1_i hs4.symm mf_X5_callIn ml_X6_158 in_X5_callIn se_X5_callIn rfl rfl ⟨rfl, rfl, Nat.le_of_ble_eq_true rfl, Nat.le_of_ble_eq_true rfl⟩ rfl (st := []) rfl (Nat.le_of_ble_eq_true rfl) dX6_whomToCall_59 ?_
        refine r_aload_n hX rfl 0 rfl dX6_whomToCall_62 ?_
        refine r_iload_n hX rfl 1 rfl dX6_whomToCall_63 ?_
        obtain ⟨x5, s6, hc6, h⟩ := bn2_e h
        refine r_callVi hX hR (c_X6_turnedOfTrial X.2.1 G hc6) rfl rfl mf_X6_turnedOfTrial ml_X6_213 in_X6_turnedOfTrial se_X6_turnedOfTrial rfl rfl ⟨rfl, rfl, Nat.le_of_ble_eq_true rfl, Nat.le_of_ble_eq_true rfl⟩ rfl (st := []) rfl (Nat.le_of_ble_eq_true rfl) dX6_whomToCall_64 ?_
        refine r_istore (L2 := [(5, .int x5), (0, .ref (gA G 0 0)), (1, .int v1), (2, .int v2), (3, .int v3), (4, .int v4)]) hX (by decide) rfl dX6_whomToCall_67 ?_
        refine r_iload hX 0 rfl dX6_whomToCall_69 ?_
        refine r_iload_n hX rfl 4 rfl dX6_whomToCall_71 ?_
        refine r_icmp_ge hX dX6_whomToCall_72 (fun hc => ?_) (fun hc => ?_)
        · replace h := ip_e hc h
          exact WW.sub [1, 2, 3, 4, 5] rfl (K81 s6 v2 v3 v4 trivial h)
        · replace h := in_e hc h
          refine r_iload hX 0 rfl dX6_whomToCall_75 ?_
          refine r_istore_n (L2 := [(3, .int x5), (5, .int x5), (0, .ref (gA G 0 0)), (1, .int v1), (2, .int v2), (4, .int v4)]) hX rfl (by decide) rfl dX6_whomToCall_77 ?_
          refine r_iload hX 5 rfl dX6_whomToCall_78 ?_
          refine r_istore_n (L2 := [(2, .int v4), (3, .int x5), (5, .int x5), (0, .ref (gA G 0 0)), (1, .int v1), (4, .int v4)]) hX rfl (by decide) rfl dX6_whomToCall_80 ?_
          exact WW.sub [3, 4, 0, 1, 5] rfl (K81 s6 v4 x5 v4 trivial h)
  unfold f_X6_whomToCall at h
  refine r_aload_n hX rfl 0 rfl dX6_whomToCall_0 ?_
  obtain ⟨x7, hc7, h⟩ := bn_e h
  obtain ⟨hk8, h⟩ := kc_e h
  refine r_callVi hX hR (c_X6_rules X.2.1 G hc7) rfl rfl mf_X6_rules ml_X6_120 in_X6_rules se_X6_rules rfl rfl ⟨rfl, rfl, Nat.le_of_ble_eq_true rfl, Nat.le_of_ble_eq_true rfl⟩ rfl (st := []) rfl (Nat.le_of_ble_eq_true rfl) dX6_whomToCall_1 ?_
  refine gf_1_0 hX fl_X6_128 hk8 rfl dX6_whomToCall_4 ?_
  refine r_istore_n (L2 := [(1, .int ((s x7) 0 0)), (0, .ref (gA G 0 0))]) hX rfl (by decide) rfl dX6_whomToCall_7 ?_
  refine r_bipush (v := (-5)) hX (by decide) dX6_whomToCall_8 ?_
  refine r_istore_n (L2 := [(2, .int (-5)), (1, .int ((s x7) 0 0)), (0, .ref (gA G 0 0))]) hX rfl (by decide) rfl dX6_whomToCall_10 ?_
  refine r_aload_n hX rfl 2 rfl dX6_whomToCall_11 ?_
  obtain ⟨s9, hc9, h⟩ := bn_e h
  refine r_callVv hX hR (c_X6_startTrial X.2.1 G hc9) rfl rfl mf_X6_startTrial ml_X6_192 in_X6_startTrial se_X6_startTrial rfl rfl ⟨rfl, rfl, Nat.le_of_ble_eq_true rfl, Nat.le_of_ble_eq_true rfl⟩ rfl (st := []) rfl (Nat.le_of_ble_eq_true rfl) dX6_whomToCall_12 ?_
  refine r_aload_n hX rfl 2 rfl dX6_whomToCall_15 ?_
  refine r_iload_n hX rfl 1 rfl dX6_whomToCall_16 ?_
  obtain ⟨x10, s11, hc11, h⟩ := bn2_e h
  refine r_callVi hX hR (c_X6_turnedOfTrial X.2.1 G hc11) rfl rfl mf_X6_turnedOfTrial ml_X6_213 in_X6_turnedOfTrial se_X6_turnedOfTrial rfl rfl ⟨rfl, rfl, Nat.le_of_ble_eq_true rfl, Nat.le_of_ble_eq_true rfl⟩ rfl (st := []) rfl (Nat.le_of_ble_eq_true rfl) dX6_whomToCall_17 ?_
  refine r_istore_n (L2 := [(3, .int x10), (2, .int (-5)), (1, .int ((s x7) 0 0)), (0, .ref (gA G 0 0))]) hX rfl (by decide) rfl dX6_whomToCall_20 ?_
  refine r_iconst (v := 0) hX (by decide) dX6_whomToCall_21 ?_
  refine r_istore (L2 := [(4, .int 0), (3, .int x10), (2, .int (-5)), (1, .int ((s x7) 0 0)), (0, .ref (gA G 0 0))]) hX (by decide) rfl dX6_whomToCall_22 ?_
  exact WW.sub [4, 3, 2, 1, 0] rfl (K24 s11 ((s x7) 0 0) (-5) x10 0 trivial h)
abbrev rm_X6_whoComesAhead : Room := { frames := 10, cells := 0, slots := 0, locals := 442 }
def f_X6_whoComesAhead_J106 (s : Mm) (v2 : Int32) : Option (Int32 × Mm) :=
  some (v2, s)
def f_X6_whoComesAhead_J100 (s : Mm) (v1 : Int32) (v2 : Int32) (v3 : Int32) (v4 : Int32) : Option ((Int32 × Int32 × Int32 × Mm) ⊕ (Int32 × Mm)) :=
  some (.inl (v2, v3, (v4 + 1), s))
def f_X6_whoComesAhead_J94 (s : Mm) (v1 : Int32) (v2 : Int32) (v3 : Int32) (v4 : Int32) (v5 : Int32) : Option ((Int32 × Int32 × Int32 × Mm) ⊕ (Int32 × Int32 × Mm)) :=
  some (.inl (v2, v3, (v5 + 1), s))
def f_X6_whoComesAhead_B42 (v1 : Int32) (v4 : Int32) (v2 : Int32) (v3 : Int32) (v5 : Int32) (s : Mm) : Option ((Int32 × Int32 × Int32 × Mm) ⊕ (Int32 × Int32 × Mm)) :=
  (if ((s 1) 0 2) ≤ v5 then some (.inr (v2, v3, s)) else Option.bind (f_X6_startTrial s) (fun s1 => Option.bind (f_X5_trade (s1 2) v4 v5) (fun p2 => nb (setO s1 2 p2) (fun s3 => bn2 (f_X6_turnedOfTrial s3 v1) (fun x4 s5 => (if v3 ≤ x4 then f_X6_whoComesAhead_J94 s5 v1 v2 v3 v4 v5 else f_X6_whoComesAhead_J94 s5 v1 ((10 * v4) + v5) x4 v4 v5))))))
def f_X6_whoComesAhead_H42 (s : Mm) (v1 : Int32) (v2 : Int32) (v3 : Int32) (v4 : Int32) (v5 : Int32) : Option ((Int32 × Int32 × Int32 × Mm) ⊕ (Int32 × Mm)) :=
  bn3 (iter (fun t => f_X6_whoComesAhead_B42 v1 v4 t.1 t.2.1 t.2.2.1 t.2.2.2) 200 (v2, v3, v5, s)) (fun v2 v3 s => f_X6_whoComesAhead_J100 s v1 v2 v3 v4)
def f_X6_whoComesAhead_B24 (v1 : Int32) (v2 : Int32) (v3 : Int32) (v4 : Int32) (s : Mm) : Option ((Int32 × Int32 × Int32 × Mm) ⊕ (Int32 × Mm)) :=
  (if ((s 1) 0 2) ≤ v4 then some (.inr (v2, s)) else f_X6_whoComesAhead_H42 s v1 v2 v3 v4 (v4 + 1))
def f_X6_whoComesAhead_H24 (s : Mm) (v1 : Int32) (v2 : Int32) (v3 : Int32) (v4 : Int32) : Option (Int32 × Mm) :=
  bn2 (iter (fun t => f_X6_whoComesAhead_B24 v1 t.1 t.2.1 t.2.2.1 t.2.2.2) 200 (v2, v3, v4, s)) (fun v2 s => f_X6_whoComesAhead_J106 s v2)
def f_X6_whoComesAhead (s : Mm) : Option (Int32 × Mm) :=
  Option.bind (f_X6_rules s) (fun x6 => (if kdo x6 = 1 then Option.bind (f_X6_startTrial s) (fun s8 => bn2 (f_X6_turnedOfTrial s8 ((s x6) 0 0)) (fun x9 s10 => f_X6_whoComesAhead_H24 s10 ((s x6) 0 0) (-5) x9 0)) else none))
set_option maxHeartbeats 4000000 in
set_option maxRecDepth 100000 in
theorem c_X6_whoComesAhead (l : Launch) (G : GE) {lm : Ml}  {s : Mm} {rz : Int32} {sz : Mm} (h : f_X6_whoComesAhead s = some (rz, sz)) : CM l G yX6_whoComesAhead bX6_whoComesAhead 7 (Option.some Jvm.ClassFile.FieldType.int) rm_X6_whoComesAhead [.ref (gA G 0 0)] s lm (some (.int rz)) sz lm := by
  refine CM.of (own := zR6) (L0 := [(0, .ref (gA G 0 0))]) (by decide +kernel) rfl (Nat.le_of_ble_eq_true rfl) rfl (fun X hl hX hR hQ => ?_)
  have K106 : ∀ (s : Mm) (v2 : Int32) (_ : True), f_X6_whoComesAhead_J106 s v2 = some (rz, sz) → WW X G 7 s lm 106 [(2, .int v2)] [] := by
    intro s v2 _ h
    unfold f_X6_whoComesAhead_J106 at h
    refine r_iload_n hX rfl 0 rfl dX6_whoComesAhead_106 ?_
    have g0 := Option.some.inj h
    obtain ⟨q0, g1⟩ := Prod.mk.inj g0
    subst q0
    subst g1
    exact r_iret hX hQ dX6_whoComesAhead_107
  have K24 : ∀ (s : Mm) (v1 : Int32) (v2 : Int32) (v3 : Int32) (v4 : Int32) (_ : True), f_X6_whoComesAhead_H24 s v1 v2 v3 v4 = some (rz, sz) → WW X G 7 s lm 24 [(0, .ref (gA G 0 0)), (1, .int v1), (2, .int v2), (3, .int v3), (4, .int v4)] [] := by
    intro s v1 v2 v3 v4 _ h
    unfold f_X6_whoComesAhead_H24 at h
    obtain ⟨e_v2, e_s, hit, hO⟩ := bn2_e h
    refine iter_w (P := fun t : Int32 × Int32 × Int32 × Mm => WW X G 7 t.2.2.2 lm 24 [(0, .ref (gA G 0 0)), (1, .int v1), (2, .int t.1), (3, .int t.2.1), (4, .int t.2.2.1)] []) (x := (e_v2, e_s)) ?_ 200 (v2, v3, v4, s) hit
    clear hit
    intro t z1 hb hin1 hex1
    obtain ⟨v2, v3, v4, s⟩ := t
    have h : f_X6_whoComesAhead_B24 v1 v2 v3 v4 s = some z1 := hb
    clear hb
    have K100 : ∀ (s : Mm) (v2 : Int32) (v3 : Int32) (v4 : Int32) (_ : True), f_X6_whoComesAhead_J100 s v1 v2 v3 v4 = some z1 → WW X G 7 s lm 100 [(0, .ref (gA G 0 0)), (1, .int v1), (2, .int v2), (3, .int v3), (4, .int v4)] [] := by
      intro s v2 v3 v4 _ h
      unfold f_X6_whoComesAhead_J100 at h
      refine r_iinc (v := v4 + 1) (L2 := [(4, .int (v4 + 1)), (0, .ref (gA G 0 0)), (1, .int v1), (2, .int v2), (3, .int v3)]) hX 4 rfl rfl (by decide) rfl dX6_whoComesAhead_100 ?_
      refine r_goto hX dX6_whoComesAhead_103 ?_
      exact WW.sub [1, 2, 3, 4, 0] rfl (hin1 _ (Option.some.inj h).symm)
    have K42 : ∀ (s : Mm) (v2 : Int32) (v3 : Int32) (v4 : Int32) (v5 : Int32) (_ : True), f_X6_whoComesAhead_H42 s v1 v2 v3 v4 v5 = some z1 → WW X G 7 s lm 42 [(0, .ref (gA G 0 0)), (1, .int v1), (2, .int v2), (3, .int v3), (4, .int v4), (5, .int v5)] [] := by
      intro s v2 v3 v4 v5 _ h
      unfold f_X6_whoComesAhead_H42 at h
      obtain ⟨e_v2, e_v3, e_s, hit, hO⟩ := bn3_e h
      refine iter_w (P := fun t : Int32 × Int32 × Int32 × Mm => WW X G 7 t.2.2.2 lm 42 [(0, .ref (gA G 0 0)), (1, .int v1), (2, .int t.1), (3, .int t.2.1), (4, .int v4), (5, .int t.2.2.1)] []) (x := (e_v2, e_v3, e_s)) ?_ 200 (v2, v3, v5, s) hit
      clear hit
      intro t z2 hb hin2 hex2
      obtain ⟨v2, v3, v5, s⟩ := t
      have h : f_X6_whoComesAhead_B42 v1 v4 v2 v3 v5 s = some z2 := hb
      clear hb
      have K94 : ∀ (s : Mm) (v2 : Int32) (v3 : Int32) (v5 : Int32) (_ : True), f_X6_whoComesAhead_J94 s v1 v2 v3 v4 v5 = some z2 → WW X G 7 s lm 94 [(0, .ref (gA G 0 0)), (1, .int v1), (2, .int v2), (3, .int v3), (4, .int v4), (5, .int v5)] [] := by
        intro s v2 v3 v5 _ h
        unfold f_X6_whoComesAhead_J94 at h
        refine r_iinc (v := v5 + 1) (L2 := [(5, .int (v5 + 1)), (0, .ref (gA G 0 0)), (1, .int v1), (2, .int v2), (3, .int v3), (4, .int v4)]) hX 5 rfl rfl (by decide) rfl dX6_whoComesAhead_94 ?_
        refine r_goto hX dX6_whoComesAhead_97 ?_
        exact WW.sub [1, 2, 3, 4, 5, 0] rfl (hin2 _ (Option.some.inj h).symm)
      unfold f_X6_whoComesAhead_B42 at h
      refine r_iload hX 5 rfl dX6_whoComesAhead_42 ?_
      refine r_aload_n hX rfl 0 rfl dX6_whoComesAhead_44 ?_
      refine gf_6_0 (o := 0) hX fl_X6_12 rfl rfl dX6_whoComesAhead_45 ?_
      refine gf_5_2 (o := 1) hX fl_X6_84 rfl rfl dX6_whoComesAhead_48 ?_
      refine r_icmp_ge hX dX6_whoComesAhead_51 (fun hc => ?_) (fun hc => ?_)
      · replace h := ip_e hc h
        have g0 := hex2 _ (Option.some.inj h).symm
        obtain ⟨q0, g1⟩ := Prod.mk.inj g0
        obtain ⟨q1, g2⟩ := Prod.mk.inj g1
        subst q0
        subst q1
        subst g2
        exact WW.sub [0, 1, 2, 3, 4] rfl (K100 s v2 v3 v4 trivial hO)
      · replace h := in_e hc h
        refine r_aload_n hX rfl 0 rfl dX6_whoComesAhead_54 ?_
        obtain ⟨s1, hc1, h⟩ := bn_e h
        refine r_callVv hX hR (c_X6_startTrial X.2.1 G hc1) rfl rfl mf_X6_startTrial ml_X6_192 in_X6_startTrial se_X6_startTrial rfl rfl ⟨rfl, rfl, Nat.le_of_ble_eq_true rfl, Nat.le_of_ble_eq_true rfl⟩ rfl (st := []) rfl (Nat.le_of_ble_eq_true rfl) dX6_whoComesAhead_55 ?_
        refine r_aload_n hX rfl 0 rfl dX6_whoComesAhead_58 ?_
        refine gf_6_1 (o := 0) hX fl_X6_18 rfl rfl dX6_whoComesAhead_59 ?_
        refine r_iload hX 4 rfl dX6_whoComesAhead_62 ?_
        refine r_iload hX 5 rfl dX6_whoComesAhead_64 ?_
        obtain ⟨p2, hc2, h⟩ := bn_e h
        obtain ⟨s3, hs3, h⟩ := nb_e h
        refine r_callVv hX hR (c_X5_trade (σ := s1) X.2.1 G rfl hc2) m1_i hs3.symm mf_X5_trade ml_X6_154 in_X5_trade se_X5_trade rfl rfl ⟨rfl, rfl, Nat.le_of_ble_eq_true rfl, Nat.le_of_ble_eq_true rfl⟩ rfl (st := []) rfl (Nat.le_of_ble_eq_true rfl) dX6_whoComesAhead_66 ?_
        refine r_aload_n hX rfl 0 rfl dX6_whoComesAhead_69 ?_
        refine r_iload_n hX rfl 1 rfl dX6_whoComesAhead_70 ?_
        obtain ⟨x4, s5, hc5, h⟩ := bn2_e h
        refine r_callVi hX hR (c_X6_turnedOfTrial X.2.1 G hc5) rfl rfl mf_X6_turnedOfTrial ml_X6_213 in_X6_turnedOfTrial se_X6_turnedOfTrial rfl rfl ⟨rfl, rfl, Nat.le_of_ble_eq_true rfl, Nat.le_of_ble_eq_true rfl⟩ rfl (st := []) rfl (Nat.le_of_ble_eq_true rfl) dX6_whoComesAhead_71 ?_
        refine r_istore (L2 := [(6, .int x4), (0, .ref (gA G 0 0)), (1, .int v1), (2, .int v2), (3, .int v3), (4, .int v4), (5, .int v5)]) hX (by decide) rfl dX6_whoComesAhead_74 ?_
        refine r_iload hX 0 rfl dX6_whoComesAhead_76 ?_
        refine r_iload_n hX rfl 4 rfl dX6_whoComesAhead_78 ?_
        refine r_icmp_ge hX dX6_whoComesAhead_79 (fun hc => ?_) (fun hc => ?_)
        · replace h := ip_e hc h
          exact WW.sub [1, 2, 3, 4, 5, 6] rfl (K94 s5 v2 v3 v5 trivial h)
        · replace h := in_e hc h
          refine r_iload hX 0 rfl dX6_whoComesAhead_82 ?_
          refine r_istore_n (L2 := [(3, .int x4), (6, .int x4), (0, .ref (gA G 0 0)), (1, .int v1), (2, .int v2), (4, .int v4), (5, .int v5)]) hX rfl (by decide) rfl dX6_whoComesAhead_84 ?_
          refine r_bipush (v := 10) hX (by decide) dX6_whoComesAhead_85 ?_
          refine r_iload hX 5 rfl dX6_whoComesAhead_87 ?_
          refine r_imul hX dX6_whoComesAhead_89 ?_
          refine r_iload hX 6 rfl dX6_whoComesAhead_90 ?_
          refine r_iadd hX dX6_whoComesAhead_92 ?_
          refine r_istore_n (L2 := [(2, .int ((10 * v4) + v5)), (3, .int x4), (6, .int x4), (0, .ref (gA G 0 0)), (1, .int v1), (4, .int v4), (5, .int v5)]) hX rfl (by decide) rfl dX6_whoComesAhead_93 ?_
          exact WW.sub [3, 4, 0, 1, 5, 6] rfl (K94 s5 ((10 * v4) + v5) x4 v5 trivial h)
    unfold f_X6_whoComesAhead_B24 at h
    refine r_iload hX 4 rfl dX6_whoComesAhead_24 ?_
    refine r_aload_n hX rfl 0 rfl dX6_whoComesAhead_26 ?_
    refine gf_6_0 (o := 0) hX fl_X6_12 rfl rfl dX6_whoComesAhead_27 ?_
    refine gf_5_2 (o := 1) hX fl_X6_84 rfl rfl dX6_whoComesAhead_30 ?_
    refine r_icmp_ge hX dX6_whoComesAhead_33 (fun hc => ?_) (fun hc => ?_)
    · replace h := ip_e hc h
      have g0 := hex1 _ (Option.some.inj h).symm
      obtain ⟨q0, g1⟩ := Prod.mk.inj g0
      subst q0
      subst g1
      exact WW.sub [2] rfl (K106 s v2 trivial hO)
    · replace h := in_e hc h
      refine r_iload hX 4 rfl dX6_whoComesAhead_36 ?_
      refine r_iconst (v := 1) hX (by decide) dX6_whoComesAhead_38 ?_
      refine r_iadd hX dX6_whoComesAhead_39 ?_
      refine r_istore (L2 := [(5, .int (v4 + 1)), (0, .ref (gA G 0 0)), (1, .int v1), (2, .int v2), (3, .int v3), (4, .int v4)]) hX (by decide) rfl dX6_whoComesAhead_40 ?_
      exact WW.sub [1, 2, 3, 4, 5, 0] rfl (K42 s v2 v3 v4 (v4 + 1) trivial h)
  unfold f_X6_whoComesAhead at h
  refine r_aload_n hX rfl 0 rfl dX6_whoComesAhead_0 ?_
  obtain ⟨x6, hc6, h⟩ := bn_e h
  obtain ⟨hk7, h⟩ := kc_e h
  refine r_callVi hX hR (c_X6_rules X.2.1 G hc6) rfl rfl mf_X6_rules ml_X6_120 in_X6_rules se_X6_rules rfl rfl ⟨rfl, rfl, Nat.le_of_ble_eq_true rfl, Nat.le_of_ble_eq_true rfl⟩ rfl (st := []) rfl (Nat.le_of_ble_eq_true rfl) dX6_whoComesAhead_1 ?_
  refine gf_1_0 hX fl_X6_128 hk7 rfl dX6_whoComesAhead_4 ?_
  refine r_istore_n (L2 := [(1, .int ((s x6) 0 0)), (0, .ref (gA G 0 0))]) hX rfl (by decide) rfl dX6_whoComesAhead_7 ?_
  refine r_bipush (v := (-5)) hX (by decide) dX6_whoComesAhead_8 ?_
  refine r_istore_n (L2 := [(2, .int (-5)), (1, .int ((s x6) 0 0)), (0, .ref (gA G 0 0))]) hX rfl (by decide) rfl dX6_whoComesAhead_10 ?_
  refine r_aload_n hX rfl 2 rfl dX6_whoComesAhead_11 ?_
  obtain ⟨s8, hc8, h⟩ := bn_e h
  refine r_callVv hX hR (c_X6_startTrial X.2.1 G hc8) rfl rfl mf_X6_startTrial ml_X6_192 in_X6_startTrial se_X6_startTrial rfl rfl ⟨rfl, rfl, Nat.le_of_ble_eq_true rfl, Nat.le_of_ble_eq_true rfl⟩ rfl (st := []) rfl (Nat.le_of_ble_eq_true rfl) dX6_whoComesAhead_12 ?_
  refine r_aload_n hX rfl 2 rfl dX6_whoComesAhead_15 ?_
  refine r_iload_n hX rfl 1 rfl dX6_whoComesAhead_16 ?_
  obtain ⟨x9, s10, hc10, h⟩ := bn2_e h
  refine r_callVi hX hR (c_X6_turnedOfTrial X.2.1 G hc10) rfl rfl mf_X6_turnedOfTrial ml_X6_213 in_X6_turnedOfTrial se_X6_turnedOfTrial rfl rfl ⟨rfl, rfl, Nat.le_of_ble_eq_true rfl, Nat.le_of_ble_eq_true rfl⟩ rfl (st := []) rfl (Nat.le_of_ble_eq_true rfl) dX6_whoComesAhead_17 ?_
  refine r_istore_n (L2 := [(3, .int x9), (2, .int (-5)), (1, .int ((s x6) 0 0)), (0, .ref (gA G 0 0))]) hX rfl (by decide) rfl dX6_whoComesAhead_20 ?_
  refine r_iconst (v := 0) hX (by decide) dX6_whoComesAhead_21 ?_
  refine r_istore (L2 := [(4, .int 0), (3, .int x9), (2, .int (-5)), (1, .int ((s x6) 0 0)), (0, .ref (gA G 0 0))]) hX (by decide) rfl dX6_whoComesAhead_22 ?_
  exact WW.sub [4, 3, 2, 1, 0] rfl (K24 s10 ((s x6) 0 0) (-5) x9 0 trivial h)
abbrev rm_X6_bestMark : Room := { frames := 10, cells := 0, slots := 0, locals := 442 }
def f_X6_bestMark_J47 (s : Mm) (v1 : Int32) : Option (Int32 × Mm) :=
  some (v1, s)
def f_X6_bestMark_J41 (s : Mm) (v1 : Int32) (v2 : Int32) (v3 : Int32) : Option ((Int32 × Int32 × Int32 × Mm) ⊕ (Int32 × Mm)) :=
  some (.inl (v1, v2, (v3 + 5), s))
def f_X6_bestMark_J36 (s : Mm) (v3 : Int32) (v4 : Int32) : Option ((Int32 × Int32 × Int32 × Mm) ⊕ (Int32 × Mm)) :=
  f_X6_bestMark_J41 s v3 v4 v3
def f_X6_bestMark_B7 (v1 : Int32) (v2 : Int32) (v3 : Int32) (s : Mm) : Option ((Int32 × Int32 × Int32 × Mm) ⊕ (Int32 × Mm)) :=
  (if 95 < v3 then some (.inr (v1, s)) else Option.bind (f_X6_startTrial s) (fun s1 => bn2 (f_X6_turnedOfTrial s1 v3) (fun x2 s3 => (if v1 = (-5) then f_X6_bestMark_J36 s3 v3 x2 else (if v2 < x2 then f_X6_bestMark_J41 s3 v1 v2 v3 else f_X6_bestMark_J36 s3 v3 x2)))))
def f_X6_bestMark_H7 (s : Mm) (v1 : Int32) (v2 : Int32) (v3 : Int32) : Option (Int32 × Mm) :=
  bn2 (iter (fun t => f_X6_bestMark_B7 t.1 t.2.1 t.2.2.1 t.2.2.2) 200 (v1, v2, v3, s)) (fun v1 s => f_X6_bestMark_J47 s v1)
def f_X6_bestMark (s : Mm) : Option (Int32 × Mm) :=
  f_X6_bestMark_H7 s (-5) 0 0
set_option maxHeartbeats 4000000 in
set_option maxRecDepth 100000 in
theorem c_X6_bestMark (l : Launch) (G : GE) {lm : Ml}  {s : Mm} {rz : Int32} {sz : Mm} (h : f_X6_bestMark s = some (rz, sz)) : CM l G yX6_bestMark bX6_bestMark 5 (Option.some Jvm.ClassFile.FieldType.int) rm_X6_bestMark [.ref (gA G 0 0)] s lm (some (.int rz)) sz lm := by
  refine CM.of (own := zR6) (L0 := [(0, .ref (gA G 0 0))]) (by decide +kernel) rfl (Nat.le_of_ble_eq_true rfl) rfl (fun X hl hX hR hQ => ?_)
  have K47 : ∀ (s : Mm) (v1 : Int32) (_ : True), f_X6_bestMark_J47 s v1 = some (rz, sz) → WW X G 5 s lm 47 [(1, .int v1)] [] := by
    intro s v1 _ h
    unfold f_X6_bestMark_J47 at h
    refine r_iload_n hX rfl 0 rfl dX6_bestMark_47 ?_
    have g0 := Option.some.inj h
    obtain ⟨q0, g1⟩ := Prod.mk.inj g0
    subst q0
    subst g1
    exact r_iret hX hQ dX6_bestMark_48
  have K7 : ∀ (s : Mm) (v1 : Int32) (v2 : Int32) (v3 : Int32) (_ : True), f_X6_bestMark_H7 s v1 v2 v3 = some (rz, sz) → WW X G 5 s lm 7 [(0, .ref (gA G 0 0)), (1, .int v1), (2, .int v2), (3, .int v3)] [] := by
    intro s v1 v2 v3 _ h
    unfold f_X6_bestMark_H7 at h
    obtain ⟨e_v1, e_s, hit, hO⟩ := bn2_e h
    refine iter_w (P := fun t : Int32 × Int32 × Int32 × Mm => WW X G 5 t.2.2.2 lm 7 [(0, .ref (gA G 0 0)), (1, .int t.1), (2, .int t.2.1), (3, .int t.2.2.1)] []) (x := (e_v1, e_s)) ?_ 200 (v1, v2, v3, s) hit
    clear hit
    intro t z1 hb hin1 hex1
    obtain ⟨v1, v2, v3, s⟩ := t
    have h : f_X6_bestMark_B7 v1 v2 v3 s = some z1 := hb
    clear hb
    have K41 : ∀ (s : Mm) (v1 : Int32) (v2 : Int32) (v3 : Int32) (_ : True), f_X6_bestMark_J41 s v1 v2 v3 = some z1 → WW X G 5 s lm 41 [(0, .ref (gA G 0 0)), (1, .int v1), (2, .int v2), (3, .int v3)] [] := by
      intro s v1 v2 v3 _ h
      unfold f_X6_bestMark_J41 at h
      refine r_iinc (v := v3 + 5) (L2 := [(3, .int (v3 + 5)), (0, .ref (gA G 0 0)), (1, .int v1), (2, .int v2)]) hX 3 rfl rfl (by decide) rfl dX6_bestMark_41 ?_
      refine r_goto hX dX6_bestMark_44 ?_
      exact WW.sub [1, 2, 3, 0] rfl (hin1 _ (Option.some.inj h).symm)
    have K36 : ∀ (s : Mm) (v3 : Int32) (v4 : Int32) (_ : True), f_X6_bestMark_J36 s v3 v4 = some z1 → WW X G 5 s lm 36 [(0, .ref (gA G 0 0)), (3, .int v3), (4, .int v4)] [] := by
      intro s v3 v4 _ h
      unfold f_X6_bestMark_J36 at h
      refine r_iload hX 2 rfl dX6_bestMark_36 ?_
      refine r_istore_n (L2 := [(2, .int v4), (0, .ref (gA G 0 0)), (3, .int v3), (4, .int v4)]) hX rfl (by decide) rfl dX6_bestMark_38 ?_
      refine r_iload_n hX rfl 2 rfl dX6_bestMark_39 ?_
      refine r_istore_n (L2 := [(1, .int v3), (2, .int v4), (0, .ref (gA G 0 0)), (3, .int v3), (4, .int v4)]) hX rfl (by decide) rfl dX6_bestMark_40 ?_
      exact WW.sub [2, 0, 1, 3] rfl (K41 s v3 v4 v3 trivial h)
    unfold f_X6_bestMark_B7 at h
    refine r_iload_n hX rfl 3 rfl dX6_bestMark_7 ?_
    refine r_bipush (v := 95) hX (by decide) dX6_bestMark_8 ?_
    refine r_icmp_gt hX dX6_bestMark_10 (fun hc => ?_) (fun hc => ?_)
    · replace h := ip_e hc h
      have g0 := hex1 _ (Option.some.inj h).symm
      obtain ⟨q0, g1⟩ := Prod.mk.inj g0
      subst q0
      subst g1
      exact WW.sub [1] rfl (K47 s v1 trivial hO)
    · replace h := in_e hc h
      refine r_aload_n hX rfl 0 rfl dX6_bestMark_13 ?_
      obtain ⟨s1, hc1, h⟩ := bn_e h
      refine r_callVv hX hR (c_X6_startTrial X.2.1 G hc1) rfl rfl mf_X6_startTrial ml_X6_192 in_X6_startTrial se_X6_startTrial rfl rfl ⟨rfl, rfl, Nat.le_of_ble_eq_true rfl, Nat.le_of_ble_eq_true rfl⟩ rfl (st := []) rfl (Nat.le_of_ble_eq_true rfl) dX6_bestMark_14 ?_
      refine r_aload_n hX rfl 0 rfl dX6_bestMark_17 ?_
      refine r_iload_n hX rfl 3 rfl dX6_bestMark_18 ?_
      obtain ⟨x2, s3, hc3, h⟩ := bn2_e h
      refine r_callVi hX hR (c_X6_turnedOfTrial X.2.1 G hc3) rfl rfl mf_X6_turnedOfTrial ml_X6_213 in_X6_turnedOfTrial se_X6_turnedOfTrial rfl rfl ⟨rfl, rfl, Nat.le_of_ble_eq_true rfl, Nat.le_of_ble_eq_true rfl⟩ rfl (st := []) rfl (Nat.le_of_ble_eq_true rfl) dX6_bestMark_19 ?_
      refine r_istore (L2 := [(4, .int x2), (0, .ref (gA G 0 0)), (1, .int v1), (2, .int v2), (3, .int v3)]) hX (by decide) rfl dX6_bestMark_22 ?_
      refine r_iload_n hX rfl 2 rfl dX6_bestMark_24 ?_
      refine r_bipush (v := (-5)) hX (by decide) dX6_bestMark_25 ?_
      refine r_icmp_eq hX dX6_bestMark_27 (fun hc => ?_) (fun hc => ?_)
      · replace h := ip_e hc h
        exact WW.sub [1, 4, 0] rfl (K36 s3 v3 x2 trivial h)
      · replace h := in_e hc h
        refine r_iload hX 0 rfl dX6_bestMark_30 ?_
        refine r_iload_n hX rfl 3 rfl dX6_bestMark_32 ?_
        refine r_icmp_gt hX dX6_bestMark_33 (fun hc => ?_) (fun hc => ?_)
        · replace h := ip_e hc h
          exact WW.sub [1, 2, 3, 4] rfl (K41 s3 v1 v2 v3 trivial h)
        · replace h := in_e hc h
          exact WW.sub [1, 4, 0] rfl (K36 s3 v3 x2 trivial h)
  unfold f_X6_bestMark at h
  refine r_bipush (v := (-5)) hX (by decide) dX6_bestMark_0 ?_
  refine r_istore_n (L2 := [(1, .int (-5)), (0, .ref (gA G 0 0))]) hX rfl (by decide) rfl dX6_bestMark_2 ?_
  refine r_iconst (v := 0) hX (by decide) dX6_bestMark_3 ?_
  refine r_istore_n (L2 := [(2, .int 0), (1, .int (-5)), (0, .ref (gA G 0 0))]) hX rfl (by decide) rfl dX6_bestMark_4 ?_
  refine r_iconst (v := 0) hX (by decide) dX6_bestMark_5 ?_
  refine r_istore_n (L2 := [(3, .int 0), (2, .int 0), (1, .int (-5)), (0, .ref (gA G 0 0))]) hX rfl (by decide) rfl dX6_bestMark_6 ?_
  exact WW.sub [3, 2, 1, 0] rfl (K7 s (-5) 0 0 trivial h)
abbrev rm_X6_turnedAsAllIs : Room := { frames := 10, cells := 0, slots := 0, locals := 442 }
def f_X6_turnedAsAllIs (s : Mm) : Option (Int32 × Mm) :=
  Option.bind (f_X6_startTrial s) (fun s1 => Option.bind (f_X6_rules s1) (fun x2 => (if kdo x2 = 1 then bn2 (f_X6_turnedOfTrial s1 ((s1 x2) 0 0)) (fun x4 s5 => some (x4, s5)) else none)))
set_option maxHeartbeats 4000000 in
set_option maxRecDepth 100000 in
theorem c_X6_turnedAsAllIs (l : Launch) (G : GE) {lm : Ml}  {s : Mm} {rz : Int32} {sz : Mm} (h : f_X6_turnedAsAllIs s = some (rz, sz)) : CM l G yX6_turnedAsAllIs bX6_turnedAsAllIs 1 (Option.some Jvm.ClassFile.FieldType.int) rm_X6_turnedAsAllIs [.ref (gA G 0 0)] s lm (some (.int rz)) sz lm := by
  refine CM.of (own := zR6) (L0 := [(0, .ref (gA G 0 0))]) (by decide +kernel) rfl (Nat.le_of_ble_eq_true rfl) rfl (fun X hl hX hR hQ => ?_)
  unfold f_X6_turnedAsAllIs at h
  refine r_aload_n hX rfl 0 rfl dX6_turnedAsAllIs_0 ?_
  obtain ⟨s1, hc1, h⟩ := bn_e h
  refine r_callVv hX hR (c_X6_startTrial X.2.1 G hc1) rfl rfl mf_X6_startTrial ml_X6_192 in_X6_startTrial se_X6_startTrial rfl rfl ⟨rfl, rfl, Nat.le_of_ble_eq_true rfl, Nat.le_of_ble_eq_true rfl⟩ rfl (st := []) rfl (Nat.le_of_ble_eq_true rfl) dX6_turnedAsAllIs_1 ?_
  refine r_aload_n hX rfl 0 rfl dX6_turnedAsAllIs_4 ?_
  refine r_aload_n hX rfl 0 rfl dX6_turnedAsAllIs_5 ?_
  obtain ⟨x2, hc2, h⟩ := bn_e h
  obtain ⟨hk3, h⟩ := kc_e h
  refine r_callVi hX hR (c_X6_rules X.2.1 G hc2) rfl rfl mf_X6_rules ml_X6_120 in_X6_rules se_X6_rules rfl rfl ⟨rfl, rfl, Nat.le_of_ble_eq_true rfl, Nat.le_of_ble_eq_true rfl⟩ rfl (st := [.ref (gA G 0 0)]) rfl (Nat.le_of_ble_eq_true rfl) dX6_turnedAsAllIs_6 ?_
  refine gf_1_0 hX fl_X6_128 hk3 rfl dX6_turnedAsAllIs_9 ?_
  obtain ⟨x4, s5, hc5, h⟩ := bn2_e h
  refine r_callVi hX hR (c_X6_turnedOfTrial X.2.1 G hc5) rfl rfl mf_X6_turnedOfTrial ml_X6_213 in_X6_turnedOfTrial se_X6_turnedOfTrial rfl rfl ⟨rfl, rfl, Nat.le_of_ble_eq_true rfl, Nat.le_of_ble_eq_true rfl⟩ rfl (st := []) rfl (Nat.le_of_ble_eq_true rfl) dX6_turnedAsAllIs_12 ?_
  have g0 := Option.some.inj h
  obtain ⟨q0, g1⟩ := Prod.mk.inj g0
  subst q0
  subst g1
  exact r_iret hX hQ dX6_turnedAsAllIs_15
abbrev rm_X6_best : Room := { frames := 11, cells := 0, slots := 0, locals := 468 }
def f_X6_best (s : Mm) (a1 : Int32) : Option (Int32 × Mm) :=
  (if a1 = 0 then bn2 (f_X6_whomToCall s) (fun x1 s2 => some (x1, s2)) else (if a1 = 1 then bn2 (f_X6_whoComesAhead s) (fun x3 s4 => some (x3, s4)) else (if a1 = 2 then bn2 (f_X6_bestMark s) (fun x5 s6 => some (x5, s6)) else (if a1 = 3 then bn2 (f_X6_turnedAsAllIs s) (fun x7 s8 => some (x7, s8)) else some ((-1), s)))))
set_option maxHeartbeats 4000000 in
set_option maxRecDepth 100000 in
theorem c_X6_best (l : Launch) (G : GE) {lm : Ml}  {s : Mm} {a1 : Int32} {rz : Int32} {sz : Mm} (h : f_X6_best s a1 = some (rz, sz)) : CM l G yX6_best bX6_best 2 (Option.some Jvm.ClassFile.FieldType.int) rm_X6_best [.ref (gA G 0 0), .int a1] s lm (some (.int rz)) sz lm := by
  refine CM.of (own := zR6) (L0 := [(0, .ref (gA G 0 0)), (1, .int a1)]) (by decide +kernel) rfl (Nat.le_of_ble_eq_true rfl) rfl (fun X hl hX hR hQ => ?_)
  unfold f_X6_best at h
  refine r_iload_n hX rfl 1 rfl dX6_best_0 ?_
  by_cases hc0 : a1 = 0
  · replace h := ip_e hc0 h
    refine r_tswI (k := 0) (off := 31) (tgt := 32) hX hc0 (by decide) (by decide) (by decide) dX6_best_1 ?_
    refine r_aload_n hX rfl 0 rfl dX6_best_32 ?_
    obtain ⟨x1, s2, hc2, h⟩ := bn2_e h
    refine r_callVi hX hR (c_X6_whomToCall X.2.1 G hc2) rfl rfl mf_X6_whomToCall ml_X6_201 in_X6_whomToCall se_X6_whomToCall rfl rfl ⟨rfl, rfl, Nat.le_of_ble_eq_true rfl, Nat.le_of_ble_eq_true rfl⟩ rfl (st := []) rfl (Nat.le_of_ble_eq_true rfl) dX6_best_33 ?_
    have g0 := Option.some.inj h
    obtain ⟨q0, g1⟩ := Prod.mk.inj g0
    subst q0
    subst g1
    exact r_iret hX hQ dX6_best_36
  · replace h := in_e hc0 h
    by_cases hc1 : a1 = 1
    · replace h := ip_e hc1 h
      refine r_tswI (k := 1) (off := 36) (tgt := 37) hX hc1 (by decide) (by decide) (by decide) dX6_best_1 ?_
      refine r_aload_n hX rfl 0 rfl dX6_best_37 ?_
      obtain ⟨x3, s4, hc4, h⟩ := bn2_e h
      refine r_callVi hX hR (c_X6_whoComesAhead X.2.1 G hc4) rfl rfl mf_X6_whoComesAhead ml_X6_204 in_X6_whoComesAhead se_X6_whoComesAhead rfl rfl ⟨rfl, rfl, Nat.le_of_ble_eq_true rfl, Nat.le_of_ble_eq_true rfl⟩ rfl (st := []) rfl (Nat.le_of_ble_eq_true rfl) dX6_best_38 ?_
      have g0 := Option.some.inj h
      obtain ⟨q0, g1⟩ := Prod.mk.inj g0
      subst q0
      subst g1
      exact r_iret hX hQ dX6_best_41
    · replace h := in_e hc1 h
      by_cases hc2 : a1 = 2
      · replace h := ip_e hc2 h
        refine r_tswI (k := 2) (off := 41) (tgt := 42) hX hc2 (by decide) (by decide) (by decide) dX6_best_1 ?_
        refine r_aload_n hX rfl 0 rfl dX6_best_42 ?_
        obtain ⟨x5, s6, hc6, h⟩ := bn2_e h
        refine r_callVi hX hR (c_X6_bestMark X.2.1 G hc6) rfl rfl mf_X6_bestMark ml_X6_207 in_X6_bestMark se_X6_bestMark rfl rfl ⟨rfl, rfl, Nat.le_of_ble_eq_true rfl, Nat.le_of_ble_eq_true rfl⟩ rfl (st := []) rfl (Nat.le_of_ble_eq_true rfl) dX6_best_43 ?_
        have g0 := Option.some.inj h
        obtain ⟨q0, g1⟩ := Prod.mk.inj g0
        subst q0
        subst g1
        exact r_iret hX hQ dX6_best_46
      · replace h := in_e hc2 h
        by_cases hc3 : a1 = 3
        · replace h := ip_e hc3 h
          refine r_tswI (k := 3) (off := 46) (tgt := 47) hX hc3 (by decide) (by decide) (by decide) dX6_best_1 ?_
          refine r_aload_n hX rfl 0 rfl dX6_best_47 ?_
          obtain ⟨x7, s8, hc8, h⟩ := bn2_e h
          refine r_callVi hX hR (c_X6_turnedAsAllIs X.2.1 G hc8) rfl rfl mf_X6_turnedAsAllIs ml_X6_210 in_X6_turnedAsAllIs se_X6_turnedAsAllIs rfl rfl ⟨rfl, rfl, Nat.le_of_ble_eq_true rfl, Nat.le_of_ble_eq_true rfl⟩ rfl (st := []) rfl (Nat.le_of_ble_eq_true rfl) dX6_best_48 ?_
          have g0 := Option.some.inj h
          obtain ⟨q0, g1⟩ := Prod.mk.inj g0
          subst q0
          subst g1
          exact r_iret hX hQ dX6_best_51
        · replace h := in_e hc3 h
          have hD : WW X G 2 s lm 52 [(0, .ref (gA G 0 0)), (1, .int a1)] [] := by
            refine r_iconst (v := (-1)) hX (by decide) dX6_best_52 ?_
            have g0 := Option.some.inj h
            obtain ⟨q0, g1⟩ := Prod.mk.inj g0
            subst q0
            subst g1
            exact r_iret hX hQ dX6_best_53
          refine r_tswD (tgt := 52) hX ?_ (by decide) dX6_best_1 hD
          have j0 := i32n (n := 0) hc0 rfl
          have j1 := i32n (n := 1) hc1 rfl
          have j2 := i32n (n := 2) hc2 rfl
          have j3 := i32n (n := 3) hc3 rfl
          omega
abbrev rm_X6_seldom : Room := { frames := 10, cells := 0, slots := 0, locals := 442 }
def f_X6_seldom_J77 (s : Mm) (v2 : Int32) : Option (Int32 × Mm) :=
  some (v2, s)
def f_X6_seldom_J71 (s : Mm) (v1 : Int32) (v2 : Int32) (v3 : Int32) (v4 : Int32) : Option ((Int32 × Int32 × Int32 × Mm) ⊕ (Int32 × Mm)) :=
  some (.inl (v2, v3, (v4 + 1), s))
def f_X6_seldom_J65 (s : Mm) (v1 : Int32) (v4 : Int32) (v5 : Int32) : Option ((Int32 × Int32 × Int32 × Mm) ⊕ (Int32 × Mm)) :=
  f_X6_seldom_J71 s v1 v4 v5 v4
def f_X6_seldom_B18 (v1 : Int32) (v2 : Int32) (v3 : Int32) (v4 : Int32) (s : Mm) : Option ((Int32 × Int32 × Int32 × Mm) ⊕ (Int32 × Mm)) :=
  (if 20 < v4 then some (.inr (v2, s)) else Option.bind (f_X6_startTrial s) (fun s1 => (if inb v1 6 = true then nb (setO s1 2 (up2 (s1 2) 8 (ix v1) v4)) (fun s3 => Option.bind (f_X6_rules s3) (fun x4 => (if kdo x4 = 1 then bn2 (f_X6_turnedOfTrial s3 ((s3 x4) 0 0)) (fun x6 s7 => (if v2 = (-5) then f_X6_seldom_J65 s7 v1 v4 x6 else (if v3 ≤ x6 then f_X6_seldom_J71 s7 v1 v2 v3 v4 else f_X6_seldom_J65 s7 v1 v4 x6))) else none))) else none)))
def f_X6_seldom_H18 (s : Mm) (v1 : Int32) (v2 : Int32) (v3 : Int32) (v4 : Int32) : Option (Int32 × Mm) :=
  bn2 (iter (fun t => f_X6_seldom_B18 v1 t.1 t.2.1 t.2.2.1 t.2.2.2) 200 (v2, v3, v4, s)) (fun v2 s => f_X6_seldom_J77 s v2)
def f_X6_seldom (s : Mm) (a1 : Int32) : Option (Int32 × Mm) :=
  Option.bind (f_X6_known s a1) (fun x8 => (if x8 = 0 then some ((-1), s) else f_X6_seldom_H18 s a1 (-5) 0 1))
set_option maxHeartbeats 4000000 in
set_option maxRecDepth 100000 in
theorem c_X6_seldom (l : Launch) (G : GE) {lm : Ml}  {s : Mm} {a1 : Int32} {rz : Int32} {sz : Mm} (h : f_X6_seldom s a1 = some (rz, sz)) : CM l G yX6_seldom bX6_seldom 6 (Option.some Jvm.ClassFile.FieldType.int) rm_X6_seldom [.ref (gA G 0 0), .int a1] s lm (some (.int rz)) sz lm := by
  refine CM.of (own := zR6) (L0 := [(0, .ref (gA G 0 0)), (1, .int a1)]) (by decide +kernel) rfl (Nat.le_of_ble_eq_true rfl) rfl (fun X hl hX hR hQ => ?_)
  have K77 : ∀ (s : Mm) (v2 : Int32) (_ : True), f_X6_seldom_J77 s v2 = some (rz, sz) → WW X G 6 s lm 77 [(2, .int v2)] [] := by
    intro s v2 _ h
    unfold f_X6_seldom_J77 at h
    refine r_iload_n hX rfl 0 rfl dX6_seldom_77 ?_
    have g0 := Option.some.inj h
    obtain ⟨q0, g1⟩ := Prod.mk.inj g0
    subst q0
    subst g1
    exact r_iret hX hQ dX6_seldom_78
  have K18 : ∀ (s : Mm) (v1 : Int32) (v2 : Int32) (v3 : Int32) (v4 : Int32) (_ : True), f_X6_seldom_H18 s v1 v2 v3 v4 = some (rz, sz) → WW X G 6 s lm 18 [(0, .ref (gA G 0 0)), (1, .int v1), (2, .int v2), (3, .int v3), (4, .int v4)] [] := by
    intro s v1 v2 v3 v4 _ h
    unfold f_X6_seldom_H18 at h
    obtain ⟨e_v2, e_s, hit, hO⟩ := bn2_e h
    refine iter_w (P := fun t : Int32 × Int32 × Int32 × Mm => WW X G 6 t.2.2.2 lm 18 [(0, .ref (gA G 0 0)), (1, .int v1), (2, .int t.1), (3, .int t.2.1), (4, .int t.2.2.1)] []) (x := (e_v2, e_s)) ?_ 200 (v2, v3, v4, s) hit
    clear hit
    intro t z1 hb hin1 hex1
    obtain ⟨v2, v3, v4, s⟩ := t
    have h : f_X6_seldom_B18 v1 v2 v3 v4 s = some z1 := hb
    clear hb
    have K71 : ∀ (s : Mm) (v2 : Int32) (v3 : Int32) (v4 : Int32) (_ : True), f_X6_seldom_J71 s v1 v2 v3 v4 = some z1 → WW X G 6 s lm 71 [(0, .ref (gA G 0 0)), (1, .int v1), (2, .int v2), (3, .int v3), (4, .int v4)] [] := by
      intro s v2 v3 v4 _ h
      unfold f_X6_seldom_J71 at h
      refine r_iinc (v := v4 + 1) (L2 := [(4, .int (v4 + 1)), (0, .ref (gA G 0 0)), (1, .int v1), (2, .int v2), (3, .int v3)]) hX 4 rfl rfl (by decide) rfl dX6_seldom_71 ?_
      refine r_goto hX dX6_seldom_74 ?_
      exact WW.sub [1, 2, 3, 4, 0] rfl (hin1 _ (Option.some.inj h).symm)
    have K65 : ∀ (s : Mm) (v4 : Int32) (v5 : Int32) (_ : True), f_X6_seldom_J65 s v1 v4 v5 = some z1 → WW X G 6 s lm 65 [(0, .ref (gA G 0 0)), (1, .int v1), (4, .int v4), (5, .int v5)] [] := by
      intro s v4 v5 _ h
      unfold f_X6_seldom_J65 at h
      refine r_iload hX 3 rfl dX6_seldom_65 ?_
      refine r_istore_n (L2 := [(3, .int v5), (0, .ref (gA G 0 0)), (1, .int v1), (4, .int v4), (5, .int v5)]) hX rfl (by decide) rfl dX6_seldom_67 ?_
      refine r_iload hX 3 rfl dX6_seldom_68 ?_
      refine r_istore_n (L2 := [(2, .int v4), (3, .int v5), (0, .ref (gA G 0 0)), (1, .int v1), (4, .int v4), (5, .int v5)]) hX rfl (by decide) rfl dX6_seldom_70 ?_
      exact WW.sub [2, 3, 0, 1, 4] rfl (K71 s v4 v5 v4 trivial h)
    unfold f_X6_seldom_B18 at h
    refine r_iload hX 4 rfl dX6_seldom_18 ?_
    refine r_bipush (v := 20) hX (by decide) dX6_seldom_20 ?_
    refine r_icmp_gt hX dX6_seldom_22 (fun hc => ?_) (fun hc => ?_)
    · replace h := ip_e hc h
      have g0 := hex1 _ (Option.some.inj h).symm
      obtain ⟨q0, g1⟩ := Prod.mk.inj g0
      subst q0
      subst g1
      exact WW.sub [2] rfl (K77 s v2 trivial hO)
    · replace h := in_e hc h
      refine r_aload_n hX rfl 0 rfl dX6_seldom_25 ?_
      obtain ⟨s1, hc1, h⟩ := bn_e h
      refine r_callVv hX hR (c_X6_startTrial X.2.1 G hc1) rfl rfl mf_X6_startTrial ml_X6_192 in_X6_startTrial se_X6_startTrial rfl rfl ⟨rfl, rfl, Nat.le_of_ble_eq_true rfl, Nat.le_of_ble_eq_true rfl⟩ rfl (st := []) rfl (Nat.le_of_ble_eq_true rfl) dX6_seldom_26 ?_
      refine r_aload_n hX rfl 0 rfl dX6_seldom_29 ?_
      refine gf_6_1 (o := 0) hX fl_X6_18 rfl rfl dX6_seldom_30 ?_
      refine gf_5_7 (o := 2) hX fl_X6_105 rfl rfl dX6_seldom_33 ?_
      refine r_iload_n hX rfl 1 rfl dX6_seldom_36 ?_
      refine r_iload hX 4 rfl dX6_seldom_37 ?_
      obtain ⟨hk2, h⟩ := kc_e h
      obtain ⟨s3, hs3, h⟩ := nb_e h
      refine pa_5_8 (o := 2) hX rfl rfl hk2 hs3.symm dX6_seldom_39 ?_
      refine r_aload_n hX rfl 0 rfl dX6_seldom_40 ?_
      refine r_aload_n hX rfl 0 rfl dX6_seldom_41 ?_
      obtain ⟨x4, hc4, h⟩ := bn_e h
      obtain ⟨hk5, h⟩ := kc_e h
      refine r_callVi hX hR (c_X6_rules X.2.1 G hc4) rfl rfl mf_X6_rules ml_X6_120 in_X6_rules se_X6_rules rfl rfl ⟨rfl, rfl, Nat.le_of_ble_eq_true rfl, Nat.le_of_ble_eq_true rfl⟩ rfl (st := [.ref (gA G 0 0)]) rfl (Nat.le_of_ble_eq_true rfl) dX6_seldom_42 ?_
      refine gf_1_0 hX fl_X6_128 hk5 rfl dX6_seldom_45 ?_
      obtain ⟨x6, s7, hc7, h⟩ := bn2_e h
      refine r_callVi hX hR (c_X6_turnedOfTrial X.2.1 G hc7) rfl rfl mf_X6_turnedOfTrial ml_X6_213 in_X6_turnedOfTrial se_X6_turnedOfTrial rfl rfl ⟨rfl, rfl, Nat.le_of_ble_eq_true rfl, Nat.le_of_ble_eq_true rfl⟩ rfl (st := []) rfl (Nat.le_of_ble_eq_true rfl) dX6_seldom_48 ?_
      refine r_istore (L2 := [(5, .int x6), (0, .ref (gA G 0 0)), (1, .int v1), (2, .int v2), (3, .int v3), (4, .int v4)]) hX (by decide) rfl dX6_seldom_51 ?_
      refine r_iload_n hX rfl 3 rfl dX6_seldom_53 ?_
      refine r_bipush (v := (-5)) hX (by decide) dX6_seldom_54 ?_
      refine r_icmp_eq hX dX6_seldom_56 (fun hc => ?_) (fun hc => ?_)
      · replace h := ip_e hc h
        exact WW.sub [1, 2, 5, 0] rfl (K65 s7 v4 x6 trivial h)
      · replace h := in_e hc h
        refine r_iload hX 0 rfl dX6_seldom_59 ?_
        refine r_iload_n hX rfl 4 rfl dX6_seldom_61 ?_
        refine r_icmp_ge hX dX6_seldom_62 (fun hc => ?_) (fun hc => ?_)
        · replace h := ip_e hc h
          exact WW.sub [1, 2, 3, 4, 5] rfl (K71 s7 v2 v3 v4 trivial h)
        · replace h := in_e hc h
          exact WW.sub [1, 2, 5, 0] rfl (K65 s7 v4 x6 trivial h)
  unfold f_X6_seldom at h
  refine r_aload_n hX rfl 0 rfl dX6_seldom_0 ?_
  refine r_iload_n hX rfl 1 rfl dX6_seldom_1 ?_
  obtain ⟨x8, hc8, h⟩ := bn_e h
  refine r_callVi hX hR (c_X6_known X.2.1 G hc8) rfl rfl mf_X6_known ml_X6_91 in_X6_known se_X6_known rfl rfl ⟨rfl, rfl, Nat.le_of_ble_eq_true rfl, Nat.le_of_ble_eq_true rfl⟩ rfl (st := []) rfl (Nat.le_of_ble_eq_true rfl) dX6_seldom_2 ?_
  refine r_if_ne hX dX6_seldom_5 (fun hc => ?_) (fun hc => ?_)
  · replace h := in_e hc h
    refine r_bipush (v := (-5)) hX (by decide) dX6_seldom_10 ?_
    refine r_istore_n (L2 := [(2, .int (-5)), (0, .ref (gA G 0 0)), (1, .int a1)]) hX rfl (by decide) rfl dX6_seldom_12 ?_
    refine r_iconst (v := 0) hX (by decide) dX6_seldom_13 ?_
    refine r_istore_n (L2 := [(3, .int 0), (2, .int (-5)), (0, .ref (gA G 0 0)), (1, .int a1)]) hX rfl (by decide) rfl dX6_seldom_14 ?_
    refine r_iconst (v := 1) hX (by decide) dX6_seldom_15 ?_
    refine r_istore (L2 := [(4, .int 1), (3, .int 0), (2, .int (-5)), (0, .ref (gA G 0 0)), (1, .int a1)]) hX (by decide) rfl dX6_seldom_16 ?_
    exact WW.sub [3, 4, 2, 1, 0] rfl (K18 s a1 (-5) 0 1 trivial h)
  · replace h := ip_e hc h
    refine r_iconst (v := (-1)) hX (by decide) dX6_seldom_8 ?_
    have g0 := Option.some.inj h
    obtain ⟨q0, g1⟩ := Prod.mk.inj g0
    subst q0
    subst g1
    exact r_iret hX hQ dX6_seldom_9
abbrev rm_X6_nobodySentIn : Room := { frames := 4, cells := 0, slots := 0, locals := 157 }
def f_X6_nobodySentIn_J43 (s : Mm) : Option (Int32 × Mm) :=
  (if ((s 2) 0 3) = 0 then some (1, s) else some (0, s))
def f_X6_nobodySentIn_B8 (v1 : Int32) (v2 : Int32) (v3 : Nat) (v4 : Int32) (s : Mm) : Option ((Int32 × Mm) ⊕ (Mm)) :=
  (if v1 ≤ v4 then some (.inr s) else (if ((s 2) 0 3) = 0 then bn2 (f_X5_goDay (s 2) (s v3) ((s v3) 0 0) v2) (fun p1 p2 => nb (setO (setO s 2 p1) v3 p2) (fun s3 => some (.inl ((v4 + 1), s3)))) else some (.inr s)))
def f_X6_nobodySentIn_H8 (s : Mm) (v1 : Int32) (v2 : Int32) (v3 : Nat) (v4 : Int32) : Option (Int32 × Mm) :=
  Option.bind (iter (fun t => f_X6_nobodySentIn_B8 v1 v2 v3 t.1 t.2) 200 (v4, s)) (fun s => f_X6_nobodySentIn_J43 s)
def f_X6_nobodySentIn (s : Mm) (a1 : Int32) (a2 : Int32) : Option (Int32 × Mm) :=
  Option.bind (f_X6_rules s) (fun x4 => (if kdo x4 = 1 then f_X6_nobodySentIn_H8 s a1 a2 x4 0 else none))
set_option maxHeartbeats 4000000 in
set_option maxRecDepth 100000 in
theorem c_X6_nobodySentIn (l : Launch) (G : GE) {lm : Ml}  {s : Mm} {a1 : Int32} {a2 : Int32} {rz : Int32} {sz : Mm} (h : f_X6_nobodySentIn s a1 a2 = some (rz, sz)) : CM l G yX6_nobodySentIn bX6_nobodySentIn 5 (Option.some Jvm.ClassFile.FieldType.boolean) rm_X6_nobodySentIn [.ref (gA G 0 0), .int a1, .int a2] s lm (some (.int rz)) sz lm := by
  refine CM.of (own := zR6) (L0 := [(0, .ref (gA G 0 0)), (1, .int a1), (2, .int a2)]) (by decide +kernel) rfl (Nat.le_of_ble_eq_true rfl) rfl (fun X hl hX hR hQ => ?_)
  have K43 : ∀ (s : Mm) (_ : True), f_X6_nobodySentIn_J43 s = some (rz, sz) → WW X G 5 s lm 43 [(0, .ref (gA G 0 0))] [] := by
    intro s _ h
    unfold f_X6_nobodySentIn_J43 at h
    refine r_aload_n hX rfl 0 rfl dX6_nobodySentIn_43 ?_
    refine gf_6_1 (o := 0) hX fl_X6_18 rfl rfl dX6_nobodySentIn_44 ?_
    refine gf_5_3 (o := 2) hX fl_X6_198 rfl rfl dX6_nobodySentIn_47 ?_
    refine r_if_ne hX dX6_nobodySentIn_50 (fun hc => ?_) (fun hc => ?_)
    · replace h := in_e hc h
      refine r_iconst (v := 0) hX (by decide) dX6_nobodySentIn_57 ?_
      have g0 := Option.some.inj h
      obtain ⟨q0, g1⟩ := Prod.mk.inj g0
      subst q0
      subst g1
      exact r_zret hX (Or.inl rfl) hQ dX6_nobodySentIn_58
    · replace h := ip_e hc h
      refine r_iconst (v := 1) hX (by decide) dX6_nobodySentIn_53 ?_
      refine r_goto hX dX6_nobodySentIn_54 ?_
      have g0 := Option.some.inj h
      obtain ⟨q0, g1⟩ := Prod.mk.inj g0
      subst q0
      subst g1
      exact r_zret hX (Or.inr rfl) hQ dX6_nobodySentIn_58
  have K8 : ∀ (s : Mm) (v1 : Int32) (v2 : Int32) (v3 : Nat) (v4 : Int32) (hv3 : kdo v3 = 1) (_ : True), f_X6_nobodySentIn_H8 s v1 v2 v3 v4 = some (rz, sz) → WW X G 5 s lm 8 [(0, .ref (gA G 0 0)), (1, .int v1), (2, .int v2), (3, .ref (gA G v3 0)), (4, .int v4)] [] := by
    intro s v1 v2 v3 v4 hv3 _ h
    unfold f_X6_nobodySentIn_H8 at h
    obtain ⟨e_s, hit, hO⟩ := bn_e h
    refine iter_w (P := fun t : Int32 × Mm => WW X G 5 t.2 lm 8 [(0, .ref (gA G 0 0)), (1, .int v1), (2, .int v2), (3, .ref (gA G v3 0)), (4, .int t.1)] []) (x := e_s) ?_ 200 (v4, s) hit
    clear hit
    intro t z1 hb hin1 hex1
    obtain ⟨v4, s⟩ := t
    have h : f_X6_nobodySentIn_B8 v1 v2 v3 v4 s = some z1 := hb
    clear hb
    unfold f_X6_nobodySentIn_B8 at h
    refine r_iload hX 4 rfl dX6_nobodySentIn_8 ?_
    refine r_iload_n hX rfl 1 rfl dX6_nobodySentIn_10 ?_
    refine r_icmp_ge hX dX6_nobodySentIn_11 (fun hc => ?_) (fun hc => ?_)
    · replace h := ip_e hc h
      have g0 := hex1 _ (Option.some.inj h).symm
      subst g0
      exact WW.sub [0] rfl (K43 s trivial hO)
    · replace h := in_e hc h
      refine r_aload_n hX rfl 0 rfl dX6_nobodySentIn_14 ?_
      refine gf_6_1 (o := 0) hX fl_X6_18 rfl rfl dX6_nobodySentIn_15 ?_
      refine gf_5_3 (o := 2) hX fl_X6_198 rfl rfl dX6_nobodySentIn_18 ?_
      refine r_if_ne hX dX6_nobodySentIn_21 (fun hc => ?_) (fun hc => ?_)
      · replace h := in_e hc h
        have g0 := hex1 _ (Option.some.inj h).symm
        subst g0
        exact WW.sub [0] rfl (K43 s trivial hO)
      · replace h := ip_e hc h
        refine r_aload_n hX rfl 0 rfl dX6_nobodySentIn_24 ?_
        refine gf_6_1 (o := 0) hX fl_X6_18 rfl rfl dX6_nobodySentIn_25 ?_
        refine r_aload_n hX rfl 3 rfl dX6_nobodySentIn_28 ?_
        refine r_aload_n hX rfl 3 rfl dX6_nobodySentIn_29 ?_
        refine gf_1_0 hX fl_X6_128 hv3 rfl dX6_nobodySentIn_30 ?_
        refine r_iload_n hX rfl 2 rfl dX6_nobodySentIn_33 ?_
        obtain ⟨p1, p2, hc2, h⟩ := bn2_e h
        obtain ⟨s3, hs3, h⟩ := nb_e h
        refine r_callVv hX hR (c_X5_goDay (σ := s) X.2.1 G rfl hv3 (kd_ne (rfl : kdo 2 = 5) hv3 (by decide)) hc2) (m2_i (kd_ne (rfl : kdo 2 = 5) hv3 (by decide))) hs3.symm mf_X5_goDay ml_X6_188 in_X5_goDay se_X5_goDay rfl rfl ⟨rfl, rfl, Nat.le_of_ble_eq_true rfl, Nat.le_of_ble_eq_true rfl⟩ rfl (st := []) rfl (Nat.le_of_ble_eq_true rfl) dX6_nobodySentIn_34 ?_
        refine r_iinc (v := v4 + 1) (L2 := [(4, .int (v4 + 1)), (0, .ref (gA G 0 0)), (1, .int v1), (2, .int v2), (3, .ref (gA G v3 0))]) hX 4 rfl rfl (by decide) rfl dX6_nobodySentIn_37 ?_
        refine r_goto hX dX6_nobodySentIn_40 ?_
        exact WW.sub [1, 2, 3, 4, 0] rfl (hin1 _ (Option.some.inj h).symm)
  unfold f_X6_nobodySentIn at h
  refine r_aload_n hX rfl 0 rfl dX6_nobodySentIn_0 ?_
  obtain ⟨x4, hc4, h⟩ := bn_e h
  obtain ⟨hk5, h⟩ := kc_e h
  refine r_callVi hX hR (c_X6_rules X.2.1 G hc4) rfl rfl mf_X6_rules ml_X6_120 in_X6_rules se_X6_rules rfl rfl ⟨rfl, rfl, Nat.le_of_ble_eq_true rfl, Nat.le_of_ble_eq_true rfl⟩ rfl (st := []) rfl (Nat.le_of_ble_eq_true rfl) dX6_nobodySentIn_1 ?_
  refine r_astore_n (L2 := [(3, .ref (gA G x4 0)), (0, .ref (gA G 0 0)), (1, .int a1), (2, .int a2)]) hX rfl (by decide) rfl dX6_nobodySentIn_4 ?_
  refine r_iconst (v := 0) hX (by decide) dX6_nobodySentIn_5 ?_
  refine r_istore (L2 := [(4, .int 0), (3, .ref (gA G x4 0)), (0, .ref (gA G 0 0)), (1, .int a1), (2, .int a2)]) hX (by decide) rfl dX6_nobodySentIn_6 ?_
  exact WW.sub [2, 3, 4, 1, 0] rfl (K8 s a1 a2 x4 0 hk5 trivial h)
abbrev rm_X6_more : Room := { frames := 10, cells := 0, slots := 0, locals := 442 }
def f_X6_more_B15 (v1 : Int32) (v2 : Int32) (s : Mm) : Option ((Int32 × Mm) ⊕ (Int32 × Mm)) :=
  (if 990 < v2 then wr (some ((-5), s)) else Option.bind (f_X6_startTrial s) (fun s1 => Option.bind (f_X5_rise (s1 2) v2) (fun p2 => nb (setO s1 2 p2) (fun s3 => bn2 (f_X6_nobodySentIn s3 v1 (-5)) (fun x4 s5 => (if x4 = 0 then some (.inl ((v2 + 10), s5)) else wr (some (v2, s5))))))))
def f_X6_more_H15 (s : Mm) (v1 : Int32) (v2 : Int32) : Option (Int32 × Mm) :=
  iter (fun t => f_X6_more_B15 v1 t.1 t.2) 200 (v2, s)
def f_X6_more (s : Mm) (a1 : Int32) : Option (Int32 × Mm) :=
  Option.bind (f_X6_within a1 1 12) (fun x6 => (if x6 = 0 then some ((-2), s) else f_X6_more_H15 s a1 0))
set_option maxHeartbeats 4000000 in
set_option maxRecDepth 100000 in
theorem c_X6_more (l : Launch) (G : GE) {lm : Ml}  {s : Mm} {a1 : Int32} {rz : Int32} {sz : Mm} (h : f_X6_more s a1 = some (rz, sz)) : CM l G yX6_more bX6_more 3 (Option.some Jvm.ClassFile.FieldType.int) rm_X6_more [.ref (gA G 0 0), .int a1] s lm (some (.int rz)) sz lm := by
  refine CM.of (own := zR6) (L0 := [(0, .ref (gA G 0 0)), (1, .int a1)]) (by decide +kernel) rfl (Nat.le_of_ble_eq_true rfl) rfl (fun X hl hX hR hQ => ?_)
  have K15 : ∀ (s : Mm) (v1 : Int32) (v2 : Int32) (_ : True), f_X6_more_H15 s v1 v2 = some (rz, sz) → WW X G 3 s lm 15 [(0, .ref (gA G 0 0)), (1, .int v1), (2, .int v2)] [] := by
    intro s v1 v2 _ h
    unfold f_X6_more_H15 at h
    have hit := h
    refine iter_w (P := fun t : Int32 × Mm => WW X G 3 t.2 lm 15 [(0, .ref (gA G 0 0)), (1, .int v1), (2, .int t.1)] []) (x := (rz, sz)) ?_ 200 (v2, s) hit
    clear hit
    clear h
    intro t z1 hb hin1 hex1
    obtain ⟨v2, s⟩ := t
    have h : f_X6_more_B15 v1 v2 s = some z1 := hb
    clear hb
    unfold f_X6_more_B15 at h
    refine r_iload_n hX rfl 2 rfl dX6_more_15 ?_
    refine r_sipush (v := 990) hX (by decide) dX6_more_16 ?_
    refine r_icmp_gt hX dX6_more_19 (fun hc => ?_) (fun hc => ?_)
    · replace h := ip_e hc h
      refine r_bipush (v := (-5)) hX (by decide) dX6_more_52 ?_
      obtain ⟨y1, h, e1⟩ := wr_e h
      rw [hex1 _ e1] at h
      have g0 := Option.some.inj h
      obtain ⟨q0, g1⟩ := Prod.mk.inj g0
      subst q0
      subst g1
      exact r_iret hX hQ dX6_more_54
    · replace h := in_e hc h
      refine r_aload_n hX rfl 0 rfl dX6_more_22 ?_
      obtain ⟨s1, hc1, h⟩ := bn_e h
      refine r_callVv hX hR (c_X6_startTrial X.2.1 G hc1) rfl rfl mf_X6_startTrial ml_X6_192 in_X6_startTrial se_X6_startTrial rfl rfl ⟨rfl, rfl, Nat.le_of_ble_eq_true rfl, Nat.le_of_ble_eq_true rfl⟩ rfl (st := []) rfl (Nat.le_of_ble_eq_true rfl) dX6_more_23 ?_
      refine r_aload_n hX rfl 0 rfl dX6_more_26 ?_
      refine gf_6_1 (o := 0) hX fl_X6_18 rfl rfl dX6_more_27 ?_
      refine r_iload_n hX rfl 2 rfl dX6_more_30 ?_
      obtain ⟨p2, hc2, h⟩ := bn_e h
      obtain ⟨s3, hs3, h⟩ := nb_e h
      refine r_callVv hX hR (c_X5_rise (σ := s1) X.2.1 G rfl hc2) m1_i hs3.symm mf_X5_rise ml_X6_216 in_X5_rise se_X5_rise rfl rfl ⟨rfl, rfl, Nat.le_of_ble_eq_true rfl, Nat.le_of_ble_eq_true rfl⟩ rfl (st := []) rfl (Nat.le_of_ble_eq_true rfl) dX6_more_31 ?_
      refine r_aload_n hX rfl 0 rfl dX6_more_34 ?_
      refine r_iload_n hX rfl 1 rfl dX6_more_35 ?_
      refine r_bipush (v := (-5)) hX (by decide) dX6_more_36 ?_
      obtain ⟨x4, s5, hc5, h⟩ := bn2_e h
      refine r_callVi hX hR (c_X6_nobodySentIn X.2.1 G hc5) rfl rfl mf_X6_nobodySentIn ml_X6_219 in_X6_nobodySentIn se_X6_nobodySentIn rfl rfl ⟨rfl, rfl, Nat.le_of_ble_eq_true rfl, Nat.le_of_ble_eq_true rfl⟩ rfl (st := []) rfl (Nat.le_of_ble_eq_true rfl) dX6_more_38 ?_
      refine r_if_eq hX dX6_more_41 (fun hc => ?_) (fun hc => ?_)
      · replace h := ip_e hc h
        refine r_iinc (v := v2 + 10) (L2 := [(2, .int (v2 + 10)), (0, .ref (gA G 0 0)), (1, .int v1)]) hX 2 rfl rfl (by decide) rfl dX6_more_46 ?_
        refine r_goto hX dX6_more_49 ?_
        exact WW.sub [1, 2, 0] rfl (hin1 _ (Option.some.inj h).symm)
      · replace h := in_e hc h
        refine r_iload_n hX rfl 2 rfl dX6_more_44 ?_
        obtain ⟨y1, h, e1⟩ := wr_e h
        rw [hex1 _ e1] at h
        have g0 := Option.some.inj h
        obtain ⟨q0, g1⟩ := Prod.mk.inj g0
        subst q0
        subst g1
        exact r_iret hX hQ dX6_more_45
  unfold f_X6_more at h
  refine r_iload_n hX rfl 1 rfl dX6_more_0 ?_
  refine r_iconst (v := 1) hX (by decide) dX6_more_1 ?_
  refine r_bipush (v := 12) hX (by decide) dX6_more_2 ?_
  obtain ⟨x6, hc6, h⟩ := bn_e h
  refine r_callSi hX hR (c_X6_within (σ := s) X.2.1 G hc6) rfl rfl mf_X6_within ml_X6_80 st_X6_within ⟨rfl, rfl, Nat.le_of_ble_eq_true rfl, Nat.le_of_ble_eq_true rfl⟩ rfl (st := []) rfl (Nat.le_of_ble_eq_true rfl) dX6_more_4 ?_
  refine r_if_ne hX dX6_more_7 (fun hc => ?_) (fun hc => ?_)
  · replace h := in_e hc h
    refine r_iconst (v := 0) hX (by decide) dX6_more_13 ?_
    refine r_istore_n (L2 := [(2, .int 0), (0, .ref (gA G 0 0)), (1, .int a1)]) hX rfl (by decide) rfl dX6_more_14 ?_
    exact WW.sub [1, 2, 0] rfl (K15 s a1 0 trivial h)
  · replace h := ip_e hc h
    refine r_bipush (v := (-2)) hX (by decide) dX6_more_10 ?_
    have g0 := Option.some.inj h
    obtain ⟨q0, g1⟩ := Prod.mk.inj g0
    subst q0
    subst g1
    exact r_iret hX hQ dX6_more_12
abbrev rm_X6_see : Room := { frames := 1, cells := 0, slots := 0, locals := 82 }
def f_X6_see (s : Mm) (a1 : Int32) (a2 : Int32) : Option (Int32 × Mm) :=
  (if a1 = (-1) then nb (setO s 4 (up2 (s 4) 0 0 0)) (fun s6 => some (0, s6)) else Option.bind (f_X6_within a1 0 9999) (fun x1 => (if x1 = 0 then some ((-2), s) else Option.bind (f_X6_within a2 0 10) (fun x2 => (if x2 = 0 then some ((-2), s) else (if ((s 4) 0 0) < 5 then bn2 (f_X2_addSeen (s 4) a1 a2) (fun x3 p4 => nb (setO s 4 p4) (fun s5 => some (x3, s5))) else some ((-4), s)))))))
set_option maxHeartbeats 4000000 in
set_option maxRecDepth 100000 in
theorem c_X6_see (l : Launch) (G : GE) {lm : Ml}  {s : Mm} {a1 : Int32} {a2 : Int32} {rz : Int32} {sz : Mm} (h : f_X6_see s a1 a2 = some (rz, sz)) : CM l G yX6_see bX6_see 3 (Option.some Jvm.ClassFile.FieldType.int) rm_X6_see [.ref (gA G 0 0), .int a1, .int a2] s lm (some (.int rz)) sz lm := by
  refine CM.of (own := zR6) (L0 := [(0, .ref (gA G 0 0)), (1, .int a1), (2, .int a2)]) (by decide +kernel) rfl (Nat.le_of_ble_eq_true rfl) rfl (fun X hl hX hR hQ => ?_)
  unfold f_X6_see at h
  refine r_iload_n hX rfl 1 rfl dX6_see_0 ?_
  refine r_iconst (v := (-1)) hX (by decide) dX6_see_1 ?_
  refine r_icmp_ne hX dX6_see_2 (fun hc => ?_) (fun hc => ?_)
  · replace h := in_e hc h
    refine r_iload_n hX rfl 1 rfl dX6_see_15 ?_
    refine r_iconst (v := 0) hX (by decide) dX6_see_16 ?_
    refine r_sipush (v := 9999) hX (by decide) dX6_see_17 ?_
    obtain ⟨x1, hc1, h⟩ := bn_e h
    refine r_callSi hX hR (c_X6_within (σ := s) X.2.1 G hc1) rfl rfl mf_X6_within ml_X6_80 st_X6_within ⟨rfl, rfl, Nat.le_of_ble_eq_true rfl, Nat.le_of_ble_eq_true rfl⟩ rfl (st := []) rfl (Nat.le_of_ble_eq_true rfl) dX6_see_20 ?_
    refine r_if_eq hX dX6_see_23 (fun hc => ?_) (fun hc => ?_)
    · replace h := ip_e hc h
      refine r_bipush (v := (-2)) hX (by decide) dX6_see_36 ?_
      have g0 := Option.some.inj h
      obtain ⟨q0, g1⟩ := Prod.mk.inj g0
      subst q0
      subst g1
      exact r_iret hX hQ dX6_see_38
    · replace h := in_e hc h
      refine r_iload_n hX rfl 2 rfl dX6_see_26 ?_
      refine r_iconst (v := 0) hX (by decide) dX6_see_27 ?_
      refine r_bipush (v := 10) hX (by decide) dX6_see_28 ?_
      obtain ⟨x2, hc2, h⟩ := bn_e h
      refine r_callSi hX hR (c_X6_within (σ := s) X.2.1 G hc2) rfl rfl mf_X6_within ml_X6_80 st_X6_within ⟨rfl, rfl, Nat.le_of_ble_eq_true rfl, Nat.le_of_ble_eq_true rfl⟩ rfl (st := []) rfl (Nat.le_of_ble_eq_true rfl) dX6_see_30 ?_
      refine r_if_ne hX dX6_see_33 (fun hc => ?_) (fun hc => ?_)
      · replace h := in_e hc h
        refine r_aload_n hX rfl 0 rfl dX6_see_39 ?_
        refine gf_6_3 (o := 0) hX fl_X6_27 rfl rfl dX6_see_40 ?_
        refine gf_2_0 (o := 4) hX fl_X6_223 rfl rfl dX6_see_43 ?_
        refine r_iconst (v := 5) hX (by decide) dX6_see_46 ?_
        refine r_icmp_lt hX dX6_see_47 (fun hc => ?_) (fun hc => ?_)
        · replace h := ip_e hc h
          refine r_aload_n hX rfl 0 rfl dX6_see_55 ?_
          refine gf_6_3 (o := 0) hX fl_X6_27 rfl rfl dX6_see_56 ?_
          refine r_iload_n hX rfl 1 rfl dX6_see_59 ?_
          refine r_iload_n hX rfl 2 rfl dX6_see_60 ?_
          obtain ⟨x3, p4, hc4, h⟩ := bn2_e h
          obtain ⟨s5, hs5, h⟩ := nb_e h
          refine r_callVi hX hR (c_X2_addSeen (σ := s) X.2.1 G rfl hc4) m1_i hs5.symm mf_X2_addSeen ml_X6_226 in_X2_addSeen se_X2_addSeen rfl rfl ⟨rfl, rfl, Nat.le_of_ble_eq_true rfl, Nat.le_of_ble_eq_true rfl⟩ rfl (st := []) rfl (Nat.le_of_ble_eq_true rfl) dX6_see_61 ?_
          have g0 := Option.some.inj h
          obtain ⟨q0, g1⟩ := Prod.mk.inj g0
          subst q0
          subst g1
          exact r_iret hX hQ dX6_see_64
        · replace h := in_e hc h
          refine r_bipush (v := (-4)) hX (by decide) dX6_see_50 ?_
          refine r_goto hX dX6_see_52 ?_
          have g0 := Option.some.inj h
          obtain ⟨q0, g1⟩ := Prod.mk.inj g0
          subst q0
          subst g1
          exact r_iret hX hQ dX6_see_64
      · replace h := ip_e hc h
        refine r_bipush (v := (-2)) hX (by decide) dX6_see_36 ?_
        have g0 := Option.some.inj h
        obtain ⟨q0, g1⟩ := Prod.mk.inj g0
        subst q0
        subst g1
        exact r_iret hX hQ dX6_see_38
  · replace h := ip_e hc h
    refine r_aload_n hX rfl 0 rfl dX6_see_5 ?_
    refine gf_6_3 (o := 0) hX fl_X6_27 rfl rfl dX6_see_6 ?_
    refine r_iconst (v := 0) hX (by decide) dX6_see_9 ?_
    obtain ⟨s6, hs6, h⟩ := nb_e h
    refine pf_2_0 (o := 4) hX fl_X6_223 rfl rfl dX6_see_10 hs6.symm ?_
    refine r_iconst (v := 0) hX (by decide) dX6_see_13 ?_
    have g0 := Option.some.inj h
    obtain ⟨q0, g1⟩ := Prod.mk.inj g0
    subst q0
    subst g1
    exact r_iret hX hQ dX6_see_14
