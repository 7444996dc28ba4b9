/-! the pure functions and the walks; written by wip/whole/gen_walk.py -/
abbrev rm_X7_body : Room := { frames := 0, cells := 0, slots := 0, locals := 60 }
def f_X7_body_J19 (P : Pm) : Option (Pm) :=
  nb (up2 P 0 77 ((P 0 77) + 1)) (fun P1 => some P1)
def f_X7_body (P : Pm) (a1 : Int32) : Option (Pm) :=
  (if 20 ≤ (P 0 77) then f_X7_body_J19 P else (if inb (P 0 77) 20 = true then nb (up2 P 79 (ix (P 0 77)) a1) (fun P3 => f_X7_body_J19 P3) else none))
set_option maxHeartbeats 4000000 in
set_option maxRecDepth 100000 in
theorem c_X7_body (l : Launch) (G : GE) {σ : Mm} {lm : Ml}  {P : Pm} {a1 : Int32} {Pz : Pm} (h : f_X7_body P a1 = some Pz) : CM l G yX7_body bX7_body 2 (Option.none : Option Jvm.ClassFile.FieldType) rm_X7_body [.ref (gA G 17 0), .int a1] (m1 σ 17 P) lm (none) (m1 σ 17 Pz) lm := by
  refine CM.of (own := zR7) (L0 := [(0, .ref (gA G 17 0)), (1, .int a1)]) (by decide +kernel) rfl (Nat.le_of_ble_eq_true rfl) rfl (fun X hl hX hR hQ => ?_)
  have K19 : ∀ (P : Pm) (_ : True), f_X7_body_J19 P = some Pz → WW X G 2 (m1 σ 17 P) lm 19 [(0, .ref (gA G 17 0))] [] := by
    intro P _ h
    unfold f_X7_body_J19 at h
    refine r_aload_n hX rfl 0 rfl dX7_body_19 ?_
    refine r_dup hX rfl dX7_body_20 ?_
    refine gf_7_77 (o := 17) hX fl_X7_244 rfl m1_g dX7_body_21 ?_
    refine r_iconst (v := 1) hX (by decide) dX7_body_24 ?_
    refine r_iadd hX dX7_body_25 ?_
    obtain ⟨P1, hP1, h⟩ := nb_e h
    refine pf_7_77 (o := 17) hX fl_X7_244 rfl m1_g dX7_body_26 (m1_w hP1) ?_
    have g0 := Option.some.inj h
    subst g0
    exact r_vret hX hQ dX7_body_29
  unfold f_X7_body at h
  refine r_aload_n hX rfl 0 rfl dX7_body_0 ?_
  refine gf_7_77 (o := 17) hX fl_X7_244 rfl m1_g dX7_body_1 ?_
  refine r_bipush (v := 20) hX (by decide) dX7_body_4 ?_
  refine r_icmp_ge hX dX7_body_6 (fun hc => ?_) (fun hc => ?_)
  · replace h := ip_e hc h
    exact WW.sub [0] rfl (K19 P trivial h)
  · replace h := in_e hc h
    refine r_aload_n hX rfl 0 rfl dX7_body_9 ?_
    refine gf_7_78 (o := 17) hX fl_X7_247 rfl m1_g dX7_body_10 ?_
    refine r_aload_n hX rfl 0 rfl dX7_body_13 ?_
    refine gf_7_77 (o := 17) hX fl_X7_244 rfl m1_g dX7_body_14 ?_
    refine r_iload_n hX rfl 1 rfl dX7_body_17 ?_
    obtain ⟨hk2, h⟩ := kc_e h
    obtain ⟨P3, hP3, h⟩ := nb_e h
    refine pa_7_79 (o := 17) hX rfl m1_g hk2 (m1_w hP3) dX7_body_18 ?_
    exact WW.sub [0] rfl (K19 P3 trivial h)
abbrev rm_X7_borrowerSinks : Room := { frames := 1, cells := 0, slots := 0, locals := 81 }
def f_X7_borrowerSinks (P : Pm) (a1 : Int32) (a2 : Int32) : Option (Int32 × Pm) :=
  Option.bind (f_X7_body P 10) (fun P1 => some ((a2 + a1), P1))
set_option maxHeartbeats 4000000 in
set_option maxRecDepth 100000 in
theorem c_X7_borrowerSinks (l : Launch) (G : GE) {σ : Mm} {lm : Ml}  {P : Pm} {a1 : Int32} {a2 : Int32} {rz : Int32} {Pz : Pm} (h : f_X7_borrowerSinks P a1 a2 = some (rz, Pz)) : CM l G yX7_borrowerSinks bX7_borrowerSinks 3 (Option.some Jvm.ClassFile.FieldType.int) rm_X7_borrowerSinks [.ref (gA G 17 0), .int a1, .int a2] (m1 σ 17 P) lm (some (.int rz)) (m1 σ 17 Pz) lm := by
  refine CM.of (own := zR7) (L0 := [(0, .ref (gA G 17 0)), (1, .int a1), (2, .int a2)]) (by decide +kernel) rfl (Nat.le_of_ble_eq_true rfl) rfl (fun X hl hX hR hQ => ?_)
  unfold f_X7_borrowerSinks at h
  refine r_aload_n hX rfl 0 rfl dX7_borrowerSinks_0 ?_
  refine r_bipush (v := 10) hX (by decide) dX7_borrowerSinks_1 ?_
  obtain ⟨P1, hc1, h⟩ := bn_e h
  refine r_callVv hX hR (c_X7_body (σ := σ) X.2.1 G hc1) rfl rfl mf_X7_body ml_X7_427 in_X7_body se_X7_body rfl rfl ⟨rfl, rfl, Nat.le_of_ble_eq_true rfl, Nat.le_of_ble_eq_true rfl⟩ rfl (st := []) rfl (Nat.le_of_ble_eq_true rfl) dX7_borrowerSinks_3 ?_
  refine r_iload_n hX rfl 2 rfl dX7_borrowerSinks_6 ?_
  refine r_iload_n hX rfl 1 rfl dX7_borrowerSinks_7 ?_
  refine r_iadd hX dX7_borrowerSinks_8 ?_
  have g0 := Option.some.inj h
  obtain ⟨q0, g1⟩ := Prod.mk.inj g0
  subst q0
  subst g1
  exact r_iret hX hQ dX7_borrowerSinks_9
abbrev rm_X7_sinksAct : Room := { frames := 2, cells := 0, slots := 0, locals := 103 }
def f_X7_sinksAct_J89 (P : Pm) (v1 : Int32) (v2 : Int32) : Option (Int32 × Pm) :=
  bn2 (f_X7_borrowerSinks P v1 v2) (fun x1 P2 => some (x1, P2))
def f_X7_sinksAct_J40 (P : Pm) (v1 : Int32) (v2 : Int32) : Option (Int32 × Pm) :=
  Option.bind (f_X7_body P 30) (fun P3 => bn2 (f_X7_borrowerSinks P3 v1 (v2 * 3)) (fun x4 P5 => some (x4, P5)))
def f_X7_sinksAct (P : Pm) (a1 : Int32) (a2 : Int32) : Option (Int32 × Pm) :=
  (if inb a1 6 = true then (if (P 4 (ix a1)) = 2 then f_X7_sinksAct_J40 P a1 a2 else (if (P 4 (ix a1)) = 4 then Option.bind (f_X7_body P 50) (fun P7 => bn2 (f_X7_borrowerSinks P7 a1 a2) (fun x8 P9 => some ((-x8), P9))) else (if (P 4 (ix a1)) = 5 then f_X7_sinksAct_J40 P a1 a2 else (if (P 4 (ix a1)) = 6 then Option.bind (f_X7_body P 71) (fun P10 => bn2 (f_X7_borrowerSinks P10 a1 a2) (fun x11 P12 => (if inb a1 6 = true then some ((x11 ^^^ (P12 5 (ix a1))), P12) else none))) else f_X7_sinksAct_J89 P a1 a2)))) else none)
set_option maxHeartbeats 4000000 in
set_option maxRecDepth 100000 in
theorem c_X7_sinksAct (l : Launch) (G : GE) {σ : Mm} {lm : Ml}  {P : Pm} {a1 : Int32} {a2 : Int32} {rz : Int32} {Pz : Pm} (h : f_X7_sinksAct P a1 a2 = some (rz, Pz)) : CM l G yX7_sinksAct bX7_sinksAct 3 (Option.some Jvm.ClassFile.FieldType.int) rm_X7_sinksAct [.ref (gA G 17 0), .int a1, .int a2] (m1 σ 17 P) lm (some (.int rz)) (m1 σ 17 Pz) lm := by
  refine CM.of (own := zR7) (L0 := [(0, .ref (gA G 17 0)), (1, .int a1), (2, .int a2)]) (by decide +kernel) rfl (Nat.le_of_ble_eq_true rfl) rfl (fun X hl hX hR hQ => ?_)
  have K89 : ∀ (P : Pm) (v1 : Int32) (v2 : Int32) (_ : True), f_X7_sinksAct_J89 P v1 v2 = some (rz, Pz) → WW X G 3 (m1 σ 17 P) lm 89 [(0, .ref (gA G 17 0)), (1, .int v1), (2, .int v2)] [] := by
    intro P v1 v2 _ h
    unfold f_X7_sinksAct_J89 at h
    refine r_aload_n hX rfl 0 rfl dX7_sinksAct_89 ?_
    refine r_iload_n hX rfl 1 rfl dX7_sinksAct_90 ?_
    refine r_iload_n hX rfl 2 rfl dX7_sinksAct_91 ?_
    obtain ⟨x1, P2, hc2, h⟩ := bn2_e h
    refine r_callVi hX hR (c_X7_borrowerSinks (σ := σ) X.2.1 G hc2) rfl rfl mf_X7_borrowerSinks ml_X7_430 in_X7_borrowerSinks se_X7_borrowerSinks rfl rfl ⟨rfl, rfl, Nat.le_of_ble_eq_true rfl, Nat.le_of_ble_eq_true rfl⟩ rfl (st := []) rfl (Nat.le_of_ble_eq_true rfl) dX7_sinksAct_92 ?_
    have g0 := Option.some.inj h
    obtain ⟨q0, g1⟩ := Prod.mk.inj g0
    subst q0
    subst g1
    exact r_iret hX hQ dX7_sinksAct_95
  have K40 : ∀ (P : Pm) (v1 : Int32) (v2 : Int32) (_ : True), f_X7_sinksAct_J40 P v1 v2 = some (rz, Pz) → WW X G 3 (m1 σ 17 P) lm 40 [(0, .ref (gA G 17 0)), (1, .int v1), (2, .int v2)] [] := by
    intro P v1 v2 _ h
    unfold f_X7_sinksAct_J40 at h
    refine r_aload_n hX rfl 0 rfl dX7_sinksAct_40 ?_
    refine r_bipush (v := 30) hX (by decide) dX7_sinksAct_41 ?_
    obtain ⟨P3, hc3, h⟩ := bn_e h
    refine r_callVv hX hR (c_X7_body (σ := σ) X.2.1 G hc3) rfl rfl mf_X7_body ml_X7_427 in_X7_body se_X7_body rfl rfl ⟨rfl, rfl, Nat.le_of_ble_eq_true rfl, Nat.le_of_ble_eq_true rfl⟩ rfl (st := []) rfl (Nat.le_of_ble_eq_true rfl) dX7_sinksAct_43 ?_
    refine r_aload_n hX rfl 0 rfl dX7_sinksAct_46 ?_
    refine r_iload_n hX rfl 1 rfl dX7_sinksAct_47 ?_
    refine r_iload_n hX rfl 2 rfl dX7_sinksAct_48 ?_
    refine r_iconst (v := 3) hX (by decide) dX7_sinksAct_49 ?_
    refine r_imul hX dX7_sinksAct_50 ?_
    obtain ⟨x4, P5, hc5, h⟩ := bn2_e h
    refine r_callVi hX hR (c_X7_borrowerSinks (σ := σ) X.2.1 G hc5) rfl rfl mf_X7_borrowerSinks ml_X7_430 in_X7_borrowerSinks se_X7_borrowerSinks rfl rfl ⟨rfl, rfl, Nat.le_of_ble_eq_true rfl, Nat.le_of_ble_eq_true rfl⟩ rfl (st := []) rfl (Nat.le_of_ble_eq_true rfl) dX7_sinksAct_51 ?_
    have g0 := Option.some.inj h
    obtain ⟨q0, g1⟩ := Prod.mk.inj g0
    subst q0
    subst g1
    exact r_iret hX hQ dX7_sinksAct_54
  unfold f_X7_sinksAct at h
  refine r_aload_n hX rfl 0 rfl dX7_sinksAct_0 ?_
  refine gf_7_3 (o := 17) hX fl_X7_19 rfl m1_g dX7_sinksAct_1 ?_
  refine r_iload_n hX rfl 1 rfl dX7_sinksAct_4 ?_
  obtain ⟨hk6, h⟩ := kc_e h
  refine ga_7_4 (o := 17) hX rfl m1_g hk6 dX7_sinksAct_5 ?_
  by_cases hc0 : (P 4 (ix a1)) = 2
  · replace h := ip_e hc0 h
    refine r_tswI (k := 2) (off := 34) (tgt := 40) hX hc0 (by decide) (by decide) (by decide) dX7_sinksAct_6 ?_
    exact WW.sub [0, 1, 2] rfl (K40 P a1 a2 trivial h)
  · replace h := in_e hc0 h
    by_cases hc1 : (P 4 (ix a1)) = 4
    · replace h := ip_e hc1 h
      refine r_tswI (k := 4) (off := 49) (tgt := 55) hX hc1 (by decide) (by decide) (by decide) dX7_sinksAct_6 ?_
      refine r_aload_n hX rfl 0 rfl dX7_sinksAct_55 ?_
      refine r_bipush (v := 50) hX (by decide) dX7_sinksAct_56 ?_
      obtain ⟨P7, hc7, h⟩ := bn_e h
      refine r_callVv hX hR (c_X7_body (σ := σ) X.2.1 G hc7) rfl rfl mf_X7_body ml_X7_427 in_X7_body se_X7_body rfl rfl ⟨rfl, rfl, Nat.le_of_ble_eq_true rfl, Nat.le_of_ble_eq_true rfl⟩ rfl (st := []) rfl (Nat.le_of_ble_eq_true rfl) dX7_sinksAct_58 ?_
      refine r_aload_n hX rfl 0 rfl dX7_sinksAct_61 ?_
      refine r_iload_n hX rfl 1 rfl dX7_sinksAct_62 ?_
      refine r_iload_n hX rfl 2 rfl dX7_sinksAct_63 ?_
      obtain ⟨x8, P9, hc9, h⟩ := bn2_e h
      refine r_callVi hX hR (c_X7_borrowerSinks (σ := σ) X.2.1 G hc9) rfl rfl mf_X7_borrowerSinks ml_X7_430 in_X7_borrowerSinks se_X7_borrowerSinks rfl rfl ⟨rfl, rfl, Nat.le_of_ble_eq_true rfl, Nat.le_of_ble_eq_true rfl⟩ rfl (st := []) rfl (Nat.le_of_ble_eq_true rfl) dX7_sinksAct_64 ?_
      refine r_ineg hX dX7_sinksAct_67 ?_
      have g0 := Option.some.inj h
      obtain ⟨q0, g1⟩ := Prod.mk.inj g0
      subst q0
      subst g1
      exact r_iret hX hQ dX7_sinksAct_68
    · replace h := in_e hc1 h
      by_cases hc2 : (P 4 (ix a1)) = 5
      · replace h := ip_e hc2 h
        refine r_tswI (k := 5) (off := 34) (tgt := 40) hX hc2 (by decide) (by decide) (by decide) dX7_sinksAct_6 ?_
        exact WW.sub [0, 1, 2] rfl (K40 P a1 a2 trivial h)
      · replace h := in_e hc2 h
        by_cases hc3 : (P 4 (ix a1)) = 6
        · replace h := ip_e hc3 h
          refine r_tswI (k := 6) (off := 63) (tgt := 69) hX hc3 (by decide) (by decide) (by decide) dX7_sinksAct_6 ?_
          refine r_aload_n hX rfl 0 rfl dX7_sinksAct_69 ?_
          refine r_bipush (v := 71) hX (by decide) dX7_sinksAct_70 ?_
          obtain ⟨P10, hc10, h⟩ := bn_e h
          refine r_callVv hX hR (c_X7_body (σ := σ) X.2.1 G hc10) rfl rfl mf_X7_body ml_X7_427 in_X7_body se_X7_body rfl rfl ⟨rfl, rfl, Nat.le_of_ble_eq_true rfl, Nat.le_of_ble_eq_true rfl⟩ rfl (st := []) rfl (Nat.le_of_ble_eq_true rfl) dX7_sinksAct_72 ?_
          refine r_aload_n hX rfl 0 rfl dX7_sinksAct_75 ?_
          refine r_iload_n hX rfl 1 rfl dX7_sinksAct_76 ?_
          refine r_iload_n hX rfl 2 rfl dX7_sinksAct_77 ?_
          obtain ⟨x11, P12, hc12, h⟩ := bn2_e h
          refine r_callVi hX hR (c_X7_borrowerSinks (σ := σ) X.2.1 G hc12) rfl rfl mf_X7_borrowerSinks ml_X7_430 in_X7_borrowerSinks se_X7_borrowerSinks rfl rfl ⟨rfl, rfl, Nat.le_of_ble_eq_true rfl, Nat.le_of_ble_eq_true rfl⟩ rfl (st := []) rfl (Nat.le_of_ble_eq_true rfl) dX7_sinksAct_78 ?_
          refine r_aload_n hX rfl 0 rfl dX7_sinksAct_81 ?_
          refine gf_7_4 (o := 17) hX fl_X7_23 rfl m1_g dX7_sinksAct_82 ?_
          refine r_iload_n hX rfl 1 rfl dX7_sinksAct_85 ?_
          obtain ⟨hk13, h⟩ := kc_e h
          refine ga_7_5 (o := 17) hX rfl m1_g hk13 dX7_sinksAct_86 ?_
          refine r_ixor hX dX7_sinksAct_87 ?_
          have g0 := Option.some.inj h
          obtain ⟨q0, g1⟩ := Prod.mk.inj g0
          subst q0
          subst g1
          exact r_iret hX hQ dX7_sinksAct_88
        · replace h := in_e hc3 h
          have hD : WW X G 3 (m1 σ 17 P) lm 89 [(0, .ref (gA G 17 0)), (1, .int a1), (2, .int a2)] [] := by
            exact WW.sub [0, 1, 2] rfl (K89 P a1 a2 trivial h)
          by_cases hg0 : (P 4 (ix a1)) = 3
          · exact r_tswI (k := 3) (off := 83) (tgt := 89) hX hg0 (by decide) (by decide) (by decide) dX7_sinksAct_6 hD
          refine r_tswD (tgt := 89) hX ?_ (by decide) dX7_sinksAct_6 hD
          have j0 := i32n (n := 2) hc0 rfl
          have j1 := i32n (n := 4) hc1 rfl
          have j2 := i32n (n := 5) hc2 rfl
          have j3 := i32n (n := 6) hc3 rfl
          have j4 := i32n (n := 3) hg0 rfl
          omega
abbrev rm_X7_borrowerBorrows : Room := { frames := 3, cells := 0, slots := 0, locals := 125 }
def f_X7_borrowerBorrows (P : Pm) (a1 : Int32) (a2 : Int32) : Option (Int32 × Pm) :=
  Option.bind (f_X7_body P 11) (fun P1 => bn2 (f_X7_sinksAct P1 a1 a2) (fun x2 P3 => (if inb a1 6 = true then some ((x2 - (P3 5 (ix a1))), P3) else none)))
set_option maxHeartbeats 4000000 in
set_option maxRecDepth 100000 in
theorem c_X7_borrowerBorrows (l : Launch) (G : GE) {σ : Mm} {lm : Ml}  {P : Pm} {a1 : Int32} {a2 : Int32} {rz : Int32} {Pz : Pm} (h : f_X7_borrowerBorrows P a1 a2 = some (rz, Pz)) : CM l G yX7_borrowerBorrows bX7_borrowerBorrows 3 (Option.some Jvm.ClassFile.FieldType.int) rm_X7_borrowerBorrows [.ref (gA G 17 0), .int a1, .int a2] (m1 σ 17 P) lm (some (.int rz)) (m1 σ 17 Pz) lm := by
  refine CM.of (own := zR7) (L0 := [(0, .ref (gA G 17 0)), (1, .int a1), (2, .int a2)]) (by decide +kernel) rfl (Nat.le_of_ble_eq_true rfl) rfl (fun X hl hX hR hQ => ?_)
  unfold f_X7_borrowerBorrows at h
  refine r_aload_n hX rfl 0 rfl dX7_borrowerBorrows_0 ?_
  refine r_bipush (v := 11) hX (by decide) dX7_borrowerBorrows_1 ?_
  obtain ⟨P1, hc1, h⟩ := bn_e h
  refine r_callVv hX hR (c_X7_body (σ := σ) X.2.1 G hc1) rfl rfl mf_X7_body ml_X7_427 in_X7_body se_X7_body rfl rfl ⟨rfl, rfl, Nat.le_of_ble_eq_true rfl, Nat.le_of_ble_eq_true rfl⟩ rfl (st := []) rfl (Nat.le_of_ble_eq_true rfl) dX7_borrowerBorrows_3 ?_
  refine r_aload_n hX rfl 0 rfl dX7_borrowerBorrows_6 ?_
  refine r_iload_n hX rfl 1 rfl dX7_borrowerBorrows_7 ?_
  refine r_iload_n hX rfl 2 rfl dX7_borrowerBorrows_8 ?_
  obtain ⟨x2, P3, hc3, h⟩ := bn2_e h
  refine r_callVi hX hR (c_X7_sinksAct (σ := σ) X.2.1 G hc3) rfl rfl mf_X7_sinksAct ml_X7_433 in_X7_sinksAct se_X7_sinksAct rfl rfl ⟨rfl, rfl, Nat.le_of_ble_eq_true rfl, Nat.le_of_ble_eq_true rfl⟩ rfl (st := []) rfl (Nat.le_of_ble_eq_true rfl) dX7_borrowerBorrows_9 ?_
  refine r_aload_n hX rfl 0 rfl dX7_borrowerBorrows_12 ?_
  refine gf_7_4 (o := 17) hX fl_X7_23 rfl m1_g dX7_borrowerBorrows_13 ?_
  refine r_iload_n hX rfl 1 rfl dX7_borrowerBorrows_16 ?_
  obtain ⟨hk4, h⟩ := kc_e h
  refine ga_7_5 (o := 17) hX rfl m1_g hk4 dX7_borrowerBorrows_17 ?_
  refine r_isub hX dX7_borrowerBorrows_18 ?_
  have g0 := Option.some.inj h
  obtain ⟨q0, g1⟩ := Prod.mk.inj g0
  subst q0
  subst g1
  exact r_iret hX hQ dX7_borrowerBorrows_19
abbrev rm_X7_lateBorrows : Room := { frames := 4, cells := 0, slots := 0, locals := 147 }
def f_X7_lateBorrows (P : Pm) (a1 : Int32) (a2 : Int32) : Option (Int32 × Pm) :=
  Option.bind (f_X7_body P 20) (fun P1 => bn2 (f_X7_borrowerBorrows P1 a1 a2) (fun x2 P3 => some ((x2 ^^^ 6), P3)))
set_option maxHeartbeats 4000000 in
set_option maxRecDepth 100000 in
theorem c_X7_lateBorrows (l : Launch) (G : GE) {σ : Mm} {lm : Ml}  {P : Pm} {a1 : Int32} {a2 : Int32} {rz : Int32} {Pz : Pm} (h : f_X7_lateBorrows P a1 a2 = some (rz, Pz)) : CM l G yX7_lateBorrows bX7_lateBorrows 3 (Option.some Jvm.ClassFile.FieldType.int) rm_X7_lateBorrows [.ref (gA G 17 0), .int a1, .int a2] (m1 σ 17 P) lm (some (.int rz)) (m1 σ 17 Pz) lm := by
  refine CM.of (own := zR7) (L0 := [(0, .ref (gA G 17 0)), (1, .int a1), (2, .int a2)]) (by decide +kernel) rfl (Nat.le_of_ble_eq_true rfl) rfl (fun X hl hX hR hQ => ?_)
  unfold f_X7_lateBorrows at h
  refine r_aload_n hX rfl 0 rfl dX7_lateBorrows_0 ?_
  refine r_bipush (v := 20) hX (by decide) dX7_lateBorrows_1 ?_
  obtain ⟨P1, hc1, h⟩ := bn_e h
  refine r_callVv hX hR (c_X7_body (σ := σ) X.2.1 G hc1) rfl rfl mf_X7_body ml_X7_427 in_X7_body se_X7_body rfl rfl ⟨rfl, rfl, Nat.le_of_ble_eq_true rfl, Nat.le_of_ble_eq_true rfl⟩ rfl (st := []) rfl (Nat.le_of_ble_eq_true rfl) dX7_lateBorrows_3 ?_
  refine r_aload_n hX rfl 0 rfl dX7_lateBorrows_6 ?_
  refine r_iload_n hX rfl 1 rfl dX7_lateBorrows_7 ?_
  refine r_iload_n hX rfl 2 rfl dX7_lateBorrows_8 ?_
  obtain ⟨x2, P3, hc3, h⟩ := bn2_e h
  refine r_callVi hX hR (c_X7_borrowerBorrows (σ := σ) X.2.1 G hc3) rfl rfl mf_X7_borrowerBorrows ml_X7_436 in_X7_borrowerBorrows se_X7_borrowerBorrows rfl rfl ⟨rfl, rfl, Nat.le_of_ble_eq_true rfl, Nat.le_of_ble_eq_true rfl⟩ rfl (st := []) rfl (Nat.le_of_ble_eq_true rfl) dX7_lateBorrows_9 ?_
  refine r_bipush (v := 6) hX (by decide) dX7_lateBorrows_12 ?_
  refine r_ixor hX dX7_lateBorrows_14 ?_
  have g0 := Option.some.inj h
  obtain ⟨q0, g1⟩ := Prod.mk.inj g0
  subst q0
  subst g1
  exact r_iret hX hQ dX7_lateBorrows_15
abbrev rm_X7_borrowsAct : Room := { frames := 5, cells := 0, slots := 0, locals := 169 }
def f_X7_borrowsAct (P : Pm) (a1 : Int32) (a2 : Int32) : Option (Int32 × Pm) :=
  (if inb a1 6 = true then (if (P 4 (ix a1)) = 1 then bn2 (f_X7_lateBorrows P a1 a2) (fun x2 P3 => some (x2, P3)) else (if (P 4 (ix a1)) = 4 then Option.bind (f_X7_body P 51) (fun P4 => bn2 (f_X7_lateBorrows P4 a1 (a2 + 1)) (fun x5 P6 => some (x5, P6))) else (if (P 4 (ix a1)) = 6 then Option.bind (f_X7_body P 70) (fun P7 => bn2 (f_X7_borrowerBorrows P7 a1 a2) (fun x8 P9 => bn2 (f_X7_borrowerSinks P9 a1 2) (fun x10 P11 => some ((x8 + x10), P11)))) else bn2 (f_X7_borrowerBorrows P a1 a2) (fun x12 P13 => some (x12, P13))))) else none)
set_option maxHeartbeats 4000000 in
set_option maxRecDepth 100000 in
theorem c_X7_borrowsAct (l : Launch) (G : GE) {σ : Mm} {lm : Ml}  {P : Pm} {a1 : Int32} {a2 : Int32} {rz : Int32} {Pz : Pm} (h : f_X7_borrowsAct P a1 a2 = some (rz, Pz)) : CM l G yX7_borrowsAct bX7_borrowsAct 4 (Option.some Jvm.ClassFile.FieldType.int) rm_X7_borrowsAct [.ref (gA G 17 0), .int a1, .int a2] (m1 σ 17 P) lm (some (.int rz)) (m1 σ 17 Pz) lm := by
  refine CM.of (own := zR7) (L0 := [(0, .ref (gA G 17 0)), (1, .int a1), (2, .int a2)]) (by decide +kernel) rfl (Nat.le_of_ble_eq_true rfl) rfl (fun X hl hX hR hQ => ?_)
  unfold f_X7_borrowsAct at h
  refine r_aload_n hX rfl 0 rfl dX7_borrowsAct_0 ?_
  refine gf_7_3 (o := 17) hX fl_X7_19 rfl m1_g dX7_borrowsAct_1 ?_
  refine r_iload_n hX rfl 1 rfl dX7_borrowsAct_4 ?_
  obtain ⟨hk1, h⟩ := kc_e h
  refine ga_7_4 (o := 17) hX rfl m1_g hk1 dX7_borrowsAct_5 ?_
  by_cases hc0 : (P 4 (ix a1)) = 1
  · replace h := ip_e hc0 h
    refine r_lsw (off := 34) (tgt := 40) hX (by decide) (by rw [hc0]; rfl) (by decide) dX7_borrowsAct_6 ?_
    refine r_aload_n hX rfl 0 rfl dX7_borrowsAct_40 ?_
    refine r_iload_n hX rfl 1 rfl dX7_borrowsAct_41 ?_
    refine r_iload_n hX rfl 2 rfl dX7_borrowsAct_42 ?_
    obtain ⟨x2, P3, hc3, h⟩ := bn2_e h
    refine r_callVi hX hR (c_X7_lateBorrows (σ := σ) X.2.1 G hc3) rfl rfl mf_X7_lateBorrows ml_X7_439 in_X7_lateBorrows se_X7_lateBorrows rfl rfl ⟨rfl, rfl, Nat.le_of_ble_eq_true rfl, Nat.le_of_ble_eq_true rfl⟩ rfl (st := []) rfl (Nat.le_of_ble_eq_true rfl) dX7_borrowsAct_43 ?_
    have g0 := Option.some.inj h
    obtain ⟨q0, g1⟩ := Prod.mk.inj g0
    subst q0
    subst g1
    exact r_iret hX hQ dX7_borrowsAct_46
  · replace h := in_e hc0 h
    by_cases hc1 : (P 4 (ix a1)) = 4
    · replace h := ip_e hc1 h
      refine r_lsw (off := 41) (tgt := 47) hX (by decide) (by rw [hc1]; rfl) (by decide) dX7_borrowsAct_6 ?_
      refine r_aload_n hX rfl 0 rfl dX7_borrowsAct_47 ?_
      refine r_bipush (v := 51) hX (by decide) dX7_borrowsAct_48 ?_
      obtain ⟨P4, hc4, h⟩ := bn_e h
      refine r_callVv hX hR (c_X7_body (σ := σ) X.2.1 G hc4) rfl rfl mf_X7_body ml_X7_427 in_X7_body se_X7_body rfl rfl ⟨rfl, rfl, Nat.le_of_ble_eq_true rfl, Nat.le_of_ble_eq_true rfl⟩ rfl (st := []) rfl (Nat.le_of_ble_eq_true rfl) dX7_borrowsAct_50 ?_
      refine r_aload_n hX rfl 0 rfl dX7_borrowsAct_53 ?_
      refine r_iload_n hX rfl 1 rfl dX7_borrowsAct_54 ?_
      refine r_iload_n hX rfl 2 rfl dX7_borrowsAct_55 ?_
      refine r_iconst (v := 1) hX (by decide) dX7_borrowsAct_56 ?_
      refine r_iadd hX dX7_borrowsAct_57 ?_
      obtain ⟨x5, P6, hc6, h⟩ := bn2_e h
      refine r_callVi hX hR (c_X7_lateBorrows (σ := σ) X.2.1 G hc6) rfl rfl mf_X7_lateBorrows ml_X7_439 in_X7_lateBorrows se_X7_lateBorrows rfl rfl ⟨rfl, rfl, Nat.le_of_ble_eq_true rfl, Nat.le_of_ble_eq_true rfl⟩ rfl (st := []) rfl (Nat.le_of_ble_eq_true rfl) dX7_borrowsAct_58 ?_
      have g0 := Option.some.inj h
      obtain ⟨q0, g1⟩ := Prod.mk.inj g0
      subst q0
      subst g1
      exact r_iret hX hQ dX7_borrowsAct_61
    · replace h := in_e hc1 h
      by_cases hc2 : (P 4 (ix a1)) = 6
      · replace h := ip_e hc2 h
        refine r_lsw (off := 56) (tgt := 62) hX (by decide) (by rw [hc2]; rfl) (by decide) dX7_borrowsAct_6 ?_
        refine r_aload_n hX rfl 0 rfl dX7_borrowsAct_62 ?_
        refine r_bipush (v := 70) hX (by decide) dX7_borrowsAct_63 ?_
        obtain ⟨P7, hc7, h⟩ := bn_e h
        refine r_callVv hX hR (c_X7_body (σ := σ) X.2.1 G hc7) rfl rfl mf_X7_body ml_X7_427 in_X7_body se_X7_body rfl rfl ⟨rfl, rfl, Nat.le_of_ble_eq_true rfl, Nat.le_of_ble_eq_true rfl⟩ rfl (st := []) rfl (Nat.le_of_ble_eq_true rfl) dX7_borrowsAct_65 ?_
        refine r_aload_n hX rfl 0 rfl dX7_borrowsAct_68 ?_
        refine r_iload_n hX rfl 1 rfl dX7_borrowsAct_69 ?_
        refine r_iload_n hX rfl 2 rfl dX7_borrowsAct_70 ?_
        obtain ⟨x8, P9, hc9, h⟩ := bn2_e h
        refine r_callVi hX hR (c_X7_borrowerBorrows (σ := σ) X.2.1 G hc9) rfl rfl mf_X7_borrowerBorrows ml_X7_436 in_X7_borrowerBorrows se_X7_borrowerBorrows rfl rfl ⟨rfl, rfl, Nat.le_of_ble_eq_true rfl, Nat.le_of_ble_eq_true rfl⟩ rfl (st := []) rfl (Nat.le_of_ble_eq_true rfl) dX7_borrowsAct_71 ?_
        refine r_istore_n (L2 := [(3, .int x8), (0, .ref (gA G 17 0)), (1, .int a1), (2, .int a2)]) hX rfl (by decide) rfl dX7_borrowsAct_74 ?_
        refine r_iload_n hX rfl 0 rfl dX7_borrowsAct_75 ?_
        refine r_aload_n hX rfl 1 rfl dX7_borrowsAct_76 ?_
        refine r_iload_n hX rfl 2 rfl dX7_borrowsAct_77 ?_
        refine r_iconst (v := 2) hX (by decide) dX7_borrowsAct_78 ?_
        obtain ⟨x10, P11, hc11, h⟩ := bn2_e h
        refine r_callVi hX hR (c_X7_borrowerSinks (σ := σ) X.2.1 G hc11) rfl rfl mf_X7_borrowerSinks ml_X7_430 in_X7_borrowerSinks se_X7_borrowerSinks rfl rfl ⟨rfl, rfl, Nat.le_of_ble_eq_true rfl, Nat.le_of_ble_eq_true rfl⟩ rfl (st := [.int x8]) rfl (Nat.le_of_ble_eq_true rfl) dX7_borrowsAct_79 ?_
        refine r_iadd hX dX7_borrowsAct_82 ?_
        have g0 := Option.some.inj h
        obtain ⟨q0, g1⟩ := Prod.mk.inj g0
        subst q0
        subst g1
        exact r_iret hX hQ dX7_borrowsAct_83
      · replace h := in_e hc2 h
        have hD : WW X G 4 (m1 σ 17 P) lm 84 [(0, .ref (gA G 17 0)), (1, .int a1), (2, .int a2)] [] := by
          refine r_aload_n hX rfl 0 rfl dX7_borrowsAct_84 ?_
          refine r_iload_n hX rfl 1 rfl dX7_borrowsAct_85 ?_
          refine r_iload_n hX rfl 2 rfl dX7_borrowsAct_86 ?_
          obtain ⟨x12, P13, hc13, h⟩ := bn2_e h
          refine r_callVi hX hR (c_X7_borrowerBorrows (σ := σ) X.2.1 G hc13) rfl rfl mf_X7_borrowerBorrows ml_X7_436 in_X7_borrowerBorrows se_X7_borrowerBorrows rfl rfl ⟨rfl, rfl, Nat.le_of_ble_eq_true rfl, Nat.le_of_ble_eq_true rfl⟩ rfl (st := []) rfl (Nat.le_of_ble_eq_true rfl) dX7_borrowsAct_87 ?_
          have g0 := Option.some.inj h
          obtain ⟨q0, g1⟩ := Prod.mk.inj g0
          subst q0
          subst g1
          exact r_iret hX hQ dX7_borrowsAct_90
        have j0 := i32n (n := 1) hc0 rfl
        have j1 := i32n (n := 4) hc1 rfl
        have j2 := i32n (n := 6) hc2 rfl
        refine r_lsw (off := 78) (tgt := 84) hX (by decide) ?_ (by decide) dX7_borrowsAct_6 hD
        simp [Op.lookupswitch.offset, j0, Ne.symm j0, j1, Ne.symm j1, j2, Ne.symm j2]
abbrev rm_X7_borrowerTells : Room := { frames := 6, cells := 0, slots := 0, locals := 192 }
def f_X7_borrowerTells (P : Pm) (a1 : Int32) (a2 : Int32) : Option (Int32 × Pm) :=
  Option.bind (f_X7_body P 12) (fun P1 => bn2 (f_X7_borrowsAct P1 a1 a2) (fun x2 P3 => some ((x2 * 2), P3)))
set_option maxHeartbeats 4000000 in
set_option maxRecDepth 100000 in
theorem c_X7_borrowerTells (l : Launch) (G : GE) {σ : Mm} {lm : Ml}  {P : Pm} {a1 : Int32} {a2 : Int32} {rz : Int32} {Pz : Pm} (h : f_X7_borrowerTells P a1 a2 = some (rz, Pz)) : CM l G yX7_borrowerTells bX7_borrowerTells 3 (Option.some Jvm.ClassFile.FieldType.int) rm_X7_borrowerTells [.ref (gA G 17 0), .int a1, .int a2] (m1 σ 17 P) lm (some (.int rz)) (m1 σ 17 Pz) lm := by
  refine CM.of (own := zR7) (L0 := [(0, .ref (gA G 17 0)), (1, .int a1), (2, .int a2)]) (by decide +kernel) rfl (Nat.le_of_ble_eq_true rfl) rfl (fun X hl hX hR hQ => ?_)
  unfold f_X7_borrowerTells at h
  refine r_aload_n hX rfl 0 rfl dX7_borrowerTells_0 ?_
  refine r_bipush (v := 12) hX (by decide) dX7_borrowerTells_1 ?_
  obtain ⟨P1, hc1, h⟩ := bn_e h
  refine r_callVv hX hR (c_X7_body (σ := σ) X.2.1 G hc1) rfl rfl mf_X7_body ml_X7_427 in_X7_body se_X7_body rfl rfl ⟨rfl, rfl, Nat.le_of_ble_eq_true rfl, Nat.le_of_ble_eq_true rfl⟩ rfl (st := []) rfl (Nat.le_of_ble_eq_true rfl) dX7_borrowerTells_3 ?_
  refine r_aload_n hX rfl 0 rfl dX7_borrowerTells_6 ?_
  refine r_iload_n hX rfl 1 rfl dX7_borrowerTells_7 ?_
  refine r_iload_n hX rfl 2 rfl dX7_borrowerTells_8 ?_
  obtain ⟨x2, P3, hc3, h⟩ := bn2_e h
  refine r_callVi hX hR (c_X7_borrowsAct (σ := σ) X.2.1 G hc3) rfl rfl mf_X7_borrowsAct ml_X7_442 in_X7_borrowsAct se_X7_borrowsAct rfl rfl ⟨rfl, rfl, Nat.le_of_ble_eq_true rfl, Nat.le_of_ble_eq_true rfl⟩ rfl (st := []) rfl (Nat.le_of_ble_eq_true rfl) dX7_borrowerTells_9 ?_
  refine r_iconst (v := 2) hX (by decide) dX7_borrowerTells_12 ?_
  refine r_imul hX dX7_borrowerTells_13 ?_
  have g0 := Option.some.inj h
  obtain ⟨q0, g1⟩ := Prod.mk.inj g0
  subst q0
  subst g1
  exact r_iret hX hQ dX7_borrowerTells_14
abbrev rm_X7_tellsAct : Room := { frames := 7, cells := 0, slots := 0, locals := 214 }
def f_X7_tellsAct_J73 (P : Pm) (v1 : Int32) (v2 : Int32) : Option (Int32 × Pm) :=
  bn2 (f_X7_borrowerTells P v1 v2) (fun x1 P2 => some (x1, P2))
def f_X7_tellsAct_J36 (P : Pm) (v1 : Int32) (v2 : Int32) : Option (Int32 × Pm) :=
  Option.bind (f_X7_body P 40) (fun P3 => bn2 (f_X7_borrowerTells P3 v1 v2) (fun x4 P5 => bn2 (f_X7_borrowsAct P5 v1 1) (fun x6 P7 => some ((x4 + x6), P7))))
def f_X7_tellsAct (P : Pm) (a1 : Int32) (a2 : Int32) : Option (Int32 × Pm) :=
  (if inb a1 6 = true then (if (P 4 (ix a1)) = 3 then f_X7_tellsAct_J36 P a1 a2 else (if (P 4 (ix a1)) = 5 then Option.bind (f_X7_body P 60) (fun P9 => bn2 (f_X7_borrowerTells P9 a1 (a2 - a1)) (fun x10 P11 => some (x10, P11))) else (if (P 4 (ix a1)) = 6 then f_X7_tellsAct_J36 P a1 a2 else f_X7_tellsAct_J73 P a1 a2))) else none)
set_option maxHeartbeats 4000000 in
set_option maxRecDepth 100000 in
theorem c_X7_tellsAct (l : Launch) (G : GE) {σ : Mm} {lm : Ml}  {P : Pm} {a1 : Int32} {a2 : Int32} {rz : Int32} {Pz : Pm} (h : f_X7_tellsAct P a1 a2 = some (rz, Pz)) : CM l G yX7_tellsAct bX7_tellsAct 4 (Option.some Jvm.ClassFile.FieldType.int) rm_X7_tellsAct [.ref (gA G 17 0), .int a1, .int a2] (m1 σ 17 P) lm (some (.int rz)) (m1 σ 17 Pz) lm := by
  refine CM.of (own := zR7) (L0 := [(0, .ref (gA G 17 0)), (1, .int a1), (2, .int a2)]) (by decide +kernel) rfl (Nat.le_of_ble_eq_true rfl) rfl (fun X hl hX hR hQ => ?_)
  have K73 : ∀ (P : Pm) (v1 : Int32) (v2 : Int32) (_ : True), f_X7_tellsAct_J73 P v1 v2 = some (rz, Pz) → WW X G 4 (m1 σ 17 P) lm 73 [(0, .ref (gA G 17 0)), (1, .int v1), (2, .int v2)] [] := by
    intro P v1 v2 _ h
    unfold f_X7_tellsAct_J73 at h
    refine r_aload_n hX rfl 0 rfl dX7_tellsAct_73 ?_
    refine r_iload_n hX rfl 1 rfl dX7_tellsAct_74 ?_
    refine r_iload_n hX rfl 2 rfl dX7_tellsAct_75 ?_
    obtain ⟨x1, P2, hc2, h⟩ := bn2_e h
    refine r_callVi hX hR (c_X7_borrowerTells (σ := σ) X.2.1 G hc2) rfl rfl mf_X7_borrowerTells ml_X7_445 in_X7_borrowerTells se_X7_borrowerTells rfl rfl ⟨rfl, rfl, Nat.le_of_ble_eq_true rfl, Nat.le_of_ble_eq_true rfl⟩ rfl (st := []) rfl (Nat.le_of_ble_eq_true rfl) dX7_tellsAct_76 ?_
    have g0 := Option.some.inj h
    obtain ⟨q0, g1⟩ := Prod.mk.inj g0
    subst q0
    subst g1
    exact r_iret hX hQ dX7_tellsAct_79
  have K36 : ∀ (P : Pm) (v1 : Int32) (v2 : Int32) (_ : True), f_X7_tellsAct_J36 P v1 v2 = some (rz, Pz) → WW X G 4 (m1 σ 17 P) lm 36 [(0, .ref (gA G 17 0)), (1, .int v1), (2, .int v2)] [] := by
    intro P v1 v2 _ h
    unfold f_X7_tellsAct_J36 at h
    refine r_aload_n hX rfl 0 rfl dX7_tellsAct_36 ?_
    refine r_bipush (v := 40) hX (by decide) dX7_tellsAct_37 ?_
    obtain ⟨P3, hc3, h⟩ := bn_e h
    refine r_callVv hX hR (c_X7_body (σ := σ) X.2.1 G hc3) rfl rfl mf_X7_body ml_X7_427 in_X7_body se_X7_body rfl rfl ⟨rfl, rfl, Nat.le_of_ble_eq_true rfl, Nat.le_of_ble_eq_true rfl⟩ rfl (st := []) rfl (Nat.le_of_ble_eq_true rfl) dX7_tellsAct_39 ?_
    refine r_aload_n hX rfl 0 rfl dX7_tellsAct_42 ?_
    refine r_iload_n hX rfl 1 rfl dX7_tellsAct_43 ?_
    refine r_iload_n hX rfl 2 rfl dX7_tellsAct_44 ?_
    obtain ⟨x4, P5, hc5, h⟩ := bn2_e h
    refine r_callVi hX hR (c_X7_borrowerTells (σ := σ) X.2.1 G hc5) rfl rfl mf_X7_borrowerTells ml_X7_445 in_X7_borrowerTells se_X7_borrowerTells rfl rfl ⟨rfl, rfl, Nat.le_of_ble_eq_true rfl, Nat.le_of_ble_eq_true rfl⟩ rfl (st := []) rfl (Nat.le_of_ble_eq_true rfl) dX7_tellsAct_45 ?_
    refine r_istore_n (L2 := [(3, .int x4), (0, .ref (gA G 17 0)), (1, .int v1), (2, .int v2)]) hX rfl (by decide) rfl dX7_tellsAct_48 ?_
    refine r_iload_n hX rfl 0 rfl dX7_tellsAct_49 ?_
    refine r_aload_n hX rfl 1 rfl dX7_tellsAct_50 ?_
    refine r_iload_n hX rfl 2 rfl dX7_tellsAct_51 ?_
    refine r_iconst (v := 1) hX (by decide) dX7_tellsAct_52 ?_
    obtain ⟨x6, P7, hc7, h⟩ := bn2_e h
    refine r_callVi hX hR (c_X7_borrowsAct (σ := σ) X.2.1 G hc7) rfl rfl mf_X7_borrowsAct ml_X7_442 in_X7_borrowsAct se_X7_borrowsAct rfl rfl ⟨rfl, rfl, Nat.le_of_ble_eq_true rfl, Nat.le_of_ble_eq_true rfl⟩ rfl (st := [.int x4]) rfl (Nat.le_of_ble_eq_true rfl) dX7_tellsAct_53 ?_
    refine r_iadd hX dX7_tellsAct_56 ?_
    have g0 := Option.some.inj h
    obtain ⟨q0, g1⟩ := Prod.mk.inj g0
    subst q0
    subst g1
    exact r_iret hX hQ dX7_tellsAct_57
  unfold f_X7_tellsAct at h
  refine r_aload_n hX rfl 0 rfl dX7_tellsAct_0 ?_
  refine gf_7_3 (o := 17) hX fl_X7_19 rfl m1_g dX7_tellsAct_1 ?_
  refine r_iload_n hX rfl 1 rfl dX7_tellsAct_4 ?_
  obtain ⟨hk8, h⟩ := kc_e h
  refine ga_7_4 (o := 17) hX rfl m1_g hk8 dX7_tellsAct_5 ?_
  by_cases hc0 : (P 4 (ix a1)) = 3
  · replace h := ip_e hc0 h
    refine r_tswI (k := 3) (off := 30) (tgt := 36) hX hc0 (by decide) (by decide) (by decide) dX7_tellsAct_6 ?_
    exact WW.sub [0, 1, 2] rfl (K36 P a1 a2 trivial h)
  · replace h := in_e hc0 h
    by_cases hc1 : (P 4 (ix a1)) = 5
    · replace h := ip_e hc1 h
      refine r_tswI (k := 5) (off := 52) (tgt := 58) hX hc1 (by decide) (by decide) (by decide) dX7_tellsAct_6 ?_
      refine r_aload_n hX rfl 0 rfl dX7_tellsAct_58 ?_
      refine r_bipush (v := 60) hX (by decide) dX7_tellsAct_59 ?_
      obtain ⟨P9, hc9, h⟩ := bn_e h
      refine r_callVv hX hR (c_X7_body (σ := σ) X.2.1 G hc9) rfl rfl mf_X7_body ml_X7_427 in_X7_body se_X7_body rfl rfl ⟨rfl, rfl, Nat.le_of_ble_eq_true rfl, Nat.le_of_ble_eq_true rfl⟩ rfl (st := []) rfl (Nat.le_of_ble_eq_true rfl) dX7_tellsAct_61 ?_
      refine r_aload_n hX rfl 0 rfl dX7_tellsAct_64 ?_
      refine r_iload_n hX rfl 1 rfl dX7_tellsAct_65 ?_
      refine r_iload_n hX rfl 2 rfl dX7_tellsAct_66 ?_
      refine r_iload_n hX rfl 1 rfl dX7_tellsAct_67 ?_
      refine r_isub hX dX7_tellsAct_68 ?_
      obtain ⟨x10, P11, hc11, h⟩ := bn2_e h
      refine r_callVi hX hR (c_X7_borrowerTells (σ := σ) X.2.1 G hc11) rfl rfl mf_X7_borrowerTells ml_X7_445 in_X7_borrowerTells se_X7_borrowerTells rfl rfl ⟨rfl, rfl, Nat.le_of_ble_eq_true rfl, Nat.le_of_ble_eq_true rfl⟩ rfl (st := []) rfl (Nat.le_of_ble_eq_true rfl) dX7_tellsAct_69 ?_
      have g0 := Option.some.inj h
      obtain ⟨q0, g1⟩ := Prod.mk.inj g0
      subst q0
      subst g1
      exact r_iret hX hQ dX7_tellsAct_72
    · replace h := in_e hc1 h
      by_cases hc2 : (P 4 (ix a1)) = 6
      · replace h := ip_e hc2 h
        refine r_tswI (k := 6) (off := 30) (tgt := 36) hX hc2 (by decide) (by decide) (by decide) dX7_tellsAct_6 ?_
        exact WW.sub [0, 1, 2] rfl (K36 P a1 a2 trivial h)
      · replace h := in_e hc2 h
        have hD : WW X G 4 (m1 σ 17 P) lm 73 [(0, .ref (gA G 17 0)), (1, .int a1), (2, .int a2)] [] := by
          exact WW.sub [0, 1, 2] rfl (K73 P a1 a2 trivial h)
        by_cases hg0 : (P 4 (ix a1)) = 4
        · exact r_tswI (k := 4) (off := 67) (tgt := 73) hX hg0 (by decide) (by decide) (by decide) dX7_tellsAct_6 hD
        refine r_tswD (tgt := 73) hX ?_ (by decide) dX7_tellsAct_6 hD
        have j0 := i32n (n := 3) hc0 rfl
        have j1 := i32n (n := 5) hc1 rfl
        have j2 := i32n (n := 6) hc2 rfl
        have j3 := i32n (n := 4) hg0 rfl
        omega
abbrev rm_X7_act : Room := { frames := 8, cells := 0, slots := 0, locals := 237 }
def f_X7_act (P : Pm) (a1 : Int32) (a2 : Int32) (a3 : Int32) : Option (Int32 × Pm) :=
  nb (up2 P 0 77 0) (fun P1 => Option.bind (f_X7_isBorrower P1 a1) (fun x2 => (if x2 = 0 then some (0, P1) else Option.bind (f_X7_in P1 a2 0 2) (fun x3 => (if x3 = 0 then some (0, P1) else (if a2 = 0 then bn2 (f_X7_sinksAct P1 a1 a3) (fun x8 P9 => some (x8, P9)) else (if a2 = 1 then bn2 (f_X7_borrowsAct P1 a1 a3) (fun x6 P7 => some (x6, P7)) else bn2 (f_X7_tellsAct P1 a1 a3) (fun x4 P5 => some (x4, P5)))))))))
set_option maxHeartbeats 4000000 in
set_option maxRecDepth 100000 in
theorem c_X7_act (l : Launch) (G : GE) {σ : Mm} {lm : Ml}  {P : Pm} {a1 : Int32} {a2 : Int32} {a3 : Int32} {rz : Int32} {Pz : Pm} (h : f_X7_act P a1 a2 a3 = some (rz, Pz)) : CM l G yX7_act bX7_act 4 (Option.some Jvm.ClassFile.FieldType.int) rm_X7_act [.ref (gA G 17 0), .int a1, .int a2, .int a3] (m1 σ 17 P) lm (some (.int rz)) (m1 σ 17 Pz) lm := by
  refine CM.of (own := zR7) (L0 := [(0, .ref (gA G 17 0)), (1, .int a1), (2, .int a2), (3, .int a3)]) (by decide +kernel) rfl (Nat.le_of_ble_eq_true rfl) rfl (fun X hl hX hR hQ => ?_)
  unfold f_X7_act at h
  refine r_aload_n hX rfl 0 rfl dX7_act_0 ?_
  refine r_iconst (v := 0) hX (by decide) dX7_act_1 ?_
  obtain ⟨P1, hP1, h⟩ := nb_e h
  refine pf_7_77 (o := 17) hX fl_X7_244 rfl m1_g dX7_act_2 (m1_w hP1) ?_
  refine r_aload_n hX rfl 0 rfl dX7_act_5 ?_
  refine r_iload_n hX rfl 1 rfl dX7_act_6 ?_
  obtain ⟨x2, hc2, h⟩ := bn_e h
  refine r_callVi hX hR (c_X7_isBorrower (σ := σ) X.2.1 G hc2) rfl rfl mf_X7_isBorrower ml_X7_274 in_X7_isBorrower se_X7_isBorrower rfl rfl ⟨rfl, rfl, Nat.le_of_ble_eq_true rfl, Nat.le_of_ble_eq_true rfl⟩ rfl (st := []) rfl (Nat.le_of_ble_eq_true rfl) dX7_act_7 ?_
  refine r_if_eq hX dX7_act_10 (fun hc => ?_) (fun hc => ?_)
  · replace h := ip_e hc h
    refine r_iconst (v := 0) hX (by decide) dX7_act_23 ?_
    have g0 := Option.some.inj h
    obtain ⟨q0, g1⟩ := Prod.mk.inj g0
    subst q0
    subst g1
    exact r_iret hX hQ dX7_act_24
  · replace h := in_e hc h
    refine r_aload_n hX rfl 0 rfl dX7_act_13 ?_
    refine r_iload_n hX rfl 2 rfl dX7_act_14 ?_
    refine r_iconst (v := 0) hX (by decide) dX7_act_15 ?_
    refine r_iconst (v := 2) hX (by decide) dX7_act_16 ?_
    obtain ⟨x3, hc3, h⟩ := bn_e h
    refine r_callVi hX hR (c_X7_in (σ := σ) X.2.1 G hc3) rfl rfl mf_X7_in ml_X7_263 in_X7_in se_X7_in rfl rfl ⟨rfl, rfl, Nat.le_of_ble_eq_true rfl, Nat.le_of_ble_eq_true rfl⟩ rfl (st := []) rfl (Nat.le_of_ble_eq_true rfl) dX7_act_17 ?_
    refine r_if_ne hX dX7_act_20 (fun hc => ?_) (fun hc => ?_)
    · replace h := in_e hc h
      refine r_iload_n hX rfl 2 rfl dX7_act_25 ?_
      refine r_if_ne hX dX7_act_26 (fun hc => ?_) (fun hc => ?_)
      · replace h := in_e hc h
        refine r_iload_n hX rfl 2 rfl dX7_act_38 ?_
        refine r_iconst (v := 1) hX (by decide) dX7_act_39 ?_
        refine r_icmp_ne hX dX7_act_40 (fun hc => ?_) (fun hc => ?_)
        · replace h := in_e hc h
          refine r_aload_n hX rfl 0 rfl dX7_act_52 ?_
          refine r_iload_n hX rfl 1 rfl dX7_act_53 ?_
          refine r_iload_n hX rfl 3 rfl dX7_act_54 ?_
          obtain ⟨x4, P5, hc5, h⟩ := bn2_e h
          refine r_callVi hX hR (c_X7_tellsAct (σ := σ) X.2.1 G hc5) rfl rfl mf_X7_tellsAct ml_X7_448 in_X7_tellsAct se_X7_tellsAct rfl rfl ⟨rfl, rfl, Nat.le_of_ble_eq_true rfl, Nat.le_of_ble_eq_true rfl⟩ rfl (st := []) rfl (Nat.le_of_ble_eq_true rfl) dX7_act_55 ?_
          have g0 := Option.some.inj h
          obtain ⟨q0, g1⟩ := Prod.mk.inj g0
          subst q0
          subst g1
          exact r_iret hX hQ dX7_act_58
        · replace h := ip_e hc h
          refine r_aload_n hX rfl 0 rfl dX7_act_43 ?_
          refine r_iload_n hX rfl 1 rfl dX7_act_44 ?_
          refine r_iload_n hX rfl 3 rfl dX7_act_45 ?_
          obtain ⟨x6, P7, hc7, h⟩ := bn2_e h
          refine r_callVi hX hR (c_X7_borrowsAct (σ := σ) X.2.1 G hc7) rfl rfl mf_X7_borrowsAct ml_X7_442 in_X7_borrowsAct se_X7_borrowsAct rfl rfl ⟨rfl, rfl, Nat.le_of_ble_eq_true rfl, Nat.le_of_ble_eq_true rfl⟩ rfl (st := []) rfl (Nat.le_of_ble_eq_true rfl) dX7_act_46 ?_
          refine r_goto hX dX7_act_49 ?_
          have g0 := Option.some.inj h
          obtain ⟨q0, g1⟩ := Prod.mk.inj g0
          subst q0
          subst g1
          exact r_iret hX hQ dX7_act_58
      · replace h := ip_e hc h
        refine r_aload_n hX rfl 0 rfl dX7_act_29 ?_
        refine r_iload_n hX rfl 1 rfl dX7_act_30 ?_
        refine r_iload_n hX rfl 3 rfl dX7_act_31 ?_
        obtain ⟨x8, P9, hc9, h⟩ := bn2_e h
        refine r_callVi hX hR (c_X7_sinksAct (σ := σ) X.2.1 G hc9) rfl rfl mf_X7_sinksAct ml_X7_433 in_X7_sinksAct se_X7_sinksAct rfl rfl ⟨rfl, rfl, Nat.le_of_ble_eq_true rfl, Nat.le_of_ble_eq_true rfl⟩ rfl (st := []) rfl (Nat.le_of_ble_eq_true rfl) dX7_act_32 ?_
        refine r_goto hX dX7_act_35 ?_
        have g0 := Option.some.inj h
        obtain ⟨q0, g1⟩ := Prod.mk.inj g0
        subst q0
        subst g1
        exact r_iret hX hQ dX7_act_58
    · replace h := ip_e hc h
      refine r_iconst (v := 0) hX (by decide) dX7_act_23 ?_
      have g0 := Option.some.inj h
      obtain ⟨q0, g1⟩ := Prod.mk.inj g0
      subst q0
      subst g1
      exact r_iret hX hQ dX7_act_24
abbrev rm_X7_trace : Room := { frames := 1, cells := 0, slots := 0, locals := 83 }
def f_X7_trace (P : Pm) (a1 : Int32) : Option (Int32) :=
  Option.bind (f_X7_in P a1 0 19) (fun x1 => (if x1 = 0 then some (-1) else (if (P 0 77) ≤ a1 then some (-1) else (if inb a1 20 = true then some (P 79 (ix a1)) else none))))
set_option maxHeartbeats 4000000 in
set_option maxRecDepth 100000 in
theorem c_X7_trace (l : Launch) (G : GE) {σ : Mm} {lm : Ml}  {P : Pm} {a1 : Int32} {rz : Int32} (h : f_X7_trace P a1 = some rz) : CM l G yX7_trace bX7_trace 2 (Option.some Jvm.ClassFile.FieldType.int) rm_X7_trace [.ref (gA G 17 0), .int a1] (m1 σ 17 P) lm (some (.int rz)) (m1 σ 17 P) lm := by
  refine CM.of (own := zR7) (L0 := [(0, .ref (gA G 17 0)), (1, .int a1)]) (by decide +kernel) rfl (Nat.le_of_ble_eq_true rfl) rfl (fun X hl hX hR hQ => ?_)
  unfold f_X7_trace at h
  refine r_aload_n hX rfl 0 rfl dX7_trace_0 ?_
  refine r_iload_n hX rfl 1 rfl dX7_trace_1 ?_
  refine r_iconst (v := 0) hX (by decide) dX7_trace_2 ?_
  refine r_bipush (v := 19) hX (by decide) dX7_trace_3 ?_
  obtain ⟨x1, hc1, h⟩ := bn_e h
  refine r_callVi hX hR (c_X7_in (σ := σ) X.2.1 G hc1) rfl rfl mf_X7_in ml_X7_263 in_X7_in se_X7_in rfl rfl ⟨rfl, rfl, Nat.le_of_ble_eq_true rfl, Nat.le_of_ble_eq_true rfl⟩ rfl (st := []) rfl (Nat.le_of_ble_eq_true rfl) dX7_trace_5 ?_
  refine r_if_eq hX dX7_trace_8 (fun hc => ?_) (fun hc => ?_)
  · replace h := ip_e hc h
    refine r_iconst (v := (-1)) hX (by decide) dX7_trace_28 ?_
    have g0 := Option.some.inj h
    subst g0
    exact r_iret hX hQ dX7_trace_29
  · replace h := in_e hc h
    refine r_iload_n hX rfl 1 rfl dX7_trace_11 ?_
    refine r_aload_n hX rfl 0 rfl dX7_trace_12 ?_
    refine gf_7_77 (o := 17) hX fl_X7_244 rfl m1_g dX7_trace_13 ?_
    refine r_icmp_ge hX dX7_trace_16 (fun hc => ?_) (fun hc => ?_)
    · replace h := ip_e hc h
      refine r_iconst (v := (-1)) hX (by decide) dX7_trace_28 ?_
      have g0 := Option.some.inj h
      subst g0
      exact r_iret hX hQ dX7_trace_29
    · replace h := in_e hc h
      refine r_aload_n hX rfl 0 rfl dX7_trace_19 ?_
      refine gf_7_78 (o := 17) hX fl_X7_247 rfl m1_g dX7_trace_20 ?_
      refine r_iload_n hX rfl 1 rfl dX7_trace_23 ?_
      obtain ⟨hk2, h⟩ := kc_e h
      refine ga_7_79 (o := 17) hX rfl m1_g hk2 dX7_trace_24 ?_
      refine r_goto hX dX7_trace_25 ?_
      have g0 := Option.some.inj h
      subst g0
      exact r_iret hX hQ dX7_trace_29
abbrev rm_X7_taken : Room := { frames := 2, cells := 0, slots := 0, locals := 104 }
def f_X7_taken_J72 (P : Pm) (v3 : Int32) : Option (Int32) :=
  some v3
def f_X7_taken_J61 (P : Pm) (v2 : Int32) (v3 : Int32) : Option (Int32) :=
  (if v2 = 3 then (if v3 = 6 then f_X7_taken_J72 P v3 else some (-12)) else some (-12))
def f_X7_taken_J51 (P : Pm) (v2 : Int32) (v3 : Int32) : Option (Int32) :=
  (if v2 = 2 then (if v3 = 5 then f_X7_taken_J72 P v3 else f_X7_taken_J61 P v2 v3) else f_X7_taken_J61 P v2 v3)
def f_X7_taken (P : Pm) (a1 : Int32) (a2 : Int32) : Option (Int32) :=
  Option.bind (f_X7_in P a2 0 6) (fun x1 => (if x1 = 0 then some (-2) else Option.bind (f_X7_isBorrower P a1) (fun x2 => (if x2 = 0 then some (-11) else (if inb a1 6 = true then (if a2 = 0 then f_X7_taken_J72 P (P 4 (ix a1)) else (if (P 4 (ix a1)) = a2 then f_X7_taken_J72 P (P 4 (ix a1)) else (if a2 = 1 then (if (P 4 (ix a1)) = 4 then f_X7_taken_J72 P (P 4 (ix a1)) else f_X7_taken_J51 P a2 (P 4 (ix a1))) else f_X7_taken_J51 P a2 (P 4 (ix a1))))) else none)))))
set_option maxHeartbeats 4000000 in
set_option maxRecDepth 100000 in
theorem c_X7_taken (l : Launch) (G : GE) {σ : Mm} {lm : Ml}  {P : Pm} {a1 : Int32} {a2 : Int32} {rz : Int32} (h : f_X7_taken P a1 a2 = some rz) : CM l G yX7_taken bX7_taken 4 (Option.some Jvm.ClassFile.FieldType.int) rm_X7_taken [.ref (gA G 17 0), .int a1, .int a2] (m1 σ 17 P) lm (some (.int rz)) (m1 σ 17 P) lm := by
  refine CM.of (own := zR7) (L0 := [(0, .ref (gA G 17 0)), (1, .int a1), (2, .int a2)]) (by decide +kernel) rfl (Nat.le_of_ble_eq_true rfl) rfl (fun X hl hX hR hQ => ?_)
  have K72 : ∀ (v3 : Int32) (_ : True), f_X7_taken_J72 P v3 = some rz → WW X G 4 (m1 σ 17 P) lm 72 [(3, .int v3)] [] := by
    intro v3 _ h
    unfold f_X7_taken_J72 at h
    refine r_iload_n hX rfl 0 rfl dX7_taken_72 ?_
    refine r_goto hX dX7_taken_73 ?_
    have g0 := Option.some.inj h
    subst g0
    exact r_iret hX hQ dX7_taken_78
  have K61 : ∀ (v2 : Int32) (v3 : Int32) (_ : True), f_X7_taken_J61 P v2 v3 = some rz → WW X G 4 (m1 σ 17 P) lm 61 [(2, .int v2), (3, .int v3)] [] := by
    intro v2 v3 _ h
    unfold f_X7_taken_J61 at h
    refine r_iload_n hX rfl 0 rfl dX7_taken_61 ?_
    refine r_iconst (v := 3) hX (by decide) dX7_taken_62 ?_
    refine r_icmp_ne hX dX7_taken_63 (fun hc => ?_) (fun hc => ?_)
    · replace h := in_e hc h
      refine r_bipush (v := (-12)) hX (by decide) dX7_taken_76 ?_
      have g0 := Option.some.inj h
      subst g0
      exact r_iret hX hQ dX7_taken_78
    · replace h := ip_e hc h
      refine r_iload_n hX rfl 1 rfl dX7_taken_66 ?_
      refine r_bipush (v := 6) hX (by decide) dX7_taken_67 ?_
      refine r_icmp_ne hX dX7_taken_69 (fun hc => ?_) (fun hc => ?_)
      · replace h := in_e hc h
        refine r_bipush (v := (-12)) hX (by decide) dX7_taken_76 ?_
        have g0 := Option.some.inj h
        subst g0
        exact r_iret hX hQ dX7_taken_78
      · replace h := ip_e hc h
        exact WW.sub [1] rfl (K72 v3 trivial h)
  have K51 : ∀ (v2 : Int32) (v3 : Int32) (_ : True), f_X7_taken_J51 P v2 v3 = some rz → WW X G 4 (m1 σ 17 P) lm 51 [(2, .int v2), (3, .int v3)] [] := by
    intro v2 v3 _ h
    unfold f_X7_taken_J51 at h
    refine r_iload_n hX rfl 0 rfl dX7_taken_51 ?_
    refine r_iconst (v := 2) hX (by decide) dX7_taken_52 ?_
    refine r_icmp_ne hX dX7_taken_53 (fun hc => ?_) (fun hc => ?_)
    · replace h := in_e hc h
      exact WW.sub [0, 1] rfl (K61 v2 v3 trivial h)
    · replace h := ip_e hc h
      refine r_iload_n hX rfl 1 rfl dX7_taken_56 ?_
      refine r_iconst (v := 5) hX (by decide) dX7_taken_57 ?_
      refine r_icmp_eq hX dX7_taken_58 (fun hc => ?_) (fun hc => ?_)
      · replace h := ip_e hc h
        exact WW.sub [1] rfl (K72 v3 trivial h)
      · replace h := in_e hc h
        exact WW.sub [0, 1] rfl (K61 v2 v3 trivial h)
  unfold f_X7_taken at h
  refine r_aload_n hX rfl 0 rfl dX7_taken_0 ?_
  refine r_iload_n hX rfl 2 rfl dX7_taken_1 ?_
  refine r_iconst (v := 0) hX (by decide) dX7_taken_2 ?_
  refine r_bipush (v := 6) hX (by decide) dX7_taken_3 ?_
  obtain ⟨x1, hc1, h⟩ := bn_e h
  refine r_callVi hX hR (c_X7_in (σ := σ) X.2.1 G hc1) rfl rfl mf_X7_in ml_X7_263 in_X7_in se_X7_in rfl rfl ⟨rfl, rfl, Nat.le_of_ble_eq_true rfl, Nat.le_of_ble_eq_true rfl⟩ rfl (st := []) rfl (Nat.le_of_ble_eq_true rfl) dX7_taken_5 ?_
  refine r_if_ne hX dX7_taken_8 (fun hc => ?_) (fun hc => ?_)
  · replace h := in_e hc h
    refine r_aload_n hX rfl 0 rfl dX7_taken_14 ?_
    refine r_iload_n hX rfl 1 rfl dX7_taken_15 ?_
    obtain ⟨x2, hc2, h⟩ := bn_e h
    refine r_callVi hX hR (c_X7_isBorrower (σ := σ) X.2.1 G hc2) rfl rfl mf_X7_isBorrower ml_X7_274 in_X7_isBorrower se_X7_isBorrower rfl rfl ⟨rfl, rfl, Nat.le_of_ble_eq_true rfl, Nat.le_of_ble_eq_true rfl⟩ rfl (st := []) rfl (Nat.le_of_ble_eq_true rfl) dX7_taken_16 ?_
    refine r_if_ne hX dX7_taken_19 (fun hc => ?_) (fun hc => ?_)
    · replace h := in_e hc h
      refine r_aload_n hX rfl 0 rfl dX7_taken_25 ?_
      refine gf_7_3 (o := 17) hX fl_X7_19 rfl m1_g dX7_taken_26 ?_
      refine r_iload_n hX rfl 1 rfl dX7_taken_29 ?_
      obtain ⟨hk3, h⟩ := kc_e h
      refine ga_7_4 (o := 17) hX rfl m1_g hk3 dX7_taken_30 ?_
      refine r_istore_n (L2 := [(3, .int (P 4 (ix a1))), (0, .ref (gA G 17 0)), (1, .int a1), (2, .int a2)]) hX rfl (by decide) rfl dX7_taken_31 ?_
      refine r_iload_n hX rfl 3 rfl dX7_taken_32 ?_
      refine r_if_eq hX dX7_taken_33 (fun hc => ?_) (fun hc => ?_)
      · replace h := ip_e hc h
        exact WW.sub [0] rfl (K72 (P 4 (ix a1)) trivial h)
      · replace h := in_e hc h
        refine r_iload_n hX rfl 0 rfl dX7_taken_36 ?_
        refine r_iload_n hX rfl 3 rfl dX7_taken_37 ?_
        refine r_icmp_eq hX dX7_taken_38 (fun hc => ?_) (fun hc => ?_)
        · replace h := ip_e hc h
          exact WW.sub [0] rfl (K72 (P 4 (ix a1)) trivial h)
        · replace h := in_e hc h
          refine r_iload_n hX rfl 3 rfl dX7_taken_41 ?_
          refine r_iconst (v := 1) hX (by decide) dX7_taken_42 ?_
          refine r_icmp_ne hX dX7_taken_43 (fun hc => ?_) (fun hc => ?_)
          · replace h := in_e hc h
            exact WW.sub [3, 0] rfl (K51 a2 (P 4 (ix a1)) trivial h)
          · replace h := ip_e hc h
            refine r_iload_n hX rfl 0 rfl dX7_taken_46 ?_
            refine r_iconst (v := 4) hX (by decide) dX7_taken_47 ?_
            refine r_icmp_eq hX dX7_taken_48 (fun hc => ?_) (fun hc => ?_)
            · replace h := ip_e hc h
              exact WW.sub [0] rfl (K72 (P 4 (ix a1)) trivial h)
            · replace h := in_e hc h
              exact WW.sub [3, 0] rfl (K51 a2 (P 4 (ix a1)) trivial h)
    · replace h := ip_e hc h
      refine r_bipush (v := (-11)) hX (by decide) dX7_taken_22 ?_
      have g0 := Option.some.inj h
      subst g0
      exact r_iret hX hQ dX7_taken_24
  · replace h := ip_e hc h
    refine r_bipush (v := (-2)) hX (by decide) dX7_taken_11 ?_
    have g0 := Option.some.inj h
    subst g0
    exact r_iret hX hQ dX7_taken_13
abbrev rm_X7_count : Room := { frames := 0, cells := 0, slots := 0, locals := 60 }
def f_X7_count (P : Pm) (a1 : Int32) : Option (Int32) :=
  (if a1 = 0 then some (P 0 1) else (if a1 = 1 then some (P 0 13) else (if a1 = 2 then some (P 0 44) else (if a1 = 3 then some (P 0 47) else (if a1 = 4 then some (P 0 48) else (if a1 = 5 then some (P 0 15) else (if a1 = 6 then some (P 0 77) else some (-2))))))))
set_option maxHeartbeats 4000000 in
set_option maxRecDepth 100000 in
theorem c_X7_count (l : Launch) (G : GE) {σ : Mm} {lm : Ml}  {P : Pm} {a1 : Int32} {rz : Int32} (h : f_X7_count P a1 = some rz) : CM l G yX7_count bX7_count 2 (Option.some Jvm.ClassFile.FieldType.int) rm_X7_count [.ref (gA G 17 0), .int a1] (m1 σ 17 P) lm (some (.int rz)) (m1 σ 17 P) lm := by
  refine CM.of (own := zR7) (L0 := [(0, .ref (gA G 17 0)), (1, .int a1)]) (by decide +kernel) rfl (Nat.le_of_ble_eq_true rfl) rfl (fun X hl hX hR hQ => ?_)
  unfold f_X7_count at h
  refine r_iload_n hX rfl 1 rfl dX7_count_0 ?_
  by_cases hc0 : a1 = 0
  · replace h := ip_e hc0 h
    refine r_tswI (k := 0) (off := 43) (tgt := 44) hX hc0 (by decide) (by decide) (by decide) dX7_count_1 ?_
    refine r_aload_n hX rfl 0 rfl dX7_count_44 ?_
    refine gf_7_1 (o := 17) hX fl_X7_13 rfl m1_g dX7_count_45 ?_
    have g0 := Option.some.inj h
    subst g0
    exact r_iret hX hQ dX7_count_48
  · replace h := in_e hc0 h
    by_cases hc1 : a1 = 1
    · replace h := ip_e hc1 h
      refine r_tswI (k := 1) (off := 48) (tgt := 49) hX hc1 (by decide) (by decide) (by decide) dX7_count_1 ?_
      refine r_aload_n hX rfl 0 rfl dX7_count_49 ?_
      refine gf_7_13 (o := 17) hX fl_X7_50 rfl m1_g dX7_count_50 ?_
      have g0 := Option.some.inj h
      subst g0
      exact r_iret hX hQ dX7_count_53
    · replace h := in_e hc1 h
      by_cases hc2 : a1 = 2
      · replace h := ip_e hc2 h
        refine r_tswI (k := 2) (off := 53) (tgt := 54) hX hc2 (by decide) (by decide) (by decide) dX7_count_1 ?_
        refine r_aload_n hX rfl 0 rfl dX7_count_54 ?_
        refine gf_7_44 (o := 17) hX fl_X7_144 rfl m1_g dX7_count_55 ?_
        have g0 := Option.some.inj h
        subst g0
        exact r_iret hX hQ dX7_count_58
      · replace h := in_e hc2 h
        by_cases hc3 : a1 = 3
        · replace h := ip_e hc3 h
          refine r_tswI (k := 3) (off := 58) (tgt := 59) hX hc3 (by decide) (by decide) (by decide) dX7_count_1 ?_
          refine r_aload_n hX rfl 0 rfl dX7_count_59 ?_
          refine gf_7_47 (o := 17) hX fl_X7_153 rfl m1_g dX7_count_60 ?_
          have g0 := Option.some.inj h
          subst g0
          exact r_iret hX hQ dX7_count_63
        · replace h := in_e hc3 h
          by_cases hc4 : a1 = 4
          · replace h := ip_e hc4 h
            refine r_tswI (k := 4) (off := 63) (tgt := 64) hX hc4 (by decide) (by decide) (by decide) dX7_count_1 ?_
            refine r_aload_n hX rfl 0 rfl dX7_count_64 ?_
            refine gf_7_48 (o := 17) hX fl_X7_156 rfl m1_g dX7_count_65 ?_
            have g0 := Option.some.inj h
            subst g0
            exact r_iret hX hQ dX7_count_68
          · replace h := in_e hc4 h
            by_cases hc5 : a1 = 5
            · replace h := ip_e hc5 h
              refine r_tswI (k := 5) (off := 68) (tgt := 69) hX hc5 (by decide) (by decide) (by decide) dX7_count_1 ?_
              refine r_aload_n hX rfl 0 rfl dX7_count_69 ?_
              refine gf_7_15 (o := 17) hX fl_X7_56 rfl m1_g dX7_count_70 ?_
              have g0 := Option.some.inj h
              subst g0
              exact r_iret hX hQ dX7_count_73
            · replace h := in_e hc5 h
              by_cases hc6 : a1 = 6
              · replace h := ip_e hc6 h
                refine r_tswI (k := 6) (off := 73) (tgt := 74) hX hc6 (by decide) (by decide) (by decide) dX7_count_1 ?_
                refine r_aload_n hX rfl 0 rfl dX7_count_74 ?_
                refine gf_7_77 (o := 17) hX fl_X7_244 rfl m1_g dX7_count_75 ?_
                have g0 := Option.some.inj h
                subst g0
                exact r_iret hX hQ dX7_count_78
              · replace h := in_e hc6 h
                have hD : WW X G 2 (m1 σ 17 P) lm 79 [(0, .ref (gA G 17 0)), (1, .int a1)] [] := by
                  refine r_bipush (v := (-2)) hX (by decide) dX7_count_79 ?_
                  have g0 := Option.some.inj h
                  subst g0
                  exact r_iret hX hQ dX7_count_81
                refine r_tswD (tgt := 79) hX ?_ (by decide) dX7_count_1 hD
                have j0 := i32n (n := 0) hc0 rfl
                have j1 := i32n (n := 1) hc1 rfl
                have j2 := i32n (n := 2) hc2 rfl
                have j3 := i32n (n := 3) hc3 rfl
                have j4 := i32n (n := 4) hc4 rfl
                have j5 := i32n (n := 5) hc5 rfl
                have j6 := i32n (n := 6) hc6 rfl
                omega
abbrev rm_X7_tape : Room := { frames := 2, cells := 0, slots := 0, locals := 104 }
def f_X7_tape_J95 (P : Pm) (lm : Ml) : Option (Int32 × Pm × Ml) :=
  some (1, P, lm)
def f_X7_tape_B69 (P : Pm) (v1 : Int32) (v4 : Int32) (lm : Ml) : Option ((Int32 × Ml) ⊕ (Ml)) :=
  (if 60 ≤ v4 then some (.inr lm) else (if inb ((60 * v1) + v4) 360 = true then nb (setO lm 17 (up2L (lm 17) 82 (ix ((60 * v1) + v4)) 0)) (fun lm1 => some (.inl ((v4 + 1), lm1))) else none))
def f_X7_tape_H69 (P : Pm) (lm : Ml) (v1 : Int32) (v4 : Int32) : Option (Int32 × Pm × Ml) :=
  Option.bind (iter (fun t => f_X7_tape_B69 P v1 t.1 t.2) 200 (v4, lm)) (fun lm => f_X7_tape_J95 P lm)
def f_X7_tape_J65 (P : Pm) (lm : Ml) (v1 : Int32) (w0 : Int32) (w1 : Int32) : Option (Int32 × Pm × Ml) :=
  (if inb w1 6 = true then nb (up2 P 81 (ix w1) w0) (fun P4 => f_X7_tape_H69 P4 lm v1 0) else none)
def f_X7_tape_J44 (P : Pm) (lm : Ml) (v1 : Int32) (v2 : Int32) (v3 : Int32) : Option (Int32 × Pm × Ml) :=
  (if inb v1 6 = true then nb (up2 P 80 (ix v1) v2) (fun P6 => (if 0 ≤ v2 then f_X7_tape_J65 P6 lm v1 v3 v1 else f_X7_tape_J65 P6 lm v1 0 v1)) else none)
def f_X7_tape_J33 (P : Pm) (lm : Ml) (v1 : Int32) (v2 : Int32) (v3 : Int32) : Option (Int32 × Pm × Ml) :=
  (if v2 < 0 then f_X7_tape_J44 P lm v1 v2 v3 else (if 0 ≤ v3 then f_X7_tape_J44 P lm v1 v2 v3 else some ((-14), P, lm)))
def f_X7_tape (P : Pm) (lm : Ml) (a1 : Int32) (a2 : Int32) (a3 : Int32) : Option (Int32 × Pm × Ml) :=
  Option.bind (f_X7_isTape P a1) (fun x7 => (if x7 = 0 then some ((-1), P, lm) else Option.bind (f_X7_in P a2 (-1) 4) (fun x8 => (if x8 = 0 then some ((-2), P, lm) else (if a2 < 0 then f_X7_tape_J33 P lm a1 a2 a3 else (if a3 ≤ 60 then f_X7_tape_J33 P lm a1 a2 a3 else some ((-2), P, lm)))))))
set_option maxHeartbeats 4000000 in
set_option maxRecDepth 100000 in
theorem c_X7_tape (l : Launch) (G : GE) {σ : Mm}  {P : Pm} {lm : Ml} {a1 : Int32} {a2 : Int32} {a3 : Int32} {rz : Int32} {Pz : Pm} {lmz : Ml} (h : f_X7_tape P lm a1 a2 a3 = some (rz, Pz, lmz)) : CM l G yX7_tape bX7_tape 5 (Option.some Jvm.ClassFile.FieldType.int) rm_X7_tape [.ref (gA G 17 0), .int a1, .int a2, .int a3] (m1 σ 17 P) lm (some (.int rz)) (m1 σ 17 Pz) lmz := by
  refine CM.of (own := zR7) (L0 := [(0, .ref (gA G 17 0)), (1, .int a1), (2, .int a2), (3, .int a3)]) (by decide +kernel) rfl (Nat.le_of_ble_eq_true rfl) rfl (fun X hl hX hR hQ => ?_)
  have K95 : ∀ (P : Pm) (lm : Ml) (_ : True), f_X7_tape_J95 P lm = some (rz, Pz, lmz) → WW X G 5 (m1 σ 17 P) lm 95 [] [] := by
    intro P lm _ h
    unfold f_X7_tape_J95 at h
    refine r_iconst (v := 1) hX (by decide) dX7_tape_95 ?_
    have g0 := Option.some.inj h
    obtain ⟨q0, g1⟩ := Prod.mk.inj g0
    obtain ⟨q1, g2⟩ := Prod.mk.inj g1
    subst q0
    subst q1
    subst g2
    exact r_iret hX hQ dX7_tape_96
  have K69 : ∀ (P : Pm) (lm : Ml) (v1 : Int32) (v4 : Int32) (_ : True), f_X7_tape_H69 P lm v1 v4 = some (rz, Pz, lmz) → WW X G 5 (m1 σ 17 P) lm 69 [(0, .ref (gA G 17 0)), (1, .int v1), (4, .int v4)] [] := by
    intro P lm v1 v4 _ h
    unfold f_X7_tape_H69 at h
    obtain ⟨e_lm, hit, hO⟩ := bn_e h
    refine iter_w (P := fun t : Int32 × Ml => WW X G 5 (m1 σ 17 P) t.2 69 [(0, .ref (gA G 17 0)), (1, .int v1), (4, .int t.1)] []) (x := e_lm) ?_ 200 (v4, lm) hit
    clear hit
    intro t z1 hb hin1 hex1
    obtain ⟨v4, lm⟩ := t
    have h : f_X7_tape_B69 P v1 v4 lm = some z1 := hb
    clear hb
    unfold f_X7_tape_B69 at h
    refine r_iload hX 2 rfl dX7_tape_69 ?_
    refine r_bipush (v := 60) hX (by decide) dX7_tape_71 ?_
    refine r_icmp_ge hX dX7_tape_73 (fun hc => ?_) (fun hc => ?_)
    · replace h := ip_e hc h
      have g0 := hex1 _ (Option.some.inj h).symm
      subst g0
      exact WW.sub [] rfl (K95 P lm trivial hO)
    · replace h := in_e hc h
      refine r_aload_n hX rfl 0 rfl dX7_tape_76 ?_
      refine gf_7_81 (o := 17) hX fl_X7_256 rfl m1_g dX7_tape_77 ?_
      refine r_bipush (v := 60) hX (by decide) dX7_tape_80 ?_
      refine r_iload_n hX rfl 1 rfl dX7_tape_82 ?_
      refine r_imul hX dX7_tape_83 ?_
      refine r_iload hX 2 rfl dX7_tape_84 ?_
      refine r_iadd hX dX7_tape_86 ?_
      refine r_lconst (v := 0) hX (by decide) dX7_tape_87 ?_
      obtain ⟨hk2, h⟩ := kc_e h
      obtain ⟨lm1, hlm1, h⟩ := nb_e h
      refine pa_7_82 (o := 17) hX rfl hk2 hlm1.symm dX7_tape_88 ?_
      refine r_iinc (v := v4 + 1) (L2 := [(4, .int (v4 + 1)), (0, .ref (gA G 17 0)), (1, .int v1)]) hX 2 rfl rfl (by decide) rfl dX7_tape_89 ?_
      refine r_goto hX dX7_tape_92 ?_
      exact WW.sub [1, 2, 0] rfl (hin1 _ (Option.some.inj h).symm)
  have K65 : ∀ (P : Pm) (lm : Ml) (v1 : Int32) (w0 : Int32) (w1 : Int32) (_ : True), f_X7_tape_J65 P lm v1 w0 w1 = some (rz, Pz, lmz) → WW X G 5 (m1 σ 17 P) lm 65 [(0, .ref (gA G 17 0)), (1, .int v1)] [.int w0, .int w1, .ref (gA G 17 81)] := by
    intro P lm v1 w0 w1 _ h
    unfold f_X7_tape_J65 at h
    obtain ⟨hk3, h⟩ := kc_e h
    obtain ⟨P4, hP4, h⟩ := nb_e h
    refine pa_7_81 (o := 17) hX rfl m1_g hk3 (m1_w hP4) dX7_tape_65 ?_
    refine r_iconst (v := 0) hX (by decide) dX7_tape_66 ?_
    refine r_istore (L2 := [(4, .int 0), (0, .ref (gA G 17 0)), (1, .int v1)]) hX (by decide) rfl dX7_tape_67 ?_
    exact WW.sub [1, 2, 0] rfl (K69 P4 lm v1 0 trivial h)
  have K44 : ∀ (P : Pm) (lm : Ml) (v1 : Int32) (v2 : Int32) (v3 : Int32) (_ : True), f_X7_tape_J44 P lm v1 v2 v3 = some (rz, Pz, lmz) → WW X G 5 (m1 σ 17 P) lm 44 [(0, .ref (gA G 17 0)), (1, .int v1), (2, .int v2), (3, .int v3)] [] := by
    intro P lm v1 v2 v3 _ h
    unfold f_X7_tape_J44 at h
    refine r_aload_n hX rfl 0 rfl dX7_tape_44 ?_
    refine gf_7_79 (o := 17) hX fl_X7_250 rfl m1_g dX7_tape_45 ?_
    refine r_iload_n hX rfl 1 rfl dX7_tape_48 ?_
    refine r_iload_n hX rfl 2 rfl dX7_tape_49 ?_
    obtain ⟨hk5, h⟩ := kc_e h
    obtain ⟨P6, hP6, h⟩ := nb_e h
    refine pa_7_80 (o := 17) hX rfl m1_g hk5 (m1_w hP6) dX7_tape_50 ?_
    refine r_aload_n hX rfl 0 rfl dX7_tape_51 ?_
    refine gf_7_80 (o := 17) hX fl_X7_253 rfl m1_g dX7_tape_52 ?_
    refine r_iload_n hX rfl 1 rfl dX7_tape_55 ?_
    refine r_iload_n hX rfl 2 rfl dX7_tape_56 ?_
    refine r_if_ge hX dX7_tape_57 (fun hc => ?_) (fun hc => ?_)
    · replace h := ip_e hc h
      refine r_iload_n hX rfl 3 rfl dX7_tape_64 ?_
      exact WW.sub [0, 1] rfl (K65 P6 lm v1 v3 v1 trivial h)
    · replace h := in_e hc h
      refine r_iconst (v := 0) hX (by decide) dX7_tape_60 ?_
      refine r_goto hX dX7_tape_61 ?_
      exact WW.sub [0, 1] rfl (K65 P6 lm v1 0 v1 trivial h)
  have K33 : ∀ (P : Pm) (lm : Ml) (v1 : Int32) (v2 : Int32) (v3 : Int32) (_ : True), f_X7_tape_J33 P lm v1 v2 v3 = some (rz, Pz, lmz) → WW X G 5 (m1 σ 17 P) lm 33 [(0, .ref (gA G 17 0)), (1, .int v1), (2, .int v2), (3, .int v3)] [] := by
    intro P lm v1 v2 v3 _ h
    unfold f_X7_tape_J33 at h
    refine r_iload_n hX rfl 2 rfl dX7_tape_33 ?_
    refine r_if_lt hX dX7_tape_34 (fun hc => ?_) (fun hc => ?_)
    · replace h := ip_e hc h
      exact WW.sub [0, 1, 2, 3] rfl (K44 P lm v1 v2 v3 trivial h)
    · replace h := in_e hc h
      refine r_iload_n hX rfl 3 rfl dX7_tape_37 ?_
      refine r_if_ge hX dX7_tape_38 (fun hc => ?_) (fun hc => ?_)
      · replace h := ip_e hc h
        exact WW.sub [0, 1, 2, 3] rfl (K44 P lm v1 v2 v3 trivial h)
      · replace h := in_e hc h
        refine r_bipush (v := (-14)) hX (by decide) dX7_tape_41 ?_
        have g0 := Option.some.inj h
        obtain ⟨q0, g1⟩ := Prod.mk.inj g0
        obtain ⟨q1, g2⟩ := Prod.mk.inj g1
        subst q0
        subst q1
        subst g2
        exact r_iret hX hQ dX7_tape_43
  unfold f_X7_tape at h
  refine r_aload_n hX rfl 0 rfl dX7_tape_0 ?_
  refine r_iload_n hX rfl 1 rfl dX7_tape_1 ?_
  obtain ⟨x7, hc7, h⟩ := bn_e h
  refine r_callVi hX hR (c_X7_isTape (σ := σ) X.2.1 G hc7) rfl rfl mf_X7_isTape ml_X7_424 in_X7_isTape se_X7_isTape rfl rfl ⟨rfl, rfl, Nat.le_of_ble_eq_true rfl, Nat.le_of_ble_eq_true rfl⟩ rfl (st := []) rfl (Nat.le_of_ble_eq_true rfl) dX7_tape_2 ?_
  refine r_if_ne hX dX7_tape_5 (fun hc => ?_) (fun hc => ?_)
  · replace h := in_e hc h
    refine r_aload_n hX rfl 0 rfl dX7_tape_10 ?_
    refine r_iload_n hX rfl 2 rfl dX7_tape_11 ?_
    refine r_iconst (v := (-1)) hX (by decide) dX7_tape_12 ?_
    refine r_iconst (v := 4) hX (by decide) dX7_tape_13 ?_
    obtain ⟨x8, hc8, h⟩ := bn_e h
    refine r_callVi hX hR (c_X7_in (σ := σ) X.2.1 G hc8) rfl rfl mf_X7_in ml_X7_263 in_X7_in se_X7_in rfl rfl ⟨rfl, rfl, Nat.le_of_ble_eq_true rfl, Nat.le_of_ble_eq_true rfl⟩ rfl (st := []) rfl (Nat.le_of_ble_eq_true rfl) dX7_tape_14 ?_
    refine r_if_eq hX dX7_tape_17 (fun hc => ?_) (fun hc => ?_)
    · replace h := ip_e hc h
      refine r_bipush (v := (-2)) hX (by decide) dX7_tape_30 ?_
      have g0 := Option.some.inj h
      obtain ⟨q0, g1⟩ := Prod.mk.inj g0
      obtain ⟨q1, g2⟩ := Prod.mk.inj g1
      subst q0
      subst q1
      subst g2
      exact r_iret hX hQ dX7_tape_32
    · replace h := in_e hc h
      refine r_iload_n hX rfl 2 rfl dX7_tape_20 ?_
      refine r_if_lt hX dX7_tape_21 (fun hc => ?_) (fun hc => ?_)
      · replace h := ip_e hc h
        exact WW.sub [0, 1, 2, 3] rfl (K33 P lm a1 a2 a3 trivial h)
      · replace h := in_e hc h
        refine r_iload_n hX rfl 3 rfl dX7_tape_24 ?_
        refine r_bipush (v := 60) hX (by decide) dX7_tape_25 ?_
        refine r_icmp_le hX dX7_tape_27 (fun hc => ?_) (fun hc => ?_)
        · replace h := ip_e hc h
          exact WW.sub [0, 1, 2, 3] rfl (K33 P lm a1 a2 a3 trivial h)
        · replace h := in_e hc h
          refine r_bipush (v := (-2)) hX (by decide) dX7_tape_30 ?_
          have g0 := Option.some.inj h
          obtain ⟨q0, g1⟩ := Prod.mk.inj g0
          obtain ⟨q1, g2⟩ := Prod.mk.inj g1
          subst q0
          subst q1
          subst g2
          exact r_iret hX hQ dX7_tape_32
  · replace h := ip_e hc h
    refine r_iconst (v := (-1)) hX (by decide) dX7_tape_8 ?_
    have g0 := Option.some.inj h
    obtain ⟨q0, g1⟩ := Prod.mk.inj g0
    obtain ⟨q1, g2⟩ := Prod.mk.inj g1
    subst q0
    subst q1
    subst g2
    exact r_iret hX hQ dX7_tape_9
abbrev rm_X7_narrow : Room := { frames := 0, cells := 0, slots := 0, locals := 60 }
def f_X7_narrow (P : Pm) (a1 : Int32) (a2 : Int64) : Option (Int64) :=
  (if a1 = 0 then some a2.toInt32.toInt8.toInt32.toInt64 else (if a1 = 1 then some a2.toInt32.toInt16.toInt32.toInt64 else (if a1 = 2 then some a2.toInt32.toInt64 else (if a1 = 4 then (if (lg_cmp a2 0) = 0 then some 0 else some 1) else some a2))))
set_option maxHeartbeats 4000000 in
set_option maxRecDepth 100000 in
theorem c_X7_narrow (l : Launch) (G : GE) {σ : Mm} {lm : Ml}  {P : Pm} {a1 : Int32} {a2 : Int64} {rz : Int64} (h : f_X7_narrow P a1 a2 = some rz) : CM l G yX7_narrow bX7_narrow 4 (Option.some Jvm.ClassFile.FieldType.long) rm_X7_narrow [.ref (gA G 17 0), .int a1, .long a2] (m1 σ 17 P) lm (some (.long rz)) (m1 σ 17 P) lm := by
  refine CM.of (own := zR7) (L0 := [(0, .ref (gA G 17 0)), (1, .int a1), (2, .long a2)]) (by decide +kernel) rfl (Nat.le_of_ble_eq_true rfl) rfl (fun X hl hX hR hQ => ?_)
  unfold f_X7_narrow at h
  refine r_iload_n hX rfl 1 rfl dX7_narrow_0 ?_
  refine r_if_ne hX dX7_narrow_1 (fun hc => ?_) (fun hc => ?_)
  · replace h := in_e hc h
    refine r_iload_n hX rfl 1 rfl dX7_narrow_11 ?_
    refine r_iconst (v := 1) hX (by decide) dX7_narrow_12 ?_
    refine r_icmp_ne hX dX7_narrow_13 (fun hc => ?_) (fun hc => ?_)
    · replace h := in_e hc h
      refine r_iload_n hX rfl 1 rfl dX7_narrow_23 ?_
      refine r_iconst (v := 2) hX (by decide) dX7_narrow_24 ?_
      refine r_icmp_ne hX dX7_narrow_25 (fun hc => ?_) (fun hc => ?_)
      · replace h := in_e hc h
        refine r_iload_n hX rfl 1 rfl dX7_narrow_34 ?_
        refine r_iconst (v := 4) hX (by decide) dX7_narrow_35 ?_
        refine r_icmp_ne hX dX7_narrow_36 (fun hc => ?_) (fun hc => ?_)
        · replace h := in_e hc h
          refine r_lload_n hX rfl 2 rfl dX7_narrow_53 ?_
          have g0 := Option.some.inj h
          subst g0
          exact r_lret hX hQ dX7_narrow_54
        · replace h := ip_e hc h
          refine r_lload_n hX rfl 2 rfl dX7_narrow_39 ?_
          refine r_lconst (v := 0) hX (by decide) dX7_narrow_40 ?_
          refine r_lcmp hX dX7_narrow_41 ?_
          refine r_if_eq hX dX7_narrow_42 (fun hc => ?_) (fun hc => ?_)
          · replace h := ip_e hc h
            refine r_lconst (v := 0) hX (by decide) dX7_narrow_49 ?_
            refine r_goto hX dX7_narrow_50 ?_
            have g0 := Option.some.inj h
            subst g0
            exact r_lret hX hQ dX7_narrow_54
          · replace h := in_e hc h
            refine r_lconst (v := 1) hX (by decide) dX7_narrow_45 ?_
            refine r_goto hX dX7_narrow_46 ?_
            have g0 := Option.some.inj h
            subst g0
            exact r_lret hX hQ dX7_narrow_54
      · replace h := ip_e hc h
        refine r_lload_n hX rfl 2 rfl dX7_narrow_28 ?_
        refine r_l2i hX dX7_narrow_29 ?_
        refine r_i2l hX dX7_narrow_30 ?_
        refine r_goto hX dX7_narrow_31 ?_
        have g0 := Option.some.inj h
        subst g0
        exact r_lret hX hQ dX7_narrow_54
    · replace h := ip_e hc h
      refine r_lload_n hX rfl 2 rfl dX7_narrow_16 ?_
      refine r_l2i hX dX7_narrow_17 ?_
      refine r_i2s hX dX7_narrow_18 ?_
      refine r_i2l hX dX7_narrow_19 ?_
      refine r_goto hX dX7_narrow_20 ?_
      have g0 := Option.some.inj h
      subst g0
      exact r_lret hX hQ dX7_narrow_54
  · replace h := ip_e hc h
    refine r_lload_n hX rfl 2 rfl dX7_narrow_4 ?_
    refine r_l2i hX dX7_narrow_5 ?_
    refine r_i2b hX dX7_narrow_6 ?_
    refine r_i2l hX dX7_narrow_7 ?_
    refine r_goto hX dX7_narrow_8 ?_
    have g0 := Option.some.inj h
    subst g0
    exact r_lret hX hQ dX7_narrow_54
abbrev rm_X7_item : Room := { frames := 2, cells := 0, slots := 0, locals := 104 }
def f_X7_item (P : Pm) (lm : Ml) (a1 : Int32) (a2 : Int32) (a3 : Int64) : Option (Int32 × Ml) :=
  Option.bind (f_X7_isTape P a1) (fun x1 => (if x1 = 0 then some ((-1), lm) else (if inb a1 6 = true then (if 0 ≤ (P 80 (ix a1)) then (if inb a1 6 = true then Option.bind (f_X7_in P a2 0 ((P 81 (ix a1)) - 1)) (fun x4 => (if x4 = 0 then some ((-13), lm) else (if inb a1 6 = true then Option.bind (f_X7_narrow P (P 80 (ix a1)) a3) (fun x6 => (if inb ((60 * a1) + a2) 360 = true then nb (setO lm 17 (up2L (lm 17) 82 (ix ((60 * a1) + a2)) x6)) (fun lm7 => some (1, lm7)) else none)) else none))) else none) else some ((-11), lm)) else none)))
set_option maxHeartbeats 4000000 in
set_option maxRecDepth 100000 in
theorem c_X7_item (l : Launch) (G : GE) {σ : Mm}  {P : Pm} {lm : Ml} {a1 : Int32} {a2 : Int32} {a3 : Int64} {rz : Int32} {lmz : Ml} (h : f_X7_item P lm a1 a2 a3 = some (rz, lmz)) : CM l G yX7_item bX7_item 5 (Option.some Jvm.ClassFile.FieldType.int) rm_X7_item [.ref (gA G 17 0), .int a1, .int a2, .long a3] (m1 σ 17 P) lm (some (.int rz)) (m1 σ 17 P) lmz := by
  refine CM.of (own := zR7) (L0 := [(0, .ref (gA G 17 0)), (1, .int a1), (2, .int a2), (3, .long a3)]) (by decide +kernel) rfl (Nat.le_of_ble_eq_true rfl) rfl (fun X hl hX hR hQ => ?_)
  unfold f_X7_item at h
  refine r_aload_n hX rfl 0 rfl dX7_item_0 ?_
  refine r_iload_n hX rfl 1 rfl dX7_item_1 ?_
  obtain ⟨x1, hc1, h⟩ := bn_e h
  refine r_callVi hX hR (c_X7_isTape (σ := σ) X.2.1 G hc1) rfl rfl mf_X7_isTape ml_X7_424 in_X7_isTape se_X7_isTape rfl rfl ⟨rfl, rfl, Nat.le_of_ble_eq_true rfl, Nat.le_of_ble_eq_true rfl⟩ rfl (st := []) rfl (Nat.le_of_ble_eq_true rfl) dX7_item_2 ?_
  refine r_if_ne hX dX7_item_5 (fun hc => ?_) (fun hc => ?_)
  · replace h := in_e hc h
    refine r_aload_n hX rfl 0 rfl dX7_item_10 ?_
    refine gf_7_79 (o := 17) hX fl_X7_250 rfl m1_g dX7_item_11 ?_
    refine r_iload_n hX rfl 1 rfl dX7_item_14 ?_
    obtain ⟨hk2, h⟩ := kc_e h
    refine ga_7_80 (o := 17) hX rfl m1_g hk2 dX7_item_15 ?_
    refine r_if_ge hX dX7_item_16 (fun hc => ?_) (fun hc => ?_)
    · replace h := ip_e hc h
      refine r_aload_n hX rfl 0 rfl dX7_item_22 ?_
      refine r_iload_n hX rfl 2 rfl dX7_item_23 ?_
      refine r_iconst (v := 0) hX (by decide) dX7_item_24 ?_
      refine r_aload_n hX rfl 0 rfl dX7_item_25 ?_
      refine gf_7_80 (o := 17) hX fl_X7_253 rfl m1_g dX7_item_26 ?_
      refine r_iload_n hX rfl 1 rfl dX7_item_29 ?_
      obtain ⟨hk3, h⟩ := kc_e h
      refine ga_7_81 (o := 17) hX rfl m1_g hk3 dX7_item_30 ?_
      refine r_iconst (v := 1) hX (by decide) dX7_item_31 ?_
      refine r_isub hX dX7_item_32 ?_
      obtain ⟨x4, hc4, h⟩ := bn_e h
      refine r_callVi hX hR (c_X7_in (σ := σ) X.2.1 G hc4) rfl rfl mf_X7_in ml_X7_263 in_X7_in se_X7_in rfl rfl ⟨rfl, rfl, Nat.le_of_ble_eq_true rfl, Nat.le_of_ble_eq_true rfl⟩ rfl (st := []) rfl (Nat.le_of_ble_eq_true rfl) dX7_item_33 ?_
      refine r_if_ne hX dX7_item_36 (fun hc => ?_) (fun hc => ?_)
      · replace h := in_e hc h
        refine r_aload_n hX rfl 0 rfl dX7_item_42 ?_
        refine gf_7_81 (o := 17) hX fl_X7_256 rfl m1_g dX7_item_43 ?_
        refine r_bipush (v := 60) hX (by decide) dX7_item_46 ?_
        refine r_iload_n hX rfl 1 rfl dX7_item_48 ?_
        refine r_imul hX dX7_item_49 ?_
        refine r_iload_n hX rfl 2 rfl dX7_item_50 ?_
        refine r_iadd hX dX7_item_51 ?_
        refine r_aload_n hX rfl 0 rfl dX7_item_52 ?_
        refine r_aload_n hX rfl 0 rfl dX7_item_53 ?_
        refine gf_7_79 (o := 17) hX fl_X7_250 rfl m1_g dX7_item_54 ?_
        refine r_iload_n hX rfl 1 rfl dX7_item_57 ?_
        obtain ⟨hk5, h⟩ := kc_e h
        refine ga_7_80 (o := 17) hX rfl m1_g hk5 dX7_item_58 ?_
        refine r_lload_n hX rfl 3 rfl dX7_item_59 ?_
        obtain ⟨x6, hc6, h⟩ := bn_e h
        refine r_callVi hX hR (c_X7_narrow (σ := σ) X.2.1 G hc6) rfl rfl mf_X7_narrow ml_X7_451 in_X7_narrow se_X7_narrow rfl rfl ⟨rfl, rfl, Nat.le_of_ble_eq_true rfl, Nat.le_of_ble_eq_true rfl⟩ rfl (st := [.int ((60 * a1) + a2), .ref (gA G 17 82)]) rfl (Nat.le_of_ble_eq_true rfl) dX7_item_60 ?_
        obtain ⟨hk8, h⟩ := kc_e h
        obtain ⟨lm7, hlm7, h⟩ := nb_e h
        refine pa_7_82 (o := 17) hX rfl hk8 hlm7.symm dX7_item_63 ?_
        refine r_iconst (v := 1) hX (by decide) dX7_item_64 ?_
        have g0 := Option.some.inj h
        obtain ⟨q0, g1⟩ := Prod.mk.inj g0
        subst q0
        subst g1
        exact r_iret hX hQ dX7_item_65
      · replace h := ip_e hc h
        refine r_bipush (v := (-13)) hX (by decide) dX7_item_39 ?_
        have g0 := Option.some.inj h
        obtain ⟨q0, g1⟩ := Prod.mk.inj g0
        subst q0
        subst g1
        exact r_iret hX hQ dX7_item_41
    · replace h := in_e hc h
      refine r_bipush (v := (-11)) hX (by decide) dX7_item_19 ?_
      have g0 := Option.some.inj h
      obtain ⟨q0, g1⟩ := Prod.mk.inj g0
      subst q0
      subst g1
      exact r_iret hX hQ dX7_item_21
  · replace h := ip_e hc h
    refine r_iconst (v := (-1)) hX (by decide) dX7_item_8 ?_
    have g0 := Option.some.inj h
    obtain ⟨q0, g1⟩ := Prod.mk.inj g0
    subst q0
    subst g1
    exact r_iret hX hQ dX7_item_9
abbrev rm_X7_read : Room := { frames := 2, cells := 0, slots := 0, locals := 104 }
def f_X7_read_J34 (P : Pm) (lm : Ml) : Option (Int64) :=
  some (-9223372036854775808)
def f_X7_read (P : Pm) (lm : Ml) (a1 : Int32) (a2 : Int32) : Option (Int64) :=
  Option.bind (f_X7_isTape P a1) (fun x1 => (if x1 = 0 then f_X7_read_J34 P lm else (if inb a1 6 = true then (if (P 80 (ix a1)) < 0 then f_X7_read_J34 P lm else (if inb a1 6 = true then Option.bind (f_X7_in P a2 0 ((P 81 (ix a1)) - 1)) (fun x4 => (if x4 = 0 then f_X7_read_J34 P lm else (if inb ((60 * a1) + a2) 360 = true then some (lm 17 82 (ix ((60 * a1) + a2))) else none))) else none)) else none)))
set_option maxHeartbeats 4000000 in
set_option maxRecDepth 100000 in
theorem c_X7_read (l : Launch) (G : GE) {σ : Mm}  {P : Pm} {lm : Ml} {a1 : Int32} {a2 : Int32} {rz : Int64} (h : f_X7_read P lm a1 a2 = some rz) : CM l G yX7_read bX7_read 3 (Option.some Jvm.ClassFile.FieldType.long) rm_X7_read [.ref (gA G 17 0), .int a1, .int a2] (m1 σ 17 P) lm (some (.long rz)) (m1 σ 17 P) lm := by
  refine CM.of (own := zR7) (L0 := [(0, .ref (gA G 17 0)), (1, .int a1), (2, .int a2)]) (by decide +kernel) rfl (Nat.le_of_ble_eq_true rfl) rfl (fun X hl hX hR hQ => ?_)
  have K34 : ∀ (_ : True), f_X7_read_J34 P lm = some rz → WW X G 3 (m1 σ 17 P) lm 34 [] [] := by
    intro _ h
    unfold f_X7_read_J34 at h
    refine r_ldc2 hX cl_X7_418 dX7_read_34 ?_
    refine r_goto hX dX7_read_37 ?_
    have g0 := Option.some.inj h
    subst g0
    exact r_lret hX hQ dX7_read_51
  unfold f_X7_read at h
  refine r_aload_n hX rfl 0 rfl dX7_read_0 ?_
  refine r_iload_n hX rfl 1 rfl dX7_read_1 ?_
  obtain ⟨x1, hc1, h⟩ := bn_e h
  refine r_callVi hX hR (c_X7_isTape (σ := σ) X.2.1 G hc1) rfl rfl mf_X7_isTape ml_X7_424 in_X7_isTape se_X7_isTape rfl rfl ⟨rfl, rfl, Nat.le_of_ble_eq_true rfl, Nat.le_of_ble_eq_true rfl⟩ rfl (st := []) rfl (Nat.le_of_ble_eq_true rfl) dX7_read_2 ?_
  refine r_if_eq hX dX7_read_5 (fun hc => ?_) (fun hc => ?_)
  · replace h := ip_e hc h
    exact WW.sub [] rfl (K34 trivial h)
  · replace h := in_e hc h
    refine r_aload_n hX rfl 0 rfl dX7_read_8 ?_
    refine gf_7_79 (o := 17) hX fl_X7_250 rfl m1_g dX7_read_9 ?_
    refine r_iload_n hX rfl 1 rfl dX7_read_12 ?_
    obtain ⟨hk2, h⟩ := kc_e h
    refine ga_7_80 (o := 17) hX rfl m1_g hk2 dX7_read_13 ?_
    refine r_if_lt hX dX7_read_14 (fun hc => ?_) (fun hc => ?_)
    · replace h := ip_e hc h
      exact WW.sub [] rfl (K34 trivial h)
    · replace h := in_e hc h
      refine r_aload_n hX rfl 0 rfl dX7_read_17 ?_
      refine r_iload_n hX rfl 2 rfl dX7_read_18 ?_
      refine r_iconst (v := 0) hX (by decide) dX7_read_19 ?_
      refine r_aload_n hX rfl 0 rfl dX7_read_20 ?_
      refine gf_7_80 (o := 17) hX fl_X7_253 rfl m1_g dX7_read_21 ?_
      refine r_iload_n hX rfl 1 rfl dX7_read_24 ?_
      obtain ⟨hk3, h⟩ := kc_e h
      refine ga_7_81 (o := 17) hX rfl m1_g hk3 dX7_read_25 ?_
      refine r_iconst (v := 1) hX (by decide) dX7_read_26 ?_
      refine r_isub hX dX7_read_27 ?_
      obtain ⟨x4, hc4, h⟩ := bn_e h
      refine r_callVi hX hR (c_X7_in (σ := σ) X.2.1 G hc4) rfl rfl mf_X7_in ml_X7_263 in_X7_in se_X7_in rfl rfl ⟨rfl, rfl, Nat.le_of_ble_eq_true rfl, Nat.le_of_ble_eq_true rfl⟩ rfl (st := []) rfl (Nat.le_of_ble_eq_true rfl) dX7_read_28 ?_
      refine r_if_ne hX dX7_read_31 (fun hc => ?_) (fun hc => ?_)
      · replace h := in_e hc h
        refine r_aload_n hX rfl 0 rfl dX7_read_40 ?_
        refine gf_7_81 (o := 17) hX fl_X7_256 rfl m1_g dX7_read_41 ?_
        refine r_bipush (v := 60) hX (by decide) dX7_read_44 ?_
        refine r_iload_n hX rfl 1 rfl dX7_read_46 ?_
        refine r_imul hX dX7_read_47 ?_
        refine r_iload_n hX rfl 2 rfl dX7_read_48 ?_
        refine r_iadd hX dX7_read_49 ?_
        obtain ⟨hk5, h⟩ := kc_e h
        refine ga_7_82 (o := 17) hX rfl hk5 dX7_read_50 ?_
        have g0 := Option.some.inj h
        subst g0
        exact r_lret hX hQ dX7_read_51
      · replace h := ip_e hc h
        exact WW.sub [] rfl (K34 trivial h)
abbrev rm_X7_shift : Room := { frames := 2, cells := 0, slots := 0, locals := 104 }
def f_X7_shift_J176 (P : Pm) (lm : Ml) (v5 : Int32) : Option (Int32 × Ml) :=
  some (v5, lm)
def f_X7_shift_B141 (P : Pm) (v3 : Int32) (v4 : Int32) (v5 : Int32) (v6 : Int32) (lm : Ml) : Option ((Int32 × Ml) ⊕ (Ml)) :=
  (if v5 ≤ v6 then some (.inr lm) else (if inb v6 60 = true then (if inb (((60 * v3) + v4) + v6) 360 = true then nb (setO lm 17 (up2L (lm 17) 82 (ix (((60 * v3) + v4) + v6)) (lm 17 83 (ix v6)))) (fun lm2 => some (.inl ((v6 + 1), lm2))) else none) else none))
def f_X7_shift_H141 (P : Pm) (lm : Ml) (v3 : Int32) (v4 : Int32) (v5 : Int32) (v6 : Int32) : Option (Int32 × Ml) :=
  Option.bind (iter (fun t => f_X7_shift_B141 P v3 v4 v5 t.1 t.2) 200 (v6, lm)) (fun lm => f_X7_shift_J176 P lm v5)
def f_X7_shift_J138 (P : Pm) (lm : Ml) (v3 : Int32) (v4 : Int32) (v5 : Int32) : Option (Int32 × Ml) :=
  f_X7_shift_H141 P lm v3 v4 v5 0
def f_X7_shift_B104 (P : Pm) (v1 : Int32) (v2 : Int32) (v3 : Int32) (v4 : Int32) (v5 : Int32) (v6 : Int32) (lm : Ml) : Option ((Int32 × Ml) ⊕ (Ml)) :=
  (if v5 ≤ v6 then some (.inr lm) else (if inb (((60 * v1) + v2) + v6) 360 = true then (if inb v6 60 = true then nb (setO lm 17 (up2L (lm 17) 83 (ix v6) (lm 17 82 (ix (((60 * v1) + v2) + v6))))) (fun lm5 => some (.inl ((v6 + 1), lm5))) else none) else none))
def f_X7_shift_H104 (P : Pm) (lm : Ml) (v1 : Int32) (v2 : Int32) (v3 : Int32) (v4 : Int32) (v5 : Int32) (v6 : Int32) : Option (Int32 × Ml) :=
  Option.bind (iter (fun t => f_X7_shift_B104 P v1 v2 v3 v4 v5 t.1 t.2) 200 (v6, lm)) (fun lm => f_X7_shift_J138 P lm v3 v4 v5)
def f_X7_shift (P : Pm) (lm : Ml) (a1 : Int32) (a2 : Int32) (a3 : Int32) (a4 : Int32) (a5 : Int32) : Option (Int32 × Ml) :=
  Option.bind (f_X7_isTape P a1) (fun x7 => (if x7 = 0 then some ((-1), lm) else Option.bind (f_X7_isTape P a3) (fun x8 => (if x8 = 0 then some ((-1), lm) else (if inb a1 6 = true then (if (P 80 (ix a1)) < 0 then some ((-11), lm) else (if inb a3 6 = true then (if 0 ≤ (P 80 (ix a3)) then (if inb a1 6 = true then (if inb a3 6 = true then (if (P 80 (ix a1)) = (P 80 (ix a3)) then (if a5 < 0 then some ((-13), lm) else (if a2 < 0 then some ((-13), lm) else (if a4 < 0 then some ((-13), lm) else (if inb a1 6 = true then (if ((P 81 (ix a1)) - a5) < a2 then some ((-13), lm) else (if inb a3 6 = true then (if a4 ≤ ((P 81 (ix a3)) - a5) then f_X7_shift_H104 P lm a1 a2 a3 a4 a5 0 else some ((-13), lm)) else none)) else none)))) else some ((-12), lm)) else none) else none) else some ((-11), lm)) else none)) else none)))))
set_option maxHeartbeats 4000000 in
set_option maxRecDepth 100000 in
theorem c_X7_shift (l : Launch) (G : GE) {σ : Mm}  {P : Pm} {lm : Ml} {a1 : Int32} {a2 : Int32} {a3 : Int32} {a4 : Int32} {a5 : Int32} {rz : Int32} {lmz : Ml} (h : f_X7_shift P lm a1 a2 a3 a4 a5 = some (rz, lmz)) : CM l G yX7_shift bX7_shift 7 (Option.some Jvm.ClassFile.FieldType.int) rm_X7_shift [.ref (gA G 17 0), .int a1, .int a2, .int a3, .int a4, .int a5] (m1 σ 17 P) lm (some (.int rz)) (m1 σ 17 P) lmz := by
  refine CM.of (own := zR7) (L0 := [(0, .ref (gA G 17 0)), (1, .int a1), (2, .int a2), (3, .int a3), (4, .int a4), (5, .int a5)]) (by decide +kernel) rfl (Nat.le_of_ble_eq_true rfl) rfl (fun X hl hX hR hQ => ?_)
  have K176 : ∀ (lm : Ml) (v5 : Int32) (_ : True), f_X7_shift_J176 P lm v5 = some (rz, lmz) → WW X G 7 (m1 σ 17 P) lm 176 [(5, .int v5)] [] := by
    intro lm v5 _ h
    unfold f_X7_shift_J176 at h
    refine r_iload hX 0 rfl dX7_shift_176 ?_
    have g0 := Option.some.inj h
    obtain ⟨q0, g1⟩ := Prod.mk.inj g0
    subst q0
    subst g1
    exact r_iret hX hQ dX7_shift_178
  have K141 : ∀ (lm : Ml) (v3 : Int32) (v4 : Int32) (v5 : Int32) (v6 : Int32) (_ : True), f_X7_shift_H141 P lm v3 v4 v5 v6 = some (rz, lmz) → WW X G 7 (m1 σ 17 P) lm 141 [(0, .ref (gA G 17 0)), (3, .int v3), (4, .int v4), (5, .int v5), (6, .int v6)] [] := by
    intro lm v3 v4 v5 v6 _ h
    unfold f_X7_shift_H141 at h
    obtain ⟨e_lm, hit, hO⟩ := bn_e h
    refine iter_w (P := fun t : Int32 × Ml => WW X G 7 (m1 σ 17 P) t.2 141 [(0, .ref (gA G 17 0)), (3, .int v3), (4, .int v4), (5, .int v5), (6, .int t.1)] []) (x := e_lm) ?_ 200 (v6, lm) hit
    clear hit
    intro t z1 hb hin1 hex1
    obtain ⟨v6, lm⟩ := t
    have h : f_X7_shift_B141 P v3 v4 v5 v6 lm = some z1 := hb
    clear hb
    unfold f_X7_shift_B141 at h
    refine r_iload hX 4 rfl dX7_shift_141 ?_
    refine r_iload hX 3 rfl dX7_shift_143 ?_
    refine r_icmp_ge hX dX7_shift_145 (fun hc => ?_) (fun hc => ?_)
    · replace h := ip_e hc h
      have g0 := hex1 _ (Option.some.inj h).symm
      subst g0
      exact WW.sub [3] rfl (K176 lm v5 trivial hO)
    · replace h := in_e hc h
      refine r_aload_n hX rfl 0 rfl dX7_shift_148 ?_
      refine gf_7_81 (o := 17) hX fl_X7_256 rfl m1_g dX7_shift_149 ?_
      refine r_bipush (v := 60) hX (by decide) dX7_shift_152 ?_
      refine r_iload_n hX rfl 1 rfl dX7_shift_154 ?_
      refine r_imul hX dX7_shift_155 ?_
      refine r_iload hX 2 rfl dX7_shift_156 ?_
      refine r_iadd hX dX7_shift_158 ?_
      refine r_iload hX 4 rfl dX7_shift_159 ?_
      refine r_iadd hX dX7_shift_161 ?_
      refine r_aload_n hX rfl 0 rfl dX7_shift_162 ?_
      refine gf_7_82 (o := 17) hX fl_X7_260 rfl m1_g dX7_shift_163 ?_
      refine r_iload hX 4 rfl dX7_shift_166 ?_
      obtain ⟨hk1, h⟩ := kc_e h
      refine ga_7_83 (o := 17) hX rfl hk1 dX7_shift_168 ?_
      obtain ⟨hk3, h⟩ := kc_e h
      obtain ⟨lm2, hlm2, h⟩ := nb_e h
      refine pa_7_82 (o := 17) hX rfl hk3 hlm2.symm dX7_shift_169 ?_
      refine r_iinc (v := v6 + 1) (L2 := [(6, .int (v6 + 1)), (0, .ref (gA G 17 0)), (3, .int v3), (4, .int v4), (5, .int v5)]) hX 4 rfl rfl (by decide) rfl dX7_shift_170 ?_
      refine r_goto hX dX7_shift_173 ?_
      exact WW.sub [1, 2, 3, 4, 0] rfl (hin1 _ (Option.some.inj h).symm)
  have K138 : ∀ (lm : Ml) (v3 : Int32) (v4 : Int32) (v5 : Int32) (_ : True), f_X7_shift_J138 P lm v3 v4 v5 = some (rz, lmz) → WW X G 7 (m1 σ 17 P) lm 138 [(0, .ref (gA G 17 0)), (3, .int v3), (4, .int v4), (5, .int v5)] [] := by
    intro lm v3 v4 v5 _ h
    unfold f_X7_shift_J138 at h
    refine r_iconst (v := 0) hX (by decide) dX7_shift_138 ?_
    refine r_istore (L2 := [(6, .int 0), (0, .ref (gA G 17 0)), (3, .int v3), (4, .int v4), (5, .int v5)]) hX (by decide) rfl dX7_shift_139 ?_
    exact WW.sub [1, 2, 3, 4, 0] rfl (K141 lm v3 v4 v5 0 trivial h)
  have K104 : ∀ (lm : Ml) (v1 : Int32) (v2 : Int32) (v3 : Int32) (v4 : Int32) (v5 : Int32) (v6 : Int32) (_ : True), f_X7_shift_H104 P lm v1 v2 v3 v4 v5 v6 = some (rz, lmz) → WW X G 7 (m1 σ 17 P) lm 104 [(0, .ref (gA G 17 0)), (1, .int v1), (2, .int v2), (3, .int v3), (4, .int v4), (5, .int v5), (6, .int v6)] [] := by
    intro lm v1 v2 v3 v4 v5 v6 _ h
    unfold f_X7_shift_H104 at h
    obtain ⟨e_lm, hit, hO⟩ := bn_e h
    refine iter_w (P := fun t : Int32 × Ml => WW X G 7 (m1 σ 17 P) t.2 104 [(0, .ref (gA G 17 0)), (1, .int v1), (2, .int v2), (3, .int v3), (4, .int v4), (5, .int v5), (6, .int t.1)] []) (x := e_lm) ?_ 200 (v6, lm) hit
    clear hit
    intro t z1 hb hin1 hex1
    obtain ⟨v6, lm⟩ := t
    have h : f_X7_shift_B104 P v1 v2 v3 v4 v5 v6 lm = some z1 := hb
    clear hb
    unfold f_X7_shift_B104 at h
    refine r_iload hX 6 rfl dX7_shift_104 ?_
    refine r_iload hX 5 rfl dX7_shift_106 ?_
    refine r_icmp_ge hX dX7_shift_108 (fun hc => ?_) (fun hc => ?_)
    · replace h := ip_e hc h
      have g0 := hex1 _ (Option.some.inj h).symm
      subst g0
      exact WW.sub [0, 3, 4, 5] rfl (K138 lm v3 v4 v5 trivial hO)
    · replace h := in_e hc h
      refine r_aload_n hX rfl 0 rfl dX7_shift_111 ?_
      refine gf_7_82 (o := 17) hX fl_X7_260 rfl m1_g dX7_shift_112 ?_
      refine r_iload hX 6 rfl dX7_shift_115 ?_
      refine r_aload_n hX rfl 0 rfl dX7_shift_117 ?_
      refine gf_7_81 (o := 17) hX fl_X7_256 rfl m1_g dX7_shift_118 ?_
      refine r_bipush (v := 60) hX (by decide) dX7_shift_121 ?_
      refine r_iload_n hX rfl 1 rfl dX7_shift_123 ?_
      refine r_imul hX dX7_shift_124 ?_
      refine r_iload_n hX rfl 2 rfl dX7_shift_125 ?_
      refine r_iadd hX dX7_shift_126 ?_
      refine r_iload hX 6 rfl dX7_shift_127 ?_
      refine r_iadd hX dX7_shift_129 ?_
      obtain ⟨hk4, h⟩ := kc_e h
      refine ga_7_82 (o := 17) hX rfl hk4 dX7_shift_130 ?_
      obtain ⟨hk6, h⟩ := kc_e h
      obtain ⟨lm5, hlm5, h⟩ := nb_e h
      refine pa_7_83 (o := 17) hX rfl hk6 hlm5.symm dX7_shift_131 ?_
      refine r_iinc (v := v6 + 1) (L2 := [(6, .int (v6 + 1)), (0, .ref (gA G 17 0)), (1, .int v1), (2, .int v2), (3, .int v3), (4, .int v4), (5, .int v5)]) hX 6 rfl rfl (by decide) rfl dX7_shift_132 ?_
      refine r_goto hX dX7_shift_135 ?_
      exact WW.sub [1, 2, 3, 4, 5, 6, 0] rfl (hin1 _ (Option.some.inj h).symm)
  unfold f_X7_shift at h
  refine r_aload_n hX rfl 0 rfl dX7_shift_0 ?_
  refine r_iload_n hX rfl 1 rfl dX7_shift_1 ?_
  obtain ⟨x7, hc7, h⟩ := bn_e h
  refine r_callVi hX hR (c_X7_isTape (σ := σ) X.2.1 G hc7) rfl rfl mf_X7_isTape ml_X7_424 in_X7_isTape se_X7_isTape rfl rfl ⟨rfl, rfl, Nat.le_of_ble_eq_true rfl, Nat.le_of_ble_eq_true rfl⟩ rfl (st := []) rfl (Nat.le_of_ble_eq_true rfl) dX7_shift_2 ?_
  refine r_if_eq hX dX7_shift_5 (fun hc => ?_) (fun hc => ?_)
  · replace h := ip_e hc h
    refine r_iconst (v := (-1)) hX (by decide) dX7_shift_16 ?_
    have g0 := Option.some.inj h
    obtain ⟨q0, g1⟩ := Prod.mk.inj g0
    subst q0
    subst g1
    exact r_iret hX hQ dX7_shift_17
  · replace h := in_e hc h
    refine r_aload_n hX rfl 0 rfl dX7_shift_8 ?_
    refine r_iload_n hX rfl 3 rfl dX7_shift_9 ?_
    obtain ⟨x8, hc8, h⟩ := bn_e h
    refine r_callVi hX hR (c_X7_isTape (σ := σ) X.2.1 G hc8) rfl rfl mf_X7_isTape ml_X7_424 in_X7_isTape se_X7_isTape rfl rfl ⟨rfl, rfl, Nat.le_of_ble_eq_true rfl, Nat.le_of_ble_eq_true rfl⟩ rfl (st := []) rfl (Nat.le_of_ble_eq_true rfl) dX7_shift_10 ?_
    refine r_if_ne hX dX7_shift_13 (fun hc => ?_) (fun hc => ?_)
    · replace h := in_e hc h
      refine r_aload_n hX rfl 0 rfl dX7_shift_18 ?_
      refine gf_7_79 (o := 17) hX fl_X7_250 rfl m1_g dX7_shift_19 ?_
      refine r_iload_n hX rfl 1 rfl dX7_shift_22 ?_
      obtain ⟨hk9, h⟩ := kc_e h
      refine ga_7_80 (o := 17) hX rfl m1_g hk9 dX7_shift_23 ?_
      refine r_if_lt hX dX7_shift_24 (fun hc => ?_) (fun hc => ?_)
      · replace h := ip_e hc h
        refine r_bipush (v := (-11)) hX (by decide) dX7_shift_36 ?_
        have g0 := Option.some.inj h
        obtain ⟨q0, g1⟩ := Prod.mk.inj g0
        subst q0
        subst g1
        exact r_iret hX hQ dX7_shift_38
      · replace h := in_e hc h
        refine r_aload_n hX rfl 0 rfl dX7_shift_27 ?_
        refine gf_7_79 (o := 17) hX fl_X7_250 rfl m1_g dX7_shift_28 ?_
        refine r_iload_n hX rfl 3 rfl dX7_shift_31 ?_
        obtain ⟨hk10, h⟩ := kc_e h
        refine ga_7_80 (o := 17) hX rfl m1_g hk10 dX7_shift_32 ?_
        refine r_if_ge hX dX7_shift_33 (fun hc => ?_) (fun hc => ?_)
        · replace h := ip_e hc h
          refine r_aload_n hX rfl 0 rfl dX7_shift_39 ?_
          refine gf_7_79 (o := 17) hX fl_X7_250 rfl m1_g dX7_shift_40 ?_
          refine r_iload_n hX rfl 1 rfl dX7_shift_43 ?_
          obtain ⟨hk11, h⟩ := kc_e h
          refine ga_7_80 (o := 17) hX rfl m1_g hk11 dX7_shift_44 ?_
          refine r_aload_n hX rfl 0 rfl dX7_shift_45 ?_
          refine gf_7_79 (o := 17) hX fl_X7_250 rfl m1_g dX7_shift_46 ?_
          refine r_iload_n hX rfl 3 rfl dX7_shift_49 ?_
          obtain ⟨hk12, h⟩ := kc_e h
          refine ga_7_80 (o := 17) hX rfl m1_g hk12 dX7_shift_50 ?_
          refine r_icmp_eq hX dX7_shift_51 (fun hc => ?_) (fun hc => ?_)
          · replace h := ip_e hc h
            refine r_iload hX 5 rfl dX7_shift_57 ?_
            refine r_if_lt hX dX7_shift_59 (fun hc => ?_) (fun hc => ?_)
            · replace h := ip_e hc h
              refine r_bipush (v := (-13)) hX (by decide) dX7_shift_98 ?_
              have g0 := Option.some.inj h
              obtain ⟨q0, g1⟩ := Prod.mk.inj g0
              subst q0
              subst g1
              exact r_iret hX hQ dX7_shift_100
            · replace h := in_e hc h
              refine r_iload_n hX rfl 2 rfl dX7_shift_62 ?_
              refine r_if_lt hX dX7_shift_63 (fun hc => ?_) (fun hc => ?_)
              · replace h := ip_e hc h
                refine r_bipush (v := (-13)) hX (by decide) dX7_shift_98 ?_
                have g0 := Option.some.inj h
                obtain ⟨q0, g1⟩ := Prod.mk.inj g0
                subst q0
                subst g1
                exact r_iret hX hQ dX7_shift_100
              · replace h := in_e hc h
                refine r_iload hX 4 rfl dX7_shift_66 ?_
                refine r_if_lt hX dX7_shift_68 (fun hc => ?_) (fun hc => ?_)
                · replace h := ip_e hc h
                  refine r_bipush (v := (-13)) hX (by decide) dX7_shift_98 ?_
                  have g0 := Option.some.inj h
                  obtain ⟨q0, g1⟩ := Prod.mk.inj g0
                  subst q0
                  subst g1
                  exact r_iret hX hQ dX7_shift_100
                · replace h := in_e hc h
                  refine r_iload_n hX rfl 2 rfl dX7_shift_71 ?_
                  refine r_aload_n hX rfl 0 rfl dX7_shift_72 ?_
                  refine gf_7_80 (o := 17) hX fl_X7_253 rfl m1_g dX7_shift_73 ?_
                  refine r_iload_n hX rfl 1 rfl dX7_shift_76 ?_
                  obtain ⟨hk13, h⟩ := kc_e h
                  refine ga_7_81 (o := 17) hX rfl m1_g hk13 dX7_shift_77 ?_
                  refine r_iload hX 5 rfl dX7_shift_78 ?_
                  refine r_isub hX dX7_shift_80 ?_
                  refine r_icmp_gt hX dX7_shift_81 (fun hc => ?_) (fun hc => ?_)
                  · replace h := ip_e hc h
                    refine r_bipush (v := (-13)) hX (by decide) dX7_shift_98 ?_
                    have g0 := Option.some.inj h
                    obtain ⟨q0, g1⟩ := Prod.mk.inj g0
                    subst q0
                    subst g1
                    exact r_iret hX hQ dX7_shift_100
                  · replace h := in_e hc h
                    refine r_iload hX 4 rfl dX7_shift_84 ?_
                    refine r_aload_n hX rfl 0 rfl dX7_shift_86 ?_
                    refine gf_7_80 (o := 17) hX fl_X7_253 rfl m1_g dX7_shift_87 ?_
                    refine r_iload_n hX rfl 3 rfl dX7_shift_90 ?_
                    obtain ⟨hk14, h⟩ := kc_e h
                    refine ga_7_81 (o := 17) hX rfl m1_g hk14 dX7_shift_91 ?_
                    refine r_iload hX 5 rfl dX7_shift_92 ?_
                    refine r_isub hX dX7_shift_94 ?_
                    refine r_icmp_le hX dX7_shift_95 (fun hc => ?_) (fun hc => ?_)
                    · replace h := ip_e hc h
                      refine r_iconst (v := 0) hX (by decide) dX7_shift_101 ?_
                      refine r_istore (L2 := [(6, .int 0), (0, .ref (gA G 17 0)), (1, .int a1), (2, .int a2), (3, .int a3), (4, .int a4), (5, .int a5)]) hX (by decide) rfl dX7_shift_102 ?_
                      exact WW.sub [1, 2, 3, 4, 5, 6, 0] rfl (K104 lm a1 a2 a3 a4 a5 0 trivial h)
                    · replace h := in_e hc h
                      refine r_bipush (v := (-13)) hX (by decide) dX7_shift_98 ?_
                      have g0 := Option.some.inj h
                      obtain ⟨q0, g1⟩ := Prod.mk.inj g0
                      subst q0
                      subst g1
                      exact r_iret hX hQ dX7_shift_100
          · replace h := in_e hc h
            refine r_bipush (v := (-12)) hX (by decide) dX7_shift_54 ?_
            have g0 := Option.some.inj h
            obtain ⟨q0, g1⟩ := Prod.mk.inj g0
            subst q0
            subst g1
            exact r_iret hX hQ dX7_shift_56
        · replace h := in_e hc h
          refine r_bipush (v := (-11)) hX (by decide) dX7_shift_36 ?_
          have g0 := Option.some.inj h
          obtain ⟨q0, g1⟩ := Prod.mk.inj g0
          subst q0
          subst g1
          exact r_iret hX hQ dX7_shift_38
    · replace h := ip_e hc h
      refine r_iconst (v := (-1)) hX (by decide) dX7_shift_16 ?_
      have g0 := Option.some.inj h
      obtain ⟨q0, g1⟩ := Prod.mk.inj g0
      subst q0
      subst g1
      exact r_iret hX hQ dX7_shift_17
