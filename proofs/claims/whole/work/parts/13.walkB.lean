/-! the pure functions and the walks; written by wip/whole/gen_walk.py -/
abbrev rm_X1_clear : Room := { frames := 0, cells := 0, slots := 0, locals := 60 }
def f_X1_clear (P : Pm) : Option (Pm) :=
  nb (up2 P 0 0 10) (fun P1 => nb (up2 P1 0 1 0) (fun P2 => nb (up2 P2 0 2 0) (fun P3 => nb (up2 P3 0 3 0) (fun P4 => nb (up2 P4 0 4 0) (fun P5 => some P5)))))
set_option maxHeartbeats 4000000 in
set_option maxRecDepth 100000 in
theorem c_X1_clear (l : Launch) (G : GE) {σ : Mm} {lm : Ml} {o : Nat} (ho : kdo o = 1)  {P : Pm} {Pz : Pm} (h : f_X1_clear P = some Pz) : CM l G yX1_clear bX1_clear 1 (Option.none : Option Jvm.ClassFile.FieldType) rm_X1_clear [.ref (gA G o 0)] (m1 σ o P) lm (none) (m1 σ o Pz) lm := by
  refine CM.of (own := zR1) (L0 := [(0, .ref (gA G o 0))]) (by decide +kernel) rfl (Nat.le_of_ble_eq_true rfl) rfl (fun X hl hX hR hQ => ?_)
  unfold f_X1_clear at h
  refine r_aload_n hX rfl 0 rfl dX1_clear_0 ?_
  refine r_bipush (v := 10) hX (by decide) dX1_clear_1 ?_
  obtain ⟨P1, hP1, h⟩ := nb_e h
  refine pf_1_0 hX fl_X1_9 ho m1_g dX1_clear_3 (m1_w hP1) ?_
  refine r_aload_n hX rfl 0 rfl dX1_clear_6 ?_
  refine r_iconst (v := 0) hX (by decide) dX1_clear_7 ?_
  obtain ⟨P2, hP2, h⟩ := nb_e h
  refine pf_1_1 hX fl_X1_13 ho m1_g dX1_clear_8 (m1_w hP2) ?_
  refine r_aload_n hX rfl 0 rfl dX1_clear_11 ?_
  refine r_iconst (v := 0) hX (by decide) dX1_clear_12 ?_
  obtain ⟨P3, hP3, h⟩ := nb_e h
  refine pf_1_2 hX fl_X1_16 ho m1_g dX1_clear_13 (m1_w hP3) ?_
  refine r_aload_n hX rfl 0 rfl dX1_clear_16 ?_
  refine r_iconst (v := 0) hX (by decide) dX1_clear_17 ?_
  obtain ⟨P4, hP4, h⟩ := nb_e h
  refine pf_1_3 hX fl_X1_19 ho m1_g dX1_clear_18 (m1_w hP4) ?_
  refine r_aload_n hX rfl 0 rfl dX1_clear_21 ?_
  refine r_iconst (v := 0) hX (by decide) dX1_clear_22 ?_
  obtain ⟨P5, hP5, h⟩ := nb_e h
  refine pf_1_4 hX fl_X1_22 ho m1_g dX1_clear_23 (m1_w hP5) ?_
  have g0 := Option.some.inj h
  subst g0
  exact r_vret hX hQ dX1_clear_26
abbrev rm_X1_addStep : Room := { frames := 0, cells := 0, slots := 0, locals := 60 }
def f_X1_addStep (P : Pm) (a1 : Int32) (a2 : Int32) (a3 : Int32) : Option (Pm) :=
  (if 100 ≤ (P 0 4) then some P else (if inb (P 0 4) 100 = true then nb (up2 P 8 (ix (P 0 4)) a1) (fun P2 => (if inb (P2 0 4) 100 = true then nb (up2 P2 9 (ix (P2 0 4)) a2) (fun P4 => (if inb (P4 0 4) 100 = true then nb (up2 P4 10 (ix (P4 0 4)) a3) (fun P6 => nb (up2 P6 0 4 ((P6 0 4) + 1)) (fun P7 => some P7)) else none)) else none)) else none))
set_option maxHeartbeats 4000000 in
set_option maxRecDepth 100000 in
theorem c_X1_addStep (l : Launch) (G : GE) {σ : Mm} {lm : Ml} {o : Nat} (ho : kdo o = 1)  {P : Pm} {a1 : Int32} {a2 : Int32} {a3 : Int32} {Pz : Pm} (h : f_X1_addStep P a1 a2 a3 = some Pz) : CM l G yX1_addStep bX1_addStep 4 (Option.none : Option Jvm.ClassFile.FieldType) rm_X1_addStep [.ref (gA G o 0), .int a1, .int a2, .int a3] (m1 σ o P) lm (none) (m1 σ o Pz) lm := by
  refine CM.of (own := zR1) (L0 := [(0, .ref (gA G o 0)), (1, .int a1), (2, .int a2), (3, .int a3)]) (by decide +kernel) rfl (Nat.le_of_ble_eq_true rfl) rfl (fun X hl hX hR hQ => ?_)
  unfold f_X1_addStep at h
  refine r_aload_n hX rfl 0 rfl dX1_addStep_0 ?_
  refine gf_1_4 hX fl_X1_22 ho m1_g dX1_addStep_1 ?_
  refine r_bipush (v := 100) hX (by decide) dX1_addStep_4 ?_
  refine r_icmp_ge hX dX1_addStep_6 (fun hc => ?_) (fun hc => ?_)
  · replace h := ip_e hc h
    have g0 := Option.some.inj h
    subst g0
    exact r_vret hX hQ dX1_addStep_49
  · replace h := in_e hc h
    refine r_aload_n hX rfl 0 rfl dX1_addStep_9 ?_
    refine gf_1_7 hX fl_X1_34 ho m1_g dX1_addStep_10 ?_
    refine r_aload_n hX rfl 0 rfl dX1_addStep_13 ?_
    refine gf_1_4 hX fl_X1_22 ho m1_g dX1_addStep_14 ?_
    refine r_iload_n hX rfl 1 rfl dX1_addStep_17 ?_
    obtain ⟨hk1, h⟩ := kc_e h
    obtain ⟨P2, hP2, h⟩ := nb_e h
    refine pa_1_8 hX ho m1_g hk1 (m1_w hP2) dX1_addStep_18 ?_
    refine r_aload_n hX rfl 0 rfl dX1_addStep_19 ?_
    refine gf_1_8 hX fl_X1_37 ho m1_g dX1_addStep_20 ?_
    refine r_aload_n hX rfl 0 rfl dX1_addStep_23 ?_
    refine gf_1_4 hX fl_X1_22 ho m1_g dX1_addStep_24 ?_
    refine r_iload_n hX rfl 2 rfl dX1_addStep_27 ?_
    obtain ⟨hk3, h⟩ := kc_e h
    obtain ⟨P4, hP4, h⟩ := nb_e h
    refine pa_1_9 hX ho m1_g hk3 (m1_w hP4) dX1_addStep_28 ?_
    refine r_aload_n hX rfl 0 rfl dX1_addStep_29 ?_
    refine gf_1_9 hX fl_X1_40 ho m1_g dX1_addStep_30 ?_
    refine r_aload_n hX rfl 0 rfl dX1_addStep_33 ?_
    refine gf_1_4 hX fl_X1_22 ho m1_g dX1_addStep_34 ?_
    refine r_iload_n hX rfl 3 rfl dX1_addStep_37 ?_
    obtain ⟨hk5, h⟩ := kc_e h
    obtain ⟨P6, hP6, h⟩ := nb_e h
    refine pa_1_10 hX ho m1_g hk5 (m1_w hP6) dX1_addStep_38 ?_
    refine r_aload_n hX rfl 0 rfl dX1_addStep_39 ?_
    refine r_dup hX rfl dX1_addStep_40 ?_
    refine gf_1_4 hX fl_X1_22 ho m1_g dX1_addStep_41 ?_
    refine r_iconst (v := 1) hX (by decide) dX1_addStep_44 ?_
    refine r_iadd hX dX1_addStep_45 ?_
    obtain ⟨P7, hP7, h⟩ := nb_e h
    refine pf_1_4 hX fl_X1_22 ho m1_g dX1_addStep_46 (m1_w hP7) ?_
    have g0 := Option.some.inj h
    subst g0
    exact r_vret hX hQ dX1_addStep_49
abbrev rm_X1_addPrice : Room := { frames := 0, cells := 0, slots := 0, locals := 60 }
def f_X1_addPrice (P : Pm) (a1 : Int32) : Option (Pm) :=
  (if 10 ≤ (P 0 3) then some P else (if inb (P 0 3) 10 = true then nb (up2 P 6 (ix (P 0 3)) a1) (fun P2 => (if inb (P2 0 3) 10 = true then nb (up2 P2 7 (ix (P2 0 3)) (P2 0 4)) (fun P4 => nb (up2 P4 0 3 ((P4 0 3) + 1)) (fun P5 => some P5)) else none)) else none))
set_option maxHeartbeats 4000000 in
set_option maxRecDepth 100000 in
theorem c_X1_addPrice (l : Launch) (G : GE) {σ : Mm} {lm : Ml} {o : Nat} (ho : kdo o = 1)  {P : Pm} {a1 : Int32} {Pz : Pm} (h : f_X1_addPrice P a1 = some Pz) : CM l G yX1_addPrice bX1_addPrice 2 (Option.none : Option Jvm.ClassFile.FieldType) rm_X1_addPrice [.ref (gA G o 0), .int a1] (m1 σ o P) lm (none) (m1 σ o Pz) lm := by
  refine CM.of (own := zR1) (L0 := [(0, .ref (gA G o 0)), (1, .int a1)]) (by decide +kernel) rfl (Nat.le_of_ble_eq_true rfl) rfl (fun X hl hX hR hQ => ?_)
  unfold f_X1_addPrice at h
  refine r_aload_n hX rfl 0 rfl dX1_addPrice_0 ?_
  refine gf_1_3 hX fl_X1_19 ho m1_g dX1_addPrice_1 ?_
  refine r_bipush (v := 10) hX (by decide) dX1_addPrice_4 ?_
  refine r_icmp_ge hX dX1_addPrice_6 (fun hc => ?_) (fun hc => ?_)
  · replace h := ip_e hc h
    have g0 := Option.some.inj h
    subst g0
    exact r_vret hX hQ dX1_addPrice_42
  · replace h := in_e hc h
    refine r_aload_n hX rfl 0 rfl dX1_addPrice_9 ?_
    refine gf_1_5 hX fl_X1_25 ho m1_g dX1_addPrice_10 ?_
    refine r_aload_n hX rfl 0 rfl dX1_addPrice_13 ?_
    refine gf_1_3 hX fl_X1_19 ho m1_g dX1_addPrice_14 ?_
    refine r_iload_n hX rfl 1 rfl dX1_addPrice_17 ?_
    obtain ⟨hk1, h⟩ := kc_e h
    obtain ⟨P2, hP2, h⟩ := nb_e h
    refine pa_1_6 hX ho m1_g hk1 (m1_w hP2) dX1_addPrice_18 ?_
    refine r_aload_n hX rfl 0 rfl dX1_addPrice_19 ?_
    refine gf_1_6 hX fl_X1_29 ho m1_g dX1_addPrice_20 ?_
    refine r_aload_n hX rfl 0 rfl dX1_addPrice_23 ?_
    refine gf_1_3 hX fl_X1_19 ho m1_g dX1_addPrice_24 ?_
    refine r_aload_n hX rfl 0 rfl dX1_addPrice_27 ?_
    refine gf_1_4 hX fl_X1_22 ho m1_g dX1_addPrice_28 ?_
    obtain ⟨hk3, h⟩ := kc_e h
    obtain ⟨P4, hP4, h⟩ := nb_e h
    refine pa_1_7 hX ho m1_g hk3 (m1_w hP4) dX1_addPrice_31 ?_
    refine r_aload_n hX rfl 0 rfl dX1_addPrice_32 ?_
    refine r_dup hX rfl dX1_addPrice_33 ?_
    refine gf_1_3 hX fl_X1_19 ho m1_g dX1_addPrice_34 ?_
    refine r_iconst (v := 1) hX (by decide) dX1_addPrice_37 ?_
    refine r_iadd hX dX1_addPrice_38 ?_
    obtain ⟨P5, hP5, h⟩ := nb_e h
    refine pf_1_3 hX fl_X1_19 ho m1_g dX1_addPrice_39 (m1_w hP5) ?_
    have g0 := Option.some.inj h
    subst g0
    exact r_vret hX hQ dX1_addPrice_42
abbrev rm_X2_copyFrom : Room := { frames := 8, cells := 0, slots := 0, locals := 400 }
def f_X2_copyFrom (P : Pm) (Q : Pm) : Option (Pm) :=
  nb (up2 P 0 0 (Q 0 0)) (fun P1 => nb (up2 P1 0 1 (Q 0 1)) (fun P2 => nb (up2 P2 0 2 (Q 0 2)) (fun P3 => (if cpok 0 0 5 5 5 = true then nb (setO P3 4 (va_cpy (Q 4) (P3 4) (ix 0) (ix 0) (ix 5))) (fun P5 => (if cpok 0 0 5 5 5 = true then nb (setO P5 5 (va_cpy (Q 5) (P5 5) (ix 0) (ix 0) (ix 5))) (fun P7 => (if cpok 0 0 10 10 10 = true then nb (setO P7 6 (va_cpy (Q 6) (P7 6) (ix 0) (ix 0) (ix 10))) (fun P9 => (if cpok 0 0 10 10 10 = true then nb (setO P9 7 (va_cpy (Q 7) (P9 7) (ix 0) (ix 0) (ix 10))) (fun P11 => (if cpok 0 0 8 8 8 = true then nb (setO P11 8 (va_cpy (Q 8) (P11 8) (ix 0) (ix 0) (ix 8))) (fun P13 => (if cpok 0 0 8 8 8 = true then nb (setO P13 9 (va_cpy (Q 9) (P13 9) (ix 0) (ix 0) (ix 8))) (fun P15 => some P15) else none)) else none)) else none)) else none)) else none)) else none))))
set_option maxHeartbeats 4000000 in
set_option maxRecDepth 100000 in
theorem c_X2_copyFrom (l : Launch) (G : GE) {σ : Mm} {lm : Ml} {o : Nat} (ho : kdo o = 2) {o2 : Nat} (ho2 : kdo o2 = 2) (h12 : o ≠ o2)  {P : Pm} {Q : Pm} {Pz : Pm} (h : f_X2_copyFrom P Q = some Pz) : CM l G yX2_copyFrom bX2_copyFrom 2 (Option.none : Option Jvm.ClassFile.FieldType) rm_X2_copyFrom [.ref (gA G o 0), .ref (gA G o2 0)] (m2 σ o P o2 Q) lm (none) (m2 σ o Pz o2 Q) lm := by
  refine CM.of (own := zR2) (L0 := [(0, .ref (gA G o 0)), (1, .ref (gA G o2 0))]) (by decide +kernel) rfl (Nat.le_of_ble_eq_true rfl) rfl (fun X hl hX hR hQ => ?_)
  unfold f_X2_copyFrom at h
  refine r_aload_n hX rfl 0 rfl dX2_copyFrom_0 ?_
  refine r_aload_n hX rfl 1 rfl dX2_copyFrom_1 ?_
  refine gf_2_0 hX fl_X2_7 ho2 m2_g2 dX2_copyFrom_2 ?_
  obtain ⟨P1, hP1, h⟩ := nb_e h
  refine pf_2_0 hX fl_X2_7 ho (m2_g1 h12) dX2_copyFrom_5 (m2_w1 h12 hP1) ?_
  refine r_aload_n hX rfl 0 rfl dX2_copyFrom_8 ?_
  refine r_aload_n hX rfl 1 rfl dX2_copyFrom_9 ?_
  refine gf_2_1 hX fl_X2_13 ho2 m2_g2 dX2_copyFrom_10 ?_
  obtain ⟨P2, hP2, h⟩ := nb_e h
  refine pf_2_1 hX fl_X2_13 ho (m2_g1 h12) dX2_copyFrom_13 (m2_w1 h12 hP2) ?_
  refine r_aload_n hX rfl 0 rfl dX2_copyFrom_16 ?_
  refine r_aload_n hX rfl 1 rfl dX2_copyFrom_17 ?_
  refine gf_2_2 hX fl_X2_16 ho2 m2_g2 dX2_copyFrom_18 ?_
  obtain ⟨P3, hP3, h⟩ := nb_e h
  refine pf_2_2 hX fl_X2_16 ho (m2_g1 h12) dX2_copyFrom_21 (m2_w1 h12 hP3) ?_
  refine r_aload_n hX rfl 1 rfl dX2_copyFrom_24 ?_
  refine gf_2_3 hX fl_X2_19 ho2 m2_g2 dX2_copyFrom_25 ?_
  refine r_iconst (v := 0) hX (by decide) dX2_copyFrom_28 ?_
  refine r_aload_n hX rfl 0 rfl dX2_copyFrom_29 ?_
  refine gf_2_3 hX fl_X2_19 ho (m2_g1 h12) dX2_copyFrom_30 ?_
  refine r_iconst (v := 0) hX (by decide) dX2_copyFrom_33 ?_
  refine r_iconst (v := 5) hX (by decide) dX2_copyFrom_34 ?_
  obtain ⟨hk4, h⟩ := kc_e h
  obtain ⟨P5, hP5, h⟩ := nb_e h
  refine r_acpyI hX hR ml_acpy_X2_38 rfl ho2 ho (by decide) (by decide) hc_2_4 hc_2_4 (fun _ _ => rfl) (fun _ _ => rfl) m2_g2 (m2_g1 h12) hk4 (m2_w1 h12 hP5) (st := []) (Nat.le_of_ble_eq_true rfl) dX2_copyFrom_35 ?_
  refine r_aload_n hX rfl 1 rfl dX2_copyFrom_38 ?_
  refine gf_2_4 hX fl_X2_23 ho2 m2_g2 dX2_copyFrom_39 ?_
  refine r_iconst (v := 0) hX (by decide) dX2_copyFrom_42 ?_
  refine r_aload_n hX rfl 0 rfl dX2_copyFrom_43 ?_
  refine gf_2_4 hX fl_X2_23 ho (m2_g1 h12) dX2_copyFrom_44 ?_
  refine r_iconst (v := 0) hX (by decide) dX2_copyFrom_47 ?_
  refine r_iconst (v := 5) hX (by decide) dX2_copyFrom_48 ?_
  obtain ⟨hk6, h⟩ := kc_e h
  obtain ⟨P7, hP7, h⟩ := nb_e h
  refine r_acpyI hX hR ml_acpy_X2_38 rfl ho2 ho (by decide) (by decide) hc_2_5 hc_2_5 (fun _ _ => rfl) (fun _ _ => rfl) m2_g2 (m2_g1 h12) hk6 (m2_w1 h12 hP7) (st := []) (Nat.le_of_ble_eq_true rfl) dX2_copyFrom_49 ?_
  refine r_aload_n hX rfl 1 rfl dX2_copyFrom_52 ?_
  refine gf_2_5 hX fl_X2_26 ho2 m2_g2 dX2_copyFrom_53 ?_
  refine r_iconst (v := 0) hX (by decide) dX2_copyFrom_56 ?_
  refine r_aload_n hX rfl 0 rfl dX2_copyFrom_57 ?_
  refine gf_2_5 hX fl_X2_26 ho (m2_g1 h12) dX2_copyFrom_58 ?_
  refine r_iconst (v := 0) hX (by decide) dX2_copyFrom_61 ?_
  refine r_bipush (v := 10) hX (by decide) dX2_copyFrom_62 ?_
  obtain ⟨hk8, h⟩ := kc_e h
  obtain ⟨P9, hP9, h⟩ := nb_e h
  refine r_acpyI hX hR ml_acpy_X2_38 rfl ho2 ho (by decide) (by decide) hc_2_6 hc_2_6 (fun _ _ => rfl) (fun _ _ => rfl) m2_g2 (m2_g1 h12) hk8 (m2_w1 h12 hP9) (st := []) (Nat.le_of_ble_eq_true rfl) dX2_copyFrom_64 ?_
  refine r_aload_n hX rfl 1 rfl dX2_copyFrom_67 ?_
  refine gf_2_6 hX fl_X2_29 ho2 m2_g2 dX2_copyFrom_68 ?_
  refine r_iconst (v := 0) hX (by decide) dX2_copyFrom_71 ?_
  refine r_aload_n hX rfl 0 rfl dX2_copyFrom_72 ?_
  refine gf_2_6 hX fl_X2_29 ho (m2_g1 h12) dX2_copyFrom_73 ?_
  refine r_iconst (v := 0) hX (by decide) dX2_copyFrom_76 ?_
  refine r_bipush (v := 10) hX (by decide) dX2_copyFrom_77 ?_
  obtain ⟨hk10, h⟩ := kc_e h
  obtain ⟨P11, hP11, h⟩ := nb_e h
  refine r_acpyI hX hR ml_acpy_X2_38 rfl ho2 ho (by decide) (by decide) hc_2_7 hc_2_7 (fun _ _ => rfl) (fun _ _ => rfl) m2_g2 (m2_g1 h12) hk10 (m2_w1 h12 hP11) (st := []) (Nat.le_of_ble_eq_true rfl) dX2_copyFrom_79 ?_
  refine r_aload_n hX rfl 1 rfl dX2_copyFrom_82 ?_
  refine gf_2_7 hX fl_X2_32 ho2 m2_g2 dX2_copyFrom_83 ?_
  refine r_iconst (v := 0) hX (by decide) dX2_copyFrom_86 ?_
  refine r_aload_n hX rfl 0 rfl dX2_copyFrom_87 ?_
  refine gf_2_7 hX fl_X2_32 ho (m2_g1 h12) dX2_copyFrom_88 ?_
  refine r_iconst (v := 0) hX (by decide) dX2_copyFrom_91 ?_
  refine r_bipush (v := 8) hX (by decide) dX2_copyFrom_92 ?_
  obtain ⟨hk12, h⟩ := kc_e h
  obtain ⟨P13, hP13, h⟩ := nb_e h
  refine r_acpyI hX hR ml_acpy_X2_38 rfl ho2 ho (by decide) (by decide) hc_2_8 hc_2_8 (fun _ _ => rfl) (fun _ _ => rfl) m2_g2 (m2_g1 h12) hk12 (m2_w1 h12 hP13) (st := []) (Nat.le_of_ble_eq_true rfl) dX2_copyFrom_94 ?_
  refine r_aload_n hX rfl 1 rfl dX2_copyFrom_97 ?_
  refine gf_2_8 hX fl_X2_35 ho2 m2_g2 dX2_copyFrom_98 ?_
  refine r_iconst (v := 0) hX (by decide) dX2_copyFrom_101 ?_
  refine r_aload_n hX rfl 0 rfl dX2_copyFrom_102 ?_
  refine gf_2_8 hX fl_X2_35 ho (m2_g1 h12) dX2_copyFrom_103 ?_
  refine r_iconst (v := 0) hX (by decide) dX2_copyFrom_106 ?_
  refine r_bipush (v := 8) hX (by decide) dX2_copyFrom_107 ?_
  obtain ⟨hk14, h⟩ := kc_e h
  obtain ⟨P15, hP15, h⟩ := nb_e h
  refine r_acpyI hX hR ml_acpy_X2_38 rfl ho2 ho (by decide) (by decide) hc_2_9 hc_2_9 (fun _ _ => rfl) (fun _ _ => rfl) m2_g2 (m2_g1 h12) hk14 (m2_w1 h12 hP15) (st := []) (Nat.le_of_ble_eq_true rfl) dX2_copyFrom_109 ?_
  have g0 := Option.some.inj h
  subst g0
  exact r_vret hX hQ dX2_copyFrom_112
abbrev rm_X2_addSeen : Room := { frames := 0, cells := 0, slots := 0, locals := 60 }
def f_X2_addSeen_J38 (P : Pm) : Option (Int32 × Pm) :=
  some ((P 0 0), P)
def f_X2_addSeen (P : Pm) (a1 : Int32) (a2 : Int32) : Option (Int32 × Pm) :=
  (if 5 ≤ (P 0 0) then f_X2_addSeen_J38 P else (if inb (P 0 0) 5 = true then nb (up2 P 4 (ix (P 0 0)) a1) (fun P2 => (if inb (P2 0 0) 5 = true then nb (up2 P2 5 (ix (P2 0 0)) a2) (fun P4 => nb (up2 P4 0 0 ((P4 0 0) + 1)) (fun P5 => f_X2_addSeen_J38 P5)) else none)) else none))
set_option maxHeartbeats 4000000 in
set_option maxRecDepth 100000 in
theorem c_X2_addSeen (l : Launch) (G : GE) {σ : Mm} {lm : Ml} {o : Nat} (ho : kdo o = 2)  {P : Pm} {a1 : Int32} {a2 : Int32} {rz : Int32} {Pz : Pm} (h : f_X2_addSeen P a1 a2 = some (rz, Pz)) : CM l G yX2_addSeen bX2_addSeen 3 (Option.some Jvm.ClassFile.FieldType.int) rm_X2_addSeen [.ref (gA G o 0), .int a1, .int a2] (m1 σ o P) lm (some (.int rz)) (m1 σ o Pz) lm := by
  refine CM.of (own := zR2) (L0 := [(0, .ref (gA G o 0)), (1, .int a1), (2, .int a2)]) (by decide +kernel) rfl (Nat.le_of_ble_eq_true rfl) rfl (fun X hl hX hR hQ => ?_)
  have K38 : ∀ (P : Pm) (_ : True), f_X2_addSeen_J38 P = some (rz, Pz) → WW X G 3 (m1 σ o P) lm 38 [(0, .ref (gA G o 0))] [] := by
    intro P _ h
    unfold f_X2_addSeen_J38 at h
    refine r_aload_n hX rfl 0 rfl dX2_addSeen_38 ?_
    refine gf_2_0 hX fl_X2_7 ho m1_g dX2_addSeen_39 ?_
    have g0 := Option.some.inj h
    obtain ⟨q0, g1⟩ := Prod.mk.inj g0
    subst q0
    subst g1
    exact r_iret hX hQ dX2_addSeen_42
  unfold f_X2_addSeen at h
  refine r_aload_n hX rfl 0 rfl dX2_addSeen_0 ?_
  refine gf_2_0 hX fl_X2_7 ho m1_g dX2_addSeen_1 ?_
  refine r_iconst (v := 5) hX (by decide) dX2_addSeen_4 ?_
  refine r_icmp_ge hX dX2_addSeen_5 (fun hc => ?_) (fun hc => ?_)
  · replace h := ip_e hc h
    exact WW.sub [0] rfl (K38 P trivial h)
  · replace h := in_e hc h
    refine r_aload_n hX rfl 0 rfl dX2_addSeen_8 ?_
    refine gf_2_3 hX fl_X2_19 ho m1_g dX2_addSeen_9 ?_
    refine r_aload_n hX rfl 0 rfl dX2_addSeen_12 ?_
    refine gf_2_0 hX fl_X2_7 ho m1_g dX2_addSeen_13 ?_
    refine r_iload_n hX rfl 1 rfl dX2_addSeen_16 ?_
    obtain ⟨hk1, h⟩ := kc_e h
    obtain ⟨P2, hP2, h⟩ := nb_e h
    refine pa_2_4 hX ho m1_g hk1 (m1_w hP2) dX2_addSeen_17 ?_
    refine r_aload_n hX rfl 0 rfl dX2_addSeen_18 ?_
    refine gf_2_4 hX fl_X2_23 ho m1_g dX2_addSeen_19 ?_
    refine r_aload_n hX rfl 0 rfl dX2_addSeen_22 ?_
    refine gf_2_0 hX fl_X2_7 ho m1_g dX2_addSeen_23 ?_
    refine r_iload_n hX rfl 2 rfl dX2_addSeen_26 ?_
    obtain ⟨hk3, h⟩ := kc_e h
    obtain ⟨P4, hP4, h⟩ := nb_e h
    refine pa_2_5 hX ho m1_g hk3 (m1_w hP4) dX2_addSeen_27 ?_
    refine r_aload_n hX rfl 0 rfl dX2_addSeen_28 ?_
    refine r_dup hX rfl dX2_addSeen_29 ?_
    refine gf_2_0 hX fl_X2_7 ho m1_g dX2_addSeen_30 ?_
    refine r_iconst (v := 1) hX (by decide) dX2_addSeen_33 ?_
    refine r_iadd hX dX2_addSeen_34 ?_
    obtain ⟨P5, hP5, h⟩ := nb_e h
    refine pf_2_0 hX fl_X2_7 ho m1_g dX2_addSeen_35 (m1_w hP5) ?_
    exact WW.sub [0] rfl (K38 P5 trivial h)
abbrev rm_X2_addYear : Room := { frames := 0, cells := 0, slots := 0, locals := 60 }
def f_X2_addYear_J39 (P : Pm) : Option (Int32 × Pm) :=
  some ((P 0 1), P)
def f_X2_addYear (P : Pm) (a1 : Int32) (a2 : Int32) : Option (Int32 × Pm) :=
  (if 10 ≤ (P 0 1) then f_X2_addYear_J39 P else (if inb (P 0 1) 10 = true then nb (up2 P 6 (ix (P 0 1)) a1) (fun P2 => (if inb (P2 0 1) 10 = true then nb (up2 P2 7 (ix (P2 0 1)) a2) (fun P4 => nb (up2 P4 0 1 ((P4 0 1) + 1)) (fun P5 => f_X2_addYear_J39 P5)) else none)) else none))
set_option maxHeartbeats 4000000 in
set_option maxRecDepth 100000 in
theorem c_X2_addYear (l : Launch) (G : GE) {σ : Mm} {lm : Ml} {o : Nat} (ho : kdo o = 2)  {P : Pm} {a1 : Int32} {a2 : Int32} {rz : Int32} {Pz : Pm} (h : f_X2_addYear P a1 a2 = some (rz, Pz)) : CM l G yX2_addYear bX2_addYear 3 (Option.some Jvm.ClassFile.FieldType.int) rm_X2_addYear [.ref (gA G o 0), .int a1, .int a2] (m1 σ o P) lm (some (.int rz)) (m1 σ o Pz) lm := by
  refine CM.of (own := zR2) (L0 := [(0, .ref (gA G o 0)), (1, .int a1), (2, .int a2)]) (by decide +kernel) rfl (Nat.le_of_ble_eq_true rfl) rfl (fun X hl hX hR hQ => ?_)
  have K39 : ∀ (P : Pm) (_ : True), f_X2_addYear_J39 P = some (rz, Pz) → WW X G 3 (m1 σ o P) lm 39 [(0, .ref (gA G o 0))] [] := by
    intro P _ h
    unfold f_X2_addYear_J39 at h
    refine r_aload_n hX rfl 0 rfl dX2_addYear_39 ?_
    refine gf_2_1 hX fl_X2_13 ho m1_g dX2_addYear_40 ?_
    have g0 := Option.some.inj h
    obtain ⟨q0, g1⟩ := Prod.mk.inj g0
    subst q0
    subst g1
    exact r_iret hX hQ dX2_addYear_43
  unfold f_X2_addYear at h
  refine r_aload_n hX rfl 0 rfl dX2_addYear_0 ?_
  refine gf_2_1 hX fl_X2_13 ho m1_g dX2_addYear_1 ?_
  refine r_bipush (v := 10) hX (by decide) dX2_addYear_4 ?_
  refine r_icmp_ge hX dX2_addYear_6 (fun hc => ?_) (fun hc => ?_)
  · replace h := ip_e hc h
    exact WW.sub [0] rfl (K39 P trivial h)
  · replace h := in_e hc h
    refine r_aload_n hX rfl 0 rfl dX2_addYear_9 ?_
    refine gf_2_5 hX fl_X2_26 ho m1_g dX2_addYear_10 ?_
    refine r_aload_n hX rfl 0 rfl dX2_addYear_13 ?_
    refine gf_2_1 hX fl_X2_13 ho m1_g dX2_addYear_14 ?_
    refine r_iload_n hX rfl 1 rfl dX2_addYear_17 ?_
    obtain ⟨hk1, h⟩ := kc_e h
    obtain ⟨P2, hP2, h⟩ := nb_e h
    refine pa_2_6 hX ho m1_g hk1 (m1_w hP2) dX2_addYear_18 ?_
    refine r_aload_n hX rfl 0 rfl dX2_addYear_19 ?_
    refine gf_2_6 hX fl_X2_29 ho m1_g dX2_addYear_20 ?_
    refine r_aload_n hX rfl 0 rfl dX2_addYear_23 ?_
    refine gf_2_1 hX fl_X2_13 ho m1_g dX2_addYear_24 ?_
    refine r_iload_n hX rfl 2 rfl dX2_addYear_27 ?_
    obtain ⟨hk3, h⟩ := kc_e h
    obtain ⟨P4, hP4, h⟩ := nb_e h
    refine pa_2_7 hX ho m1_g hk3 (m1_w hP4) dX2_addYear_28 ?_
    refine r_aload_n hX rfl 0 rfl dX2_addYear_29 ?_
    refine r_dup hX rfl dX2_addYear_30 ?_
    refine gf_2_1 hX fl_X2_13 ho m1_g dX2_addYear_31 ?_
    refine r_iconst (v := 1) hX (by decide) dX2_addYear_34 ?_
    refine r_iadd hX dX2_addYear_35 ?_
    obtain ⟨P5, hP5, h⟩ := nb_e h
    refine pf_2_1 hX fl_X2_13 ho m1_g dX2_addYear_36 (m1_w hP5) ?_
    exact WW.sub [0] rfl (K39 P5 trivial h)
abbrev rm_X2_addBook : Room := { frames := 0, cells := 0, slots := 0, locals := 60 }
def f_X2_addBook_J39 (P : Pm) : Option (Int32 × Pm) :=
  some ((P 0 2), P)
def f_X2_addBook (P : Pm) (a1 : Int32) (a2 : Int32) : Option (Int32 × Pm) :=
  (if 8 ≤ (P 0 2) then f_X2_addBook_J39 P else (if inb (P 0 2) 8 = true then nb (up2 P 8 (ix (P 0 2)) a1) (fun P2 => (if inb (P2 0 2) 8 = true then nb (up2 P2 9 (ix (P2 0 2)) a2) (fun P4 => nb (up2 P4 0 2 ((P4 0 2) + 1)) (fun P5 => f_X2_addBook_J39 P5)) else none)) else none))
set_option maxHeartbeats 4000000 in
set_option maxRecDepth 100000 in
theorem c_X2_addBook (l : Launch) (G : GE) {σ : Mm} {lm : Ml} {o : Nat} (ho : kdo o = 2)  {P : Pm} {a1 : Int32} {a2 : Int32} {rz : Int32} {Pz : Pm} (h : f_X2_addBook P a1 a2 = some (rz, Pz)) : CM l G yX2_addBook bX2_addBook 3 (Option.some Jvm.ClassFile.FieldType.int) rm_X2_addBook [.ref (gA G o 0), .int a1, .int a2] (m1 σ o P) lm (some (.int rz)) (m1 σ o Pz) lm := by
  refine CM.of (own := zR2) (L0 := [(0, .ref (gA G o 0)), (1, .int a1), (2, .int a2)]) (by decide +kernel) rfl (Nat.le_of_ble_eq_true rfl) rfl (fun X hl hX hR hQ => ?_)
  have K39 : ∀ (P : Pm) (_ : True), f_X2_addBook_J39 P = some (rz, Pz) → WW X G 3 (m1 σ o P) lm 39 [(0, .ref (gA G o 0))] [] := by
    intro P _ h
    unfold f_X2_addBook_J39 at h
    refine r_aload_n hX rfl 0 rfl dX2_addBook_39 ?_
    refine gf_2_2 hX fl_X2_16 ho m1_g dX2_addBook_40 ?_
    have g0 := Option.some.inj h
    obtain ⟨q0, g1⟩ := Prod.mk.inj g0
    subst q0
    subst g1
    exact r_iret hX hQ dX2_addBook_43
  unfold f_X2_addBook at h
  refine r_aload_n hX rfl 0 rfl dX2_addBook_0 ?_
  refine gf_2_2 hX fl_X2_16 ho m1_g dX2_addBook_1 ?_
  refine r_bipush (v := 8) hX (by decide) dX2_addBook_4 ?_
  refine r_icmp_ge hX dX2_addBook_6 (fun hc => ?_) (fun hc => ?_)
  · replace h := ip_e hc h
    exact WW.sub [0] rfl (K39 P trivial h)
  · replace h := in_e hc h
    refine r_aload_n hX rfl 0 rfl dX2_addBook_9 ?_
    refine gf_2_7 hX fl_X2_32 ho m1_g dX2_addBook_10 ?_
    refine r_aload_n hX rfl 0 rfl dX2_addBook_13 ?_
    refine gf_2_2 hX fl_X2_16 ho m1_g dX2_addBook_14 ?_
    refine r_iload_n hX rfl 1 rfl dX2_addBook_17 ?_
    obtain ⟨hk1, h⟩ := kc_e h
    obtain ⟨P2, hP2, h⟩ := nb_e h
    refine pa_2_8 hX ho m1_g hk1 (m1_w hP2) dX2_addBook_18 ?_
    refine r_aload_n hX rfl 0 rfl dX2_addBook_19 ?_
    refine gf_2_8 hX fl_X2_35 ho m1_g dX2_addBook_20 ?_
    refine r_aload_n hX rfl 0 rfl dX2_addBook_23 ?_
    refine gf_2_2 hX fl_X2_16 ho m1_g dX2_addBook_24 ?_
    refine r_iload_n hX rfl 2 rfl dX2_addBook_27 ?_
    obtain ⟨hk3, h⟩ := kc_e h
    obtain ⟨P4, hP4, h⟩ := nb_e h
    refine pa_2_9 hX ho m1_g hk3 (m1_w hP4) dX2_addBook_28 ?_
    refine r_aload_n hX rfl 0 rfl dX2_addBook_29 ?_
    refine r_dup hX rfl dX2_addBook_30 ?_
    refine gf_2_2 hX fl_X2_16 ho m1_g dX2_addBook_31 ?_
    refine r_iconst (v := 1) hX (by decide) dX2_addBook_34 ?_
    refine r_iadd hX dX2_addBook_35 ?_
    obtain ⟨P5, hP5, h⟩ := nb_e h
    refine pf_2_2 hX fl_X2_16 ho m1_g dX2_addBook_36 (m1_w hP5) ?_
    exact WW.sub [0] rfl (K39 P5 trivial h)
abbrev rm_X2_farthestSeen : Room := { frames := 1, cells := 0, slots := 0, locals := 81 }
def f_X2_farthestSeen_J29 (P : Pm) (v1 : Int32) : Option (Int32) :=
  some v1
def f_X2_farthestSeen_B4 (P : Pm) (v1 : Int32) (v2 : Int32) : Option ((Int32 × Int32) ⊕ (Int32)) :=
  (if (P 0 0) ≤ v2 then some (.inr v1) else (if inb v2 5 = true then Option.bind (f_J9_max_7cf53 v1 (P 5 (ix v2))) (fun x2 => some (.inl (x2, (v2 + 1)))) else none))
def f_X2_farthestSeen_H4 (P : Pm) (v1 : Int32) (v2 : Int32) : Option (Int32) :=
  Option.bind (iter (fun t => f_X2_farthestSeen_B4 P t.1 t.2) 200 (v1, v2)) (fun v1 => f_X2_farthestSeen_J29 P v1)
def f_X2_farthestSeen (P : Pm) : Option (Int32) :=
  f_X2_farthestSeen_H4 P (-1) 0
set_option maxHeartbeats 4000000 in
set_option maxRecDepth 100000 in
theorem c_X2_farthestSeen (l : Launch) (G : GE) {σ : Mm} {lm : Ml} {o : Nat} (ho : kdo o = 2)  {P : Pm} {rz : Int32} (h : f_X2_farthestSeen P = some rz) : CM l G yX2_farthestSeen bX2_farthestSeen 3 (Option.some Jvm.ClassFile.FieldType.int) rm_X2_farthestSeen [.ref (gA G o 0)] (m1 σ o P) lm (some (.int rz)) (m1 σ o P) lm := by
  refine CM.of (own := zR2) (L0 := [(0, .ref (gA G o 0))]) (by decide +kernel) rfl (Nat.le_of_ble_eq_true rfl) rfl (fun X hl hX hR hQ => ?_)
  have K29 : ∀ (v1 : Int32) (_ : True), f_X2_farthestSeen_J29 P v1 = some rz → WW X G 3 (m1 σ o P) lm 29 [(1, .int v1)] [] := by
    intro v1 _ h
    unfold f_X2_farthestSeen_J29 at h
    refine r_iload_n hX rfl 0 rfl dX2_farthestSeen_29 ?_
    have g0 := Option.some.inj h
    subst g0
    exact r_iret hX hQ dX2_farthestSeen_30
  have K4 : ∀ (v1 : Int32) (v2 : Int32) (_ : True), f_X2_farthestSeen_H4 P v1 v2 = some rz → WW X G 3 (m1 σ o P) lm 4 [(0, .ref (gA G o 0)), (1, .int v1), (2, .int v2)] [] := by
    intro v1 v2 _ h
    unfold f_X2_farthestSeen_H4 at h
    obtain ⟨e_v1, hit, hO⟩ := bn_e h
    refine iter_w (P := fun t : Int32 × Int32 => WW X G 3 (m1 σ o P) lm 4 [(0, .ref (gA G o 0)), (1, .int t.1), (2, .int t.2)] []) (x := e_v1) ?_ 200 (v1, v2) hit
    clear hit
    intro t z1 hb hin1 hex1
    obtain ⟨v1, v2⟩ := t
    have h : f_X2_farthestSeen_B4 P v1 v2 = some z1 := hb
    clear hb
    unfold f_X2_farthestSeen_B4 at h
    refine r_iload_n hX rfl 2 rfl dX2_farthestSeen_4 ?_
    refine r_aload_n hX rfl 0 rfl dX2_farthestSeen_5 ?_
    refine gf_2_0 hX fl_X2_7 ho m1_g dX2_farthestSeen_6 ?_
    refine r_icmp_ge hX dX2_farthestSeen_9 (fun hc => ?_) (fun hc => ?_)
    · replace h := ip_e hc h
      have g0 := hex1 _ (Option.some.inj h).symm
      subst g0
      exact WW.sub [1] rfl (K29 v1 trivial hO)
    · replace h := in_e hc h
      refine r_iload_n hX rfl 1 rfl dX2_farthestSeen_12 ?_
      refine r_aload_n hX rfl 0 rfl dX2_farthestSeen_13 ?_
      refine gf_2_4 hX fl_X2_23 ho m1_g dX2_farthestSeen_14 ?_
      refine r_iload_n hX rfl 2 rfl dX2_farthestSeen_17 ?_
      obtain ⟨hk1, h⟩ := kc_e h
      refine ga_2_5 hX ho m1_g hk1 dX2_farthestSeen_18 ?_
      obtain ⟨x2, hc2, h⟩ := bn_e h
      refine r_callSi hX hR (c_J9_max_7cf53 (σ := (m1 σ o P)) X.2.1 G hc2) rfl rfl mf_J9_max_7cf53 ml_X2_44 st_J9_max_7cf53 ⟨rfl, rfl, Nat.le_of_ble_eq_true rfl, Nat.le_of_ble_eq_true rfl⟩ rfl (st := []) rfl (Nat.le_of_ble_eq_true rfl) dX2_farthestSeen_19 ?_
      refine r_istore_n (L2 := [(1, .int x2), (0, .ref (gA G o 0)), (2, .int v2)]) hX rfl (by decide) rfl dX2_farthestSeen_22 ?_
      refine r_iinc (v := v2 + 1) (L2 := [(2, .int (v2 + 1)), (1, .int x2), (0, .ref (gA G o 0))]) hX 2 rfl rfl (by decide) rfl dX2_farthestSeen_23 ?_
      refine r_goto hX dX2_farthestSeen_26 ?_
      exact WW.sub [2, 1, 0] rfl (hin1 _ (Option.some.inj h).symm)
  unfold f_X2_farthestSeen at h
  refine r_iconst (v := (-1)) hX (by decide) dX2_farthestSeen_0 ?_
  refine r_istore_n (L2 := [(1, .int (-1)), (0, .ref (gA G o 0))]) hX rfl (by decide) rfl dX2_farthestSeen_1 ?_
  refine r_iconst (v := 0) hX (by decide) dX2_farthestSeen_2 ?_
  refine r_istore_n (L2 := [(2, .int 0), (1, .int (-1)), (0, .ref (gA G o 0))]) hX rfl (by decide) rfl dX2_farthestSeen_3 ?_
  exact WW.sub [2, 1, 0] rfl (K4 (-1) 0 trivial h)
abbrev rm_X2_seenFits : Room := { frames := 0, cells := 0, slots := 0, locals := 60 }
def f_X2_seenFits_J32 (P : Pm) (v1 : Int32) (v2 : Int32) (v3 : Int32) : Option ((Int32) ⊕ (Int32)) :=
  some (.inl (v3 + 1))
def f_X2_seenFits_B2 (P : Pm) (v1 : Int32) (v2 : Int32) (v3 : Int32) : Option ((Int32) ⊕ (Int32)) :=
  (if (P 0 0) ≤ v3 then wr (some 1) else (if inb v3 5 = true then (if (P 5 (ix v3)) = v1 then (if inb v3 5 = true then (if (P 4 (ix v3)) = v2 then f_X2_seenFits_J32 P v1 v2 v3 else wr (some 0)) else none) else f_X2_seenFits_J32 P v1 v2 v3) else none))
def f_X2_seenFits_H2 (P : Pm) (v1 : Int32) (v2 : Int32) (v3 : Int32) : Option (Int32) :=
  iter (fun t => f_X2_seenFits_B2 P v1 v2 t) 200 v3
def f_X2_seenFits (P : Pm) (a1 : Int32) (a2 : Int32) : Option (Int32) :=
  f_X2_seenFits_H2 P a1 a2 0
set_option maxHeartbeats 4000000 in
set_option maxRecDepth 100000 in
theorem c_X2_seenFits (l : Launch) (G : GE) {σ : Mm} {lm : Ml} {o : Nat} (ho : kdo o = 2)  {P : Pm} {a1 : Int32} {a2 : Int32} {rz : Int32} (h : f_X2_seenFits P a1 a2 = some rz) : CM l G yX2_seenFits bX2_seenFits 4 (Option.some Jvm.ClassFile.FieldType.boolean) rm_X2_seenFits [.ref (gA G o 0), .int a1, .int a2] (m1 σ o P) lm (some (.int rz)) (m1 σ o P) lm := by
  refine CM.of (own := zR2) (L0 := [(0, .ref (gA G o 0)), (1, .int a1), (2, .int a2)]) (by decide +kernel) rfl (Nat.le_of_ble_eq_true rfl) rfl (fun X hl hX hR hQ => ?_)
  have K2 : ∀ (v1 : Int32) (v2 : Int32) (v3 : Int32) (_ : True), f_X2_seenFits_H2 P v1 v2 v3 = some rz → WW X G 4 (m1 σ o P) lm 2 [(0, .ref (gA G o 0)), (1, .int v1), (2, .int v2), (3, .int v3)] [] := by
    intro v1 v2 v3 _ h
    unfold f_X2_seenFits_H2 at h
    have hit := h
    refine iter_w (P := fun t : Int32 => WW X G 4 (m1 σ o P) lm 2 [(0, .ref (gA G o 0)), (1, .int v1), (2, .int v2), (3, .int t)] []) (x := rz) ?_ 200 v3 hit
    clear hit
    clear h
    intro v3 z1 hb hin1 hex1
    have h : f_X2_seenFits_B2 P v1 v2 v3 = some z1 := hb
    clear hb
    have K32 : ∀ (v3 : Int32) (_ : True), f_X2_seenFits_J32 P v1 v2 v3 = some z1 → WW X G 4 (m1 σ o P) lm 32 [(0, .ref (gA G o 0)), (1, .int v1), (2, .int v2), (3, .int v3)] [] := by
      intro v3 _ h
      unfold f_X2_seenFits_J32 at h
      refine r_iinc (v := v3 + 1) (L2 := [(3, .int (v3 + 1)), (0, .ref (gA G o 0)), (1, .int v1), (2, .int v2)]) hX 3 rfl rfl (by decide) rfl dX2_seenFits_32 ?_
      refine r_goto hX dX2_seenFits_35 ?_
      exact WW.sub [1, 2, 3, 0] rfl (hin1 _ (Option.some.inj h).symm)
    unfold f_X2_seenFits_B2 at h
    refine r_iload_n hX rfl 3 rfl dX2_seenFits_2 ?_
    refine r_aload_n hX rfl 0 rfl dX2_seenFits_3 ?_
    refine gf_2_0 hX fl_X2_7 ho m1_g dX2_seenFits_4 ?_
    refine r_icmp_ge hX dX2_seenFits_7 (fun hc => ?_) (fun hc => ?_)
    · replace h := ip_e hc h
      refine r_iconst (v := 1) hX (by decide) dX2_seenFits_38 ?_
      obtain ⟨y1, h, e1⟩ := wr_e h
      rw [hex1 _ e1] at h
      have g0 := Option.some.inj h
      subst g0
      exact r_zret hX (Or.inr rfl) hQ dX2_seenFits_39
    · replace h := in_e hc h
      refine r_aload_n hX rfl 0 rfl dX2_seenFits_10 ?_
      refine gf_2_4 hX fl_X2_23 ho m1_g dX2_seenFits_11 ?_
      refine r_iload_n hX rfl 3 rfl dX2_seenFits_14 ?_
      obtain ⟨hk1, h⟩ := kc_e h
      refine ga_2_5 hX ho m1_g hk1 dX2_seenFits_15 ?_
      refine r_iload_n hX rfl 1 rfl dX2_seenFits_16 ?_
      refine r_icmp_ne hX dX2_seenFits_17 (fun hc => ?_) (fun hc => ?_)
      · replace h := in_e hc h
        exact WW.sub [0, 1, 2, 3] rfl (K32 v3 trivial h)
      · replace h := ip_e hc h
        refine r_aload_n hX rfl 0 rfl dX2_seenFits_20 ?_
        refine gf_2_3 hX fl_X2_19 ho m1_g dX2_seenFits_21 ?_
        refine r_iload_n hX rfl 3 rfl dX2_seenFits_24 ?_
        obtain ⟨hk2, h⟩ := kc_e h
        refine ga_2_4 hX ho m1_g hk2 dX2_seenFits_25 ?_
        refine r_iload_n hX rfl 2 rfl dX2_seenFits_26 ?_
        refine r_icmp_eq hX dX2_seenFits_27 (fun hc => ?_) (fun hc => ?_)
        · replace h := ip_e hc h
          exact WW.sub [0, 1, 2, 3] rfl (K32 v3 trivial h)
        · replace h := in_e hc h
          refine r_iconst (v := 0) hX (by decide) dX2_seenFits_30 ?_
          obtain ⟨y1, h, e1⟩ := wr_e h
          rw [hex1 _ e1] at h
          have g0 := Option.some.inj h
          subst g0
          exact r_zret hX (Or.inl rfl) hQ dX2_seenFits_31
  unfold f_X2_seenFits at h
  refine r_iconst (v := 0) hX (by decide) dX2_seenFits_0 ?_
  refine r_istore_n (L2 := [(3, .int 0), (0, .ref (gA G o 0)), (1, .int a1), (2, .int a2)]) hX rfl (by decide) rfl dX2_seenFits_1 ?_
  exact WW.sub [1, 2, 3, 0] rfl (K2 a1 a2 0 trivial h)
abbrev rm_X4_known : Room := { frames := 0, cells := 0, slots := 0, locals := 60 }
def f_X4_known (P : Pm) (a1 : Int32) : Option (Int32) :=
  (if a1 < 0 then some 0 else (if 6 ≤ a1 then some 0 else some 1))
set_option maxHeartbeats 4000000 in
set_option maxRecDepth 100000 in
theorem c_X4_known (l : Launch) (G : GE) {σ : Mm} {lm : Ml}  {P : Pm} {a1 : Int32} {rz : Int32} (h : f_X4_known P a1 = some rz) : CM l G yX4_known bX4_known 2 (Option.some Jvm.ClassFile.FieldType.boolean) rm_X4_known [.ref (gA G 16 0), .int a1] (m1 σ 16 P) lm (some (.int rz)) (m1 σ 16 P) lm := by
  refine CM.of (own := zR4) (L0 := [(0, .ref (gA G 16 0)), (1, .int a1)]) (by decide +kernel) rfl (Nat.le_of_ble_eq_true rfl) rfl (fun X hl hX hR hQ => ?_)
  unfold f_X4_known at h
  refine r_iload_n hX rfl 1 rfl dX4_known_0 ?_
  refine r_if_lt hX dX4_known_1 (fun hc => ?_) (fun hc => ?_)
  · replace h := ip_e hc h
    refine r_iconst (v := 0) hX (by decide) dX4_known_14 ?_
    have g0 := Option.some.inj h
    subst g0
    exact r_zret hX (Or.inl rfl) hQ dX4_known_15
  · replace h := in_e hc h
    refine r_iload_n hX rfl 1 rfl dX4_known_4 ?_
    refine r_bipush (v := 6) hX (by decide) dX4_known_5 ?_
    refine r_icmp_ge hX dX4_known_7 (fun hc => ?_) (fun hc => ?_)
    · replace h := ip_e hc h
      refine r_iconst (v := 0) hX (by decide) dX4_known_14 ?_
      have g0 := Option.some.inj h
      subst g0
      exact r_zret hX (Or.inl rfl) hQ dX4_known_15
    · replace h := in_e hc h
      refine r_iconst (v := 1) hX (by decide) dX4_known_10 ?_
      refine r_goto hX dX4_known_11 ?_
      have g0 := Option.some.inj h
      subst g0
      exact r_zret hX (Or.inr rfl) hQ dX4_known_15
abbrev rm_X4_holds : Room := { frames := 0, cells := 0, slots := 0, locals := 60 }
def f_X4_holds (P : Pm) (a1 : Int32) : Option (Int32) :=
  (if inb a1 6 = true then (if (P 1 (ix a1)) = (-1) then some 0 else some 1) else none)
set_option maxHeartbeats 4000000 in
set_option maxRecDepth 100000 in
theorem c_X4_holds (l : Launch) (G : GE) {σ : Mm} {lm : Ml}  {P : Pm} {a1 : Int32} {rz : Int32} (h : f_X4_holds P a1 = some rz) : CM l G yX4_holds bX4_holds 2 (Option.some Jvm.ClassFile.FieldType.boolean) rm_X4_holds [.ref (gA G 16 0), .int a1] (m1 σ 16 P) lm (some (.int rz)) (m1 σ 16 P) lm := by
  refine CM.of (own := zR4) (L0 := [(0, .ref (gA G 16 0)), (1, .int a1)]) (by decide +kernel) rfl (Nat.le_of_ble_eq_true rfl) rfl (fun X hl hX hR hQ => ?_)
  unfold f_X4_holds at h
  refine r_aload_n hX rfl 0 rfl dX4_holds_0 ?_
  refine gf_4_0 (o := 16) hX fl_X4_9 rfl m1_g dX4_holds_1 ?_
  refine r_iload_n hX rfl 1 rfl dX4_holds_4 ?_
  obtain ⟨hk1, h⟩ := kc_e h
  refine ga_4_1 (o := 16) hX rfl m1_g hk1 dX4_holds_5 ?_
  refine r_iconst (v := (-1)) hX (by decide) dX4_holds_6 ?_
  refine r_icmp_eq hX dX4_holds_7 (fun hc => ?_) (fun hc => ?_)
  · replace h := ip_e hc h
    refine r_iconst (v := 0) hX (by decide) dX4_holds_14 ?_
    have g0 := Option.some.inj h
    subst g0
    exact r_zret hX (Or.inl rfl) hQ dX4_holds_15
  · replace h := in_e hc h
    refine r_iconst (v := 1) hX (by decide) dX4_holds_10 ?_
    refine r_goto hX dX4_holds_11 ?_
    have g0 := Option.some.inj h
    subst g0
    exact r_zret hX (Or.inr rfl) hQ dX4_holds_15
abbrev rm_X4_hasPlace : Room := { frames := 1, cells := 0, slots := 0, locals := 81 }
def f_X4_hasPlace (P : Pm) (a1 : Int32) (a2 : Int64) : Option (Int32) :=
  Option.bind (f_X4_holds P a1) (fun x1 => (if x1 = 0 then some 0 else (if (lg_cmp a2 0) < 0 then some 0 else (if inb a1 6 = true then (if 0 ≤ (lg_cmp a2 ((P 2 (ix a1)).toInt64)) then some 0 else some 1) else none))))
set_option maxHeartbeats 4000000 in
set_option maxRecDepth 100000 in
theorem c_X4_hasPlace (l : Launch) (G : GE) {σ : Mm} {lm : Ml}  {P : Pm} {a1 : Int32} {a2 : Int64} {rz : Int32} (h : f_X4_hasPlace P a1 a2 = some rz) : CM l G yX4_hasPlace bX4_hasPlace 4 (Option.some Jvm.ClassFile.FieldType.boolean) rm_X4_hasPlace [.ref (gA G 16 0), .int a1, .long a2] (m1 σ 16 P) lm (some (.int rz)) (m1 σ 16 P) lm := by
  refine CM.of (own := zR4) (L0 := [(0, .ref (gA G 16 0)), (1, .int a1), (2, .long a2)]) (by decide +kernel) rfl (Nat.le_of_ble_eq_true rfl) rfl (fun X hl hX hR hQ => ?_)
  unfold f_X4_hasPlace at h
  refine r_aload_n hX rfl 0 rfl dX4_hasPlace_0 ?_
  refine r_iload_n hX rfl 1 rfl dX4_hasPlace_1 ?_
  obtain ⟨x1, hc1, h⟩ := bn_e h
  refine r_callVi hX hR (c_X4_holds (σ := σ) X.2.1 G hc1) rfl rfl mf_X4_holds ml_X4_21 in_X4_holds se_X4_holds rfl rfl ⟨rfl, rfl, Nat.le_of_ble_eq_true rfl, Nat.le_of_ble_eq_true rfl⟩ rfl (st := []) rfl (Nat.le_of_ble_eq_true rfl) dX4_hasPlace_2 ?_
  refine r_if_eq hX dX4_hasPlace_5 (fun hc => ?_) (fun hc => ?_)
  · replace h := ip_e hc h
    refine r_iconst (v := 0) hX (by decide) dX4_hasPlace_30 ?_
    have g0 := Option.some.inj h
    subst g0
    exact r_zret hX (Or.inl rfl) hQ dX4_hasPlace_31
  · replace h := in_e hc h
    refine r_lload_n hX rfl 2 rfl dX4_hasPlace_8 ?_
    refine r_lconst (v := 0) hX (by decide) dX4_hasPlace_9 ?_
    refine r_lcmp hX dX4_hasPlace_10 ?_
    refine r_if_lt hX dX4_hasPlace_11 (fun hc => ?_) (fun hc => ?_)
    · replace h := ip_e hc h
      refine r_iconst (v := 0) hX (by decide) dX4_hasPlace_30 ?_
      have g0 := Option.some.inj h
      subst g0
      exact r_zret hX (Or.inl rfl) hQ dX4_hasPlace_31
    · replace h := in_e hc h
      refine r_lload_n hX rfl 2 rfl dX4_hasPlace_14 ?_
      refine r_aload_n hX rfl 0 rfl dX4_hasPlace_15 ?_
      refine gf_4_1 (o := 16) hX fl_X4_13 rfl m1_g dX4_hasPlace_16 ?_
      refine r_iload_n hX rfl 1 rfl dX4_hasPlace_19 ?_
      obtain ⟨hk2, h⟩ := kc_e h
      refine ga_4_2 (o := 16) hX rfl m1_g hk2 dX4_hasPlace_20 ?_
      refine r_i2l hX dX4_hasPlace_21 ?_
      refine r_lcmp hX dX4_hasPlace_22 ?_
      refine r_if_ge hX dX4_hasPlace_23 (fun hc => ?_) (fun hc => ?_)
      · replace h := ip_e hc h
        refine r_iconst (v := 0) hX (by decide) dX4_hasPlace_30 ?_
        have g0 := Option.some.inj h
        subst g0
        exact r_zret hX (Or.inl rfl) hQ dX4_hasPlace_31
      · replace h := in_e hc h
        refine r_iconst (v := 1) hX (by decide) dX4_hasPlace_26 ?_
        refine r_goto hX dX4_hasPlace_27 ?_
        have g0 := Option.some.inj h
        subst g0
        exact r_zret hX (Or.inr rfl) hQ dX4_hasPlace_31
abbrev rm_X4_hasRoom : Room := { frames := 0, cells := 0, slots := 0, locals := 60 }
def f_X4_hasRoom (P : Pm) (a1 : Int32) (a2 : Int32) (a3 : Int32) : Option (Int32) :=
  (if a2 < 0 then some 0 else (if a3 < 0 then some 0 else (if inb a1 6 = true then (if 0 < (lg_cmp (a2.toInt64 + a3.toInt64) ((P 2 (ix a1)).toInt64)) then some 0 else some 1) else none)))
set_option maxHeartbeats 4000000 in
set_option maxRecDepth 100000 in
theorem c_X4_hasRoom (l : Launch) (G : GE) {σ : Mm} {lm : Ml}  {P : Pm} {a1 : Int32} {a2 : Int32} {a3 : Int32} {rz : Int32} (h : f_X4_hasRoom P a1 a2 a3 = some rz) : CM l G yX4_hasRoom bX4_hasRoom 4 (Option.some Jvm.ClassFile.FieldType.boolean) rm_X4_hasRoom [.ref (gA G 16 0), .int a1, .int a2, .int a3] (m1 σ 16 P) lm (some (.int rz)) (m1 σ 16 P) lm := by
  refine CM.of (own := zR4) (L0 := [(0, .ref (gA G 16 0)), (1, .int a1), (2, .int a2), (3, .int a3)]) (by decide +kernel) rfl (Nat.le_of_ble_eq_true rfl) rfl (fun X hl hX hR hQ => ?_)
  unfold f_X4_hasRoom at h
  refine r_iload_n hX rfl 2 rfl dX4_hasRoom_0 ?_
  refine r_if_lt hX dX4_hasRoom_1 (fun hc => ?_) (fun hc => ?_)
  · replace h := ip_e hc h
    refine r_iconst (v := 0) hX (by decide) dX4_hasRoom_28 ?_
    have g0 := Option.some.inj h
    subst g0
    exact r_zret hX (Or.inl rfl) hQ dX4_hasRoom_29
  · replace h := in_e hc h
    refine r_iload_n hX rfl 3 rfl dX4_hasRoom_4 ?_
    refine r_if_lt hX dX4_hasRoom_5 (fun hc => ?_) (fun hc => ?_)
    · replace h := ip_e hc h
      refine r_iconst (v := 0) hX (by decide) dX4_hasRoom_28 ?_
      have g0 := Option.some.inj h
      subst g0
      exact r_zret hX (Or.inl rfl) hQ dX4_hasRoom_29
    · replace h := in_e hc h
      refine r_iload_n hX rfl 2 rfl dX4_hasRoom_8 ?_
      refine r_i2l hX dX4_hasRoom_9 ?_
      refine r_iload_n hX rfl 3 rfl dX4_hasRoom_10 ?_
      refine r_i2l hX dX4_hasRoom_11 ?_
      refine r_ladd hX dX4_hasRoom_12 ?_
      refine r_aload_n hX rfl 0 rfl dX4_hasRoom_13 ?_
      refine gf_4_1 (o := 16) hX fl_X4_13 rfl m1_g dX4_hasRoom_14 ?_
      refine r_iload_n hX rfl 1 rfl dX4_hasRoom_17 ?_
      obtain ⟨hk1, h⟩ := kc_e h
      refine ga_4_2 (o := 16) hX rfl m1_g hk1 dX4_hasRoom_18 ?_
      refine r_i2l hX dX4_hasRoom_19 ?_
      refine r_lcmp hX dX4_hasRoom_20 ?_
      refine r_if_gt hX dX4_hasRoom_21 (fun hc => ?_) (fun hc => ?_)
      · replace h := ip_e hc h
        refine r_iconst (v := 0) hX (by decide) dX4_hasRoom_28 ?_
        have g0 := Option.some.inj h
        subst g0
        exact r_zret hX (Or.inl rfl) hQ dX4_hasRoom_29
      · replace h := in_e hc h
        refine r_iconst (v := 1) hX (by decide) dX4_hasRoom_24 ?_
        refine r_goto hX dX4_hasRoom_25 ?_
        have g0 := Option.some.inj h
        subst g0
        exact r_zret hX (Or.inr rfl) hQ dX4_hasRoom_29
abbrev rm_X4_make : Room := { frames := 0, cells := 0, slots := 0, locals := 60 }
def f_X4_make_J40 (P : Pm) (lm : Ml) : Option (Pm × Ml) :=
  some (P, lm)
def f_X4_make_B17 (P : Pm) (v1 : Int32) (v4 : Int32) (lm : Ml) : Option ((Int32 × Ml) ⊕ (Ml)) :=
  (if 60 ≤ v4 then some (.inr lm) else (if inb v1 6 = true then (if inb v4 60 = true then nb (setO lm 16 (up2L (lm 16) (4 + ix v1) (ix v4) 0)) (fun lm2 => some (.inl ((v4 + 1), lm2))) else none) else none))
def f_X4_make_H17 (P : Pm) (lm : Ml) (v1 : Int32) (v4 : Int32) : Option (Pm × Ml) :=
  Option.bind (iter (fun t => f_X4_make_B17 P v1 t.1 t.2) 200 (v4, lm)) (fun lm => f_X4_make_J40 P lm)
def f_X4_make (P : Pm) (lm : Ml) (a1 : Int32) (a2 : Int32) (a3 : Int32) : Option (Pm × Ml) :=
  (if inb a1 6 = true then nb (up2 P 1 (ix a1) a2) (fun P5 => (if inb a1 6 = true then nb (up2 P5 2 (ix a1) a3) (fun P7 => f_X4_make_H17 P7 lm a1 0) else none)) else none)
set_option maxHeartbeats 4000000 in
set_option maxRecDepth 100000 in
theorem c_X4_make (l : Launch) (G : GE) {σ : Mm}  {P : Pm} {lm : Ml} {a1 : Int32} {a2 : Int32} {a3 : Int32} {Pz : Pm} {lmz : Ml} (h : f_X4_make P lm a1 a2 a3 = some (Pz, lmz)) : CM l G yX4_make bX4_make 5 (Option.none : Option Jvm.ClassFile.FieldType) rm_X4_make [.ref (gA G 16 0), .int a1, .int a2, .int a3] (m1 σ 16 P) lm (none) (m1 σ 16 Pz) lmz := by
  refine CM.of (own := zR4) (L0 := [(0, .ref (gA G 16 0)), (1, .int a1), (2, .int a2), (3, .int a3)]) (by decide +kernel) rfl (Nat.le_of_ble_eq_true rfl) rfl (fun X hl hX hR hQ => ?_)
  have K40 : ∀ (P : Pm) (lm : Ml) (_ : True), f_X4_make_J40 P lm = some (Pz, lmz) → WW X G 5 (m1 σ 16 P) lm 40 [] [] := by
    intro P lm _ h
    unfold f_X4_make_J40 at h
    have g0 := Option.some.inj h
    obtain ⟨q0, g1⟩ := Prod.mk.inj g0
    subst q0
    subst g1
    exact r_vret hX hQ dX4_make_40
  have K17 : ∀ (P : Pm) (lm : Ml) (v1 : Int32) (v4 : Int32) (_ : True), f_X4_make_H17 P lm v1 v4 = some (Pz, lmz) → WW X G 5 (m1 σ 16 P) lm 17 [(0, .ref (gA G 16 0)), (1, .int v1), (4, .int v4)] [] := by
    intro P lm v1 v4 _ h
    unfold f_X4_make_H17 at h
    obtain ⟨e_lm, hit, hO⟩ := bn_e h
    refine iter_w (P := fun t : Int32 × Ml => WW X G 5 (m1 σ 16 P) t.2 17 [(0, .ref (gA G 16 0)), (1, .int v1), (4, .int t.1)] []) (x := e_lm) ?_ 200 (v4, lm) hit
    clear hit
    intro t z1 hb hin1 hex1
    obtain ⟨v4, lm⟩ := t
    have h : f_X4_make_B17 P v1 v4 lm = some z1 := hb
    clear hb
    unfold f_X4_make_B17 at h
    refine r_iload hX 2 rfl dX4_make_17 ?_
    refine r_bipush (v := 60) hX (by decide) dX4_make_19 ?_
    refine r_icmp_ge hX dX4_make_21 (fun hc => ?_) (fun hc => ?_)
    · replace h := ip_e hc h
      have g0 := hex1 _ (Option.some.inj h).symm
      subst g0
      exact WW.sub [] rfl (K40 P lm trivial hO)
    · replace h := in_e hc h
      refine r_aload_n hX rfl 0 rfl dX4_make_24 ?_
      refine gf_4_2 (o := 16) hX fl_X4_18 rfl m1_g dX4_make_25 ?_
      refine r_iload_n hX rfl 1 rfl dX4_make_28 ?_
      obtain ⟨hk1, h⟩ := kc_e h
      refine r_aaldT hX hk1 dX4_make_29 ?_
      refine r_iload hX 2 rfl dX4_make_30 ?_
      refine r_lconst (v := 0) hX (by decide) dX4_make_32 ?_
      obtain ⟨hk3, h⟩ := kc_e h
      obtain ⟨lm2, hlm2, h⟩ := nb_e h
      refine r_rowst (inb_lt hk1) hX hk3 hlm2.symm dX4_make_33 ?_
      refine r_iinc (v := v4 + 1) (L2 := [(4, .int (v4 + 1)), (0, .ref (gA G 16 0)), (1, .int v1)]) hX 2 rfl rfl (by decide) rfl dX4_make_34 ?_
      refine r_goto hX dX4_make_37 ?_
      exact WW.sub [1, 2, 0] rfl (hin1 _ (Option.some.inj h).symm)
  unfold f_X4_make at h
  refine r_aload_n hX rfl 0 rfl dX4_make_0 ?_
  refine gf_4_0 (o := 16) hX fl_X4_9 rfl m1_g dX4_make_1 ?_
  refine r_iload_n hX rfl 1 rfl dX4_make_4 ?_
  refine r_iload_n hX rfl 2 rfl dX4_make_5 ?_
  obtain ⟨hk4, h⟩ := kc_e h
  obtain ⟨P5, hP5, h⟩ := nb_e h
  refine pa_4_1 (o := 16) hX rfl m1_g hk4 (m1_w hP5) dX4_make_6 ?_
  refine r_aload_n hX rfl 0 rfl dX4_make_7 ?_
  refine gf_4_1 (o := 16) hX fl_X4_13 rfl m1_g dX4_make_8 ?_
  refine r_iload_n hX rfl 1 rfl dX4_make_11 ?_
  refine r_iload_n hX rfl 3 rfl dX4_make_12 ?_
  obtain ⟨hk6, h⟩ := kc_e h
  obtain ⟨P7, hP7, h⟩ := nb_e h
  refine pa_4_2 (o := 16) hX rfl m1_g hk6 (m1_w hP7) dX4_make_13 ?_
  refine r_iconst (v := 0) hX (by decide) dX4_make_14 ?_
  refine r_istore (L2 := [(4, .int 0), (0, .ref (gA G 16 0)), (1, .int a1), (2, .int a2), (3, .int a3)]) hX (by decide) rfl dX4_make_15 ?_
  exact WW.sub [1, 2, 0] rfl (K17 P7 lm a1 0 trivial h)
abbrev rm_X4_cut : Room := { frames := 0, cells := 0, slots := 0, locals := 60 }
def f_X4_cut (a0 : Int32) (a1 : Int64) : Option (Int64) :=
  (if a0 = 0 then some a1.toInt32.toInt8.toInt32.toInt64 else (if a0 = 1 then some a1.toInt32.toInt16.toInt32.toInt64 else (if a0 = 2 then some a1.toInt32.toInt64 else (if a0 = 4 then (if (lg_cmp a1 0) = 0 then some 0 else some 1) else some a1))))
set_option maxHeartbeats 4000000 in
set_option maxRecDepth 100000 in
theorem c_X4_cut (l : Launch) (G : GE) {σ : Mm} {lm : Ml}  {a0 : Int32} {a1 : Int64} {rz : Int64} (h : f_X4_cut a0 a1 = some rz) : CM l G yX4_cut bX4_cut 3 (Option.some Jvm.ClassFile.FieldType.long) rm_X4_cut [.int a0, .long a1] σ lm (some (.long rz)) σ lm := by
  refine CM.of (own := zR4) (L0 := [(0, .int a0), (1, .long a1)]) (by decide +kernel) rfl (Nat.le_of_ble_eq_true rfl) rfl (fun X hl hX hR hQ => ?_)
  unfold f_X4_cut at h
  refine r_iload_n hX rfl 0 rfl dX4_cut_0 ?_
  by_cases hc0 : a0 = 0
  · replace h := ip_e hc0 h
    refine r_tswI (k := 0) (off := 35) (tgt := 36) hX hc0 (by decide) (by decide) (by decide) dX4_cut_1 ?_
    refine r_lload_n hX rfl 1 rfl dX4_cut_36 ?_
    refine r_l2i hX dX4_cut_37 ?_
    refine r_i2b hX dX4_cut_38 ?_
    refine r_i2l hX dX4_cut_39 ?_
    have g0 := Option.some.inj h
    subst g0
    exact r_lret hX hQ dX4_cut_40
  · replace h := in_e hc0 h
    by_cases hc1 : a0 = 1
    · replace h := ip_e hc1 h
      refine r_tswI (k := 1) (off := 40) (tgt := 41) hX hc1 (by decide) (by decide) (by decide) dX4_cut_1 ?_
      refine r_lload_n hX rfl 1 rfl dX4_cut_41 ?_
      refine r_l2i hX dX4_cut_42 ?_
      refine r_i2s hX dX4_cut_43 ?_
      refine r_i2l hX dX4_cut_44 ?_
      have g0 := Option.some.inj h
      subst g0
      exact r_lret hX hQ dX4_cut_45
    · replace h := in_e hc1 h
      by_cases hc2 : a0 = 2
      · replace h := ip_e hc2 h
        refine r_tswI (k := 2) (off := 45) (tgt := 46) hX hc2 (by decide) (by decide) (by decide) dX4_cut_1 ?_
        refine r_lload_n hX rfl 1 rfl dX4_cut_46 ?_
        refine r_l2i hX dX4_cut_47 ?_
        refine r_i2l hX dX4_cut_48 ?_
        have g0 := Option.some.inj h
        subst g0
        exact r_lret hX hQ dX4_cut_49
      · replace h := in_e hc2 h
        by_cases hc3 : a0 = 4
        · replace h := ip_e hc3 h
          refine r_tswI (k := 4) (off := 49) (tgt := 50) hX hc3 (by decide) (by decide) (by decide) dX4_cut_1 ?_
          refine r_lload_n hX rfl 1 rfl dX4_cut_50 ?_
          refine r_lconst (v := 0) hX (by decide) dX4_cut_51 ?_
          refine r_lcmp hX dX4_cut_52 ?_
          refine r_if_eq hX dX4_cut_53 (fun hc => ?_) (fun hc => ?_)
          · replace h := ip_e hc h
            refine r_lconst (v := 0) hX (by decide) dX4_cut_60 ?_
            have g0 := Option.some.inj h
            subst g0
            exact r_lret hX hQ dX4_cut_61
          · replace h := in_e hc h
            refine r_lconst (v := 1) hX (by decide) dX4_cut_56 ?_
            refine r_goto hX dX4_cut_57 ?_
            have g0 := Option.some.inj h
            subst g0
            exact r_lret hX hQ dX4_cut_61
        · replace h := in_e hc3 h
          have hD : WW X G 3 σ lm 62 [(0, .int a0), (1, .long a1)] [] := by
            refine r_lload_n hX rfl 1 rfl dX4_cut_62 ?_
            have g0 := Option.some.inj h
            subst g0
            exact r_lret hX hQ dX4_cut_63
          by_cases hg0 : a0 = 3
          · exact r_tswI (k := 3) (off := 61) (tgt := 62) hX hg0 (by decide) (by decide) (by decide) dX4_cut_1 hD
          refine r_tswD (tgt := 62) hX ?_ (by decide) dX4_cut_1 hD
          have j0 := i32n (n := 0) hc0 rfl
          have j1 := i32n (n := 1) hc1 rfl
          have j2 := i32n (n := 2) hc2 rfl
          have j3 := i32n (n := 4) hc3 rfl
          have j4 := i32n (n := 3) hg0 rfl
          omega
