/-! the pure functions and the walks; written by wip/whole/gen_walk.py -/
abbrev rm_X7_goAsking : Room := { frames := 4, cells := 0, slots := 0, locals := 146 }
def f_X7_goAsking_J75 (P : Pm) (v1 : Int32) : Option (Pm) :=
  (if inb v1 6 = true then Option.bind (f_X7_held P ((P 11 (ix v1)) + 1) (P 0 33)) (fun x2 => (if inb v1 6 = true then nb (up2 P 11 (ix v1) x2) (fun P4 => nb (up2 P4 0 34 ((P4 0 34) + 1)) (fun P5 => (if inb v1 6 = true then Option.bind (f_X7_lastOf P5 4 0) (fun x7 => Option.bind (f_X7_held P5 ((P5 10 (ix v1)) - x7) 99999) (fun x8 => (if inb v1 6 = true then nb (up2 P5 10 (ix v1) x8) (fun P10 => some P10) else none))) else none))) else none)) else none)
def f_X7_goAsking (P : Pm) (a1 : Int32) : Option (Pm) :=
  (if inb a1 6 = true then (if (P 7 (ix a1)) = 0 then none else (if ((P 0 2) - (P 0 2) / (P 7 (ix a1)) * (P 7 (ix a1))) = 0 then (if a1 = (P 0 31) then some P else Option.bind (f_X7_asks P a1) (fun x13 => (if x13 ≤ 0 then f_X7_goAsking_J75 P a1 else Option.bind (f_X7_mark P) (fun x14 => (if ((P 0 0) - x13) < x14 then f_X7_goAsking_J75 P a1 else (if inb a1 6 = true then nb (up2 P 8 (ix a1) x13) (fun P16 => nb (up2 P16 0 0 ((P16 0 0) - x13)) (fun P17 => Option.bind (f_X7_keeps P17 a1) (fun x18 => (if inb a1 6 = true then nb (up2 P17 9 (ix a1) x18) (fun P20 => some P20) else none)))) else none)))))) else some P)) else none)
set_option maxHeartbeats 4000000 in
set_option maxRecDepth 100000 in
theorem c_X7_goAsking (l : Launch) (G : GE) {σ : Mm} {lm : Ml}  {P : Pm} {a1 : Int32} {Pz : Pm} (h : f_X7_goAsking P a1 = some Pz) : CM l G yX7_goAsking bX7_goAsking 3 (Option.none : Option Jvm.ClassFile.FieldType) rm_X7_goAsking [.ref (gA G 17 0), .int a1] (m1 σ 17 P) lm (none) (m1 σ 17 Pz) lm := by
  refine CM.of (own := zR7) (L0 := [(0, .ref (gA G 17 0)), (1, .int a1)]) (by decide +kernel) rfl (Nat.le_of_ble_eq_true rfl) rfl (fun X hl hX hR hQ => ?_)
  have K75 : ∀ (P : Pm) (v1 : Int32) (_ : True), f_X7_goAsking_J75 P v1 = some Pz → WW X G 3 (m1 σ 17 P) lm 75 [(0, .ref (gA G 17 0)), (1, .int v1)] [] := by
    intro P v1 _ h
    unfold f_X7_goAsking_J75 at h
    refine r_aload_n hX rfl 0 rfl dX7_goAsking_75 ?_
    refine gf_7_10 (o := 17) hX fl_X7_41 rfl m1_g dX7_goAsking_76 ?_
    refine r_iload_n hX rfl 1 rfl dX7_goAsking_79 ?_
    refine r_aload_n hX rfl 0 rfl dX7_goAsking_80 ?_
    refine r_aload_n hX rfl 0 rfl dX7_goAsking_81 ?_
    refine gf_7_10 (o := 17) hX fl_X7_41 rfl m1_g dX7_goAsking_82 ?_
    refine r_iload_n hX rfl 1 rfl dX7_goAsking_85 ?_
    obtain ⟨hk1, h⟩ := kc_e h
    refine ga_7_11 (o := 17) hX rfl m1_g hk1 dX7_goAsking_86 ?_
    refine r_iconst (v := 1) hX (by decide) dX7_goAsking_87 ?_
    refine r_iadd hX dX7_goAsking_88 ?_
    refine r_aload_n hX rfl 0 rfl dX7_goAsking_89 ?_
    refine gf_7_33 (o := 17) hX fl_X7_111 rfl m1_g dX7_goAsking_90 ?_
    obtain ⟨x2, hc2, h⟩ := bn_e h
    refine r_callVi hX hR (c_X7_held (σ := σ) X.2.1 G hc2) rfl rfl mf_X7_held ml_X7_284 in_X7_held se_X7_held rfl rfl ⟨rfl, rfl, Nat.le_of_ble_eq_true rfl, Nat.le_of_ble_eq_true rfl⟩ rfl (st := [.int v1, .ref (gA G 17 11)]) rfl (Nat.le_of_ble_eq_true rfl) dX7_goAsking_93 ?_
    obtain ⟨hk3, h⟩ := kc_e h
    obtain ⟨P4, hP4, h⟩ := nb_e h
    refine pa_7_11 (o := 17) hX rfl m1_g hk3 (m1_w hP4) dX7_goAsking_96 ?_
    refine r_aload_n hX rfl 0 rfl dX7_goAsking_97 ?_
    refine r_dup hX rfl dX7_goAsking_98 ?_
    refine gf_7_34 (o := 17) hX fl_X7_114 rfl m1_g dX7_goAsking_99 ?_
    refine r_iconst (v := 1) hX (by decide) dX7_goAsking_102 ?_
    refine r_iadd hX dX7_goAsking_103 ?_
    obtain ⟨P5, hP5, h⟩ := nb_e h
    refine pf_7_34 (o := 17) hX fl_X7_114 rfl m1_g dX7_goAsking_104 (m1_w hP5) ?_
    refine r_aload_n hX rfl 0 rfl dX7_goAsking_107 ?_
    refine gf_7_9 (o := 17) hX fl_X7_38 rfl m1_g dX7_goAsking_108 ?_
    refine r_iload_n hX rfl 1 rfl dX7_goAsking_111 ?_
    refine r_aload_n hX rfl 0 rfl dX7_goAsking_112 ?_
    refine r_aload_n hX rfl 0 rfl dX7_goAsking_113 ?_
    refine gf_7_9 (o := 17) hX fl_X7_38 rfl m1_g dX7_goAsking_114 ?_
    refine r_iload_n hX rfl 1 rfl dX7_goAsking_117 ?_
    obtain ⟨hk6, h⟩ := kc_e h
    refine ga_7_10 (o := 17) hX rfl m1_g hk6 dX7_goAsking_118 ?_
    refine r_aload_n hX rfl 0 rfl dX7_goAsking_119 ?_
    refine r_iconst (v := 4) hX (by decide) dX7_goAsking_120 ?_
    refine r_iconst (v := 0) hX (by decide) dX7_goAsking_121 ?_
    obtain ⟨x7, hc7, h⟩ := bn_e h
    refine r_callVi hX hR (c_X7_lastOf (σ := σ) X.2.1 G hc7) rfl rfl mf_X7_lastOf ml_X7_344 in_X7_lastOf se_X7_lastOf rfl rfl ⟨rfl, rfl, Nat.le_of_ble_eq_true rfl, Nat.le_of_ble_eq_true rfl⟩ rfl (st := [.int (P5 10 (ix v1)), .ref (gA G 17 0), .int v1, .ref (gA G 17 10)]) rfl (Nat.le_of_ble_eq_true rfl) dX7_goAsking_122 ?_
    refine r_isub hX dX7_goAsking_125 ?_
    refine r_ldcw hX co_X7_374 dX7_goAsking_126 ?_
    obtain ⟨x8, hc8, h⟩ := bn_e h
    refine r_callVi hX hR (c_X7_held (σ := σ) X.2.1 G hc8) rfl rfl mf_X7_held ml_X7_284 in_X7_held se_X7_held rfl rfl ⟨rfl, rfl, Nat.le_of_ble_eq_true rfl, Nat.le_of_ble_eq_true rfl⟩ rfl (st := [.int v1, .ref (gA G 17 10)]) rfl (Nat.le_of_ble_eq_true rfl) dX7_goAsking_129 ?_
    obtain ⟨hk9, h⟩ := kc_e h
    obtain ⟨P10, hP10, h⟩ := nb_e h
    refine pa_7_10 (o := 17) hX rfl m1_g hk9 (m1_w hP10) dX7_goAsking_132 ?_
    have g0 := Option.some.inj h
    subst g0
    exact r_vret hX hQ dX7_goAsking_133
  unfold f_X7_goAsking at h
  refine r_aload_n hX rfl 0 rfl dX7_goAsking_0 ?_
  refine gf_7_2 (o := 17) hX fl_X7_16 rfl m1_g dX7_goAsking_1 ?_
  refine r_aload_n hX rfl 0 rfl dX7_goAsking_4 ?_
  refine gf_7_6 (o := 17) hX fl_X7_29 rfl m1_g dX7_goAsking_5 ?_
  refine r_iload_n hX rfl 1 rfl dX7_goAsking_8 ?_
  obtain ⟨hk11, h⟩ := kc_e h
  refine ga_7_7 (o := 17) hX rfl m1_g hk11 dX7_goAsking_9 ?_
  obtain ⟨hk12, h⟩ := cz_e h
  refine r_irem hX hk12 dX7_goAsking_10 ?_
  refine r_if_ne hX dX7_goAsking_11 (fun hc => ?_) (fun hc => ?_)
  · replace h := in_e hc h
    have g0 := Option.some.inj h
    subst g0
    exact r_vret hX hQ dX7_goAsking_22
  · replace h := ip_e hc h
    refine r_iload_n hX rfl 1 rfl dX7_goAsking_14 ?_
    refine r_aload_n hX rfl 0 rfl dX7_goAsking_15 ?_
    refine gf_7_31 (o := 17) hX fl_X7_104 rfl m1_g dX7_goAsking_16 ?_
    refine r_icmp_ne hX dX7_goAsking_19 (fun hc => ?_) (fun hc => ?_)
    · replace h := in_e hc h
      refine r_aload_n hX rfl 0 rfl dX7_goAsking_23 ?_
      refine r_iload_n hX rfl 1 rfl dX7_goAsking_24 ?_
      obtain ⟨x13, hc13, h⟩ := bn_e h
      refine r_callVi hX hR (c_X7_asks (σ := σ) X.2.1 G hc13) rfl rfl mf_X7_asks ml_X7_359 in_X7_asks se_X7_asks rfl rfl ⟨rfl, rfl, Nat.le_of_ble_eq_true rfl, Nat.le_of_ble_eq_true rfl⟩ rfl (st := []) rfl (Nat.le_of_ble_eq_true rfl) dX7_goAsking_25 ?_
      refine r_istore_n (L2 := [(2, .int x13), (0, .ref (gA G 17 0)), (1, .int a1)]) hX rfl (by decide) rfl dX7_goAsking_28 ?_
      refine r_iload_n hX rfl 0 rfl dX7_goAsking_29 ?_
      refine r_if_le hX dX7_goAsking_30 (fun hc => ?_) (fun hc => ?_)
      · replace h := ip_e hc h
        exact WW.sub [1, 2] rfl (K75 P a1 trivial h)
      · replace h := in_e hc h
        refine r_aload_n hX rfl 1 rfl dX7_goAsking_33 ?_
        refine gf_7_0 (o := 17) hX fl_X7_7 rfl m1_g dX7_goAsking_34 ?_
        refine r_iload_n hX rfl 0 rfl dX7_goAsking_37 ?_
        refine r_isub hX dX7_goAsking_38 ?_
        refine r_aload_n hX rfl 1 rfl dX7_goAsking_39 ?_
        obtain ⟨x14, hc14, h⟩ := bn_e h
        refine r_callVi hX hR (c_X7_mark (σ := σ) X.2.1 G hc14) rfl rfl mf_X7_mark ml_X7_353 in_X7_mark se_X7_mark rfl rfl ⟨rfl, rfl, Nat.le_of_ble_eq_true rfl, Nat.le_of_ble_eq_true rfl⟩ rfl (st := [.int ((P 0 0) - x13)]) rfl (Nat.le_of_ble_eq_true rfl) dX7_goAsking_40 ?_
        refine r_icmp_lt hX dX7_goAsking_43 (fun hc => ?_) (fun hc => ?_)
        · replace h := ip_e hc h
          exact WW.sub [1, 2] rfl (K75 P a1 trivial h)
        · replace h := in_e hc h
          refine r_aload_n hX rfl 1 rfl dX7_goAsking_46 ?_
          refine gf_7_7 (o := 17) hX fl_X7_32 rfl m1_g dX7_goAsking_47 ?_
          refine r_iload_n hX rfl 2 rfl dX7_goAsking_50 ?_
          refine r_iload_n hX rfl 0 rfl dX7_goAsking_51 ?_
          obtain ⟨hk15, h⟩ := kc_e h
          obtain ⟨P16, hP16, h⟩ := nb_e h
          refine pa_7_8 (o := 17) hX rfl m1_g hk15 (m1_w hP16) dX7_goAsking_52 ?_
          refine r_aload_n hX rfl 1 rfl dX7_goAsking_53 ?_
          refine r_dup hX rfl dX7_goAsking_54 ?_
          refine gf_7_0 (o := 17) hX fl_X7_7 rfl m1_g dX7_goAsking_55 ?_
          refine r_iload_n hX rfl 0 rfl dX7_goAsking_58 ?_
          refine r_isub hX dX7_goAsking_59 ?_
          obtain ⟨P17, hP17, h⟩ := nb_e h
          refine pf_7_0 (o := 17) hX fl_X7_7 rfl m1_g dX7_goAsking_60 (m1_w hP17) ?_
          refine r_aload_n hX rfl 1 rfl dX7_goAsking_63 ?_
          refine gf_7_8 (o := 17) hX fl_X7_35 rfl m1_g dX7_goAsking_64 ?_
          refine r_iload_n hX rfl 2 rfl dX7_goAsking_67 ?_
          refine r_aload_n hX rfl 1 rfl dX7_goAsking_68 ?_
          refine r_iload_n hX rfl 2 rfl dX7_goAsking_69 ?_
          obtain ⟨x18, hc18, h⟩ := bn_e h
          refine r_callVi hX hR (c_X7_keeps (σ := σ) X.2.1 G hc18) rfl rfl mf_X7_keeps ml_X7_362 in_X7_keeps se_X7_keeps rfl rfl ⟨rfl, rfl, Nat.le_of_ble_eq_true rfl, Nat.le_of_ble_eq_true rfl⟩ rfl (st := [.int a1, .ref (gA G 17 9)]) rfl (Nat.le_of_ble_eq_true rfl) dX7_goAsking_70 ?_
          obtain ⟨hk19, h⟩ := kc_e h
          obtain ⟨P20, hP20, h⟩ := nb_e h
          refine pa_7_9 (o := 17) hX rfl m1_g hk19 (m1_w hP20) dX7_goAsking_73 ?_
          have g0 := Option.some.inj h
          subst g0
          exact r_vret hX hQ dX7_goAsking_74
    · replace h := ip_e hc h
      have g0 := Option.some.inj h
      subst g0
      exact r_vret hX hQ dX7_goAsking_22
abbrev rm_X7_goDay : Room := { frames := 5, cells := 0, slots := 0, locals := 168 }
def f_X7_goDay_J53 (P : Pm) : Option (Pm) :=
  Option.bind (f_X7_lastOf P 3 0) (fun x1 => Option.bind (f_X7_held P ((P 0 0) + x1) 9999) (fun x2 => nb (up2 P 0 0 x2) (fun P3 => nb (up2 P3 0 2 ((P3 0 2) + 1)) (fun P4 => some P4))))
def f_X7_goDay_J47 (P : Pm) (v1 : Int32) : Option ((Int32 × Pm) ⊕ (Pm)) :=
  some (.inl ((v1 + 1), P))
def f_X7_goDay_B2 (v1 : Int32) (P : Pm) : Option ((Int32 × Pm) ⊕ (Pm)) :=
  (if (P 0 1) ≤ v1 then some (.inr P) else (if inb v1 6 = true then (if inb (P 13 (ix v1)) 6 = true then (if (P 8 (ix (P 13 (ix v1)))) ≤ 0 then (if inb v1 6 = true then Option.bind (f_X7_goAsking P (P 13 (ix v1))) (fun P8 => f_X7_goDay_J47 P8 v1) else none) else (if inb v1 6 = true then Option.bind (f_X7_goHaving P (P 13 (ix v1))) (fun P10 => f_X7_goDay_J47 P10 v1) else none)) else none) else none))
def f_X7_goDay_H2 (P : Pm) (v1 : Int32) : Option (Pm) :=
  Option.bind (iter (fun t => f_X7_goDay_B2 t.1 t.2) 200 (v1, P)) (fun P => f_X7_goDay_J53 P)
def f_X7_goDay (P : Pm) : Option (Pm) :=
  f_X7_goDay_H2 P 0
set_option maxHeartbeats 4000000 in
set_option maxRecDepth 100000 in
theorem c_X7_goDay (l : Launch) (G : GE) {σ : Mm} {lm : Ml}  {P : Pm} {Pz : Pm} (h : f_X7_goDay P = some Pz) : CM l G yX7_goDay bX7_goDay 2 (Option.none : Option Jvm.ClassFile.FieldType) rm_X7_goDay [.ref (gA G 17 0)] (m1 σ 17 P) lm (none) (m1 σ 17 Pz) lm := by
  refine CM.of (own := zR7) (L0 := [(0, .ref (gA G 17 0))]) (by decide +kernel) rfl (Nat.le_of_ble_eq_true rfl) rfl (fun X hl hX hR hQ => ?_)
  have K53 : ∀ (P : Pm) (_ : True), f_X7_goDay_J53 P = some Pz → WW X G 2 (m1 σ 17 P) lm 53 [(0, .ref (gA G 17 0))] [] := by
    intro P _ h
    unfold f_X7_goDay_J53 at h
    refine r_aload_n hX rfl 0 rfl dX7_goDay_53 ?_
    refine r_aload_n hX rfl 0 rfl dX7_goDay_54 ?_
    refine r_aload_n hX rfl 0 rfl dX7_goDay_55 ?_
    refine gf_7_0 (o := 17) hX fl_X7_7 rfl m1_g dX7_goDay_56 ?_
    refine r_aload_n hX rfl 0 rfl dX7_goDay_59 ?_
    refine r_iconst (v := 3) hX (by decide) dX7_goDay_60 ?_
    refine r_iconst (v := 0) hX (by decide) dX7_goDay_61 ?_
    obtain ⟨x1, hc1, h⟩ := bn_e h
    refine r_callVi hX hR (c_X7_lastOf (σ := σ) X.2.1 G hc1) rfl rfl mf_X7_lastOf ml_X7_344 in_X7_lastOf se_X7_lastOf rfl rfl ⟨rfl, rfl, Nat.le_of_ble_eq_true rfl, Nat.le_of_ble_eq_true rfl⟩ rfl (st := [.int (P 0 0), .ref (gA G 17 0), .ref (gA G 17 0)]) rfl (Nat.le_of_ble_eq_true rfl) dX7_goDay_62 ?_
    refine r_iadd hX dX7_goDay_65 ?_
    refine r_sipush (v := 9999) hX (by decide) dX7_goDay_66 ?_
    obtain ⟨x2, hc2, h⟩ := bn_e h
    refine r_callVi hX hR (c_X7_held (σ := σ) X.2.1 G hc2) rfl rfl mf_X7_held ml_X7_284 in_X7_held se_X7_held rfl rfl ⟨rfl, rfl, Nat.le_of_ble_eq_true rfl, Nat.le_of_ble_eq_true rfl⟩ rfl (st := [.ref (gA G 17 0)]) rfl (Nat.le_of_ble_eq_true rfl) dX7_goDay_69 ?_
    obtain ⟨P3, hP3, h⟩ := nb_e h
    refine pf_7_0 (o := 17) hX fl_X7_7 rfl m1_g dX7_goDay_72 (m1_w hP3) ?_
    refine r_aload_n hX rfl 0 rfl dX7_goDay_75 ?_
    refine r_dup hX rfl dX7_goDay_76 ?_
    refine gf_7_2 (o := 17) hX fl_X7_16 rfl m1_g dX7_goDay_77 ?_
    refine r_iconst (v := 1) hX (by decide) dX7_goDay_80 ?_
    refine r_iadd hX dX7_goDay_81 ?_
    obtain ⟨P4, hP4, h⟩ := nb_e h
    refine pf_7_2 (o := 17) hX fl_X7_16 rfl m1_g dX7_goDay_82 (m1_w hP4) ?_
    have g0 := Option.some.inj h
    subst g0
    exact r_vret hX hQ dX7_goDay_85
  have K2 : ∀ (P : Pm) (v1 : Int32) (_ : True), f_X7_goDay_H2 P v1 = some Pz → WW X G 2 (m1 σ 17 P) lm 2 [(0, .ref (gA G 17 0)), (1, .int v1)] [] := by
    intro P v1 _ h
    unfold f_X7_goDay_H2 at h
    obtain ⟨e_P, hit, hO⟩ := bn_e h
    refine iter_w (P := fun t : Int32 × Pm => WW X G 2 (m1 σ 17 t.2) lm 2 [(0, .ref (gA G 17 0)), (1, .int t.1)] []) (x := e_P) ?_ 200 (v1, P) hit
    clear hit
    intro t z1 hb hin1 hex1
    obtain ⟨v1, P⟩ := t
    have h : f_X7_goDay_B2 v1 P = some z1 := hb
    clear hb
    have K47 : ∀ (P : Pm) (v1 : Int32) (_ : True), f_X7_goDay_J47 P v1 = some z1 → WW X G 2 (m1 σ 17 P) lm 47 [(0, .ref (gA G 17 0)), (1, .int v1)] [] := by
      intro P v1 _ h
      unfold f_X7_goDay_J47 at h
      refine r_iinc (v := v1 + 1) (L2 := [(1, .int (v1 + 1)), (0, .ref (gA G 17 0))]) hX 1 rfl rfl (by decide) rfl dX7_goDay_47 ?_
      refine r_goto hX dX7_goDay_50 ?_
      exact WW.sub [1, 0] rfl (hin1 _ (Option.some.inj h).symm)
    unfold f_X7_goDay_B2 at h
    refine r_iload_n hX rfl 1 rfl dX7_goDay_2 ?_
    refine r_aload_n hX rfl 0 rfl dX7_goDay_3 ?_
    refine gf_7_1 (o := 17) hX fl_X7_13 rfl m1_g dX7_goDay_4 ?_
    refine r_icmp_ge hX dX7_goDay_7 (fun hc => ?_) (fun hc => ?_)
    · replace h := ip_e hc h
      have g0 := hex1 _ (Option.some.inj h).symm
      subst g0
      exact WW.sub [0] rfl (K53 P trivial hO)
    · replace h := in_e hc h
      refine r_aload_n hX rfl 0 rfl dX7_goDay_10 ?_
      refine gf_7_7 (o := 17) hX fl_X7_32 rfl m1_g dX7_goDay_11 ?_
      refine r_aload_n hX rfl 0 rfl dX7_goDay_14 ?_
      refine gf_7_12 (o := 17) hX fl_X7_47 rfl m1_g dX7_goDay_15 ?_
      refine r_iload_n hX rfl 1 rfl dX7_goDay_18 ?_
      obtain ⟨hk5, h⟩ := kc_e h
      refine ga_7_13 (o := 17) hX rfl m1_g hk5 dX7_goDay_19 ?_
      obtain ⟨hk6, h⟩ := kc_e h
      refine ga_7_8 (o := 17) hX rfl m1_g hk6 dX7_goDay_20 ?_
      refine r_if_le hX dX7_goDay_21 (fun hc => ?_) (fun hc => ?_)
      · replace h := ip_e hc h
        refine r_aload_n hX rfl 0 rfl dX7_goDay_37 ?_
        refine r_aload_n hX rfl 0 rfl dX7_goDay_38 ?_
        refine gf_7_12 (o := 17) hX fl_X7_47 rfl m1_g dX7_goDay_39 ?_
        refine r_iload_n hX rfl 1 rfl dX7_goDay_42 ?_
        obtain ⟨hk7, h⟩ := kc_e h
        refine ga_7_13 (o := 17) hX rfl m1_g hk7 dX7_goDay_43 ?_
        obtain ⟨P8, hc8, h⟩ := bn_e h
        refine r_callVv hX hR (c_X7_goAsking (σ := σ) X.2.1 G hc8) rfl rfl mf_X7_goAsking ml_X7_378 in_X7_goAsking se_X7_goAsking rfl rfl ⟨rfl, rfl, Nat.le_of_ble_eq_true rfl, Nat.le_of_ble_eq_true rfl⟩ rfl (st := []) rfl (Nat.le_of_ble_eq_true rfl) dX7_goDay_44 ?_
        exact WW.sub [0, 1] rfl (K47 P8 v1 trivial h)
      · replace h := in_e hc h
        refine r_aload_n hX rfl 0 rfl dX7_goDay_24 ?_
        refine r_aload_n hX rfl 0 rfl dX7_goDay_25 ?_
        refine gf_7_12 (o := 17) hX fl_X7_47 rfl m1_g dX7_goDay_26 ?_
        refine r_iload_n hX rfl 1 rfl dX7_goDay_29 ?_
        obtain ⟨hk9, h⟩ := kc_e h
        refine ga_7_13 (o := 17) hX rfl m1_g hk9 dX7_goDay_30 ?_
        obtain ⟨P10, hc10, h⟩ := bn_e h
        refine r_callVv hX hR (c_X7_goHaving (σ := σ) X.2.1 G hc10) rfl rfl mf_X7_goHaving ml_X7_375 in_X7_goHaving se_X7_goHaving rfl rfl ⟨rfl, rfl, Nat.le_of_ble_eq_true rfl, Nat.le_of_ble_eq_true rfl⟩ rfl (st := []) rfl (Nat.le_of_ble_eq_true rfl) dX7_goDay_31 ?_
        refine r_goto hX dX7_goDay_34 ?_
        exact WW.sub [0, 1] rfl (K47 P10 v1 trivial h)
  unfold f_X7_goDay at h
  refine r_iconst (v := 0) hX (by decide) dX7_goDay_0 ?_
  refine r_istore_n (L2 := [(1, .int 0), (0, .ref (gA G 17 0))]) hX rfl (by decide) rfl dX7_goDay_1 ?_
  exact WW.sub [1, 0] rfl (K2 P 0 trivial h)
abbrev rm_X7_goDays : Room := { frames := 6, cells := 0, slots := 0, locals := 189 }
def f_X7_goDays_J17 (P : Pm) : Option (Pm) :=
  some P
def f_X7_goDays_B2 (v1 : Int32) (v2 : Int32) (P : Pm) : Option ((Int32 × Pm) ⊕ (Pm)) :=
  (if v1 ≤ v2 then some (.inr P) else Option.bind (f_X7_goDay P) (fun P1 => some (.inl ((v2 + 1), P1))))
def f_X7_goDays_H2 (P : Pm) (v1 : Int32) (v2 : Int32) : Option (Pm) :=
  Option.bind (iter (fun t => f_X7_goDays_B2 v1 t.1 t.2) 200 (v2, P)) (fun P => f_X7_goDays_J17 P)
def f_X7_goDays (P : Pm) (a1 : Int32) : Option (Pm) :=
  f_X7_goDays_H2 P a1 0
set_option maxHeartbeats 4000000 in
set_option maxRecDepth 100000 in
theorem c_X7_goDays (l : Launch) (G : GE) {σ : Mm} {lm : Ml}  {P : Pm} {a1 : Int32} {Pz : Pm} (h : f_X7_goDays P a1 = some Pz) : CM l G yX7_goDays bX7_goDays 3 (Option.none : Option Jvm.ClassFile.FieldType) rm_X7_goDays [.ref (gA G 17 0), .int a1] (m1 σ 17 P) lm (none) (m1 σ 17 Pz) lm := by
  refine CM.of (own := zR7) (L0 := [(0, .ref (gA G 17 0)), (1, .int a1)]) (by decide +kernel) rfl (Nat.le_of_ble_eq_true rfl) rfl (fun X hl hX hR hQ => ?_)
  have K17 : ∀ (P : Pm) (_ : True), f_X7_goDays_J17 P = some Pz → WW X G 3 (m1 σ 17 P) lm 17 [] [] := by
    intro P _ h
    unfold f_X7_goDays_J17 at h
    have g0 := Option.some.inj h
    subst g0
    exact r_vret hX hQ dX7_goDays_17
  have K2 : ∀ (P : Pm) (v1 : Int32) (v2 : Int32) (_ : True), f_X7_goDays_H2 P v1 v2 = some Pz → WW X G 3 (m1 σ 17 P) lm 2 [(0, .ref (gA G 17 0)), (1, .int v1), (2, .int v2)] [] := by
    intro P v1 v2 _ h
    unfold f_X7_goDays_H2 at h
    obtain ⟨e_P, hit, hO⟩ := bn_e h
    refine iter_w (P := fun t : Int32 × Pm => WW X G 3 (m1 σ 17 t.2) lm 2 [(0, .ref (gA G 17 0)), (1, .int v1), (2, .int t.1)] []) (x := e_P) ?_ 200 (v2, P) hit
    clear hit
    intro t z1 hb hin1 hex1
    obtain ⟨v2, P⟩ := t
    have h : f_X7_goDays_B2 v1 v2 P = some z1 := hb
    clear hb
    unfold f_X7_goDays_B2 at h
    refine r_iload_n hX rfl 2 rfl dX7_goDays_2 ?_
    refine r_iload_n hX rfl 1 rfl dX7_goDays_3 ?_
    refine r_icmp_ge hX dX7_goDays_4 (fun hc => ?_) (fun hc => ?_)
    · replace h := ip_e hc h
      have g0 := hex1 _ (Option.some.inj h).symm
      subst g0
      exact WW.sub [] rfl (K17 P trivial hO)
    · replace h := in_e hc h
      refine r_aload_n hX rfl 0 rfl dX7_goDays_7 ?_
      obtain ⟨P1, hc1, h⟩ := bn_e h
      refine r_callVv hX hR (c_X7_goDay (σ := σ) X.2.1 G hc1) rfl rfl mf_X7_goDay ml_X7_381 in_X7_goDay se_X7_goDay rfl rfl ⟨rfl, rfl, Nat.le_of_ble_eq_true rfl, Nat.le_of_ble_eq_true rfl⟩ rfl (st := []) rfl (Nat.le_of_ble_eq_true rfl) dX7_goDays_8 ?_
      refine r_iinc (v := v2 + 1) (L2 := [(2, .int (v2 + 1)), (0, .ref (gA G 17 0)), (1, .int v1)]) hX 2 rfl rfl (by decide) rfl dX7_goDays_11 ?_
      refine r_goto hX dX7_goDays_14 ?_
      exact WW.sub [1, 2, 0] rfl (hin1 _ (Option.some.inj h).symm)
  unfold f_X7_goDays at h
  refine r_iconst (v := 0) hX (by decide) dX7_goDays_0 ?_
  refine r_istore_n (L2 := [(2, .int 0), (0, .ref (gA G 17 0)), (1, .int a1)]) hX rfl (by decide) rfl dX7_goDays_1 ?_
  exact WW.sub [1, 2, 0] rfl (K2 P a1 0 trivial h)
abbrev rm_X7_pass : Room := { frames := 7, cells := 0, slots := 0, locals := 211 }
def f_X7_pass (P : Pm) (a1 : Int32) : Option (Int32 × Pm) :=
  Option.bind (f_X7_isDays P a1) (fun x1 => (if x1 = 0 then some ((-2), P) else (if ((P 0 2) + a1) ≤ 9999 then Option.bind (f_X7_goDays P a1) (fun P2 => some ((P2 0 0), P2)) else some ((-3), P))))
set_option maxHeartbeats 4000000 in
set_option maxRecDepth 100000 in
theorem c_X7_pass (l : Launch) (G : GE) {σ : Mm} {lm : Ml}  {P : Pm} {a1 : Int32} {rz : Int32} {Pz : Pm} (h : f_X7_pass P a1 = some (rz, Pz)) : CM l G yX7_pass bX7_pass 2 (Option.some Jvm.ClassFile.FieldType.int) rm_X7_pass [.ref (gA G 17 0), .int a1] (m1 σ 17 P) lm (some (.int rz)) (m1 σ 17 Pz) lm := by
  refine CM.of (own := zR7) (L0 := [(0, .ref (gA G 17 0)), (1, .int a1)]) (by decide +kernel) rfl (Nat.le_of_ble_eq_true rfl) rfl (fun X hl hX hR hQ => ?_)
  unfold f_X7_pass at h
  refine r_aload_n hX rfl 0 rfl dX7_pass_0 ?_
  refine r_iload_n hX rfl 1 rfl dX7_pass_1 ?_
  obtain ⟨x1, hc1, h⟩ := bn_e h
  refine r_callVi hX hR (c_X7_isDays (σ := σ) X.2.1 G hc1) rfl rfl mf_X7_isDays ml_X7_384 in_X7_isDays se_X7_isDays rfl rfl ⟨rfl, rfl, Nat.le_of_ble_eq_true rfl, Nat.le_of_ble_eq_true rfl⟩ rfl (st := []) rfl (Nat.le_of_ble_eq_true rfl) dX7_pass_2 ?_
  refine r_if_ne hX dX7_pass_5 (fun hc => ?_) (fun hc => ?_)
  · replace h := in_e hc h
    refine r_aload_n hX rfl 0 rfl dX7_pass_11 ?_
    refine gf_7_2 (o := 17) hX fl_X7_16 rfl m1_g dX7_pass_12 ?_
    refine r_iload_n hX rfl 1 rfl dX7_pass_15 ?_
    refine r_iadd hX dX7_pass_16 ?_
    refine r_sipush (v := 9999) hX (by decide) dX7_pass_17 ?_
    refine r_icmp_le hX dX7_pass_20 (fun hc => ?_) (fun hc => ?_)
    · replace h := ip_e hc h
      refine r_aload_n hX rfl 0 rfl dX7_pass_26 ?_
      refine r_iload_n hX rfl 1 rfl dX7_pass_27 ?_
      obtain ⟨P2, hc2, h⟩ := bn_e h
      refine r_callVv hX hR (c_X7_goDays (σ := σ) X.2.1 G hc2) rfl rfl mf_X7_goDays ml_X7_387 in_X7_goDays se_X7_goDays rfl rfl ⟨rfl, rfl, Nat.le_of_ble_eq_true rfl, Nat.le_of_ble_eq_true rfl⟩ rfl (st := []) rfl (Nat.le_of_ble_eq_true rfl) dX7_pass_28 ?_
      refine r_aload_n hX rfl 0 rfl dX7_pass_31 ?_
      refine gf_7_0 (o := 17) hX fl_X7_7 rfl m1_g dX7_pass_32 ?_
      have g0 := Option.some.inj h
      obtain ⟨q0, g1⟩ := Prod.mk.inj g0
      subst q0
      subst g1
      exact r_iret hX hQ dX7_pass_35
    · replace h := in_e hc h
      refine r_bipush (v := (-3)) hX (by decide) dX7_pass_23 ?_
      have g0 := Option.some.inj h
      obtain ⟨q0, g1⟩ := Prod.mk.inj g0
      subst q0
      subst g1
      exact r_iret hX hQ dX7_pass_25
  · replace h := ip_e hc h
    refine r_bipush (v := (-2)) hX (by decide) dX7_pass_8 ?_
    have g0 := Option.some.inj h
    obtain ⟨q0, g1⟩ := Prod.mk.inj g0
    subst q0
    subst g1
    exact r_iret hX hQ dX7_pass_10
abbrev rm_X7_save : Room := { frames := 0, cells := 0, slots := 0, locals := 60 }
def f_X7_save_J126 (P : Pm) : Option (Pm) :=
  some P
def f_X7_save_B30 (v1 : Int32) (P : Pm) : Option ((Int32 × Pm) ⊕ (Pm)) :=
  (if 6 ≤ v1 then some (.inr P) else (if inb v1 6 = true then (if inb v1 6 = true then nb (up2 P 38 (ix v1) (P 6 (ix v1))) (fun P3 => (if inb v1 6 = true then (if inb v1 6 = true then nb (up2 P3 39 (ix v1) (P3 7 (ix v1))) (fun P6 => (if inb v1 6 = true then (if inb v1 6 = true then nb (up2 P6 40 (ix v1) (P6 8 (ix v1))) (fun P9 => (if inb v1 6 = true then (if inb v1 6 = true then nb (up2 P9 41 (ix v1) (P9 9 (ix v1))) (fun P12 => (if inb v1 6 = true then (if inb v1 6 = true then nb (up2 P12 42 (ix v1) (P12 10 (ix v1))) (fun P15 => (if inb v1 6 = true then (if inb v1 6 = true then nb (up2 P15 43 (ix v1) (P15 11 (ix v1))) (fun P18 => (if inb v1 6 = true then (if inb v1 6 = true then nb (up2 P18 44 (ix v1) (P18 13 (ix v1))) (fun P21 => some (.inl ((v1 + 1), P21))) else none) else none)) else none) else none)) else none) else none)) else none) else none)) else none) else none)) else none) else none)) else none) else none))
def f_X7_save_H30 (P : Pm) (v1 : Int32) : Option (Pm) :=
  Option.bind (iter (fun t => f_X7_save_B30 t.1 t.2) 200 (v1, P)) (fun P => f_X7_save_J126 P)
def f_X7_save (P : Pm) : Option (Pm) :=
  nb (up2 P 0 33 2000000000) (fun P22 => nb (up2 P22 0 34 0) (fun P23 => nb (up2 P23 0 35 (P23 0 0)) (fun P24 => nb (up2 P24 0 36 (P24 0 2)) (fun P25 => f_X7_save_H30 P25 0))))
set_option maxHeartbeats 4000000 in
set_option maxRecDepth 100000 in
theorem c_X7_save (l : Launch) (G : GE) {σ : Mm} {lm : Ml}  {P : Pm} {Pz : Pm} (h : f_X7_save P = some Pz) : CM l G yX7_save bX7_save 2 (Option.none : Option Jvm.ClassFile.FieldType) rm_X7_save [.ref (gA G 17 0)] (m1 σ 17 P) lm (none) (m1 σ 17 Pz) lm := by
  refine CM.of (own := zR7) (L0 := [(0, .ref (gA G 17 0))]) (by decide +kernel) rfl (Nat.le_of_ble_eq_true rfl) rfl (fun X hl hX hR hQ => ?_)
  have K126 : ∀ (P : Pm) (_ : True), f_X7_save_J126 P = some Pz → WW X G 2 (m1 σ 17 P) lm 126 [] [] := by
    intro P _ h
    unfold f_X7_save_J126 at h
    have g0 := Option.some.inj h
    subst g0
    exact r_vret hX hQ dX7_save_126
  have K30 : ∀ (P : Pm) (v1 : Int32) (_ : True), f_X7_save_H30 P v1 = some Pz → WW X G 2 (m1 σ 17 P) lm 30 [(0, .ref (gA G 17 0)), (1, .int v1)] [] := by
    intro P v1 _ h
    unfold f_X7_save_H30 at h
    obtain ⟨e_P, hit, hO⟩ := bn_e h
    refine iter_w (P := fun t : Int32 × Pm => WW X G 2 (m1 σ 17 t.2) lm 30 [(0, .ref (gA G 17 0)), (1, .int t.1)] []) (x := e_P) ?_ 200 (v1, P) hit
    clear hit
    intro t z1 hb hin1 hex1
    obtain ⟨v1, P⟩ := t
    have h : f_X7_save_B30 v1 P = some z1 := hb
    clear hb
    unfold f_X7_save_B30 at h
    refine r_iload_n hX rfl 1 rfl dX7_save_30 ?_
    refine r_bipush (v := 6) hX (by decide) dX7_save_31 ?_
    refine r_icmp_ge hX dX7_save_33 (fun hc => ?_) (fun hc => ?_)
    · replace h := ip_e hc h
      have g0 := hex1 _ (Option.some.inj h).symm
      subst g0
      exact WW.sub [] rfl (K126 P trivial hO)
    · replace h := in_e hc h
      refine r_aload_n hX rfl 0 rfl dX7_save_36 ?_
      refine gf_7_37 (o := 17) hX fl_X7_123 rfl m1_g dX7_save_37 ?_
      refine r_iload_n hX rfl 1 rfl dX7_save_40 ?_
      refine r_aload_n hX rfl 0 rfl dX7_save_41 ?_
      refine gf_7_5 (o := 17) hX fl_X7_26 rfl m1_g dX7_save_42 ?_
      refine r_iload_n hX rfl 1 rfl dX7_save_45 ?_
      obtain ⟨hk1, h⟩ := kc_e h
      refine ga_7_6 (o := 17) hX rfl m1_g hk1 dX7_save_46 ?_
      obtain ⟨hk2, h⟩ := kc_e h
      obtain ⟨P3, hP3, h⟩ := nb_e h
      refine pa_7_38 (o := 17) hX rfl m1_g hk2 (m1_w hP3) dX7_save_47 ?_
      refine r_aload_n hX rfl 0 rfl dX7_save_48 ?_
      refine gf_7_38 (o := 17) hX fl_X7_126 rfl m1_g dX7_save_49 ?_
      refine r_iload_n hX rfl 1 rfl dX7_save_52 ?_
      refine r_aload_n hX rfl 0 rfl dX7_save_53 ?_
      refine gf_7_6 (o := 17) hX fl_X7_29 rfl m1_g dX7_save_54 ?_
      refine r_iload_n hX rfl 1 rfl dX7_save_57 ?_
      obtain ⟨hk4, h⟩ := kc_e h
      refine ga_7_7 (o := 17) hX rfl m1_g hk4 dX7_save_58 ?_
      obtain ⟨hk5, h⟩ := kc_e h
      obtain ⟨P6, hP6, h⟩ := nb_e h
      refine pa_7_39 (o := 17) hX rfl m1_g hk5 (m1_w hP6) dX7_save_59 ?_
      refine r_aload_n hX rfl 0 rfl dX7_save_60 ?_
      refine gf_7_39 (o := 17) hX fl_X7_129 rfl m1_g dX7_save_61 ?_
      refine r_iload_n hX rfl 1 rfl dX7_save_64 ?_
      refine r_aload_n hX rfl 0 rfl dX7_save_65 ?_
      refine gf_7_7 (o := 17) hX fl_X7_32 rfl m1_g dX7_save_66 ?_
      refine r_iload_n hX rfl 1 rfl dX7_save_69 ?_
      obtain ⟨hk7, h⟩ := kc_e h
      refine ga_7_8 (o := 17) hX rfl m1_g hk7 dX7_save_70 ?_
      obtain ⟨hk8, h⟩ := kc_e h
      obtain ⟨P9, hP9, h⟩ := nb_e h
      refine pa_7_40 (o := 17) hX rfl m1_g hk8 (m1_w hP9) dX7_save_71 ?_
      refine r_aload_n hX rfl 0 rfl dX7_save_72 ?_
      refine gf_7_40 (o := 17) hX fl_X7_132 rfl m1_g dX7_save_73 ?_
      refine r_iload_n hX rfl 1 rfl dX7_save_76 ?_
      refine r_aload_n hX rfl 0 rfl dX7_save_77 ?_
      refine gf_7_8 (o := 17) hX fl_X7_35 rfl m1_g dX7_save_78 ?_
      refine r_iload_n hX rfl 1 rfl dX7_save_81 ?_
      obtain ⟨hk10, h⟩ := kc_e h
      refine ga_7_9 (o := 17) hX rfl m1_g hk10 dX7_save_82 ?_
      obtain ⟨hk11, h⟩ := kc_e h
      obtain ⟨P12, hP12, h⟩ := nb_e h
      refine pa_7_41 (o := 17) hX rfl m1_g hk11 (m1_w hP12) dX7_save_83 ?_
      refine r_aload_n hX rfl 0 rfl dX7_save_84 ?_
      refine gf_7_41 (o := 17) hX fl_X7_135 rfl m1_g dX7_save_85 ?_
      refine r_iload_n hX rfl 1 rfl dX7_save_88 ?_
      refine r_aload_n hX rfl 0 rfl dX7_save_89 ?_
      refine gf_7_9 (o := 17) hX fl_X7_38 rfl m1_g dX7_save_90 ?_
      refine r_iload_n hX rfl 1 rfl dX7_save_93 ?_
      obtain ⟨hk13, h⟩ := kc_e h
      refine ga_7_10 (o := 17) hX rfl m1_g hk13 dX7_save_94 ?_
      obtain ⟨hk14, h⟩ := kc_e h
      obtain ⟨P15, hP15, h⟩ := nb_e h
      refine pa_7_42 (o := 17) hX rfl m1_g hk14 (m1_w hP15) dX7_save_95 ?_
      refine r_aload_n hX rfl 0 rfl dX7_save_96 ?_
      refine gf_7_42 (o := 17) hX fl_X7_138 rfl m1_g dX7_save_97 ?_
      refine r_iload_n hX rfl 1 rfl dX7_save_100 ?_
      refine r_aload_n hX rfl 0 rfl dX7_save_101 ?_
      refine gf_7_10 (o := 17) hX fl_X7_41 rfl m1_g dX7_save_102 ?_
      refine r_iload_n hX rfl 1 rfl dX7_save_105 ?_
      obtain ⟨hk16, h⟩ := kc_e h
      refine ga_7_11 (o := 17) hX rfl m1_g hk16 dX7_save_106 ?_
      obtain ⟨hk17, h⟩ := kc_e h
      obtain ⟨P18, hP18, h⟩ := nb_e h
      refine pa_7_43 (o := 17) hX rfl m1_g hk17 (m1_w hP18) dX7_save_107 ?_
      refine r_aload_n hX rfl 0 rfl dX7_save_108 ?_
      refine gf_7_43 (o := 17) hX fl_X7_141 rfl m1_g dX7_save_109 ?_
      refine r_iload_n hX rfl 1 rfl dX7_save_112 ?_
      refine r_aload_n hX rfl 0 rfl dX7_save_113 ?_
      refine gf_7_12 (o := 17) hX fl_X7_47 rfl m1_g dX7_save_114 ?_
      refine r_iload_n hX rfl 1 rfl dX7_save_117 ?_
      obtain ⟨hk19, h⟩ := kc_e h
      refine ga_7_13 (o := 17) hX rfl m1_g hk19 dX7_save_118 ?_
      obtain ⟨hk20, h⟩ := kc_e h
      obtain ⟨P21, hP21, h⟩ := nb_e h
      refine pa_7_44 (o := 17) hX rfl m1_g hk20 (m1_w hP21) dX7_save_119 ?_
      refine r_iinc (v := v1 + 1) (L2 := [(1, .int (v1 + 1)), (0, .ref (gA G 17 0))]) hX 1 rfl rfl (by decide) rfl dX7_save_120 ?_
      refine r_goto hX dX7_save_123 ?_
      exact WW.sub [1, 0] rfl (hin1 _ (Option.some.inj h).symm)
  unfold f_X7_save at h
  refine r_aload_n hX rfl 0 rfl dX7_save_0 ?_
  refine r_ldcw hX co_X7_390 dX7_save_1 ?_
  obtain ⟨P22, hP22, h⟩ := nb_e h
  refine pf_7_33 (o := 17) hX fl_X7_111 rfl m1_g dX7_save_4 (m1_w hP22) ?_
  refine r_aload_n hX rfl 0 rfl dX7_save_7 ?_
  refine r_iconst (v := 0) hX (by decide) dX7_save_8 ?_
  obtain ⟨P23, hP23, h⟩ := nb_e h
  refine pf_7_34 (o := 17) hX fl_X7_114 rfl m1_g dX7_save_9 (m1_w hP23) ?_
  refine r_aload_n hX rfl 0 rfl dX7_save_12 ?_
  refine r_aload_n hX rfl 0 rfl dX7_save_13 ?_
  refine gf_7_0 (o := 17) hX fl_X7_7 rfl m1_g dX7_save_14 ?_
  obtain ⟨P24, hP24, h⟩ := nb_e h
  refine pf_7_35 (o := 17) hX fl_X7_117 rfl m1_g dX7_save_17 (m1_w hP24) ?_
  refine r_aload_n hX rfl 0 rfl dX7_save_20 ?_
  refine r_aload_n hX rfl 0 rfl dX7_save_21 ?_
  refine gf_7_2 (o := 17) hX fl_X7_16 rfl m1_g dX7_save_22 ?_
  obtain ⟨P25, hP25, h⟩ := nb_e h
  refine pf_7_36 (o := 17) hX fl_X7_120 rfl m1_g dX7_save_25 (m1_w hP25) ?_
  refine r_iconst (v := 0) hX (by decide) dX7_save_28 ?_
  refine r_istore_n (L2 := [(1, .int 0), (0, .ref (gA G 17 0))]) hX rfl (by decide) rfl dX7_save_29 ?_
  exact WW.sub [1, 0] rfl (K30 P25 0 trivial h)
abbrev rm_X7_putBack : Room := { frames := 0, cells := 0, slots := 0, locals := 60 }
def f_X7_putBack_J131 (P : Pm) : Option (Pm) :=
  some P
def f_X7_putBack_B35 (v1 : Int32) (P : Pm) : Option ((Int32 × Pm) ⊕ (Pm)) :=
  (if 6 ≤ v1 then some (.inr P) else (if inb v1 6 = true then (if inb v1 6 = true then nb (up2 P 6 (ix v1) (P 38 (ix v1))) (fun P3 => (if inb v1 6 = true then (if inb v1 6 = true then nb (up2 P3 7 (ix v1) (P3 39 (ix v1))) (fun P6 => (if inb v1 6 = true then (if inb v1 6 = true then nb (up2 P6 8 (ix v1) (P6 40 (ix v1))) (fun P9 => (if inb v1 6 = true then (if inb v1 6 = true then nb (up2 P9 9 (ix v1) (P9 41 (ix v1))) (fun P12 => (if inb v1 6 = true then (if inb v1 6 = true then nb (up2 P12 10 (ix v1) (P12 42 (ix v1))) (fun P15 => (if inb v1 6 = true then (if inb v1 6 = true then nb (up2 P15 11 (ix v1) (P15 43 (ix v1))) (fun P18 => (if inb v1 6 = true then (if inb v1 6 = true then nb (up2 P18 13 (ix v1) (P18 44 (ix v1))) (fun P21 => some (.inl ((v1 + 1), P21))) else none) else none)) else none) else none)) else none) else none)) else none) else none)) else none) else none)) else none) else none)) else none) else none))
def f_X7_putBack_H35 (P : Pm) (v1 : Int32) : Option (Pm) :=
  Option.bind (iter (fun t => f_X7_putBack_B35 t.1 t.2) 200 (v1, P)) (fun P => f_X7_putBack_J131 P)
def f_X7_putBack (P : Pm) : Option (Pm) :=
  nb (up2 P 0 33 9999) (fun P22 => nb (up2 P22 0 30 (-1)) (fun P23 => nb (up2 P23 0 31 (-1)) (fun P24 => nb (up2 P24 0 0 (P24 0 35)) (fun P25 => nb (up2 P25 0 2 (P25 0 36)) (fun P26 => f_X7_putBack_H35 P26 0)))))
set_option maxHeartbeats 4000000 in
set_option maxRecDepth 100000 in
theorem c_X7_putBack (l : Launch) (G : GE) {σ : Mm} {lm : Ml}  {P : Pm} {Pz : Pm} (h : f_X7_putBack P = some Pz) : CM l G yX7_putBack bX7_putBack 2 (Option.none : Option Jvm.ClassFile.FieldType) rm_X7_putBack [.ref (gA G 17 0)] (m1 σ 17 P) lm (none) (m1 σ 17 Pz) lm := by
  refine CM.of (own := zR7) (L0 := [(0, .ref (gA G 17 0))]) (by decide +kernel) rfl (Nat.le_of_ble_eq_true rfl) rfl (fun X hl hX hR hQ => ?_)
  have K131 : ∀ (P : Pm) (_ : True), f_X7_putBack_J131 P = some Pz → WW X G 2 (m1 σ 17 P) lm 131 [] [] := by
    intro P _ h
    unfold f_X7_putBack_J131 at h
    have g0 := Option.some.inj h
    subst g0
    exact r_vret hX hQ dX7_putBack_131
  have K35 : ∀ (P : Pm) (v1 : Int32) (_ : True), f_X7_putBack_H35 P v1 = some Pz → WW X G 2 (m1 σ 17 P) lm 35 [(0, .ref (gA G 17 0)), (1, .int v1)] [] := by
    intro P v1 _ h
    unfold f_X7_putBack_H35 at h
    obtain ⟨e_P, hit, hO⟩ := bn_e h
    refine iter_w (P := fun t : Int32 × Pm => WW X G 2 (m1 σ 17 t.2) lm 35 [(0, .ref (gA G 17 0)), (1, .int t.1)] []) (x := e_P) ?_ 200 (v1, P) hit
    clear hit
    intro t z1 hb hin1 hex1
    obtain ⟨v1, P⟩ := t
    have h : f_X7_putBack_B35 v1 P = some z1 := hb
    clear hb
    unfold f_X7_putBack_B35 at h
    refine r_iload_n hX rfl 1 rfl dX7_putBack_35 ?_
    refine r_bipush (v := 6) hX (by decide) dX7_putBack_36 ?_
    refine r_icmp_ge hX dX7_putBack_38 (fun hc => ?_) (fun hc => ?_)
    · replace h := ip_e hc h
      have g0 := hex1 _ (Option.some.inj h).symm
      subst g0
      exact WW.sub [] rfl (K131 P trivial hO)
    · replace h := in_e hc h
      refine r_aload_n hX rfl 0 rfl dX7_putBack_41 ?_
      refine gf_7_5 (o := 17) hX fl_X7_26 rfl m1_g dX7_putBack_42 ?_
      refine r_iload_n hX rfl 1 rfl dX7_putBack_45 ?_
      refine r_aload_n hX rfl 0 rfl dX7_putBack_46 ?_
      refine gf_7_37 (o := 17) hX fl_X7_123 rfl m1_g dX7_putBack_47 ?_
      refine r_iload_n hX rfl 1 rfl dX7_putBack_50 ?_
      obtain ⟨hk1, h⟩ := kc_e h
      refine ga_7_38 (o := 17) hX rfl m1_g hk1 dX7_putBack_51 ?_
      obtain ⟨hk2, h⟩ := kc_e h
      obtain ⟨P3, hP3, h⟩ := nb_e h
      refine pa_7_6 (o := 17) hX rfl m1_g hk2 (m1_w hP3) dX7_putBack_52 ?_
      refine r_aload_n hX rfl 0 rfl dX7_putBack_53 ?_
      refine gf_7_6 (o := 17) hX fl_X7_29 rfl m1_g dX7_putBack_54 ?_
      refine r_iload_n hX rfl 1 rfl dX7_putBack_57 ?_
      refine r_aload_n hX rfl 0 rfl dX7_putBack_58 ?_
      refine gf_7_38 (o := 17) hX fl_X7_126 rfl m1_g dX7_putBack_59 ?_
      refine r_iload_n hX rfl 1 rfl dX7_putBack_62 ?_
      obtain ⟨hk4, h⟩ := kc_e h
      refine ga_7_39 (o := 17) hX rfl m1_g hk4 dX7_putBack_63 ?_
      obtain ⟨hk5, h⟩ := kc_e h
      obtain ⟨P6, hP6, h⟩ := nb_e h
      refine pa_7_7 (o := 17) hX rfl m1_g hk5 (m1_w hP6) dX7_putBack_64 ?_
      refine r_aload_n hX rfl 0 rfl dX7_putBack_65 ?_
      refine gf_7_7 (o := 17) hX fl_X7_32 rfl m1_g dX7_putBack_66 ?_
      refine r_iload_n hX rfl 1 rfl dX7_putBack_69 ?_
      refine r_aload_n hX rfl 0 rfl dX7_putBack_70 ?_
      refine gf_7_39 (o := 17) hX fl_X7_129 rfl m1_g dX7_putBack_71 ?_
      refine r_iload_n hX rfl 1 rfl dX7_putBack_74 ?_
      obtain ⟨hk7, h⟩ := kc_e h
      refine ga_7_40 (o := 17) hX rfl m1_g hk7 dX7_putBack_75 ?_
      obtain ⟨hk8, h⟩ := kc_e h
      obtain ⟨P9, hP9, h⟩ := nb_e h
      refine pa_7_8 (o := 17) hX rfl m1_g hk8 (m1_w hP9) dX7_putBack_76 ?_
      refine r_aload_n hX rfl 0 rfl dX7_putBack_77 ?_
      refine gf_7_8 (o := 17) hX fl_X7_35 rfl m1_g dX7_putBack_78 ?_
      refine r_iload_n hX rfl 1 rfl dX7_putBack_81 ?_
      refine r_aload_n hX rfl 0 rfl dX7_putBack_82 ?_
      refine gf_7_40 (o := 17) hX fl_X7_132 rfl m1_g dX7_putBack_83 ?_
      refine r_iload_n hX rfl 1 rfl dX7_putBack_86 ?_
      obtain ⟨hk10, h⟩ := kc_e h
      refine ga_7_41 (o := 17) hX rfl m1_g hk10 dX7_putBack_87 ?_
      obtain ⟨hk11, h⟩ := kc_e h
      obtain ⟨P12, hP12, h⟩ := nb_e h
      refine pa_7_9 (o := 17) hX rfl m1_g hk11 (m1_w hP12) dX7_putBack_88 ?_
      refine r_aload_n hX rfl 0 rfl dX7_putBack_89 ?_
      refine gf_7_9 (o := 17) hX fl_X7_38 rfl m1_g dX7_putBack_90 ?_
      refine r_iload_n hX rfl 1 rfl dX7_putBack_93 ?_
      refine r_aload_n hX rfl 0 rfl dX7_putBack_94 ?_
      refine gf_7_41 (o := 17) hX fl_X7_135 rfl m1_g dX7_putBack_95 ?_
      refine r_iload_n hX rfl 1 rfl dX7_putBack_98 ?_
      obtain ⟨hk13, h⟩ := kc_e h
      refine ga_7_42 (o := 17) hX rfl m1_g hk13 dX7_putBack_99 ?_
      obtain ⟨hk14, h⟩ := kc_e h
      obtain ⟨P15, hP15, h⟩ := nb_e h
      refine pa_7_10 (o := 17) hX rfl m1_g hk14 (m1_w hP15) dX7_putBack_100 ?_
      refine r_aload_n hX rfl 0 rfl dX7_putBack_101 ?_
      refine gf_7_10 (o := 17) hX fl_X7_41 rfl m1_g dX7_putBack_102 ?_
      refine r_iload_n hX rfl 1 rfl dX7_putBack_105 ?_
      refine r_aload_n hX rfl 0 rfl dX7_putBack_106 ?_
      refine gf_7_42 (o := 17) hX fl_X7_138 rfl m1_g dX7_putBack_107 ?_
      refine r_iload_n hX rfl 1 rfl dX7_putBack_110 ?_
      obtain ⟨hk16, h⟩ := kc_e h
      refine ga_7_43 (o := 17) hX rfl m1_g hk16 dX7_putBack_111 ?_
      obtain ⟨hk17, h⟩ := kc_e h
      obtain ⟨P18, hP18, h⟩ := nb_e h
      refine pa_7_11 (o := 17) hX rfl m1_g hk17 (m1_w hP18) dX7_putBack_112 ?_
      refine r_aload_n hX rfl 0 rfl dX7_putBack_113 ?_
      refine gf_7_12 (o := 17) hX fl_X7_47 rfl m1_g dX7_putBack_114 ?_
      refine r_iload_n hX rfl 1 rfl dX7_putBack_117 ?_
      refine r_aload_n hX rfl 0 rfl dX7_putBack_118 ?_
      refine gf_7_43 (o := 17) hX fl_X7_141 rfl m1_g dX7_putBack_119 ?_
      refine r_iload_n hX rfl 1 rfl dX7_putBack_122 ?_
      obtain ⟨hk19, h⟩ := kc_e h
      refine ga_7_44 (o := 17) hX rfl m1_g hk19 dX7_putBack_123 ?_
      obtain ⟨hk20, h⟩ := kc_e h
      obtain ⟨P21, hP21, h⟩ := nb_e h
      refine pa_7_13 (o := 17) hX rfl m1_g hk20 (m1_w hP21) dX7_putBack_124 ?_
      refine r_iinc (v := v1 + 1) (L2 := [(1, .int (v1 + 1)), (0, .ref (gA G 17 0))]) hX 1 rfl rfl (by decide) rfl dX7_putBack_125 ?_
      refine r_goto hX dX7_putBack_128 ?_
      exact WW.sub [1, 0] rfl (hin1 _ (Option.some.inj h).symm)
  unfold f_X7_putBack at h
  refine r_aload_n hX rfl 0 rfl dX7_putBack_0 ?_
  refine r_sipush (v := 9999) hX (by decide) dX7_putBack_1 ?_
  obtain ⟨P22, hP22, h⟩ := nb_e h
  refine pf_7_33 (o := 17) hX fl_X7_111 rfl m1_g dX7_putBack_4 (m1_w hP22) ?_
  refine r_aload_n hX rfl 0 rfl dX7_putBack_7 ?_
  refine r_iconst (v := (-1)) hX (by decide) dX7_putBack_8 ?_
  obtain ⟨P23, hP23, h⟩ := nb_e h
  refine pf_7_30 (o := 17) hX fl_X7_101 rfl m1_g dX7_putBack_9 (m1_w hP23) ?_
  refine r_aload_n hX rfl 0 rfl dX7_putBack_12 ?_
  refine r_iconst (v := (-1)) hX (by decide) dX7_putBack_13 ?_
  obtain ⟨P24, hP24, h⟩ := nb_e h
  refine pf_7_31 (o := 17) hX fl_X7_104 rfl m1_g dX7_putBack_14 (m1_w hP24) ?_
  refine r_aload_n hX rfl 0 rfl dX7_putBack_17 ?_
  refine r_aload_n hX rfl 0 rfl dX7_putBack_18 ?_
  refine gf_7_35 (o := 17) hX fl_X7_117 rfl m1_g dX7_putBack_19 ?_
  obtain ⟨P25, hP25, h⟩ := nb_e h
  refine pf_7_0 (o := 17) hX fl_X7_7 rfl m1_g dX7_putBack_22 (m1_w hP25) ?_
  refine r_aload_n hX rfl 0 rfl dX7_putBack_25 ?_
  refine r_aload_n hX rfl 0 rfl dX7_putBack_26 ?_
  refine gf_7_36 (o := 17) hX fl_X7_120 rfl m1_g dX7_putBack_27 ?_
  obtain ⟨P26, hP26, h⟩ := nb_e h
  refine pf_7_2 (o := 17) hX fl_X7_16 rfl m1_g dX7_putBack_30 (m1_w hP26) ?_
  refine r_iconst (v := 0) hX (by decide) dX7_putBack_33 ?_
  refine r_istore_n (L2 := [(1, .int 0), (0, .ref (gA G 17 0))]) hX rfl (by decide) rfl dX7_putBack_34 ?_
  exact WW.sub [1, 0] rfl (K35 P26 0 trivial h)
abbrev rm_X7_on : Room := { frames := 7, cells := 0, slots := 0, locals := 211 }
def f_X7_on_J128 (P : Pm) (w0 : Int32) : Option (Int32 × Pm) :=
  Option.bind (f_X7_putBack P) (fun P1 => some (w0, P1))
def f_X7_on_J46 (P : Pm) (v1 : Int32) (v2 : Int32) : Option (Int32 × Pm) :=
  Option.bind (f_X7_isDays P v1) (fun x2 => (if x2 = 0 then some ((-2), P) else Option.bind (f_X7_save P) (fun P3 => Option.bind (f_X7_goDays P3 v1) (fun P4 => (if v2 = 0 then f_X7_on_J128 P4 (P4 0 0) else (if v2 = 1 then f_X7_on_J128 P4 (P4 0 34) else (if v2 = 2 then Option.bind (f_X7_allOwes P4) (fun x7 => f_X7_on_J128 P4 x7) else (if 20 ≤ v2 then (if inb (v2 - 20) 6 = true then f_X7_on_J128 P4 (P4 10 (ix (v2 - 20))) else none) else (if inb (v2 - 10) 6 = true then f_X7_on_J128 P4 (P4 8 (ix (v2 - 10))) else none)))))))))
def f_X7_on (P : Pm) (a1 : Int32) (a2 : Int32) : Option (Int32 × Pm) :=
  Option.bind (f_X7_in P a2 0 2) (fun x8 => (if x8 = 0 then Option.bind (f_X7_in P a2 10 (9 + (P 0 1))) (fun x9 => (if x9 = 0 then Option.bind (f_X7_in P a2 20 (19 + (P 0 1))) (fun x10 => (if x10 = 0 then some ((-1), P) else f_X7_on_J46 P a1 a2)) else f_X7_on_J46 P a1 a2)) else f_X7_on_J46 P a1 a2))
set_option maxHeartbeats 4000000 in
set_option maxRecDepth 100000 in
theorem c_X7_on (l : Launch) (G : GE) {σ : Mm} {lm : Ml}  {P : Pm} {a1 : Int32} {a2 : Int32} {rz : Int32} {Pz : Pm} (h : f_X7_on P a1 a2 = some (rz, Pz)) : CM l G yX7_on bX7_on 4 (Option.some Jvm.ClassFile.FieldType.int) rm_X7_on [.ref (gA G 17 0), .int a1, .int a2] (m1 σ 17 P) lm (some (.int rz)) (m1 σ 17 Pz) lm := by
  refine CM.of (own := zR7) (L0 := [(0, .ref (gA G 17 0)), (1, .int a1), (2, .int a2)]) (by decide +kernel) rfl (Nat.le_of_ble_eq_true rfl) rfl (fun X hl hX hR hQ => ?_)
  have K128 : ∀ (P : Pm) (w0 : Int32) (_ : True), f_X7_on_J128 P w0 = some (rz, Pz) → WW X G 4 (m1 σ 17 P) lm 128 [(0, .ref (gA G 17 0))] [.int w0] := by
    intro P w0 _ h
    unfold f_X7_on_J128 at h
    refine r_istore_n (L2 := [(3, .int w0), (0, .ref (gA G 17 0))]) hX rfl (by decide) rfl dX7_on_128 ?_
    refine r_aload_n hX rfl 1 rfl dX7_on_129 ?_
    obtain ⟨P1, hc1, h⟩ := bn_e h
    refine r_callVv hX hR (c_X7_putBack (σ := σ) X.2.1 G hc1) rfl rfl mf_X7_putBack ml_X7_394 in_X7_putBack se_X7_putBack rfl rfl ⟨rfl, rfl, Nat.le_of_ble_eq_true rfl, Nat.le_of_ble_eq_true rfl⟩ rfl (st := []) rfl (Nat.le_of_ble_eq_true rfl) dX7_on_130 ?_
    refine r_iload_n hX rfl 0 rfl dX7_on_133 ?_
    have g0 := Option.some.inj h
    obtain ⟨q0, g1⟩ := Prod.mk.inj g0
    subst q0
    subst g1
    exact r_iret hX hQ dX7_on_134
  have K46 : ∀ (P : Pm) (v1 : Int32) (v2 : Int32) (_ : True), f_X7_on_J46 P v1 v2 = some (rz, Pz) → WW X G 4 (m1 σ 17 P) lm 46 [(0, .ref (gA G 17 0)), (1, .int v1), (2, .int v2)] [] := by
    intro P v1 v2 _ h
    unfold f_X7_on_J46 at h
    refine r_aload_n hX rfl 0 rfl dX7_on_46 ?_
    refine r_iload_n hX rfl 1 rfl dX7_on_47 ?_
    obtain ⟨x2, hc2, h⟩ := bn_e h
    refine r_callVi hX hR (c_X7_isDays (σ := σ) X.2.1 G hc2) rfl rfl mf_X7_isDays ml_X7_384 in_X7_isDays se_X7_isDays rfl rfl ⟨rfl, rfl, Nat.le_of_ble_eq_true rfl, Nat.le_of_ble_eq_true rfl⟩ rfl (st := []) rfl (Nat.le_of_ble_eq_true rfl) dX7_on_48 ?_
    refine r_if_ne hX dX7_on_51 (fun hc => ?_) (fun hc => ?_)
    · replace h := in_e hc h
      refine r_aload_n hX rfl 0 rfl dX7_on_57 ?_
      obtain ⟨P3, hc3, h⟩ := bn_e h
      refine r_callVv hX hR (c_X7_save (σ := σ) X.2.1 G hc3) rfl rfl mf_X7_save ml_X7_391 in_X7_save se_X7_save rfl rfl ⟨rfl, rfl, Nat.le_of_ble_eq_true rfl, Nat.le_of_ble_eq_true rfl⟩ rfl (st := []) rfl (Nat.le_of_ble_eq_true rfl) dX7_on_58 ?_
      refine r_aload_n hX rfl 0 rfl dX7_on_61 ?_
      refine r_iload_n hX rfl 1 rfl dX7_on_62 ?_
      obtain ⟨P4, hc4, h⟩ := bn_e h
      refine r_callVv hX hR (c_X7_goDays (σ := σ) X.2.1 G hc4) rfl rfl mf_X7_goDays ml_X7_387 in_X7_goDays se_X7_goDays rfl rfl ⟨rfl, rfl, Nat.le_of_ble_eq_true rfl, Nat.le_of_ble_eq_true rfl⟩ rfl (st := []) rfl (Nat.le_of_ble_eq_true rfl) dX7_on_63 ?_
      refine r_iload_n hX rfl 2 rfl dX7_on_66 ?_
      refine r_if_ne hX dX7_on_67 (fun hc => ?_) (fun hc => ?_)
      · replace h := in_e hc h
        refine r_iload_n hX rfl 2 rfl dX7_on_77 ?_
        refine r_iconst (v := 1) hX (by decide) dX7_on_78 ?_
        refine r_icmp_ne hX dX7_on_79 (fun hc => ?_) (fun hc => ?_)
        · replace h := in_e hc h
          refine r_iload_n hX rfl 2 rfl dX7_on_89 ?_
          refine r_iconst (v := 2) hX (by decide) dX7_on_90 ?_
          refine r_icmp_ne hX dX7_on_91 (fun hc => ?_) (fun hc => ?_)
          · replace h := in_e hc h
            refine r_iload_n hX rfl 2 rfl dX7_on_101 ?_
            refine r_bipush (v := 20) hX (by decide) dX7_on_102 ?_
            refine r_icmp_ge hX dX7_on_104 (fun hc => ?_) (fun hc => ?_)
            · replace h := ip_e hc h
              refine r_aload_n hX rfl 0 rfl dX7_on_119 ?_
              refine gf_7_9 (o := 17) hX fl_X7_38 rfl m1_g dX7_on_120 ?_
              refine r_iload_n hX rfl 2 rfl dX7_on_123 ?_
              refine r_bipush (v := 20) hX (by decide) dX7_on_124 ?_
              refine r_isub hX dX7_on_126 ?_
              obtain ⟨hk5, h⟩ := kc_e h
              refine ga_7_10 (o := 17) hX rfl m1_g hk5 dX7_on_127 ?_
              exact WW.sub [0] rfl (K128 P4 (P4 10 (ix (v2 - 20))) trivial h)
            · replace h := in_e hc h
              refine r_aload_n hX rfl 0 rfl dX7_on_107 ?_
              refine gf_7_7 (o := 17) hX fl_X7_32 rfl m1_g dX7_on_108 ?_
              refine r_iload_n hX rfl 2 rfl dX7_on_111 ?_
              refine r_bipush (v := 10) hX (by decide) dX7_on_112 ?_
              refine r_isub hX dX7_on_114 ?_
              obtain ⟨hk6, h⟩ := kc_e h
              refine ga_7_8 (o := 17) hX rfl m1_g hk6 dX7_on_115 ?_
              refine r_goto hX dX7_on_116 ?_
              exact WW.sub [0] rfl (K128 P4 (P4 8 (ix (v2 - 10))) trivial h)
          · replace h := ip_e hc h
            refine r_aload_n hX rfl 0 rfl dX7_on_94 ?_
            obtain ⟨x7, hc7, h⟩ := bn_e h
            refine r_callVi hX hR (c_X7_allOwes (σ := σ) X.2.1 G hc7) rfl rfl mf_X7_allOwes ml_X7_371 in_X7_allOwes se_X7_allOwes rfl rfl ⟨rfl, rfl, Nat.le_of_ble_eq_true rfl, Nat.le_of_ble_eq_true rfl⟩ rfl (st := []) rfl (Nat.le_of_ble_eq_true rfl) dX7_on_95 ?_
            refine r_goto hX dX7_on_98 ?_
            exact WW.sub [0] rfl (K128 P4 x7 trivial h)
        · replace h := ip_e hc h
          refine r_aload_n hX rfl 0 rfl dX7_on_82 ?_
          refine gf_7_34 (o := 17) hX fl_X7_114 rfl m1_g dX7_on_83 ?_
          refine r_goto hX dX7_on_86 ?_
          exact WW.sub [0] rfl (K128 P4 (P4 0 34) trivial h)
      · replace h := ip_e hc h
        refine r_aload_n hX rfl 0 rfl dX7_on_70 ?_
        refine gf_7_0 (o := 17) hX fl_X7_7 rfl m1_g dX7_on_71 ?_
        refine r_goto hX dX7_on_74 ?_
        exact WW.sub [0] rfl (K128 P4 (P4 0 0) trivial h)
    · replace h := ip_e hc h
      refine r_bipush (v := (-2)) hX (by decide) dX7_on_54 ?_
      have g0 := Option.some.inj h
      obtain ⟨q0, g1⟩ := Prod.mk.inj g0
      subst q0
      subst g1
      exact r_iret hX hQ dX7_on_56
  unfold f_X7_on at h
  refine r_aload_n hX rfl 0 rfl dX7_on_0 ?_
  refine r_iload_n hX rfl 2 rfl dX7_on_1 ?_
  refine r_iconst (v := 0) hX (by decide) dX7_on_2 ?_
  refine r_iconst (v := 2) hX (by decide) dX7_on_3 ?_
  obtain ⟨x8, hc8, h⟩ := bn_e h
  refine r_callVi hX hR (c_X7_in (σ := σ) X.2.1 G hc8) rfl rfl mf_X7_in ml_X7_263 in_X7_in se_X7_in rfl rfl ⟨rfl, rfl, Nat.le_of_ble_eq_true rfl, Nat.le_of_ble_eq_true rfl⟩ rfl (st := []) rfl (Nat.le_of_ble_eq_true rfl) dX7_on_4 ?_
  refine r_if_ne hX dX7_on_7 (fun hc => ?_) (fun hc => ?_)
  · replace h := in_e hc h
    exact WW.sub [0, 1, 2] rfl (K46 P a1 a2 trivial h)
  · replace h := ip_e hc h
    refine r_aload_n hX rfl 0 rfl dX7_on_10 ?_
    refine r_iload_n hX rfl 2 rfl dX7_on_11 ?_
    refine r_bipush (v := 10) hX (by decide) dX7_on_12 ?_
    refine r_bipush (v := 9) hX (by decide) dX7_on_14 ?_
    refine r_aload_n hX rfl 0 rfl dX7_on_16 ?_
    refine gf_7_1 (o := 17) hX fl_X7_13 rfl m1_g dX7_on_17 ?_
    refine r_iadd hX dX7_on_20 ?_
    obtain ⟨x9, hc9, h⟩ := bn_e h
    refine r_callVi hX hR (c_X7_in (σ := σ) X.2.1 G hc9) rfl rfl mf_X7_in ml_X7_263 in_X7_in se_X7_in rfl rfl ⟨rfl, rfl, Nat.le_of_ble_eq_true rfl, Nat.le_of_ble_eq_true rfl⟩ rfl (st := []) rfl (Nat.le_of_ble_eq_true rfl) dX7_on_21 ?_
    refine r_if_ne hX dX7_on_24 (fun hc => ?_) (fun hc => ?_)
    · replace h := in_e hc h
      exact WW.sub [0, 1, 2] rfl (K46 P a1 a2 trivial h)
    · replace h := ip_e hc h
      refine r_aload_n hX rfl 0 rfl dX7_on_27 ?_
      refine r_iload_n hX rfl 2 rfl dX7_on_28 ?_
      refine r_bipush (v := 20) hX (by decide) dX7_on_29 ?_
      refine r_bipush (v := 19) hX (by decide) dX7_on_31 ?_
      refine r_aload_n hX rfl 0 rfl dX7_on_33 ?_
      refine gf_7_1 (o := 17) hX fl_X7_13 rfl m1_g dX7_on_34 ?_
      refine r_iadd hX dX7_on_37 ?_
      obtain ⟨x10, hc10, h⟩ := bn_e h
      refine r_callVi hX hR (c_X7_in (σ := σ) X.2.1 G hc10) rfl rfl mf_X7_in ml_X7_263 in_X7_in se_X7_in rfl rfl ⟨rfl, rfl, Nat.le_of_ble_eq_true rfl, Nat.le_of_ble_eq_true rfl⟩ rfl (st := []) rfl (Nat.le_of_ble_eq_true rfl) dX7_on_38 ?_
      refine r_if_ne hX dX7_on_41 (fun hc => ?_) (fun hc => ?_)
      · replace h := in_e hc h
        exact WW.sub [0, 1, 2] rfl (K46 P a1 a2 trivial h)
      · replace h := ip_e hc h
        refine r_iconst (v := (-1)) hX (by decide) dX7_on_44 ?_
        have g0 := Option.some.inj h
        obtain ⟨q0, g1⟩ := Prod.mk.inj g0
        subst q0
        subst g1
        exact r_iret hX hQ dX7_on_45
abbrev rm_X7_lowest : Room := { frames := 6, cells := 0, slots := 0, locals := 189 }
def f_X7_lowest_J74 (P : Pm) (v2 : Int32) (v3 : Int32) (v4 : Int32) : Option (Int32 × Pm) :=
  Option.bind (f_X7_putBack P) (fun P1 => (if v2 = 0 then some (v3, P1) else some (v4, P1)))
def f_X7_lowest_J68 (P : Pm) (v1 : Int32) (v2 : Int32) (v3 : Int32) (v4 : Int32) (v5 : Int32) : Option ((Int32 × Int32 × Int32 × Pm) ⊕ (Int32 × Int32 × Pm)) :=
  some (.inl (v3, v4, (v5 + 1), P))
def f_X7_lowest_B38 (v1 : Int32) (v2 : Int32) (v3 : Int32) (v4 : Int32) (v5 : Int32) (P : Pm) : Option ((Int32 × Int32 × Int32 × Pm) ⊕ (Int32 × Int32 × Pm)) :=
  (if v1 < v5 then some (.inr (v3, v4, P)) else Option.bind (f_X7_goDay P) (fun P2 => (if (P2 0 0) < v3 then f_X7_lowest_J68 P2 v1 v2 (P2 0 0) v5 v5 else f_X7_lowest_J68 P2 v1 v2 v3 v4 v5)))
def f_X7_lowest_H38 (P : Pm) (v1 : Int32) (v2 : Int32) (v3 : Int32) (v4 : Int32) (v5 : Int32) : Option (Int32 × Pm) :=
  bn3 (iter (fun t => f_X7_lowest_B38 v1 v2 t.1 t.2.1 t.2.2.1 t.2.2.2) 200 (v3, v4, v5, P)) (fun v3 v4 P => f_X7_lowest_J74 P v2 v3 v4)
def f_X7_lowest (P : Pm) (a1 : Int32) (a2 : Int32) : Option (Int32 × Pm) :=
  Option.bind (f_X7_in P a2 0 1) (fun x3 => (if x3 = 0 then some ((-1), P) else Option.bind (f_X7_isDays P a1) (fun x4 => (if x4 = 0 then some ((-2), P) else Option.bind (f_X7_save P) (fun P5 => f_X7_lowest_H38 P5 a1 a2 (P5 0 0) 0 1)))))
set_option maxHeartbeats 4000000 in
set_option maxRecDepth 100000 in
theorem c_X7_lowest (l : Launch) (G : GE) {σ : Mm} {lm : Ml}  {P : Pm} {a1 : Int32} {a2 : Int32} {rz : Int32} {Pz : Pm} (h : f_X7_lowest P a1 a2 = some (rz, Pz)) : CM l G yX7_lowest bX7_lowest 6 (Option.some Jvm.ClassFile.FieldType.int) rm_X7_lowest [.ref (gA G 17 0), .int a1, .int a2] (m1 σ 17 P) lm (some (.int rz)) (m1 σ 17 Pz) lm := by
  refine CM.of (own := zR7) (L0 := [(0, .ref (gA G 17 0)), (1, .int a1), (2, .int a2)]) (by decide +kernel) rfl (Nat.le_of_ble_eq_true rfl) rfl (fun X hl hX hR hQ => ?_)
  have K74 : ∀ (P : Pm) (v2 : Int32) (v3 : Int32) (v4 : Int32) (_ : True), f_X7_lowest_J74 P v2 v3 v4 = some (rz, Pz) → WW X G 6 (m1 σ 17 P) lm 74 [(0, .ref (gA G 17 0)), (2, .int v2), (3, .int v3), (4, .int v4)] [] := by
    intro P v2 v3 v4 _ h
    unfold f_X7_lowest_J74 at h
    refine r_aload_n hX rfl 0 rfl dX7_lowest_74 ?_
    obtain ⟨P1, hc1, h⟩ := bn_e h
    refine r_callVv hX hR (c_X7_putBack (σ := σ) X.2.1 G hc1) rfl rfl mf_X7_putBack ml_X7_394 in_X7_putBack se_X7_putBack rfl rfl ⟨rfl, rfl, Nat.le_of_ble_eq_true rfl, Nat.le_of_ble_eq_true rfl⟩ rfl (st := []) rfl (Nat.le_of_ble_eq_true rfl) dX7_lowest_75 ?_
    refine r_iload_n hX rfl 1 rfl dX7_lowest_78 ?_
    refine r_if_ne hX dX7_lowest_79 (fun hc => ?_) (fun hc => ?_)
    · replace h := in_e hc h
      refine r_iload hX 3 rfl dX7_lowest_86 ?_
      have g0 := Option.some.inj h
      obtain ⟨q0, g1⟩ := Prod.mk.inj g0
      subst q0
      subst g1
      exact r_iret hX hQ dX7_lowest_88
    · replace h := ip_e hc h
      refine r_iload_n hX rfl 2 rfl dX7_lowest_82 ?_
      refine r_goto hX dX7_lowest_83 ?_
      have g0 := Option.some.inj h
      obtain ⟨q0, g1⟩ := Prod.mk.inj g0
      subst q0
      subst g1
      exact r_iret hX hQ dX7_lowest_88
  have K38 : ∀ (P : Pm) (v1 : Int32) (v2 : Int32) (v3 : Int32) (v4 : Int32) (v5 : Int32) (_ : True), f_X7_lowest_H38 P v1 v2 v3 v4 v5 = some (rz, Pz) → WW X G 6 (m1 σ 17 P) lm 38 [(0, .ref (gA G 17 0)), (1, .int v1), (2, .int v2), (3, .int v3), (4, .int v4), (5, .int v5)] [] := by
    intro P v1 v2 v3 v4 v5 _ h
    unfold f_X7_lowest_H38 at h
    obtain ⟨e_v3, e_v4, e_P, hit, hO⟩ := bn3_e h
    refine iter_w (P := fun t : Int32 × Int32 × Int32 × Pm => WW X G 6 (m1 σ 17 t.2.2.2) lm 38 [(0, .ref (gA G 17 0)), (1, .int v1), (2, .int v2), (3, .int t.1), (4, .int t.2.1), (5, .int t.2.2.1)] []) (x := (e_v3, e_v4, e_P)) ?_ 200 (v3, v4, v5, P) hit
    clear hit
    intro t z1 hb hin1 hex1
    obtain ⟨v3, v4, v5, P⟩ := t
    have h : f_X7_lowest_B38 v1 v2 v3 v4 v5 P = some z1 := hb
    clear hb
    have K68 : ∀ (P : Pm) (v3 : Int32) (v4 : Int32) (v5 : Int32) (_ : True), f_X7_lowest_J68 P v1 v2 v3 v4 v5 = some z1 → WW X G 6 (m1 σ 17 P) lm 68 [(0, .ref (gA G 17 0)), (1, .int v1), (2, .int v2), (3, .int v3), (4, .int v4), (5, .int v5)] [] := by
      intro P v3 v4 v5 _ h
      unfold f_X7_lowest_J68 at h
      refine r_iinc (v := v5 + 1) (L2 := [(5, .int (v5 + 1)), (0, .ref (gA G 17 0)), (1, .int v1), (2, .int v2), (3, .int v3), (4, .int v4)]) hX 5 rfl rfl (by decide) rfl dX7_lowest_68 ?_
      refine r_goto hX dX7_lowest_71 ?_
      exact WW.sub [1, 2, 3, 4, 5, 0] rfl (hin1 _ (Option.some.inj h).symm)
    unfold f_X7_lowest_B38 at h
    refine r_iload hX 5 rfl dX7_lowest_38 ?_
    refine r_iload_n hX rfl 1 rfl dX7_lowest_40 ?_
    refine r_icmp_gt hX dX7_lowest_41 (fun hc => ?_) (fun hc => ?_)
    · replace h := ip_e hc h
      have g0 := hex1 _ (Option.some.inj h).symm
      obtain ⟨q0, g1⟩ := Prod.mk.inj g0
      obtain ⟨q1, g2⟩ := Prod.mk.inj g1
      subst q0
      subst q1
      subst g2
      exact WW.sub [0, 2, 3, 4] rfl (K74 P v2 v3 v4 trivial hO)
    · replace h := in_e hc h
      refine r_aload_n hX rfl 0 rfl dX7_lowest_44 ?_
      obtain ⟨P2, hc2, h⟩ := bn_e h
      refine r_callVv hX hR (c_X7_goDay (σ := σ) X.2.1 G hc2) rfl rfl mf_X7_goDay ml_X7_381 in_X7_goDay se_X7_goDay rfl rfl ⟨rfl, rfl, Nat.le_of_ble_eq_true rfl, Nat.le_of_ble_eq_true rfl⟩ rfl (st := []) rfl (Nat.le_of_ble_eq_true rfl) dX7_lowest_45 ?_
      refine r_aload_n hX rfl 0 rfl dX7_lowest_48 ?_
      refine gf_7_0 (o := 17) hX fl_X7_7 rfl m1_g dX7_lowest_49 ?_
      refine r_iload_n hX rfl 3 rfl dX7_lowest_52 ?_
      refine r_icmp_lt hX dX7_lowest_53 (fun hc => ?_) (fun hc => ?_)
      · replace h := ip_e hc h
        refine r_aload_n hX rfl 0 rfl dX7_lowest_59 ?_
        refine gf_7_0 (o := 17) hX fl_X7_7 rfl m1_g dX7_lowest_60 ?_
        refine r_istore_n (L2 := [(3, .int (P2 0 0)), (0, .ref (gA G 17 0)), (1, .int v1), (2, .int v2), (4, .int v4), (5, .int v5)]) hX rfl (by decide) rfl dX7_lowest_63 ?_
        refine r_iload hX 5 rfl dX7_lowest_64 ?_
        refine r_istore (L2 := [(4, .int v5), (3, .int (P2 0 0)), (0, .ref (gA G 17 0)), (1, .int v1), (2, .int v2), (5, .int v5)]) hX (by decide) rfl dX7_lowest_66 ?_
        exact WW.sub [2, 3, 4, 1, 0, 5] rfl (K68 P2 (P2 0 0) v5 v5 trivial h)
      · replace h := in_e hc h
        refine r_goto hX dX7_lowest_56 ?_
        exact WW.sub [0, 1, 2, 3, 4, 5] rfl (K68 P2 v3 v4 v5 trivial h)
  unfold f_X7_lowest at h
  refine r_aload_n hX rfl 0 rfl dX7_lowest_0 ?_
  refine r_iload_n hX rfl 2 rfl dX7_lowest_1 ?_
  refine r_iconst (v := 0) hX (by decide) dX7_lowest_2 ?_
  refine r_iconst (v := 1) hX (by decide) dX7_lowest_3 ?_
  obtain ⟨x3, hc3, h⟩ := bn_e h
  refine r_callVi hX hR (c_X7_in (σ := σ) X.2.1 G hc3) rfl rfl mf_X7_in ml_X7_263 in_X7_in se_X7_in rfl rfl ⟨rfl, rfl, Nat.le_of_ble_eq_true rfl, Nat.le_of_ble_eq_true rfl⟩ rfl (st := []) rfl (Nat.le_of_ble_eq_true rfl) dX7_lowest_4 ?_
  refine r_if_ne hX dX7_lowest_7 (fun hc => ?_) (fun hc => ?_)
  · replace h := in_e hc h
    refine r_aload_n hX rfl 0 rfl dX7_lowest_12 ?_
    refine r_iload_n hX rfl 1 rfl dX7_lowest_13 ?_
    obtain ⟨x4, hc4, h⟩ := bn_e h
    refine r_callVi hX hR (c_X7_isDays (σ := σ) X.2.1 G hc4) rfl rfl mf_X7_isDays ml_X7_384 in_X7_isDays se_X7_isDays rfl rfl ⟨rfl, rfl, Nat.le_of_ble_eq_true rfl, Nat.le_of_ble_eq_true rfl⟩ rfl (st := []) rfl (Nat.le_of_ble_eq_true rfl) dX7_lowest_14 ?_
    refine r_if_ne hX dX7_lowest_17 (fun hc => ?_) (fun hc => ?_)
    · replace h := in_e hc h
      refine r_aload_n hX rfl 0 rfl dX7_lowest_23 ?_
      obtain ⟨P5, hc5, h⟩ := bn_e h
      refine r_callVv hX hR (c_X7_save (σ := σ) X.2.1 G hc5) rfl rfl mf_X7_save ml_X7_391 in_X7_save se_X7_save rfl rfl ⟨rfl, rfl, Nat.le_of_ble_eq_true rfl, Nat.le_of_ble_eq_true rfl⟩ rfl (st := []) rfl (Nat.le_of_ble_eq_true rfl) dX7_lowest_24 ?_
      refine r_aload_n hX rfl 0 rfl dX7_lowest_27 ?_
      refine gf_7_0 (o := 17) hX fl_X7_7 rfl m1_g dX7_lowest_28 ?_
      refine r_istore_n (L2 := [(3, .int (P5 0 0)), (0, .ref (gA G 17 0)), (1, .int a1), (2, .int a2)]) hX rfl (by decide) rfl dX7_lowest_31 ?_
      refine r_iconst (v := 0) hX (by decide) dX7_lowest_32 ?_
      refine r_istore (L2 := [(4, .int 0), (3, .int (P5 0 0)), (0, .ref (gA G 17 0)), (1, .int a1), (2, .int a2)]) hX (by decide) rfl dX7_lowest_33 ?_
      refine r_iconst (v := 1) hX (by decide) dX7_lowest_35 ?_
      refine r_istore (L2 := [(5, .int 1), (4, .int 0), (3, .int (P5 0 0)), (0, .ref (gA G 17 0)), (1, .int a1), (2, .int a2)]) hX (by decide) rfl dX7_lowest_36 ?_
      exact WW.sub [3, 4, 5, 2, 1, 0] rfl (K38 P5 a1 a2 (P5 0 0) 0 1 trivial h)
    · replace h := ip_e hc h
      refine r_bipush (v := (-2)) hX (by decide) dX7_lowest_20 ?_
      have g0 := Option.some.inj h
      obtain ⟨q0, g1⟩ := Prod.mk.inj g0
      subst q0
      subst g1
      exact r_iret hX hQ dX7_lowest_22
  · replace h := ip_e hc h
    refine r_iconst (v := (-1)) hX (by decide) dX7_lowest_10 ?_
    have g0 := Option.some.inj h
    obtain ⟨q0, g1⟩ := Prod.mk.inj g0
    subst q0
    subst g1
    exact r_iret hX hQ dX7_lowest_11
abbrev rm_X7_first : Room := { frames := 6, cells := 0, slots := 0, locals := 189 }
def f_X7_first_J44 (P : Pm) (w0 : Int32) : Option (Int32 × Pm) :=
  Option.bind (f_X7_putBack P) (fun P1 => some (w0, P1))
def f_X7_first_J29 (P : Pm) (v1 : Int32) : Option (Int32 × Pm) :=
  (if (P 0 34) ≤ 0 then f_X7_first_J44 P (-5) else f_X7_first_J44 P (v1 - 1))
def f_X7_first_B6 (v1 : Int32) (P : Pm) : Option ((Int32 × Pm) ⊕ (Int32 × Pm)) :=
  (if 61 ≤ v1 then some (.inr (v1, P)) else (if (P 0 34) = 0 then Option.bind (f_X7_goDay P) (fun P2 => some (.inl ((v1 + 1), P2))) else some (.inr (v1, P))))
def f_X7_first_H6 (P : Pm) (v1 : Int32) : Option (Int32 × Pm) :=
  bn2 (iter (fun t => f_X7_first_B6 t.1 t.2) 200 (v1, P)) (fun v1 P => f_X7_first_J29 P v1)
def f_X7_first (P : Pm) : Option (Int32 × Pm) :=
  Option.bind (f_X7_save P) (fun P3 => f_X7_first_H6 P3 0)
set_option maxHeartbeats 4000000 in
set_option maxRecDepth 100000 in
theorem c_X7_first (l : Launch) (G : GE) {σ : Mm} {lm : Ml}  {P : Pm} {rz : Int32} {Pz : Pm} (h : f_X7_first P = some (rz, Pz)) : CM l G yX7_first bX7_first 3 (Option.some Jvm.ClassFile.FieldType.int) rm_X7_first [.ref (gA G 17 0)] (m1 σ 17 P) lm (some (.int rz)) (m1 σ 17 Pz) lm := by
  refine CM.of (own := zR7) (L0 := [(0, .ref (gA G 17 0))]) (by decide +kernel) rfl (Nat.le_of_ble_eq_true rfl) rfl (fun X hl hX hR hQ => ?_)
  have K44 : ∀ (P : Pm) (w0 : Int32) (_ : True), f_X7_first_J44 P w0 = some (rz, Pz) → WW X G 3 (m1 σ 17 P) lm 44 [(0, .ref (gA G 17 0))] [.int w0] := by
    intro P w0 _ h
    unfold f_X7_first_J44 at h
    refine r_istore_n (L2 := [(2, .int w0), (0, .ref (gA G 17 0))]) hX rfl (by decide) rfl dX7_first_44 ?_
    refine r_aload_n hX rfl 1 rfl dX7_first_45 ?_
    obtain ⟨P1, hc1, h⟩ := bn_e h
    refine r_callVv hX hR (c_X7_putBack (σ := σ) X.2.1 G hc1) rfl rfl mf_X7_putBack ml_X7_394 in_X7_putBack se_X7_putBack rfl rfl ⟨rfl, rfl, Nat.le_of_ble_eq_true rfl, Nat.le_of_ble_eq_true rfl⟩ rfl (st := []) rfl (Nat.le_of_ble_eq_true rfl) dX7_first_46 ?_
    refine r_iload_n hX rfl 0 rfl dX7_first_49 ?_
    have g0 := Option.some.inj h
    obtain ⟨q0, g1⟩ := Prod.mk.inj g0
    subst q0
    subst g1
    exact r_iret hX hQ dX7_first_50
  have K29 : ∀ (P : Pm) (v1 : Int32) (_ : True), f_X7_first_J29 P v1 = some (rz, Pz) → WW X G 3 (m1 σ 17 P) lm 29 [(0, .ref (gA G 17 0)), (1, .int v1)] [] := by
    intro P v1 _ h
    unfold f_X7_first_J29 at h
    refine r_aload_n hX rfl 0 rfl dX7_first_29 ?_
    refine gf_7_34 (o := 17) hX fl_X7_114 rfl m1_g dX7_first_30 ?_
    refine r_if_le hX dX7_first_33 (fun hc => ?_) (fun hc => ?_)
    · replace h := ip_e hc h
      refine r_bipush (v := (-5)) hX (by decide) dX7_first_42 ?_
      exact WW.sub [0] rfl (K44 P (-5) trivial h)
    · replace h := in_e hc h
      refine r_iload_n hX rfl 1 rfl dX7_first_36 ?_
      refine r_iconst (v := 1) hX (by decide) dX7_first_37 ?_
      refine r_isub hX dX7_first_38 ?_
      refine r_goto hX dX7_first_39 ?_
      exact WW.sub [0] rfl (K44 P (v1 - 1) trivial h)
  have K6 : ∀ (P : Pm) (v1 : Int32) (_ : True), f_X7_first_H6 P v1 = some (rz, Pz) → WW X G 3 (m1 σ 17 P) lm 6 [(0, .ref (gA G 17 0)), (1, .int v1)] [] := by
    intro P v1 _ h
    unfold f_X7_first_H6 at h
    obtain ⟨e_v1, e_P, hit, hO⟩ := bn2_e h
    refine iter_w (P := fun t : Int32 × Pm => WW X G 3 (m1 σ 17 t.2) lm 6 [(0, .ref (gA G 17 0)), (1, .int t.1)] []) (x := (e_v1, e_P)) ?_ 200 (v1, P) hit
    clear hit
    intro t z1 hb hin1 hex1
    obtain ⟨v1, P⟩ := t
    have h : f_X7_first_B6 v1 P = some z1 := hb
    clear hb
    unfold f_X7_first_B6 at h
    refine r_iload_n hX rfl 1 rfl dX7_first_6 ?_
    refine r_bipush (v := 61) hX (by decide) dX7_first_7 ?_
    refine r_icmp_ge hX dX7_first_9 (fun hc => ?_) (fun hc => ?_)
    · replace h := ip_e hc h
      have g0 := hex1 _ (Option.some.inj h).symm
      obtain ⟨q0, g1⟩ := Prod.mk.inj g0
      subst q0
      subst g1
      exact WW.sub [0, 1] rfl (K29 P v1 trivial hO)
    · replace h := in_e hc h
      refine r_aload_n hX rfl 0 rfl dX7_first_12 ?_
      refine gf_7_34 (o := 17) hX fl_X7_114 rfl m1_g dX7_first_13 ?_
      refine r_if_ne hX dX7_first_16 (fun hc => ?_) (fun hc => ?_)
      · replace h := in_e hc h
        have g0 := hex1 _ (Option.some.inj h).symm
        obtain ⟨q0, g1⟩ := Prod.mk.inj g0
        subst q0
        subst g1
        exact WW.sub [0, 1] rfl (K29 P v1 trivial hO)
      · replace h := ip_e hc h
        refine r_aload_n hX rfl 0 rfl dX7_first_19 ?_
        obtain ⟨P2, hc2, h⟩ := bn_e h
        refine r_callVv hX hR (c_X7_goDay (σ := σ) X.2.1 G hc2) rfl rfl mf_X7_goDay ml_X7_381 in_X7_goDay se_X7_goDay rfl rfl ⟨rfl, rfl, Nat.le_of_ble_eq_true rfl, Nat.le_of_ble_eq_true rfl⟩ rfl (st := []) rfl (Nat.le_of_ble_eq_true rfl) dX7_first_20 ?_
        refine r_iinc (v := v1 + 1) (L2 := [(1, .int (v1 + 1)), (0, .ref (gA G 17 0))]) hX 1 rfl rfl (by decide) rfl dX7_first_23 ?_
        refine r_goto hX dX7_first_26 ?_
        exact WW.sub [1, 0] rfl (hin1 _ (Option.some.inj h).symm)
  unfold f_X7_first at h
  refine r_aload_n hX rfl 0 rfl dX7_first_0 ?_
  obtain ⟨P3, hc3, h⟩ := bn_e h
  refine r_callVv hX hR (c_X7_save (σ := σ) X.2.1 G hc3) rfl rfl mf_X7_save ml_X7_391 in_X7_save se_X7_save rfl rfl ⟨rfl, rfl, Nat.le_of_ble_eq_true rfl, Nat.le_of_ble_eq_true rfl⟩ rfl (st := []) rfl (Nat.le_of_ble_eq_true rfl) dX7_first_1 ?_
  refine r_iconst (v := 0) hX (by decide) dX7_first_4 ?_
  refine r_istore_n (L2 := [(1, .int 0), (0, .ref (gA G 17 0))]) hX rfl (by decide) rfl dX7_first_5 ?_
  exact WW.sub [1, 0] rfl (K6 P3 0 trivial h)
abbrev rm_X7_turnedThen : Room := { frames := 7, cells := 0, slots := 0, locals := 211 }
def f_X7_turnedThen (P : Pm) : Option (Int32 × Pm) :=
  Option.bind (f_X7_goDays P 30) (fun P1 => Option.bind (f_X7_putBack P1) (fun P2 => some ((P1 0 34), P2)))
set_option maxHeartbeats 4000000 in
set_option maxRecDepth 100000 in
theorem c_X7_turnedThen (l : Launch) (G : GE) {σ : Mm} {lm : Ml}  {P : Pm} {rz : Int32} {Pz : Pm} (h : f_X7_turnedThen P = some (rz, Pz)) : CM l G yX7_turnedThen bX7_turnedThen 2 (Option.some Jvm.ClassFile.FieldType.int) rm_X7_turnedThen [.ref (gA G 17 0)] (m1 σ 17 P) lm (some (.int rz)) (m1 σ 17 Pz) lm := by
  refine CM.of (own := zR7) (L0 := [(0, .ref (gA G 17 0))]) (by decide +kernel) rfl (Nat.le_of_ble_eq_true rfl) rfl (fun X hl hX hR hQ => ?_)
  unfold f_X7_turnedThen at h
  refine r_aload_n hX rfl 0 rfl dX7_turnedThen_0 ?_
  refine r_bipush (v := 30) hX (by decide) dX7_turnedThen_1 ?_
  obtain ⟨P1, hc1, h⟩ := bn_e h
  refine r_callVv hX hR (c_X7_goDays (σ := σ) X.2.1 G hc1) rfl rfl mf_X7_goDays ml_X7_387 in_X7_goDays se_X7_goDays rfl rfl ⟨rfl, rfl, Nat.le_of_ble_eq_true rfl, Nat.le_of_ble_eq_true rfl⟩ rfl (st := []) rfl (Nat.le_of_ble_eq_true rfl) dX7_turnedThen_3 ?_
  refine r_aload_n hX rfl 0 rfl dX7_turnedThen_6 ?_
  refine gf_7_34 (o := 17) hX fl_X7_114 rfl m1_g dX7_turnedThen_7 ?_
  refine r_istore_n (L2 := [(1, .int (P1 0 34)), (0, .ref (gA G 17 0))]) hX rfl (by decide) rfl dX7_turnedThen_10 ?_
  refine r_aload_n hX rfl 1 rfl dX7_turnedThen_11 ?_
  obtain ⟨P2, hc2, h⟩ := bn_e h
  refine r_callVv hX hR (c_X7_putBack (σ := σ) X.2.1 G hc2) rfl rfl mf_X7_putBack ml_X7_394 in_X7_putBack se_X7_putBack rfl rfl ⟨rfl, rfl, Nat.le_of_ble_eq_true rfl, Nat.le_of_ble_eq_true rfl⟩ rfl (st := []) rfl (Nat.le_of_ble_eq_true rfl) dX7_turnedThen_12 ?_
  refine r_iload_n hX rfl 0 rfl dX7_turnedThen_15 ?_
  have g0 := Option.some.inj h
  obtain ⟨q0, g1⟩ := Prod.mk.inj g0
  subst q0
  subst g1
  exact r_iret hX hQ dX7_turnedThen_16
abbrev rm_X7_turned : Room := { frames := 8, cells := 0, slots := 0, locals := 232 }
def f_X7_turned (P : Pm) : Option (Int32 × Pm) :=
  Option.bind (f_X7_save P) (fun P1 => bn2 (f_X7_turnedThen P1) (fun x2 P3 => some (x2, P3)))
set_option maxHeartbeats 4000000 in
set_option maxRecDepth 100000 in
theorem c_X7_turned (l : Launch) (G : GE) {σ : Mm} {lm : Ml}  {P : Pm} {rz : Int32} {Pz : Pm} (h : f_X7_turned P = some (rz, Pz)) : CM l G yX7_turned bX7_turned 1 (Option.some Jvm.ClassFile.FieldType.int) rm_X7_turned [.ref (gA G 17 0)] (m1 σ 17 P) lm (some (.int rz)) (m1 σ 17 Pz) lm := by
  refine CM.of (own := zR7) (L0 := [(0, .ref (gA G 17 0))]) (by decide +kernel) rfl (Nat.le_of_ble_eq_true rfl) rfl (fun X hl hX hR hQ => ?_)
  unfold f_X7_turned at h
  refine r_aload_n hX rfl 0 rfl dX7_turned_0 ?_
  obtain ⟨P1, hc1, h⟩ := bn_e h
  refine r_callVv hX hR (c_X7_save (σ := σ) X.2.1 G hc1) rfl rfl mf_X7_save ml_X7_391 in_X7_save se_X7_save rfl rfl ⟨rfl, rfl, Nat.le_of_ble_eq_true rfl, Nat.le_of_ble_eq_true rfl⟩ rfl (st := []) rfl (Nat.le_of_ble_eq_true rfl) dX7_turned_1 ?_
  refine r_aload_n hX rfl 0 rfl dX7_turned_4 ?_
  obtain ⟨x2, P3, hc3, h⟩ := bn2_e h
  refine r_callVi hX hR (c_X7_turnedThen (σ := σ) X.2.1 G hc3) rfl rfl mf_X7_turnedThen ml_X7_397 in_X7_turnedThen se_X7_turnedThen rfl rfl ⟨rfl, rfl, Nat.le_of_ble_eq_true rfl, Nat.le_of_ble_eq_true rfl⟩ rfl (st := []) rfl (Nat.le_of_ble_eq_true rfl) dX7_turned_5 ?_
  have g0 := Option.some.inj h
  obtain ⟨q0, g1⟩ := Prod.mk.inj g0
  subst q0
  subst g1
  exact r_iret hX hQ dX7_turned_8
abbrev rm_X7_callOf : Room := { frames := 9, cells := 0, slots := 0, locals := 252 }
def f_X7_callOf_J65 (P : Pm) (v1 : Int32) : Option (Int32 × Pm) :=
  some (v1, P)
def f_X7_callOf_J59 (P : Pm) (v1 : Int32) (v2 : Int32) (v3 : Int32) : Option ((Int32 × Int32 × Int32 × Pm) ⊕ (Int32 × Pm)) :=
  some (.inl (v1, v2, (v3 + 1), P))
def f_X7_callOf_B10 (v1 : Int32) (v2 : Int32) (v3 : Int32) (P : Pm) : Option ((Int32 × Int32 × Int32 × Pm) ⊕ (Int32 × Pm)) :=
  (if (P 0 1) ≤ v3 then some (.inr (v1, P)) else (if inb v3 6 = true then (if (P 8 (ix v3)) = 0 then f_X7_callOf_J59 P v1 v2 v3 else Option.bind (f_X7_save P) (fun P2 => Option.bind (f_X7_calls P2 v3) (fun P3 => bn2 (f_X7_turnedThen P3) (fun x4 P5 => (if x4 < v2 then f_X7_callOf_J59 P5 v3 x4 v3 else f_X7_callOf_J59 P5 v1 v2 v3))))) else none))
def f_X7_callOf_H10 (P : Pm) (v1 : Int32) (v2 : Int32) (v3 : Int32) : Option (Int32 × Pm) :=
  bn2 (iter (fun t => f_X7_callOf_B10 t.1 t.2.1 t.2.2.1 t.2.2.2) 200 (v1, v2, v3, P)) (fun v1 P => f_X7_callOf_J65 P v1)
def f_X7_callOf (P : Pm) : Option (Int32 × Pm) :=
  bn2 (f_X7_turned P) (fun x6 P7 => f_X7_callOf_H10 P7 (-5) x6 0)
set_option maxHeartbeats 4000000 in
set_option maxRecDepth 100000 in
theorem c_X7_callOf (l : Launch) (G : GE) {σ : Mm} {lm : Ml}  {P : Pm} {rz : Int32} {Pz : Pm} (h : f_X7_callOf P = some (rz, Pz)) : CM l G yX7_callOf bX7_callOf 5 (Option.some Jvm.ClassFile.FieldType.int) rm_X7_callOf [.ref (gA G 17 0)] (m1 σ 17 P) lm (some (.int rz)) (m1 σ 17 Pz) lm := by
  refine CM.of (own := zR7) (L0 := [(0, .ref (gA G 17 0))]) (by decide +kernel) rfl (Nat.le_of_ble_eq_true rfl) rfl (fun X hl hX hR hQ => ?_)
  have K65 : ∀ (P : Pm) (v1 : Int32) (_ : True), f_X7_callOf_J65 P v1 = some (rz, Pz) → WW X G 5 (m1 σ 17 P) lm 65 [(1, .int v1)] [] := by
    intro P v1 _ h
    unfold f_X7_callOf_J65 at h
    refine r_iload_n hX rfl 0 rfl dX7_callOf_65 ?_
    have g0 := Option.some.inj h
    obtain ⟨q0, g1⟩ := Prod.mk.inj g0
    subst q0
    subst g1
    exact r_iret hX hQ dX7_callOf_66
  have K10 : ∀ (P : Pm) (v1 : Int32) (v2 : Int32) (v3 : Int32) (_ : True), f_X7_callOf_H10 P v1 v2 v3 = some (rz, Pz) → WW X G 5 (m1 σ 17 P) lm 10 [(0, .ref (gA G 17 0)), (1, .int v1), (2, .int v2), (3, .int v3)] [] := by
    intro P v1 v2 v3 _ h
    unfold f_X7_callOf_H10 at h
    obtain ⟨e_v1, e_P, hit, hO⟩ := bn2_e h
    refine iter_w (P := fun t : Int32 × Int32 × Int32 × Pm => WW X G 5 (m1 σ 17 t.2.2.2) lm 10 [(0, .ref (gA G 17 0)), (1, .int t.1), (2, .int t.2.1), (3, .int t.2.2.1)] []) (x := (e_v1, e_P)) ?_ 200 (v1, v2, v3, P) hit
    clear hit
    intro t z1 hb hin1 hex1
    obtain ⟨v1, v2, v3, P⟩ := t
    have h : f_X7_callOf_B10 v1 v2 v3 P = some z1 := hb
    clear hb
    have K59 : ∀ (P : Pm) (v1 : Int32) (v2 : Int32) (v3 : Int32) (_ : True), f_X7_callOf_J59 P v1 v2 v3 = some z1 → WW X G 5 (m1 σ 17 P) lm 59 [(0, .ref (gA G 17 0)), (1, .int v1), (2, .int v2), (3, .int v3)] [] := by
      intro P v1 v2 v3 _ h
      unfold f_X7_callOf_J59 at h
      refine r_iinc (v := v3 + 1) (L2 := [(3, .int (v3 + 1)), (0, .ref (gA G 17 0)), (1, .int v1), (2, .int v2)]) hX 3 rfl rfl (by decide) rfl dX7_callOf_59 ?_
      refine r_goto hX dX7_callOf_62 ?_
      exact WW.sub [1, 2, 3, 0] rfl (hin1 _ (Option.some.inj h).symm)
    unfold f_X7_callOf_B10 at h
    refine r_iload_n hX rfl 3 rfl dX7_callOf_10 ?_
    refine r_aload_n hX rfl 0 rfl dX7_callOf_11 ?_
    refine gf_7_1 (o := 17) hX fl_X7_13 rfl m1_g dX7_callOf_12 ?_
    refine r_icmp_ge hX dX7_callOf_15 (fun hc => ?_) (fun hc => ?_)
    · replace h := ip_e hc h
      have g0 := hex1 _ (Option.some.inj h).symm
      obtain ⟨q0, g1⟩ := Prod.mk.inj g0
      subst q0
      subst g1
      exact WW.sub [1] rfl (K65 P v1 trivial hO)
    · replace h := in_e hc h
      refine r_aload_n hX rfl 0 rfl dX7_callOf_18 ?_
      refine gf_7_7 (o := 17) hX fl_X7_32 rfl m1_g dX7_callOf_19 ?_
      refine r_iload_n hX rfl 3 rfl dX7_callOf_22 ?_
      obtain ⟨hk1, h⟩ := kc_e h
      refine ga_7_8 (o := 17) hX rfl m1_g hk1 dX7_callOf_23 ?_
      refine r_if_ne hX dX7_callOf_24 (fun hc => ?_) (fun hc => ?_)
      · replace h := in_e hc h
        refine r_aload_n hX rfl 0 rfl dX7_callOf_30 ?_
        obtain ⟨P2, hc2, h⟩ := bn_e h
        refine r_callVv hX hR (c_X7_save (σ := σ) X.2.1 G hc2) rfl rfl mf_X7_save ml_X7_391 in_X7_save se_X7_save rfl rfl ⟨rfl, rfl, Nat.le_of_ble_eq_true rfl, Nat.le_of_ble_eq_true rfl⟩ rfl (st := []) rfl (Nat.le_of_ble_eq_true rfl) dX7_callOf_31 ?_
        refine r_aload_n hX rfl 0 rfl dX7_callOf_34 ?_
        refine r_iload_n hX rfl 3 rfl dX7_callOf_35 ?_
        obtain ⟨P3, hc3, h⟩ := bn_e h
        refine r_callVv hX hR (c_X7_calls (σ := σ) X.2.1 G hc3) rfl rfl mf_X7_calls ml_X7_288 in_X7_calls se_X7_calls rfl rfl ⟨rfl, rfl, Nat.le_of_ble_eq_true rfl, Nat.le_of_ble_eq_true rfl⟩ rfl (st := []) rfl (Nat.le_of_ble_eq_true rfl) dX7_callOf_36 ?_
        refine r_aload_n hX rfl 0 rfl dX7_callOf_39 ?_
        obtain ⟨x4, P5, hc5, h⟩ := bn2_e h
        refine r_callVi hX hR (c_X7_turnedThen (σ := σ) X.2.1 G hc5) rfl rfl mf_X7_turnedThen ml_X7_397 in_X7_turnedThen se_X7_turnedThen rfl rfl ⟨rfl, rfl, Nat.le_of_ble_eq_true rfl, Nat.le_of_ble_eq_true rfl⟩ rfl (st := []) rfl (Nat.le_of_ble_eq_true rfl) dX7_callOf_40 ?_
        refine r_istore (L2 := [(4, .int x4), (0, .ref (gA G 17 0)), (1, .int v1), (2, .int v2), (3, .int v3)]) hX (by decide) rfl dX7_callOf_43 ?_
        refine r_iload hX 0 rfl dX7_callOf_45 ?_
        refine r_iload_n hX rfl 3 rfl dX7_callOf_47 ?_
        refine r_icmp_lt hX dX7_callOf_48 (fun hc => ?_) (fun hc => ?_)
        · replace h := ip_e hc h
          refine r_iload_n hX rfl 4 rfl dX7_callOf_54 ?_
          refine r_istore_n (L2 := [(1, .int v3), (4, .int x4), (0, .ref (gA G 17 0)), (2, .int v2), (3, .int v3)]) hX rfl (by decide) rfl dX7_callOf_55 ?_
          refine r_iload hX 1 rfl dX7_callOf_56 ?_
          refine r_istore_n (L2 := [(2, .int x4), (1, .int v3), (4, .int x4), (0, .ref (gA G 17 0)), (3, .int v3)]) hX rfl (by decide) rfl dX7_callOf_58 ?_
          exact WW.sub [3, 1, 0, 4] rfl (K59 P5 v3 x4 v3 trivial h)
        · replace h := in_e hc h
          refine r_goto hX dX7_callOf_51 ?_
          exact WW.sub [1, 2, 3, 4] rfl (K59 P5 v1 v2 v3 trivial h)
      · replace h := ip_e hc h
        refine r_goto hX dX7_callOf_27 ?_
        exact WW.sub [0, 1, 2, 3] rfl (K59 P v1 v2 v3 trivial h)
  unfold f_X7_callOf at h
  refine r_bipush (v := (-5)) hX (by decide) dX7_callOf_0 ?_
  refine r_istore_n (L2 := [(1, .int (-5)), (0, .ref (gA G 17 0))]) hX rfl (by decide) rfl dX7_callOf_2 ?_
  refine r_aload_n hX rfl 1 rfl dX7_callOf_3 ?_
  obtain ⟨x6, P7, hc7, h⟩ := bn2_e h
  refine r_callVi hX hR (c_X7_turned (σ := σ) X.2.1 G hc7) rfl rfl mf_X7_turned ml_X7_400 in_X7_turned se_X7_turned rfl rfl ⟨rfl, rfl, Nat.le_of_ble_eq_true rfl, Nat.le_of_ble_eq_true rfl⟩ rfl (st := []) rfl (Nat.le_of_ble_eq_true rfl) dX7_callOf_4 ?_
  refine r_istore_n (L2 := [(2, .int x6), (1, .int (-5)), (0, .ref (gA G 17 0))]) hX rfl (by decide) rfl dX7_callOf_7 ?_
  refine r_iconst (v := 0) hX (by decide) dX7_callOf_8 ?_
  refine r_istore_n (L2 := [(3, .int 0), (2, .int x6), (1, .int (-5)), (0, .ref (gA G 17 0))]) hX rfl (by decide) rfl dX7_callOf_9 ?_
  exact WW.sub [3, 2, 1, 0] rfl (K10 P7 (-5) x6 0 trivial h)
abbrev rm_X7_aheadOf : Room := { frames := 9, cells := 0, slots := 0, locals := 252 }
def f_X7_aheadOf_J81 (P : Pm) (v1 : Int32) : Option (Int32 × Pm) :=
  some (v1, P)
def f_X7_aheadOf_J75 (P : Pm) (v1 : Int32) (v2 : Int32) (v3 : Int32) : Option ((Int32 × Int32 × Int32 × Pm) ⊕ (Int32 × Pm)) :=
  some (.inl (v1, v2, (v3 + 1), P))
def f_X7_aheadOf_J69 (P : Pm) (v1 : Int32) (v2 : Int32) (v3 : Int32) (v4 : Int32) : Option ((Int32 × Int32 × Int32 × Pm) ⊕ (Int32 × Int32 × Pm)) :=
  some (.inl (v1, v2, (v4 + 1), P))
def f_X7_aheadOf_B23 (v3 : Int32) (v1 : Int32) (v2 : Int32) (v4 : Int32) (P : Pm) : Option ((Int32 × Int32 × Int32 × Pm) ⊕ (Int32 × Int32 × Pm)) :=
  (if (P 0 1) ≤ v4 then some (.inr (v1, v2, P)) else Option.bind (f_X7_save P) (fun P1 => Option.bind (f_X7_changes P1 v3 v4) (fun P2 => bn2 (f_X7_turnedThen P2) (fun x3 P4 => (if x3 < v2 then f_X7_aheadOf_J69 P4 ((10 * v3) + v4) x3 v3 v4 else f_X7_aheadOf_J69 P4 v1 v2 v3 v4)))))
def f_X7_aheadOf_H23 (P : Pm) (v1 : Int32) (v2 : Int32) (v3 : Int32) (v4 : Int32) : Option ((Int32 × Int32 × Int32 × Pm) ⊕ (Int32 × Pm)) :=
  bn3 (iter (fun t => f_X7_aheadOf_B23 v3 t.1 t.2.1 t.2.2.1 t.2.2.2) 200 (v1, v2, v4, P)) (fun v1 v2 P => f_X7_aheadOf_J75 P v1 v2 v3)
def f_X7_aheadOf_B10 (v1 : Int32) (v2 : Int32) (v3 : Int32) (P : Pm) : Option ((Int32 × Int32 × Int32 × Pm) ⊕ (Int32 × Pm)) :=
  (if (P 0 1) ≤ v3 then some (.inr (v1, P)) else f_X7_aheadOf_H23 P v1 v2 v3 (v3 + 1))
def f_X7_aheadOf_H10 (P : Pm) (v1 : Int32) (v2 : Int32) (v3 : Int32) : Option (Int32 × Pm) :=
  bn2 (iter (fun t => f_X7_aheadOf_B10 t.1 t.2.1 t.2.2.1 t.2.2.2) 200 (v1, v2, v3, P)) (fun v1 P => f_X7_aheadOf_J81 P v1)
def f_X7_aheadOf (P : Pm) : Option (Int32 × Pm) :=
  bn2 (f_X7_turned P) (fun x5 P6 => f_X7_aheadOf_H10 P6 (-5) x5 0)
set_option maxHeartbeats 4000000 in
set_option maxRecDepth 100000 in
theorem c_X7_aheadOf (l : Launch) (G : GE) {σ : Mm} {lm : Ml}  {P : Pm} {rz : Int32} {Pz : Pm} (h : f_X7_aheadOf P = some (rz, Pz)) : CM l G yX7_aheadOf bX7_aheadOf 6 (Option.some Jvm.ClassFile.FieldType.int) rm_X7_aheadOf [.ref (gA G 17 0)] (m1 σ 17 P) lm (some (.int rz)) (m1 σ 17 Pz) lm := by
  refine CM.of (own := zR7) (L0 := [(0, .ref (gA G 17 0))]) (by decide +kernel) rfl (Nat.le_of_ble_eq_true rfl) rfl (fun X hl hX hR hQ => ?_)
  have K81 : ∀ (P : Pm) (v1 : Int32) (_ : True), f_X7_aheadOf_J81 P v1 = some (rz, Pz) → WW X G 6 (m1 σ 17 P) lm 81 [(1, .int v1)] [] := by
    intro P v1 _ h
    unfold f_X7_aheadOf_J81 at h
    refine r_iload_n hX rfl 0 rfl dX7_aheadOf_81 ?_
    have g0 := Option.some.inj h
    obtain ⟨q0, g1⟩ := Prod.mk.inj g0
    subst q0
    subst g1
    exact r_iret hX hQ dX7_aheadOf_82
  have K10 : ∀ (P : Pm) (v1 : Int32) (v2 : Int32) (v3 : Int32) (_ : True), f_X7_aheadOf_H10 P v1 v2 v3 = some (rz, Pz) → WW X G 6 (m1 σ 17 P) lm 10 [(0, .ref (gA G 17 0)), (1, .int v1), (2, .int v2), (3, .int v3)] [] := by
    intro P v1 v2 v3 _ h
    unfold f_X7_aheadOf_H10 at h
    obtain ⟨e_v1, e_P, hit, hO⟩ := bn2_e h
    refine iter_w (P := fun t : Int32 × Int32 × Int32 × Pm => WW X G 6 (m1 σ 17 t.2.2.2) lm 10 [(0, .ref (gA G 17 0)), (1, .int t.1), (2, .int t.2.1), (3, .int t.2.2.1)] []) (x := (e_v1, e_P)) ?_ 200 (v1, v2, v3, P) hit
    clear hit
    intro t z1 hb hin1 hex1
    obtain ⟨v1, v2, v3, P⟩ := t
    have h : f_X7_aheadOf_B10 v1 v2 v3 P = some z1 := hb
    clear hb
    have K75 : ∀ (P : Pm) (v1 : Int32) (v2 : Int32) (v3 : Int32) (_ : True), f_X7_aheadOf_J75 P v1 v2 v3 = some z1 → WW X G 6 (m1 σ 17 P) lm 75 [(0, .ref (gA G 17 0)), (1, .int v1), (2, .int v2), (3, .int v3)] [] := by
      intro P v1 v2 v3 _ h
      unfold f_X7_aheadOf_J75 at h
      refine r_iinc (v := v3 + 1) (L2 := [(3, .int (v3 + 1)), (0, .ref (gA G 17 0)), (1, .int v1), (2, .int v2)]) hX 3 rfl rfl (by decide) rfl dX7_aheadOf_75 ?_
      refine r_goto hX dX7_aheadOf_78 ?_
      exact WW.sub [1, 2, 3, 0] rfl (hin1 _ (Option.some.inj h).symm)
    have K23 : ∀ (P : Pm) (v1 : Int32) (v2 : Int32) (v3 : Int32) (v4 : Int32) (_ : True), f_X7_aheadOf_H23 P v1 v2 v3 v4 = some z1 → WW X G 6 (m1 σ 17 P) lm 23 [(0, .ref (gA G 17 0)), (1, .int v1), (2, .int v2), (3, .int v3), (4, .int v4)] [] := by
      intro P v1 v2 v3 v4 _ h
      unfold f_X7_aheadOf_H23 at h
      obtain ⟨e_v1, e_v2, e_P, hit, hO⟩ := bn3_e h
      refine iter_w (P := fun t : Int32 × Int32 × Int32 × Pm => WW X G 6 (m1 σ 17 t.2.2.2) lm 23 [(0, .ref (gA G 17 0)), (1, .int t.1), (2, .int t.2.1), (3, .int v3), (4, .int t.2.2.1)] []) (x := (e_v1, e_v2, e_P)) ?_ 200 (v1, v2, v4, P) hit
      clear hit
      intro t z2 hb hin2 hex2
      obtain ⟨v1, v2, v4, P⟩ := t
      have h : f_X7_aheadOf_B23 v3 v1 v2 v4 P = some z2 := hb
      clear hb
      have K69 : ∀ (P : Pm) (v1 : Int32) (v2 : Int32) (v4 : Int32) (_ : True), f_X7_aheadOf_J69 P v1 v2 v3 v4 = some z2 → WW X G 6 (m1 σ 17 P) lm 69 [(0, .ref (gA G 17 0)), (1, .int v1), (2, .int v2), (3, .int v3), (4, .int v4)] [] := by
        intro P v1 v2 v4 _ h
        unfold f_X7_aheadOf_J69 at h
        refine r_iinc (v := v4 + 1) (L2 := [(4, .int (v4 + 1)), (0, .ref (gA G 17 0)), (1, .int v1), (2, .int v2), (3, .int v3)]) hX 4 rfl rfl (by decide) rfl dX7_aheadOf_69 ?_
        refine r_goto hX dX7_aheadOf_72 ?_
        exact WW.sub [1, 2, 3, 4, 0] rfl (hin2 _ (Option.some.inj h).symm)
      unfold f_X7_aheadOf_B23 at h
      refine r_iload hX 4 rfl dX7_aheadOf_23 ?_
      refine r_aload_n hX rfl 0 rfl dX7_aheadOf_25 ?_
      refine gf_7_1 (o := 17) hX fl_X7_13 rfl m1_g dX7_aheadOf_26 ?_
      refine r_icmp_ge hX dX7_aheadOf_29 (fun hc => ?_) (fun hc => ?_)
      · replace h := ip_e hc h
        have g0 := hex2 _ (Option.some.inj h).symm
        obtain ⟨q0, g1⟩ := Prod.mk.inj g0
        obtain ⟨q1, g2⟩ := Prod.mk.inj g1
        subst q0
        subst q1
        subst g2
        exact WW.sub [0, 1, 2, 3] rfl (K75 P v1 v2 v3 trivial hO)
      · replace h := in_e hc h
        refine r_aload_n hX rfl 0 rfl dX7_aheadOf_32 ?_
        obtain ⟨P1, hc1, h⟩ := bn_e h
        refine r_callVv hX hR (c_X7_save (σ := σ) X.2.1 G hc1) rfl rfl mf_X7_save ml_X7_391 in_X7_save se_X7_save rfl rfl ⟨rfl, rfl, Nat.le_of_ble_eq_true rfl, Nat.le_of_ble_eq_true rfl⟩ rfl (st := []) rfl (Nat.le_of_ble_eq_true rfl) dX7_aheadOf_33 ?_
        refine r_aload_n hX rfl 0 rfl dX7_aheadOf_36 ?_
        refine r_iload_n hX rfl 3 rfl dX7_aheadOf_37 ?_
        refine r_iload hX 4 rfl dX7_aheadOf_38 ?_
        obtain ⟨P2, hc2, h⟩ := bn_e h
        refine r_callVv hX hR (c_X7_changes (σ := σ) X.2.1 G hc2) rfl rfl mf_X7_changes ml_X7_280 in_X7_changes se_X7_changes rfl rfl ⟨rfl, rfl, Nat.le_of_ble_eq_true rfl, Nat.le_of_ble_eq_true rfl⟩ rfl (st := []) rfl (Nat.le_of_ble_eq_true rfl) dX7_aheadOf_40 ?_
        refine r_aload_n hX rfl 0 rfl dX7_aheadOf_43 ?_
        obtain ⟨x3, P4, hc4, h⟩ := bn2_e h
        refine r_callVi hX hR (c_X7_turnedThen (σ := σ) X.2.1 G hc4) rfl rfl mf_X7_turnedThen ml_X7_397 in_X7_turnedThen se_X7_turnedThen rfl rfl ⟨rfl, rfl, Nat.le_of_ble_eq_true rfl, Nat.le_of_ble_eq_true rfl⟩ rfl (st := []) rfl (Nat.le_of_ble_eq_true rfl) dX7_aheadOf_44 ?_
        refine r_istore (L2 := [(5, .int x3), (0, .ref (gA G 17 0)), (1, .int v1), (2, .int v2), (3, .int v3), (4, .int v4)]) hX (by decide) rfl dX7_aheadOf_47 ?_
        refine r_iload hX 0 rfl dX7_aheadOf_49 ?_
        refine r_iload_n hX rfl 3 rfl dX7_aheadOf_51 ?_
        refine r_icmp_lt hX dX7_aheadOf_52 (fun hc => ?_) (fun hc => ?_)
        · replace h := ip_e hc h
          refine r_bipush (v := 10) hX (by decide) dX7_aheadOf_58 ?_
          refine r_iload_n hX rfl 4 rfl dX7_aheadOf_60 ?_
          refine r_imul hX dX7_aheadOf_61 ?_
          refine r_iload hX 5 rfl dX7_aheadOf_62 ?_
          refine r_iadd hX dX7_aheadOf_64 ?_
          refine r_istore_n (L2 := [(1, .int ((10 * v3) + v4)), (5, .int x3), (0, .ref (gA G 17 0)), (2, .int v2), (3, .int v3), (4, .int v4)]) hX rfl (by decide) rfl dX7_aheadOf_65 ?_
          refine r_iload hX 1 rfl dX7_aheadOf_66 ?_
          refine r_istore_n (L2 := [(2, .int x3), (1, .int ((10 * v3) + v4)), (5, .int x3), (0, .ref (gA G 17 0)), (3, .int v3), (4, .int v4)]) hX rfl (by decide) rfl dX7_aheadOf_68 ?_
          exact WW.sub [3, 1, 0, 4, 5] rfl (K69 P4 ((10 * v3) + v4) x3 v4 trivial h)
        · replace h := in_e hc h
          refine r_goto hX dX7_aheadOf_55 ?_
          exact WW.sub [1, 2, 3, 4, 5] rfl (K69 P4 v1 v2 v4 trivial h)
    unfold f_X7_aheadOf_B10 at h
    refine r_iload_n hX rfl 3 rfl dX7_aheadOf_10 ?_
    refine r_aload_n hX rfl 0 rfl dX7_aheadOf_11 ?_
    refine gf_7_1 (o := 17) hX fl_X7_13 rfl m1_g dX7_aheadOf_12 ?_
    refine r_icmp_ge hX dX7_aheadOf_15 (fun hc => ?_) (fun hc => ?_)
    · replace h := ip_e hc h
      have g0 := hex1 _ (Option.some.inj h).symm
      obtain ⟨q0, g1⟩ := Prod.mk.inj g0
      subst q0
      subst g1
      exact WW.sub [1] rfl (K81 P v1 trivial hO)
    · replace h := in_e hc h
      refine r_iload_n hX rfl 3 rfl dX7_aheadOf_18 ?_
      refine r_iconst (v := 1) hX (by decide) dX7_aheadOf_19 ?_
      refine r_iadd hX dX7_aheadOf_20 ?_
      refine r_istore (L2 := [(4, .int (v3 + 1)), (0, .ref (gA G 17 0)), (1, .int v1), (2, .int v2), (3, .int v3)]) hX (by decide) rfl dX7_aheadOf_21 ?_
      exact WW.sub [1, 2, 3, 4, 0] rfl (K23 P v1 v2 v3 (v3 + 1) trivial h)
  unfold f_X7_aheadOf at h
  refine r_bipush (v := (-5)) hX (by decide) dX7_aheadOf_0 ?_
  refine r_istore_n (L2 := [(1, .int (-5)), (0, .ref (gA G 17 0))]) hX rfl (by decide) rfl dX7_aheadOf_2 ?_
  refine r_aload_n hX rfl 1 rfl dX7_aheadOf_3 ?_
  obtain ⟨x5, P6, hc6, h⟩ := bn2_e h
  refine r_callVi hX hR (c_X7_turned (σ := σ) X.2.1 G hc6) rfl rfl mf_X7_turned ml_X7_400 in_X7_turned se_X7_turned rfl rfl ⟨rfl, rfl, Nat.le_of_ble_eq_true rfl, Nat.le_of_ble_eq_true rfl⟩ rfl (st := []) rfl (Nat.le_of_ble_eq_true rfl) dX7_aheadOf_4 ?_
  refine r_istore_n (L2 := [(2, .int x5), (1, .int (-5)), (0, .ref (gA G 17 0))]) hX rfl (by decide) rfl dX7_aheadOf_7 ?_
  refine r_iconst (v := 0) hX (by decide) dX7_aheadOf_8 ?_
  refine r_istore_n (L2 := [(3, .int 0), (2, .int x5), (1, .int (-5)), (0, .ref (gA G 17 0))]) hX rfl (by decide) rfl dX7_aheadOf_9 ?_
  exact WW.sub [3, 2, 1, 0] rfl (K10 P6 (-5) x5 0 trivial h)
abbrev rm_X7_markOf : Room := { frames := 8, cells := 0, slots := 0, locals := 232 }
def f_X7_markOf_J50 (P : Pm) (v1 : Int32) : Option (Int32 × Pm) :=
  some (v1, P)
def f_X7_markOf_J44 (P : Pm) (v1 : Int32) (v2 : Int32) (v3 : Int32) : Option ((Int32 × Int32 × Int32 × Pm) ⊕ (Int32 × Pm)) :=
  some (.inl (v1, v2, (v3 + (-5)), P))
def f_X7_markOf_J39 (P : Pm) (v3 : Int32) (v4 : Int32) : Option ((Int32 × Int32 × Int32 × Pm) ⊕ (Int32 × Pm)) :=
  f_X7_markOf_J44 P v3 v4 v3
def f_X7_markOf_B7 (v1 : Int32) (v2 : Int32) (v3 : Int32) (P : Pm) : Option ((Int32 × Int32 × Int32 × Pm) ⊕ (Int32 × Pm)) :=
  (if v3 < 0 then some (.inr (v1, P)) else Option.bind (f_X7_save P) (fun P1 => nb (up2 P1 0 30 v3) (fun P2 => bn2 (f_X7_turnedThen P2) (fun x3 P4 => (if v2 < 0 then f_X7_markOf_J39 P4 v3 x3 else (if x3 < v2 then f_X7_markOf_J39 P4 v3 x3 else f_X7_markOf_J44 P4 v1 v2 v3))))))
def f_X7_markOf_H7 (P : Pm) (v1 : Int32) (v2 : Int32) (v3 : Int32) : Option (Int32 × Pm) :=
  bn2 (iter (fun t => f_X7_markOf_B7 t.1 t.2.1 t.2.2.1 t.2.2.2) 200 (v1, v2, v3, P)) (fun v1 P => f_X7_markOf_J50 P v1)
def f_X7_markOf (P : Pm) : Option (Int32 × Pm) :=
  f_X7_markOf_H7 P 0 (-1) 95
set_option maxHeartbeats 4000000 in
set_option maxRecDepth 100000 in
theorem c_X7_markOf (l : Launch) (G : GE) {σ : Mm} {lm : Ml}  {P : Pm} {rz : Int32} {Pz : Pm} (h : f_X7_markOf P = some (rz, Pz)) : CM l G yX7_markOf bX7_markOf 5 (Option.some Jvm.ClassFile.FieldType.int) rm_X7_markOf [.ref (gA G 17 0)] (m1 σ 17 P) lm (some (.int rz)) (m1 σ 17 Pz) lm := by
  refine CM.of (own := zR7) (L0 := [(0, .ref (gA G 17 0))]) (by decide +kernel) rfl (Nat.le_of_ble_eq_true rfl) rfl (fun X hl hX hR hQ => ?_)
  have K50 : ∀ (P : Pm) (v1 : Int32) (_ : True), f_X7_markOf_J50 P v1 = some (rz, Pz) → WW X G 5 (m1 σ 17 P) lm 50 [(1, .int v1)] [] := by
    intro P v1 _ h
    unfold f_X7_markOf_J50 at h
    refine r_iload_n hX rfl 0 rfl dX7_markOf_50 ?_
    have g0 := Option.some.inj h
    obtain ⟨q0, g1⟩ := Prod.mk.inj g0
    subst q0
    subst g1
    exact r_iret hX hQ dX7_markOf_51
  have K7 : ∀ (P : Pm) (v1 : Int32) (v2 : Int32) (v3 : Int32) (_ : True), f_X7_markOf_H7 P v1 v2 v3 = some (rz, Pz) → WW X G 5 (m1 σ 17 P) lm 7 [(0, .ref (gA G 17 0)), (1, .int v1), (2, .int v2), (3, .int v3)] [] := by
    intro P v1 v2 v3 _ h
    unfold f_X7_markOf_H7 at h
    obtain ⟨e_v1, e_P, hit, hO⟩ := bn2_e h
    refine iter_w (P := fun t : Int32 × Int32 × Int32 × Pm => WW X G 5 (m1 σ 17 t.2.2.2) lm 7 [(0, .ref (gA G 17 0)), (1, .int t.1), (2, .int t.2.1), (3, .int t.2.2.1)] []) (x := (e_v1, e_P)) ?_ 200 (v1, v2, v3, P) hit
    clear hit
    intro t z1 hb hin1 hex1
    obtain ⟨v1, v2, v3, P⟩ := t
    have h : f_X7_markOf_B7 v1 v2 v3 P = some z1 := hb
    clear hb
    have K44 : ∀ (P : Pm) (v1 : Int32) (v2 : Int32) (v3 : Int32) (_ : True), f_X7_markOf_J44 P v1 v2 v3 = some z1 → WW X G 5 (m1 σ 17 P) lm 44 [(0, .ref (gA G 17 0)), (1, .int v1), (2, .int v2), (3, .int v3)] [] := by
      intro P v1 v2 v3 _ h
      unfold f_X7_markOf_J44 at h
      refine r_iinc (v := v3 + (-5)) (L2 := [(3, .int (v3 + (-5))), (0, .ref (gA G 17 0)), (1, .int v1), (2, .int v2)]) hX 3 rfl (congrArg (fun z : Int32 => v3 + z) (by decide : Int32.ofInt (-5) = (-5))) (by decide) rfl dX7_markOf_44 ?_
      refine r_goto hX dX7_markOf_47 ?_
      exact WW.sub [1, 2, 3, 0] rfl (hin1 _ (Option.some.inj h).symm)
    have K39 : ∀ (P : Pm) (v3 : Int32) (v4 : Int32) (_ : True), f_X7_markOf_J39 P v3 v4 = some z1 → WW X G 5 (m1 σ 17 P) lm 39 [(0, .ref (gA G 17 0)), (3, .int v3), (4, .int v4)] [] := by
      intro P v3 v4 _ h
      unfold f_X7_markOf_J39 at h
      refine r_iload_n hX rfl 1 rfl dX7_markOf_39 ?_
      refine r_istore_n (L2 := [(1, .int v3), (0, .ref (gA G 17 0)), (3, .int v3), (4, .int v4)]) hX rfl (by decide) rfl dX7_markOf_40 ?_
      refine r_iload hX 3 rfl dX7_markOf_41 ?_
      refine r_istore_n (L2 := [(2, .int v4), (1, .int v3), (0, .ref (gA G 17 0)), (3, .int v3), (4, .int v4)]) hX rfl (by decide) rfl dX7_markOf_43 ?_
      exact WW.sub [2, 1, 0, 3] rfl (K44 P v3 v4 v3 trivial h)
    unfold f_X7_markOf_B7 at h
    refine r_iload_n hX rfl 3 rfl dX7_markOf_7 ?_
    refine r_if_lt hX dX7_markOf_8 (fun hc => ?_) (fun hc => ?_)
    · replace h := ip_e hc h
      have g0 := hex1 _ (Option.some.inj h).symm
      obtain ⟨q0, g1⟩ := Prod.mk.inj g0
      subst q0
      subst g1
      exact WW.sub [1] rfl (K50 P v1 trivial hO)
    · replace h := in_e hc h
      refine r_aload_n hX rfl 0 rfl dX7_markOf_11 ?_
      obtain ⟨P1, hc1, h⟩ := bn_e h
      refine r_callVv hX hR (c_X7_save (σ := σ) X.2.1 G hc1) rfl rfl mf_X7_save ml_X7_391 in_X7_save se_X7_save rfl rfl ⟨rfl, rfl, Nat.le_of_ble_eq_true rfl, Nat.le_of_ble_eq_true rfl⟩ rfl (st := []) rfl (Nat.le_of_ble_eq_true rfl) dX7_markOf_12 ?_
      refine r_aload_n hX rfl 0 rfl dX7_markOf_15 ?_
      refine r_iload_n hX rfl 3 rfl dX7_markOf_16 ?_
      obtain ⟨P2, hP2, h⟩ := nb_e h
      refine pf_7_30 (o := 17) hX fl_X7_101 rfl m1_g dX7_markOf_17 (m1_w hP2) ?_
      refine r_aload_n hX rfl 0 rfl dX7_markOf_20 ?_
      obtain ⟨x3, P4, hc4, h⟩ := bn2_e h
      refine r_callVi hX hR (c_X7_turnedThen (σ := σ) X.2.1 G hc4) rfl rfl mf_X7_turnedThen ml_X7_397 in_X7_turnedThen se_X7_turnedThen rfl rfl ⟨rfl, rfl, Nat.le_of_ble_eq_true rfl, Nat.le_of_ble_eq_true rfl⟩ rfl (st := []) rfl (Nat.le_of_ble_eq_true rfl) dX7_markOf_21 ?_
      refine r_istore (L2 := [(4, .int x3), (0, .ref (gA G 17 0)), (1, .int v1), (2, .int v2), (3, .int v3)]) hX (by decide) rfl dX7_markOf_24 ?_
      refine r_iload_n hX rfl 3 rfl dX7_markOf_26 ?_
      refine r_if_lt hX dX7_markOf_27 (fun hc => ?_) (fun hc => ?_)
      · replace h := ip_e hc h
        exact WW.sub [1, 4, 0] rfl (K39 P4 v3 x3 trivial h)
      · replace h := in_e hc h
        refine r_iload hX 0 rfl dX7_markOf_30 ?_
        refine r_iload_n hX rfl 3 rfl dX7_markOf_32 ?_
        refine r_icmp_lt hX dX7_markOf_33 (fun hc => ?_) (fun hc => ?_)
        · replace h := ip_e hc h
          exact WW.sub [1, 4, 0] rfl (K39 P4 v3 x3 trivial h)
        · replace h := in_e hc h
          refine r_goto hX dX7_markOf_36 ?_
          exact WW.sub [1, 2, 3, 4] rfl (K44 P4 v1 v2 v3 trivial h)
  unfold f_X7_markOf at h
  refine r_iconst (v := 0) hX (by decide) dX7_markOf_0 ?_
  refine r_istore_n (L2 := [(1, .int 0), (0, .ref (gA G 17 0))]) hX rfl (by decide) rfl dX7_markOf_1 ?_
  refine r_iconst (v := (-1)) hX (by decide) dX7_markOf_2 ?_
  refine r_istore_n (L2 := [(2, .int (-1)), (1, .int 0), (0, .ref (gA G 17 0))]) hX rfl (by decide) rfl dX7_markOf_3 ?_
  refine r_bipush (v := 95) hX (by decide) dX7_markOf_4 ?_
  refine r_istore_n (L2 := [(3, .int 95), (2, .int (-1)), (1, .int 0), (0, .ref (gA G 17 0))]) hX rfl (by decide) rfl dX7_markOf_6 ?_
  exact WW.sub [3, 2, 1, 0] rfl (K7 P 0 (-1) 95 trivial h)
abbrev rm_X7_best : Room := { frames := 10, cells := 0, slots := 0, locals := 277 }
def f_X7_best (P : Pm) (a1 : Int32) : Option (Int32 × Pm) :=
  (if a1 = 0 then bn2 (f_X7_callOf P) (fun x1 P2 => some (x1, P2)) else (if a1 = 1 then bn2 (f_X7_aheadOf P) (fun x3 P4 => some (x3, P4)) else (if a1 = 2 then bn2 (f_X7_markOf P) (fun x5 P6 => some (x5, P6)) else (if a1 = 3 then bn2 (f_X7_turned P) (fun x7 P8 => some (x7, P8)) else some ((-1), P)))))
set_option maxHeartbeats 4000000 in
set_option maxRecDepth 100000 in
theorem c_X7_best (l : Launch) (G : GE) {σ : Mm} {lm : Ml}  {P : Pm} {a1 : Int32} {rz : Int32} {Pz : Pm} (h : f_X7_best P a1 = some (rz, Pz)) : CM l G yX7_best bX7_best 2 (Option.some Jvm.ClassFile.FieldType.int) rm_X7_best [.ref (gA G 17 0), .int a1] (m1 σ 17 P) lm (some (.int rz)) (m1 σ 17 Pz) lm := by
  refine CM.of (own := zR7) (L0 := [(0, .ref (gA G 17 0)), (1, .int a1)]) (by decide +kernel) rfl (Nat.le_of_ble_eq_true rfl) rfl (fun X hl hX hR hQ => ?_)
  unfold f_X7_best at h
  refine r_iload_n hX rfl 1 rfl dX7_best_0 ?_
  by_cases hc0 : a1 = 0
  · replace h := ip_e hc0 h
    refine r_tswI (k := 0) (off := 31) (tgt := 32) hX hc0 (by decide) (by decide) (by decide) dX7_best_1 ?_
    refine r_aload_n hX rfl 0 rfl dX7_best_32 ?_
    obtain ⟨x1, P2, hc2, h⟩ := bn2_e h
    refine r_callVi hX hR (c_X7_callOf (σ := σ) X.2.1 G hc2) rfl rfl mf_X7_callOf ml_X7_403 in_X7_callOf se_X7_callOf rfl rfl ⟨rfl, rfl, Nat.le_of_ble_eq_true rfl, Nat.le_of_ble_eq_true rfl⟩ rfl (st := []) rfl (Nat.le_of_ble_eq_true rfl) dX7_best_33 ?_
    have g0 := Option.some.inj h
    obtain ⟨q0, g1⟩ := Prod.mk.inj g0
    subst q0
    subst g1
    exact r_iret hX hQ dX7_best_36
  · replace h := in_e hc0 h
    by_cases hc1 : a1 = 1
    · replace h := ip_e hc1 h
      refine r_tswI (k := 1) (off := 36) (tgt := 37) hX hc1 (by decide) (by decide) (by decide) dX7_best_1 ?_
      refine r_aload_n hX rfl 0 rfl dX7_best_37 ?_
      obtain ⟨x3, P4, hc4, h⟩ := bn2_e h
      refine r_callVi hX hR (c_X7_aheadOf (σ := σ) X.2.1 G hc4) rfl rfl mf_X7_aheadOf ml_X7_406 in_X7_aheadOf se_X7_aheadOf rfl rfl ⟨rfl, rfl, Nat.le_of_ble_eq_true rfl, Nat.le_of_ble_eq_true rfl⟩ rfl (st := []) rfl (Nat.le_of_ble_eq_true rfl) dX7_best_38 ?_
      have g0 := Option.some.inj h
      obtain ⟨q0, g1⟩ := Prod.mk.inj g0
      subst q0
      subst g1
      exact r_iret hX hQ dX7_best_41
    · replace h := in_e hc1 h
      by_cases hc2 : a1 = 2
      · replace h := ip_e hc2 h
        refine r_tswI (k := 2) (off := 41) (tgt := 42) hX hc2 (by decide) (by decide) (by decide) dX7_best_1 ?_
        refine r_aload_n hX rfl 0 rfl dX7_best_42 ?_
        obtain ⟨x5, P6, hc6, h⟩ := bn2_e h
        refine r_callVi hX hR (c_X7_markOf (σ := σ) X.2.1 G hc6) rfl rfl mf_X7_markOf ml_X7_409 in_X7_markOf se_X7_markOf rfl rfl ⟨rfl, rfl, Nat.le_of_ble_eq_true rfl, Nat.le_of_ble_eq_true rfl⟩ rfl (st := []) rfl (Nat.le_of_ble_eq_true rfl) dX7_best_43 ?_
        have g0 := Option.some.inj h
        obtain ⟨q0, g1⟩ := Prod.mk.inj g0
        subst q0
        subst g1
        exact r_iret hX hQ dX7_best_46
      · replace h := in_e hc2 h
        by_cases hc3 : a1 = 3
        · replace h := ip_e hc3 h
          refine r_tswI (k := 3) (off := 46) (tgt := 47) hX hc3 (by decide) (by decide) (by decide) dX7_best_1 ?_
          refine r_aload_n hX rfl 0 rfl dX7_best_47 ?_
          obtain ⟨x7, P8, hc8, h⟩ := bn2_e h
          refine r_callVi hX hR (c_X7_turned (σ := σ) X.2.1 G hc8) rfl rfl mf_X7_turned ml_X7_400 in_X7_turned se_X7_turned rfl rfl ⟨rfl, rfl, Nat.le_of_ble_eq_true rfl, Nat.le_of_ble_eq_true rfl⟩ rfl (st := []) rfl (Nat.le_of_ble_eq_true rfl) dX7_best_48 ?_
          have g0 := Option.some.inj h
          obtain ⟨q0, g1⟩ := Prod.mk.inj g0
          subst q0
          subst g1
          exact r_iret hX hQ dX7_best_51
        · replace h := in_e hc3 h
          have hD : WW X G 2 (m1 σ 17 P) lm 52 [(0, .ref (gA G 17 0)), (1, .int a1)] [] := by
            refine r_iconst (v := (-1)) hX (by decide) dX7_best_52 ?_
            have g0 := Option.some.inj h
            obtain ⟨q0, g1⟩ := Prod.mk.inj g0
            subst q0
            subst g1
            exact r_iret hX hQ dX7_best_53
          refine r_tswD (tgt := 52) hX ?_ (by decide) dX7_best_1 hD
          have j0 := i32n (n := 0) hc0 rfl
          have j1 := i32n (n := 1) hc1 rfl
          have j2 := i32n (n := 2) hc2 rfl
          have j3 := i32n (n := 3) hc3 rfl
          omega
abbrev rm_X7_seldom : Room := { frames := 8, cells := 0, slots := 0, locals := 232 }
def f_X7_seldom_J67 (P : Pm) (v2 : Int32) : Option (Int32 × Pm) :=
  some (v2, P)
def f_X7_seldom_J61 (P : Pm) (v1 : Int32) (v2 : Int32) (v3 : Int32) (v4 : Int32) : Option ((Int32 × Int32 × Int32 × Pm) ⊕ (Int32 × Pm)) :=
  some (.inl (v2, v3, (v4 + 1), P))
def f_X7_seldom_J55 (P : Pm) (v1 : Int32) (v4 : Int32) (v5 : Int32) : Option ((Int32 × Int32 × Int32 × Pm) ⊕ (Int32 × Pm)) :=
  f_X7_seldom_J61 P v1 v4 v5 v4
def f_X7_seldom_B17 (v1 : Int32) (v2 : Int32) (v3 : Int32) (v4 : Int32) (P : Pm) : Option ((Int32 × Int32 × Int32 × Pm) ⊕ (Int32 × Pm)) :=
  (if 21 ≤ v4 then some (.inr (v2, P)) else Option.bind (f_X7_save P) (fun P1 => (if inb v1 6 = true then nb (up2 P1 7 (ix v1) v4) (fun P3 => bn2 (f_X7_turnedThen P3) (fun x4 P5 => (if v3 < 0 then f_X7_seldom_J55 P5 v1 v4 x4 else (if x4 < v3 then f_X7_seldom_J55 P5 v1 v4 x4 else f_X7_seldom_J61 P5 v1 v2 v3 v4)))) else none)))
def f_X7_seldom_H17 (P : Pm) (v1 : Int32) (v2 : Int32) (v3 : Int32) (v4 : Int32) : Option (Int32 × Pm) :=
  bn2 (iter (fun t => f_X7_seldom_B17 v1 t.1 t.2.1 t.2.2.1 t.2.2.2) 200 (v2, v3, v4, P)) (fun v2 P => f_X7_seldom_J67 P v2)
def f_X7_seldom (P : Pm) (a1 : Int32) : Option (Int32 × Pm) :=
  Option.bind (f_X7_isBorrower P a1) (fun x6 => (if x6 = 0 then some ((-1), P) else f_X7_seldom_H17 P a1 0 (-1) 1))
set_option maxHeartbeats 4000000 in
set_option maxRecDepth 100000 in
theorem c_X7_seldom (l : Launch) (G : GE) {σ : Mm} {lm : Ml}  {P : Pm} {a1 : Int32} {rz : Int32} {Pz : Pm} (h : f_X7_seldom P a1 = some (rz, Pz)) : CM l G yX7_seldom bX7_seldom 6 (Option.some Jvm.ClassFile.FieldType.int) rm_X7_seldom [.ref (gA G 17 0), .int a1] (m1 σ 17 P) lm (some (.int rz)) (m1 σ 17 Pz) lm := by
  refine CM.of (own := zR7) (L0 := [(0, .ref (gA G 17 0)), (1, .int a1)]) (by decide +kernel) rfl (Nat.le_of_ble_eq_true rfl) rfl (fun X hl hX hR hQ => ?_)
  have K67 : ∀ (P : Pm) (v2 : Int32) (_ : True), f_X7_seldom_J67 P v2 = some (rz, Pz) → WW X G 6 (m1 σ 17 P) lm 67 [(2, .int v2)] [] := by
    intro P v2 _ h
    unfold f_X7_seldom_J67 at h
    refine r_iload_n hX rfl 0 rfl dX7_seldom_67 ?_
    have g0 := Option.some.inj h
    obtain ⟨q0, g1⟩ := Prod.mk.inj g0
    subst q0
    subst g1
    exact r_iret hX hQ dX7_seldom_68
  have K17 : ∀ (P : Pm) (v1 : Int32) (v2 : Int32) (v3 : Int32) (v4 : Int32) (_ : True), f_X7_seldom_H17 P v1 v2 v3 v4 = some (rz, Pz) → WW X G 6 (m1 σ 17 P) lm 17 [(0, .ref (gA G 17 0)), (1, .int v1), (2, .int v2), (3, .int v3), (4, .int v4)] [] := by
    intro P v1 v2 v3 v4 _ h
    unfold f_X7_seldom_H17 at h
    obtain ⟨e_v2, e_P, hit, hO⟩ := bn2_e h
    refine iter_w (P := fun t : Int32 × Int32 × Int32 × Pm => WW X G 6 (m1 σ 17 t.2.2.2) lm 17 [(0, .ref (gA G 17 0)), (1, .int v1), (2, .int t.1), (3, .int t.2.1), (4, .int t.2.2.1)] []) (x := (e_v2, e_P)) ?_ 200 (v2, v3, v4, P) hit
    clear hit
    intro t z1 hb hin1 hex1
    obtain ⟨v2, v3, v4, P⟩ := t
    have h : f_X7_seldom_B17 v1 v2 v3 v4 P = some z1 := hb
    clear hb
    have K61 : ∀ (P : Pm) (v2 : Int32) (v3 : Int32) (v4 : Int32) (_ : True), f_X7_seldom_J61 P v1 v2 v3 v4 = some z1 → WW X G 6 (m1 σ 17 P) lm 61 [(0, .ref (gA G 17 0)), (1, .int v1), (2, .int v2), (3, .int v3), (4, .int v4)] [] := by
      intro P v2 v3 v4 _ h
      unfold f_X7_seldom_J61 at h
      refine r_iinc (v := v4 + 1) (L2 := [(4, .int (v4 + 1)), (0, .ref (gA G 17 0)), (1, .int v1), (2, .int v2), (3, .int v3)]) hX 4 rfl rfl (by decide) rfl dX7_seldom_61 ?_
      refine r_goto hX dX7_seldom_64 ?_
      exact WW.sub [1, 2, 3, 4, 0] rfl (hin1 _ (Option.some.inj h).symm)
    have K55 : ∀ (P : Pm) (v4 : Int32) (v5 : Int32) (_ : True), f_X7_seldom_J55 P v1 v4 v5 = some z1 → WW X G 6 (m1 σ 17 P) lm 55 [(0, .ref (gA G 17 0)), (1, .int v1), (4, .int v4), (5, .int v5)] [] := by
      intro P v4 v5 _ h
      unfold f_X7_seldom_J55 at h
      refine r_iload hX 2 rfl dX7_seldom_55 ?_
      refine r_istore_n (L2 := [(2, .int v4), (0, .ref (gA G 17 0)), (1, .int v1), (4, .int v4), (5, .int v5)]) hX rfl (by decide) rfl dX7_seldom_57 ?_
      refine r_iload hX 4 rfl dX7_seldom_58 ?_
      refine r_istore_n (L2 := [(3, .int v5), (2, .int v4), (0, .ref (gA G 17 0)), (1, .int v1), (4, .int v4), (5, .int v5)]) hX rfl (by decide) rfl dX7_seldom_60 ?_
      exact WW.sub [2, 3, 1, 0, 4] rfl (K61 P v4 v5 v4 trivial h)
    unfold f_X7_seldom_B17 at h
    refine r_iload hX 4 rfl dX7_seldom_17 ?_
    refine r_bipush (v := 21) hX (by decide) dX7_seldom_19 ?_
    refine r_icmp_ge hX dX7_seldom_21 (fun hc => ?_) (fun hc => ?_)
    · replace h := ip_e hc h
      have g0 := hex1 _ (Option.some.inj h).symm
      obtain ⟨q0, g1⟩ := Prod.mk.inj g0
      subst q0
      subst g1
      exact WW.sub [2] rfl (K67 P v2 trivial hO)
    · replace h := in_e hc h
      refine r_aload_n hX rfl 0 rfl dX7_seldom_24 ?_
      obtain ⟨P1, hc1, h⟩ := bn_e h
      refine r_callVv hX hR (c_X7_save (σ := σ) X.2.1 G hc1) rfl rfl mf_X7_save ml_X7_391 in_X7_save se_X7_save rfl rfl ⟨rfl, rfl, Nat.le_of_ble_eq_true rfl, Nat.le_of_ble_eq_true rfl⟩ rfl (st := []) rfl (Nat.le_of_ble_eq_true rfl) dX7_seldom_25 ?_
      refine r_aload_n hX rfl 0 rfl dX7_seldom_28 ?_
      refine gf_7_6 (o := 17) hX fl_X7_29 rfl m1_g dX7_seldom_29 ?_
      refine r_iload_n hX rfl 1 rfl dX7_seldom_32 ?_
      refine r_iload hX 4 rfl dX7_seldom_33 ?_
      obtain ⟨hk2, h⟩ := kc_e h
      obtain ⟨P3, hP3, h⟩ := nb_e h
      refine pa_7_7 (o := 17) hX rfl m1_g hk2 (m1_w hP3) dX7_seldom_35 ?_
      refine r_aload_n hX rfl 0 rfl dX7_seldom_36 ?_
      obtain ⟨x4, P5, hc5, h⟩ := bn2_e h
      refine r_callVi hX hR (c_X7_turnedThen (σ := σ) X.2.1 G hc5) rfl rfl mf_X7_turnedThen ml_X7_397 in_X7_turnedThen se_X7_turnedThen rfl rfl ⟨rfl, rfl, Nat.le_of_ble_eq_true rfl, Nat.le_of_ble_eq_true rfl⟩ rfl (st := []) rfl (Nat.le_of_ble_eq_true rfl) dX7_seldom_37 ?_
      refine r_istore (L2 := [(5, .int x4), (0, .ref (gA G 17 0)), (1, .int v1), (2, .int v2), (3, .int v3), (4, .int v4)]) hX (by decide) rfl dX7_seldom_40 ?_
      refine r_iload_n hX rfl 4 rfl dX7_seldom_42 ?_
      refine r_if_lt hX dX7_seldom_43 (fun hc => ?_) (fun hc => ?_)
      · replace h := ip_e hc h
        exact WW.sub [1, 2, 5, 0] rfl (K55 P5 v4 x4 trivial h)
      · replace h := in_e hc h
        refine r_iload hX 0 rfl dX7_seldom_46 ?_
        refine r_iload_n hX rfl 4 rfl dX7_seldom_48 ?_
        refine r_icmp_lt hX dX7_seldom_49 (fun hc => ?_) (fun hc => ?_)
        · replace h := ip_e hc h
          exact WW.sub [1, 2, 5, 0] rfl (K55 P5 v4 x4 trivial h)
        · replace h := in_e hc h
          refine r_goto hX dX7_seldom_52 ?_
          exact WW.sub [1, 2, 3, 4, 5] rfl (K61 P5 v2 v3 v4 trivial h)
  unfold f_X7_seldom at h
  refine r_aload_n hX rfl 0 rfl dX7_seldom_0 ?_
  refine r_iload_n hX rfl 1 rfl dX7_seldom_1 ?_
  obtain ⟨x6, hc6, h⟩ := bn_e h
  refine r_callVi hX hR (c_X7_isBorrower (σ := σ) X.2.1 G hc6) rfl rfl mf_X7_isBorrower ml_X7_274 in_X7_isBorrower se_X7_isBorrower rfl rfl ⟨rfl, rfl, Nat.le_of_ble_eq_true rfl, Nat.le_of_ble_eq_true rfl⟩ rfl (st := []) rfl (Nat.le_of_ble_eq_true rfl) dX7_seldom_2 ?_
  refine r_if_ne hX dX7_seldom_5 (fun hc => ?_) (fun hc => ?_)
  · replace h := in_e hc h
    refine r_iconst (v := 0) hX (by decide) dX7_seldom_10 ?_
    refine r_istore_n (L2 := [(2, .int 0), (0, .ref (gA G 17 0)), (1, .int a1)]) hX rfl (by decide) rfl dX7_seldom_11 ?_
    refine r_iconst (v := (-1)) hX (by decide) dX7_seldom_12 ?_
    refine r_istore_n (L2 := [(3, .int (-1)), (2, .int 0), (0, .ref (gA G 17 0)), (1, .int a1)]) hX rfl (by decide) rfl dX7_seldom_13 ?_
    refine r_iconst (v := 1) hX (by decide) dX7_seldom_14 ?_
    refine r_istore (L2 := [(4, .int 1), (3, .int (-1)), (2, .int 0), (0, .ref (gA G 17 0)), (1, .int a1)]) hX (by decide) rfl dX7_seldom_15 ?_
    exact WW.sub [3, 4, 2, 1, 0] rfl (K17 P a1 0 (-1) 1 trivial h)
  · replace h := ip_e hc h
    refine r_iconst (v := (-1)) hX (by decide) dX7_seldom_8 ?_
    have g0 := Option.some.inj h
    obtain ⟨q0, g1⟩ := Prod.mk.inj g0
    subst q0
    subst g1
    exact r_iret hX hQ dX7_seldom_9
abbrev rm_X7_more : Room := { frames := 7, cells := 0, slots := 0, locals := 211 }
def f_X7_more_J80 (P : Pm) (v2 : Int32) : Option (Int32 × Pm) :=
  some (v2, P)
def f_X7_more_J69 (P : Pm) (v1 : Int32) (v3 : Int32) (w0 : Int32) : Option ((Int32 × Int32 × Pm) ⊕ (Int32 × Pm)) :=
  Option.bind (f_X7_putBack P) (fun P1 => some (.inl (w0, (v3 + 10), P1)))
def f_X7_more_B19 (v1 : Int32) (v2 : Int32) (v3 : Int32) (P : Pm) : Option ((Int32 × Int32 × Pm) ⊕ (Int32 × Pm)) :=
  (if 991 ≤ v3 then some (.inr (v2, P)) else (if 0 ≤ v2 then some (.inr (v2, P)) else Option.bind (f_X7_save P) (fun P2 => Option.bind (f_X7_held P2 ((P2 0 0) + v3) 9999) (fun x3 => nb (up2 P2 0 0 x3) (fun P4 => Option.bind (f_X7_goDays P4 v1) (fun P5 => (if (P5 0 34) = 0 then f_X7_more_J69 P5 v1 v3 v3 else f_X7_more_J69 P5 v1 v3 (-5))))))))
def f_X7_more_H19 (P : Pm) (v1 : Int32) (v2 : Int32) (v3 : Int32) : Option (Int32 × Pm) :=
  bn2 (iter (fun t => f_X7_more_B19 v1 t.1 t.2.1 t.2.2) 200 (v2, v3, P)) (fun v2 P => f_X7_more_J80 P v2)
def f_X7_more (P : Pm) (a1 : Int32) : Option (Int32 × Pm) :=
  Option.bind (f_X7_in P a1 1 12) (fun x6 => (if x6 = 0 then some ((-2), P) else f_X7_more_H19 P a1 (-5) 0))
set_option maxHeartbeats 4000000 in
set_option maxRecDepth 100000 in
theorem c_X7_more (l : Launch) (G : GE) {σ : Mm} {lm : Ml}  {P : Pm} {a1 : Int32} {rz : Int32} {Pz : Pm} (h : f_X7_more P a1 = some (rz, Pz)) : CM l G yX7_more bX7_more 4 (Option.some Jvm.ClassFile.FieldType.int) rm_X7_more [.ref (gA G 17 0), .int a1] (m1 σ 17 P) lm (some (.int rz)) (m1 σ 17 Pz) lm := by
  refine CM.of (own := zR7) (L0 := [(0, .ref (gA G 17 0)), (1, .int a1)]) (by decide +kernel) rfl (Nat.le_of_ble_eq_true rfl) rfl (fun X hl hX hR hQ => ?_)
  have K80 : ∀ (P : Pm) (v2 : Int32) (_ : True), f_X7_more_J80 P v2 = some (rz, Pz) → WW X G 4 (m1 σ 17 P) lm 80 [(2, .int v2)] [] := by
    intro P v2 _ h
    unfold f_X7_more_J80 at h
    refine r_iload_n hX rfl 0 rfl dX7_more_80 ?_
    have g0 := Option.some.inj h
    obtain ⟨q0, g1⟩ := Prod.mk.inj g0
    subst q0
    subst g1
    exact r_iret hX hQ dX7_more_81
  have K19 : ∀ (P : Pm) (v1 : Int32) (v2 : Int32) (v3 : Int32) (_ : True), f_X7_more_H19 P v1 v2 v3 = some (rz, Pz) → WW X G 4 (m1 σ 17 P) lm 19 [(0, .ref (gA G 17 0)), (1, .int v1), (2, .int v2), (3, .int v3)] [] := by
    intro P v1 v2 v3 _ h
    unfold f_X7_more_H19 at h
    obtain ⟨e_v2, e_P, hit, hO⟩ := bn2_e h
    refine iter_w (P := fun t : Int32 × Int32 × Pm => WW X G 4 (m1 σ 17 t.2.2) lm 19 [(0, .ref (gA G 17 0)), (1, .int v1), (2, .int t.1), (3, .int t.2.1)] []) (x := (e_v2, e_P)) ?_ 200 (v2, v3, P) hit
    clear hit
    intro t z1 hb hin1 hex1
    obtain ⟨v2, v3, P⟩ := t
    have h : f_X7_more_B19 v1 v2 v3 P = some z1 := hb
    clear hb
    have K69 : ∀ (P : Pm) (v3 : Int32) (w0 : Int32) (_ : True), f_X7_more_J69 P v1 v3 w0 = some z1 → WW X G 4 (m1 σ 17 P) lm 69 [(0, .ref (gA G 17 0)), (1, .int v1), (3, .int v3)] [.int w0] := by
      intro P v3 w0 _ h
      unfold f_X7_more_J69 at h
      refine r_istore_n (L2 := [(2, .int w0), (0, .ref (gA G 17 0)), (1, .int v1), (3, .int v3)]) hX rfl (by decide) rfl dX7_more_69 ?_
      refine r_aload_n hX rfl 1 rfl dX7_more_70 ?_
      obtain ⟨P1, hc1, h⟩ := bn_e h
      refine r_callVv hX hR (c_X7_putBack (σ := σ) X.2.1 G hc1) rfl rfl mf_X7_putBack ml_X7_394 in_X7_putBack se_X7_putBack rfl rfl ⟨rfl, rfl, Nat.le_of_ble_eq_true rfl, Nat.le_of_ble_eq_true rfl⟩ rfl (st := []) rfl (Nat.le_of_ble_eq_true rfl) dX7_more_71 ?_
      refine r_iinc (v := v3 + 10) (L2 := [(3, .int (v3 + 10)), (2, .int w0), (0, .ref (gA G 17 0)), (1, .int v1)]) hX 3 rfl rfl (by decide) rfl dX7_more_74 ?_
      refine r_goto hX dX7_more_77 ?_
      exact WW.sub [2, 3, 1, 0] rfl (hin1 _ (Option.some.inj h).symm)
    unfold f_X7_more_B19 at h
    refine r_iload_n hX rfl 3 rfl dX7_more_19 ?_
    refine r_sipush (v := 991) hX (by decide) dX7_more_20 ?_
    refine r_icmp_ge hX dX7_more_23 (fun hc => ?_) (fun hc => ?_)
    · replace h := ip_e hc h
      have g0 := hex1 _ (Option.some.inj h).symm
      obtain ⟨q0, g1⟩ := Prod.mk.inj g0
      subst q0
      subst g1
      exact WW.sub [2] rfl (K80 P v2 trivial hO)
    · replace h := in_e hc h
      refine r_iload_n hX rfl 2 rfl dX7_more_26 ?_
      refine r_if_ge hX dX7_more_27 (fun hc => ?_) (fun hc => ?_)
      · replace h := ip_e hc h
        have g0 := hex1 _ (Option.some.inj h).symm
        obtain ⟨q0, g1⟩ := Prod.mk.inj g0
        subst q0
        subst g1
        exact WW.sub [2] rfl (K80 P v2 trivial hO)
      · replace h := in_e hc h
        refine r_aload_n hX rfl 0 rfl dX7_more_30 ?_
        obtain ⟨P2, hc2, h⟩ := bn_e h
        refine r_callVv hX hR (c_X7_save (σ := σ) X.2.1 G hc2) rfl rfl mf_X7_save ml_X7_391 in_X7_save se_X7_save rfl rfl ⟨rfl, rfl, Nat.le_of_ble_eq_true rfl, Nat.le_of_ble_eq_true rfl⟩ rfl (st := []) rfl (Nat.le_of_ble_eq_true rfl) dX7_more_31 ?_
        refine r_aload_n hX rfl 0 rfl dX7_more_34 ?_
        refine r_aload_n hX rfl 0 rfl dX7_more_35 ?_
        refine r_aload_n hX rfl 0 rfl dX7_more_36 ?_
        refine gf_7_0 (o := 17) hX fl_X7_7 rfl m1_g dX7_more_37 ?_
        refine r_iload_n hX rfl 3 rfl dX7_more_40 ?_
        refine r_iadd hX dX7_more_41 ?_
        refine r_sipush (v := 9999) hX (by decide) dX7_more_42 ?_
        obtain ⟨x3, hc3, h⟩ := bn_e h
        refine r_callVi hX hR (c_X7_held (σ := σ) X.2.1 G hc3) rfl rfl mf_X7_held ml_X7_284 in_X7_held se_X7_held rfl rfl ⟨rfl, rfl, Nat.le_of_ble_eq_true rfl, Nat.le_of_ble_eq_true rfl⟩ rfl (st := [.ref (gA G 17 0)]) rfl (Nat.le_of_ble_eq_true rfl) dX7_more_45 ?_
        obtain ⟨P4, hP4, h⟩ := nb_e h
        refine pf_7_0 (o := 17) hX fl_X7_7 rfl m1_g dX7_more_48 (m1_w hP4) ?_
        refine r_aload_n hX rfl 0 rfl dX7_more_51 ?_
        refine r_iload_n hX rfl 1 rfl dX7_more_52 ?_
        obtain ⟨P5, hc5, h⟩ := bn_e h
        refine r_callVv hX hR (c_X7_goDays (σ := σ) X.2.1 G hc5) rfl rfl mf_X7_goDays ml_X7_387 in_X7_goDays se_X7_goDays rfl rfl ⟨rfl, rfl, Nat.le_of_ble_eq_true rfl, Nat.le_of_ble_eq_true rfl⟩ rfl (st := []) rfl (Nat.le_of_ble_eq_true rfl) dX7_more_53 ?_
        refine r_aload_n hX rfl 0 rfl dX7_more_56 ?_
        refine gf_7_34 (o := 17) hX fl_X7_114 rfl m1_g dX7_more_57 ?_
        refine r_if_ne hX dX7_more_60 (fun hc => ?_) (fun hc => ?_)
        · replace h := in_e hc h
          refine r_bipush (v := (-5)) hX (by decide) dX7_more_67 ?_
          exact WW.sub [0, 1, 3] rfl (K69 P5 v3 (-5) trivial h)
        · replace h := ip_e hc h
          refine r_iload_n hX rfl 3 rfl dX7_more_63 ?_
          refine r_goto hX dX7_more_64 ?_
          exact WW.sub [0, 1, 3] rfl (K69 P5 v3 v3 trivial h)
  unfold f_X7_more at h
  refine r_aload_n hX rfl 0 rfl dX7_more_0 ?_
  refine r_iload_n hX rfl 1 rfl dX7_more_1 ?_
  refine r_iconst (v := 1) hX (by decide) dX7_more_2 ?_
  refine r_bipush (v := 12) hX (by decide) dX7_more_3 ?_
  obtain ⟨x6, hc6, h⟩ := bn_e h
  refine r_callVi hX hR (c_X7_in (σ := σ) X.2.1 G hc6) rfl rfl mf_X7_in ml_X7_263 in_X7_in se_X7_in rfl rfl ⟨rfl, rfl, Nat.le_of_ble_eq_true rfl, Nat.le_of_ble_eq_true rfl⟩ rfl (st := []) rfl (Nat.le_of_ble_eq_true rfl) dX7_more_5 ?_
  refine r_if_ne hX dX7_more_8 (fun hc => ?_) (fun hc => ?_)
  · replace h := in_e hc h
    refine r_bipush (v := (-5)) hX (by decide) dX7_more_14 ?_
    refine r_istore_n (L2 := [(2, .int (-5)), (0, .ref (gA G 17 0)), (1, .int a1)]) hX rfl (by decide) rfl dX7_more_16 ?_
    refine r_iconst (v := 0) hX (by decide) dX7_more_17 ?_
    refine r_istore_n (L2 := [(3, .int 0), (2, .int (-5)), (0, .ref (gA G 17 0)), (1, .int a1)]) hX rfl (by decide) rfl dX7_more_18 ?_
    exact WW.sub [2, 3, 1, 0] rfl (K19 P a1 (-5) 0 trivial h)
  · replace h := ip_e hc h
    refine r_bipush (v := (-2)) hX (by decide) dX7_more_11 ?_
    have g0 := Option.some.inj h
    obtain ⟨q0, g1⟩ := Prod.mk.inj g0
    subst q0
    subst g1
    exact r_iret hX hQ dX7_more_13
abbrev rm_X7_see : Room := { frames := 2, cells := 0, slots := 0, locals := 104 }
def f_X7_see (P : Pm) (a1 : Int32) (a2 : Int32) : Option (Int32 × Pm) :=
  (if a1 = (-1) then nb (up2 P 0 44 0) (fun P8 => some (0, P8)) else Option.bind (f_X7_isDepth P a1) (fun x1 => (if x1 = 0 then some ((-2), P) else Option.bind (f_X7_in P a2 0 10) (fun x2 => (if x2 = 0 then some ((-2), P) else (if (P 0 44) = 5 then some ((-4), P) else (if inb (P 0 44) 5 = true then nb (up2 P 46 (ix (P 0 44)) a1) (fun P4 => (if inb (P4 0 44) 5 = true then nb (up2 P4 47 (ix (P4 0 44)) a2) (fun P6 => nb (up2 P6 0 44 ((P6 0 44) + 1)) (fun P7 => some ((P7 0 44), P7))) else none)) else none)))))))
set_option maxHeartbeats 4000000 in
set_option maxRecDepth 100000 in
theorem c_X7_see (l : Launch) (G : GE) {σ : Mm} {lm : Ml}  {P : Pm} {a1 : Int32} {a2 : Int32} {rz : Int32} {Pz : Pm} (h : f_X7_see P a1 a2 = some (rz, Pz)) : CM l G yX7_see bX7_see 3 (Option.some Jvm.ClassFile.FieldType.int) rm_X7_see [.ref (gA G 17 0), .int a1, .int a2] (m1 σ 17 P) lm (some (.int rz)) (m1 σ 17 Pz) lm := by
  refine CM.of (own := zR7) (L0 := [(0, .ref (gA G 17 0)), (1, .int a1), (2, .int a2)]) (by decide +kernel) rfl (Nat.le_of_ble_eq_true rfl) rfl (fun X hl hX hR hQ => ?_)
  unfold f_X7_see at h
  refine r_iload_n hX rfl 1 rfl dX7_see_0 ?_
  refine r_iconst (v := (-1)) hX (by decide) dX7_see_1 ?_
  refine r_icmp_ne hX dX7_see_2 (fun hc => ?_) (fun hc => ?_)
  · replace h := in_e hc h
    refine r_aload_n hX rfl 0 rfl dX7_see_12 ?_
    refine r_iload_n hX rfl 1 rfl dX7_see_13 ?_
    obtain ⟨x1, hc1, h⟩ := bn_e h
    refine r_callVi hX hR (c_X7_isDepth (σ := σ) X.2.1 G hc1) rfl rfl mf_X7_isDepth ml_X7_277 in_X7_isDepth se_X7_isDepth rfl rfl ⟨rfl, rfl, Nat.le_of_ble_eq_true rfl, Nat.le_of_ble_eq_true rfl⟩ rfl (st := []) rfl (Nat.le_of_ble_eq_true rfl) dX7_see_14 ?_
    refine r_if_eq hX dX7_see_17 (fun hc => ?_) (fun hc => ?_)
    · replace h := ip_e hc h
      refine r_bipush (v := (-2)) hX (by decide) dX7_see_31 ?_
      have g0 := Option.some.inj h
      obtain ⟨q0, g1⟩ := Prod.mk.inj g0
      subst q0
      subst g1
      exact r_iret hX hQ dX7_see_33
    · replace h := in_e hc h
      refine r_aload_n hX rfl 0 rfl dX7_see_20 ?_
      refine r_iload_n hX rfl 2 rfl dX7_see_21 ?_
      refine r_iconst (v := 0) hX (by decide) dX7_see_22 ?_
      refine r_bipush (v := 10) hX (by decide) dX7_see_23 ?_
      obtain ⟨x2, hc2, h⟩ := bn_e h
      refine r_callVi hX hR (c_X7_in (σ := σ) X.2.1 G hc2) rfl rfl mf_X7_in ml_X7_263 in_X7_in se_X7_in rfl rfl ⟨rfl, rfl, Nat.le_of_ble_eq_true rfl, Nat.le_of_ble_eq_true rfl⟩ rfl (st := []) rfl (Nat.le_of_ble_eq_true rfl) dX7_see_25 ?_
      refine r_if_ne hX dX7_see_28 (fun hc => ?_) (fun hc => ?_)
      · replace h := in_e hc h
        refine r_aload_n hX rfl 0 rfl dX7_see_34 ?_
        refine gf_7_44 (o := 17) hX fl_X7_144 rfl m1_g dX7_see_35 ?_
        refine r_iconst (v := 5) hX (by decide) dX7_see_38 ?_
        refine r_icmp_ne hX dX7_see_39 (fun hc => ?_) (fun hc => ?_)
        · replace h := in_e hc h
          refine r_aload_n hX rfl 0 rfl dX7_see_45 ?_
          refine gf_7_45 (o := 17) hX fl_X7_147 rfl m1_g dX7_see_46 ?_
          refine r_aload_n hX rfl 0 rfl dX7_see_49 ?_
          refine gf_7_44 (o := 17) hX fl_X7_144 rfl m1_g dX7_see_50 ?_
          refine r_iload_n hX rfl 1 rfl dX7_see_53 ?_
          obtain ⟨hk3, h⟩ := kc_e h
          obtain ⟨P4, hP4, h⟩ := nb_e h
          refine pa_7_46 (o := 17) hX rfl m1_g hk3 (m1_w hP4) dX7_see_54 ?_
          refine r_aload_n hX rfl 0 rfl dX7_see_55 ?_
          refine gf_7_46 (o := 17) hX fl_X7_150 rfl m1_g dX7_see_56 ?_
          refine r_aload_n hX rfl 0 rfl dX7_see_59 ?_
          refine gf_7_44 (o := 17) hX fl_X7_144 rfl m1_g dX7_see_60 ?_
          refine r_iload_n hX rfl 2 rfl dX7_see_63 ?_
          obtain ⟨hk5, h⟩ := kc_e h
          obtain ⟨P6, hP6, h⟩ := nb_e h
          refine pa_7_47 (o := 17) hX rfl m1_g hk5 (m1_w hP6) dX7_see_64 ?_
          refine r_aload_n hX rfl 0 rfl dX7_see_65 ?_
          refine r_dup hX rfl dX7_see_66 ?_
          refine gf_7_44 (o := 17) hX fl_X7_144 rfl m1_g dX7_see_67 ?_
          refine r_iconst (v := 1) hX (by decide) dX7_see_70 ?_
          refine r_iadd hX dX7_see_71 ?_
          obtain ⟨P7, hP7, h⟩ := nb_e h
          refine pf_7_44 (o := 17) hX fl_X7_144 rfl m1_g dX7_see_72 (m1_w hP7) ?_
          refine r_aload_n hX rfl 0 rfl dX7_see_75 ?_
          refine gf_7_44 (o := 17) hX fl_X7_144 rfl m1_g dX7_see_76 ?_
          have g0 := Option.some.inj h
          obtain ⟨q0, g1⟩ := Prod.mk.inj g0
          subst q0
          subst g1
          exact r_iret hX hQ dX7_see_79
        · replace h := ip_e hc h
          refine r_bipush (v := (-4)) hX (by decide) dX7_see_42 ?_
          have g0 := Option.some.inj h
          obtain ⟨q0, g1⟩ := Prod.mk.inj g0
          subst q0
          subst g1
          exact r_iret hX hQ dX7_see_44
      · replace h := ip_e hc h
        refine r_bipush (v := (-2)) hX (by decide) dX7_see_31 ?_
        have g0 := Option.some.inj h
        obtain ⟨q0, g1⟩ := Prod.mk.inj g0
        subst q0
        subst g1
        exact r_iret hX hQ dX7_see_33
  · replace h := ip_e hc h
    refine r_aload_n hX rfl 0 rfl dX7_see_5 ?_
    refine r_iconst (v := 0) hX (by decide) dX7_see_6 ?_
    obtain ⟨P8, hP8, h⟩ := nb_e h
    refine pf_7_44 (o := 17) hX fl_X7_144 rfl m1_g dX7_see_7 (m1_w hP8) ?_
    refine r_iconst (v := 0) hX (by decide) dX7_see_10 ?_
    have g0 := Option.some.inj h
    obtain ⟨q0, g1⟩ := Prod.mk.inj g0
    subst q0
    subst g1
    exact r_iret hX hQ dX7_see_11
abbrev rm_X7_isSeen : Room := { frames := 7, cells := 0, slots := 0, locals := 211 }
def f_X7_isSeen_J59 (P : Pm) (v1 : Int32) : Option (Int32 × Pm) :=
  (if v1 = 0 ∨ v1 = 1 then some (v1, P) else none)
def f_X7_isSeen_J48 (P : Pm) (v2 : Int32) (w0 : Int32) : Option ((Int32 × Int32 × Pm) ⊕ (Int32 × Pm)) :=
  Option.bind (f_X7_putBack P) (fun P2 => some (.inl (w0, (v2 + 1), P2)))
def f_X7_isSeen_B4 (v1 : Int32) (v2 : Int32) (P : Pm) : Option ((Int32 × Int32 × Pm) ⊕ (Int32 × Pm)) :=
  (if (P 0 44) ≤ v2 then some (.inr (v1, P)) else (if v1 = 0 then some (.inr (v1, P)) else Option.bind (f_X7_save P) (fun P3 => (if inb v2 5 = true then Option.bind (f_X7_goDays P3 (P3 47 (ix v2))) (fun P5 => (if inb v2 5 = true then (if (P5 0 0) = (P5 46 (ix v2)) then f_X7_isSeen_J48 P5 v2 1 else f_X7_isSeen_J48 P5 v2 0) else none)) else none))))
def f_X7_isSeen_H4 (P : Pm) (v1 : Int32) (v2 : Int32) : Option (Int32 × Pm) :=
  bn2 (iter (fun t => f_X7_isSeen_B4 t.1 t.2.1 t.2.2) 200 (v1, v2, P)) (fun v1 P => f_X7_isSeen_J59 P v1)
def f_X7_isSeen (P : Pm) : Option (Int32 × Pm) :=
  f_X7_isSeen_H4 P 1 0
set_option maxHeartbeats 4000000 in
set_option maxRecDepth 100000 in
theorem c_X7_isSeen (l : Launch) (G : GE) {σ : Mm} {lm : Ml}  {P : Pm} {rz : Int32} {Pz : Pm} (h : f_X7_isSeen P = some (rz, Pz)) : CM l G yX7_isSeen bX7_isSeen 3 (Option.some Jvm.ClassFile.FieldType.boolean) rm_X7_isSeen [.ref (gA G 17 0)] (m1 σ 17 P) lm (some (.int rz)) (m1 σ 17 Pz) lm := by
  refine CM.of (own := zR7) (L0 := [(0, .ref (gA G 17 0))]) (by decide +kernel) rfl (Nat.le_of_ble_eq_true rfl) rfl (fun X hl hX hR hQ => ?_)
  have K59 : ∀ (P : Pm) (v1 : Int32) (_ : True), f_X7_isSeen_J59 P v1 = some (rz, Pz) → WW X G 3 (m1 σ 17 P) lm 59 [(1, .int v1)] [] := by
    intro P v1 _ h
    unfold f_X7_isSeen_J59 at h
    refine r_iload_n hX rfl 0 rfl dX7_isSeen_59 ?_
    obtain ⟨hk1, h⟩ := kc_e h
    have g0 := Option.some.inj h
    obtain ⟨q0, g1⟩ := Prod.mk.inj g0
    subst q0
    subst g1
    exact r_zret hX hk1 hQ dX7_isSeen_60
  have K4 : ∀ (P : Pm) (v1 : Int32) (v2 : Int32) (_ : True), f_X7_isSeen_H4 P v1 v2 = some (rz, Pz) → WW X G 3 (m1 σ 17 P) lm 4 [(0, .ref (gA G 17 0)), (1, .int v1), (2, .int v2)] [] := by
    intro P v1 v2 _ h
    unfold f_X7_isSeen_H4 at h
    obtain ⟨e_v1, e_P, hit, hO⟩ := bn2_e h
    refine iter_w (P := fun t : Int32 × Int32 × Pm => WW X G 3 (m1 σ 17 t.2.2) lm 4 [(0, .ref (gA G 17 0)), (1, .int t.1), (2, .int t.2.1)] []) (x := (e_v1, e_P)) ?_ 200 (v1, v2, P) hit
    clear hit
    intro t z1 hb hin1 hex1
    obtain ⟨v1, v2, P⟩ := t
    have h : f_X7_isSeen_B4 v1 v2 P = some z1 := hb
    clear hb
    have K48 : ∀ (P : Pm) (v2 : Int32) (w0 : Int32) (_ : True), f_X7_isSeen_J48 P v2 w0 = some z1 → WW X G 3 (m1 σ 17 P) lm 48 [(0, .ref (gA G 17 0)), (2, .int v2)] [.int w0] := by
      intro P v2 w0 _ h
      unfold f_X7_isSeen_J48 at h
      refine r_istore_n (L2 := [(1, .int w0), (0, .ref (gA G 17 0)), (2, .int v2)]) hX rfl (by decide) rfl dX7_isSeen_48 ?_
      refine r_aload_n hX rfl 1 rfl dX7_isSeen_49 ?_
      obtain ⟨P2, hc2, h⟩ := bn_e h
      refine r_callVv hX hR (c_X7_putBack (σ := σ) X.2.1 G hc2) rfl rfl mf_X7_putBack ml_X7_394 in_X7_putBack se_X7_putBack rfl rfl ⟨rfl, rfl, Nat.le_of_ble_eq_true rfl, Nat.le_of_ble_eq_true rfl⟩ rfl (st := []) rfl (Nat.le_of_ble_eq_true rfl) dX7_isSeen_50 ?_
      refine r_iinc (v := v2 + 1) (L2 := [(2, .int (v2 + 1)), (1, .int w0), (0, .ref (gA G 17 0))]) hX 2 rfl rfl (by decide) rfl dX7_isSeen_53 ?_
      refine r_goto hX dX7_isSeen_56 ?_
      exact WW.sub [2, 1, 0] rfl (hin1 _ (Option.some.inj h).symm)
    unfold f_X7_isSeen_B4 at h
    refine r_iload_n hX rfl 2 rfl dX7_isSeen_4 ?_
    refine r_aload_n hX rfl 0 rfl dX7_isSeen_5 ?_
    refine gf_7_44 (o := 17) hX fl_X7_144 rfl m1_g dX7_isSeen_6 ?_
    refine r_icmp_ge hX dX7_isSeen_9 (fun hc => ?_) (fun hc => ?_)
    · replace h := ip_e hc h
      have g0 := hex1 _ (Option.some.inj h).symm
      obtain ⟨q0, g1⟩ := Prod.mk.inj g0
      subst q0
      subst g1
      exact WW.sub [1] rfl (K59 P v1 trivial hO)
    · replace h := in_e hc h
      refine r_iload_n hX rfl 1 rfl dX7_isSeen_12 ?_
      refine r_if_eq hX dX7_isSeen_13 (fun hc => ?_) (fun hc => ?_)
      · replace h := ip_e hc h
        have g0 := hex1 _ (Option.some.inj h).symm
        obtain ⟨q0, g1⟩ := Prod.mk.inj g0
        subst q0
        subst g1
        exact WW.sub [1] rfl (K59 P v1 trivial hO)
      · replace h := in_e hc h
        refine r_aload_n hX rfl 0 rfl dX7_isSeen_16 ?_
        obtain ⟨P3, hc3, h⟩ := bn_e h
        refine r_callVv hX hR (c_X7_save (σ := σ) X.2.1 G hc3) rfl rfl mf_X7_save ml_X7_391 in_X7_save se_X7_save rfl rfl ⟨rfl, rfl, Nat.le_of_ble_eq_true rfl, Nat.le_of_ble_eq_true rfl⟩ rfl (st := []) rfl (Nat.le_of_ble_eq_true rfl) dX7_isSeen_17 ?_
        refine r_aload_n hX rfl 0 rfl dX7_isSeen_20 ?_
        refine r_aload_n hX rfl 0 rfl dX7_isSeen_21 ?_
        refine gf_7_46 (o := 17) hX fl_X7_150 rfl m1_g dX7_isSeen_22 ?_
        refine r_iload_n hX rfl 2 rfl dX7_isSeen_25 ?_
        obtain ⟨hk4, h⟩ := kc_e h
        refine ga_7_47 (o := 17) hX rfl m1_g hk4 dX7_isSeen_26 ?_
        obtain ⟨P5, hc5, h⟩ := bn_e h
        refine r_callVv hX hR (c_X7_goDays (σ := σ) X.2.1 G hc5) rfl rfl mf_X7_goDays ml_X7_387 in_X7_goDays se_X7_goDays rfl rfl ⟨rfl, rfl, Nat.le_of_ble_eq_true rfl, Nat.le_of_ble_eq_true rfl⟩ rfl (st := []) rfl (Nat.le_of_ble_eq_true rfl) dX7_isSeen_27 ?_
        refine r_aload_n hX rfl 0 rfl dX7_isSeen_30 ?_
        refine gf_7_0 (o := 17) hX fl_X7_7 rfl m1_g dX7_isSeen_31 ?_
        refine r_aload_n hX rfl 0 rfl dX7_isSeen_34 ?_
        refine gf_7_45 (o := 17) hX fl_X7_147 rfl m1_g dX7_isSeen_35 ?_
        refine r_iload_n hX rfl 2 rfl dX7_isSeen_38 ?_
        obtain ⟨hk6, h⟩ := kc_e h
        refine ga_7_46 (o := 17) hX rfl m1_g hk6 dX7_isSeen_39 ?_
        refine r_icmp_ne hX dX7_isSeen_40 (fun hc => ?_) (fun hc => ?_)
        · replace h := in_e hc h
          refine r_iconst (v := 0) hX (by decide) dX7_isSeen_47 ?_
          exact WW.sub [0, 2] rfl (K48 P5 v2 0 trivial h)
        · replace h := ip_e hc h
          refine r_iconst (v := 1) hX (by decide) dX7_isSeen_43 ?_
          refine r_goto hX dX7_isSeen_44 ?_
          exact WW.sub [0, 2] rfl (K48 P5 v2 1 trivial h)
  unfold f_X7_isSeen at h
  refine r_iconst (v := 1) hX (by decide) dX7_isSeen_0 ?_
  refine r_istore_n (L2 := [(1, .int 1), (0, .ref (gA G 17 0))]) hX rfl (by decide) rfl dX7_isSeen_1 ?_
  refine r_iconst (v := 0) hX (by decide) dX7_isSeen_2 ?_
  refine r_istore_n (L2 := [(2, .int 0), (1, .int 1), (0, .ref (gA G 17 0))]) hX rfl (by decide) rfl dX7_isSeen_3 ?_
  exact WW.sub [2, 1, 0] rfl (K4 P 1 0 trivial h)
