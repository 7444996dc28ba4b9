/-! the pure functions and the walks; written by wip/whole/gen_walk.py -/
abbrev rm_X7_wanted : Room := { frames := 8, cells := 0, slots := 0, locals := 233 }
def f_X7_wanted_J74 (P : Pm) (v1 : Int32) (v2 : Int32) (v3 : Int32) (v4 : Int32) (v5 : Int32) : Option (Int32 × Pm) :=
  (if inb v1 6 = true then nb (up2 P 6 (ix v1) v3) (fun P2 => (if v2 = 0 then some (v4, P2) else some (v5, P2))) else none)
def f_X7_wanted_J68 (P : Pm) (v1 : Int32) (v2 : Int32) (v3 : Int32) (v4 : Int32) (v5 : Int32) (v6 : Int32) : Option ((Int32 × Int32 × Int32 × Pm) ⊕ (Int32 × Int32 × Pm)) :=
  some (.inl (v4, v5, (v6 + (-1)), P))
def f_X7_wanted_B38 (v1 : Int32) (v2 : Int32) (v3 : Int32) (v4 : Int32) (v5 : Int32) (v6 : Int32) (P : Pm) : Option ((Int32 × Int32 × Int32 × Pm) ⊕ (Int32 × Int32 × Pm)) :=
  (if v6 ≤ 0 then some (.inr (v4, v5, P)) else (if inb v1 6 = true then nb (up2 P 6 (ix v1) v6) (fun P4 => bn2 (f_X7_isSeen P4) (fun x5 P6 => (if x5 = 0 then f_X7_wanted_J68 P6 v1 v2 v3 v4 v5 v6 else f_X7_wanted_J68 P6 v1 v2 v3 (v4 + 1) v6 v6))) else none))
def f_X7_wanted_H38 (P : Pm) (v1 : Int32) (v2 : Int32) (v3 : Int32) (v4 : Int32) (v5 : Int32) (v6 : Int32) : Option (Int32 × Pm) :=
  bn3 (iter (fun t => f_X7_wanted_B38 v1 v2 v3 t.1 t.2.1 t.2.2.1 t.2.2.2) 200 (v4, v5, v6, P)) (fun v4 v5 P => f_X7_wanted_J74 P v1 v2 v3 v4 v5)
def f_X7_wanted (P : Pm) (a1 : Int32) (a2 : Int32) : Option (Int32 × Pm) :=
  Option.bind (f_X7_isBorrower P a1) (fun x7 => (if x7 = 0 then some ((-1), P) else Option.bind (f_X7_in P a2 0 1) (fun x8 => (if x8 = 0 then some ((-1), P) else (if inb a1 6 = true then f_X7_wanted_H38 P a1 a2 (P 6 (ix a1)) 0 (-5) 99 else none)))))
set_option maxHeartbeats 4000000 in
set_option maxRecDepth 100000 in
theorem c_X7_wanted (l : Launch) (G : GE) {σ : Mm} {lm : Ml}  {P : Pm} {a1 : Int32} {a2 : Int32} {rz : Int32} {Pz : Pm} (h : f_X7_wanted P a1 a2 = some (rz, Pz)) : CM l G yX7_wanted bX7_wanted 7 (Option.some Jvm.ClassFile.FieldType.int) rm_X7_wanted [.ref (gA G 17 0), .int a1, .int a2] (m1 σ 17 P) lm (some (.int rz)) (m1 σ 17 Pz) lm := by
  refine CM.of (own := zR7) (L0 := [(0, .ref (gA G 17 0)), (1, .int a1), (2, .int a2)]) (by decide +kernel) rfl (Nat.le_of_ble_eq_true rfl) rfl (fun X hl hX hR hQ => ?_)
  have K74 : ∀ (P : Pm) (v1 : Int32) (v2 : Int32) (v3 : Int32) (v4 : Int32) (v5 : Int32) (_ : True), f_X7_wanted_J74 P v1 v2 v3 v4 v5 = some (rz, Pz) → WW X G 7 (m1 σ 17 P) lm 74 [(0, .ref (gA G 17 0)), (1, .int v1), (2, .int v2), (3, .int v3), (4, .int v4), (5, .int v5)] [] := by
    intro P v1 v2 v3 v4 v5 _ h
    unfold f_X7_wanted_J74 at h
    refine r_aload_n hX rfl 0 rfl dX7_wanted_74 ?_
    refine gf_7_5 (o := 17) hX fl_X7_26 rfl m1_g dX7_wanted_75 ?_
    refine r_iload_n hX rfl 1 rfl dX7_wanted_78 ?_
    refine r_iload_n hX rfl 3 rfl dX7_wanted_79 ?_
    obtain ⟨hk1, h⟩ := kc_e h
    obtain ⟨P2, hP2, h⟩ := nb_e h
    refine pa_7_6 (o := 17) hX rfl m1_g hk1 (m1_w hP2) dX7_wanted_80 ?_
    refine r_iload_n hX rfl 2 rfl dX7_wanted_81 ?_
    refine r_if_ne hX dX7_wanted_82 (fun hc => ?_) (fun hc => ?_)
    · replace h := in_e hc h
      refine r_iload hX 5 rfl dX7_wanted_90 ?_
      have g0 := Option.some.inj h
      obtain ⟨q0, g1⟩ := Prod.mk.inj g0
      subst q0
      subst g1
      exact r_iret hX hQ dX7_wanted_92
    · replace h := ip_e hc h
      refine r_iload hX 4 rfl dX7_wanted_85 ?_
      refine r_goto hX dX7_wanted_87 ?_
      have g0 := Option.some.inj h
      obtain ⟨q0, g1⟩ := Prod.mk.inj g0
      subst q0
      subst g1
      exact r_iret hX hQ dX7_wanted_92
  have K38 : ∀ (P : Pm) (v1 : Int32) (v2 : Int32) (v3 : Int32) (v4 : Int32) (v5 : Int32) (v6 : Int32) (_ : True), f_X7_wanted_H38 P v1 v2 v3 v4 v5 v6 = some (rz, Pz) → WW X G 7 (m1 σ 17 P) lm 38 [(0, .ref (gA G 17 0)), (1, .int v1), (2, .int v2), (3, .int v3), (4, .int v4), (5, .int v5), (6, .int v6)] [] := by
    intro P v1 v2 v3 v4 v5 v6 _ h
    unfold f_X7_wanted_H38 at h
    obtain ⟨e_v4, e_v5, e_P, hit, hO⟩ := bn3_e h
    refine iter_w (P := fun t : Int32 × Int32 × Int32 × Pm => WW X G 7 (m1 σ 17 t.2.2.2) lm 38 [(0, .ref (gA G 17 0)), (1, .int v1), (2, .int v2), (3, .int v3), (4, .int t.1), (5, .int t.2.1), (6, .int t.2.2.1)] []) (x := (e_v4, e_v5, e_P)) ?_ 200 (v4, v5, v6, P) hit
    clear hit
    intro t z1 hb hin1 hex1
    obtain ⟨v4, v5, v6, P⟩ := t
    have h : f_X7_wanted_B38 v1 v2 v3 v4 v5 v6 P = some z1 := hb
    clear hb
    have K68 : ∀ (P : Pm) (v4 : Int32) (v5 : Int32) (v6 : Int32) (_ : True), f_X7_wanted_J68 P v1 v2 v3 v4 v5 v6 = some z1 → WW X G 7 (m1 σ 17 P) lm 68 [(0, .ref (gA G 17 0)), (1, .int v1), (2, .int v2), (3, .int v3), (4, .int v4), (5, .int v5), (6, .int v6)] [] := by
      intro P v4 v5 v6 _ h
      unfold f_X7_wanted_J68 at h
      refine r_iinc (v := v6 + (-1)) (L2 := [(6, .int (v6 + (-1))), (0, .ref (gA G 17 0)), (1, .int v1), (2, .int v2), (3, .int v3), (4, .int v4), (5, .int v5)]) hX 6 rfl (congrArg (fun z : Int32 => v6 + z) (by decide : Int32.ofInt (-1) = (-1))) (by decide) rfl dX7_wanted_68 ?_
      refine r_goto hX dX7_wanted_71 ?_
      exact WW.sub [1, 2, 3, 4, 5, 6, 0] rfl (hin1 _ (Option.some.inj h).symm)
    unfold f_X7_wanted_B38 at h
    refine r_iload hX 6 rfl dX7_wanted_38 ?_
    refine r_if_le hX dX7_wanted_40 (fun hc => ?_) (fun hc => ?_)
    · replace h := ip_e hc h
      have g0 := hex1 _ (Option.some.inj h).symm
      obtain ⟨q0, g1⟩ := Prod.mk.inj g0
      obtain ⟨q1, g2⟩ := Prod.mk.inj g1
      subst q0
      subst q1
      subst g2
      exact WW.sub [0, 1, 2, 3, 4, 5] rfl (K74 P v1 v2 v3 v4 v5 trivial hO)
    · replace h := in_e hc h
      refine r_aload_n hX rfl 0 rfl dX7_wanted_43 ?_
      refine gf_7_5 (o := 17) hX fl_X7_26 rfl m1_g dX7_wanted_44 ?_
      refine r_iload_n hX rfl 1 rfl dX7_wanted_47 ?_
      refine r_iload hX 6 rfl dX7_wanted_48 ?_
      obtain ⟨hk3, h⟩ := kc_e h
      obtain ⟨P4, hP4, h⟩ := nb_e h
      refine pa_7_6 (o := 17) hX rfl m1_g hk3 (m1_w hP4) dX7_wanted_50 ?_
      refine r_aload_n hX rfl 0 rfl dX7_wanted_51 ?_
      obtain ⟨x5, P6, hc6, h⟩ := bn2_e h
      refine r_callVi hX hR (c_X7_isSeen (σ := σ) X.2.1 G hc6) rfl rfl mf_X7_isSeen ml_X7_412 in_X7_isSeen se_X7_isSeen rfl rfl ⟨rfl, rfl, Nat.le_of_ble_eq_true rfl, Nat.le_of_ble_eq_true rfl⟩ rfl (st := []) rfl (Nat.le_of_ble_eq_true rfl) dX7_wanted_52 ?_
      refine r_if_ne hX dX7_wanted_55 (fun hc => ?_) (fun hc => ?_)
      · replace h := in_e hc h
        refine r_iinc (v := v4 + 1) (L2 := [(4, .int (v4 + 1)), (0, .ref (gA G 17 0)), (1, .int v1), (2, .int v2), (3, .int v3), (5, .int v5), (6, .int v6)]) hX 4 rfl rfl (by decide) rfl dX7_wanted_61 ?_
        refine r_iload hX 6 rfl dX7_wanted_64 ?_
        refine r_istore (L2 := [(5, .int v6), (4, .int (v4 + 1)), (0, .ref (gA G 17 0)), (1, .int v1), (2, .int v2), (3, .int v3), (6, .int v6)]) hX (by decide) rfl dX7_wanted_66 ?_
        exact WW.sub [2, 3, 4, 5, 1, 0, 6] rfl (K68 P6 (v4 + 1) v6 v6 trivial h)
      · replace h := ip_e hc h
        refine r_goto hX dX7_wanted_58 ?_
        exact WW.sub [0, 1, 2, 3, 4, 5, 6] rfl (K68 P6 v4 v5 v6 trivial h)
  unfold f_X7_wanted at h
  refine r_aload_n hX rfl 0 rfl dX7_wanted_0 ?_
  refine r_iload_n hX rfl 1 rfl dX7_wanted_1 ?_
  obtain ⟨x7, hc7, h⟩ := bn_e h
  refine r_callVi hX hR (c_X7_isBorrower (σ := σ) X.2.1 G hc7) rfl rfl mf_X7_isBorrower ml_X7_274 in_X7_isBorrower se_X7_isBorrower rfl rfl ⟨rfl, rfl, Nat.le_of_ble_eq_true rfl, Nat.le_of_ble_eq_true rfl⟩ rfl (st := []) rfl (Nat.le_of_ble_eq_true rfl) dX7_wanted_2 ?_
  refine r_if_eq hX dX7_wanted_5 (fun hc => ?_) (fun hc => ?_)
  · replace h := ip_e hc h
    refine r_iconst (v := (-1)) hX (by decide) dX7_wanted_18 ?_
    have g0 := Option.some.inj h
    obtain ⟨q0, g1⟩ := Prod.mk.inj g0
    subst q0
    subst g1
    exact r_iret hX hQ dX7_wanted_19
  · replace h := in_e hc h
    refine r_aload_n hX rfl 0 rfl dX7_wanted_8 ?_
    refine r_iload_n hX rfl 2 rfl dX7_wanted_9 ?_
    refine r_iconst (v := 0) hX (by decide) dX7_wanted_10 ?_
    refine r_iconst (v := 1) hX (by decide) dX7_wanted_11 ?_
    obtain ⟨x8, hc8, h⟩ := bn_e h
    refine r_callVi hX hR (c_X7_in (σ := σ) X.2.1 G hc8) rfl rfl mf_X7_in ml_X7_263 in_X7_in se_X7_in rfl rfl ⟨rfl, rfl, Nat.le_of_ble_eq_true rfl, Nat.le_of_ble_eq_true rfl⟩ rfl (st := []) rfl (Nat.le_of_ble_eq_true rfl) dX7_wanted_12 ?_
    refine r_if_ne hX dX7_wanted_15 (fun hc => ?_) (fun hc => ?_)
    · replace h := in_e hc h
      refine r_aload_n hX rfl 0 rfl dX7_wanted_20 ?_
      refine gf_7_5 (o := 17) hX fl_X7_26 rfl m1_g dX7_wanted_21 ?_
      refine r_iload_n hX rfl 1 rfl dX7_wanted_24 ?_
      obtain ⟨hk9, h⟩ := kc_e h
      refine ga_7_6 (o := 17) hX rfl m1_g hk9 dX7_wanted_25 ?_
      refine r_istore_n (L2 := [(3, .int (P 6 (ix a1))), (0, .ref (gA G 17 0)), (1, .int a1), (2, .int a2)]) hX rfl (by decide) rfl dX7_wanted_26 ?_
      refine r_iconst (v := 0) hX (by decide) dX7_wanted_27 ?_
      refine r_istore (L2 := [(4, .int 0), (3, .int (P 6 (ix a1))), (0, .ref (gA G 17 0)), (1, .int a1), (2, .int a2)]) hX (by decide) rfl dX7_wanted_28 ?_
      refine r_bipush (v := (-5)) hX (by decide) dX7_wanted_30 ?_
      refine r_istore (L2 := [(5, .int (-5)), (4, .int 0), (3, .int (P 6 (ix a1))), (0, .ref (gA G 17 0)), (1, .int a1), (2, .int a2)]) hX (by decide) rfl dX7_wanted_32 ?_
      refine r_bipush (v := 99) hX (by decide) dX7_wanted_34 ?_
      refine r_istore (L2 := [(6, .int 99), (5, .int (-5)), (4, .int 0), (3, .int (P 6 (ix a1))), (0, .ref (gA G 17 0)), (1, .int a1), (2, .int a2)]) hX (by decide) rfl dX7_wanted_36 ?_
      exact WW.sub [4, 5, 6, 3, 2, 1, 0] rfl (K38 P a1 a2 (P 6 (ix a1)) 0 (-5) 99 trivial h)
    · replace h := ip_e hc h
      refine r_iconst (v := (-1)) hX (by decide) dX7_wanted_18 ?_
      have g0 := Option.some.inj h
      obtain ⟨q0, g1⟩ := Prod.mk.inj g0
      subst q0
      subst g1
      exact r_iret hX hQ dX7_wanted_19
abbrev rm_X7_can : Room := { frames := 8, cells := 0, slots := 0, locals := 233 }
def f_X7_can_J74 (P : Pm) (v1 : Int32) (v2 : Int32) (v3 : Int32) (v4 : Int32) (v5 : Int32) : Option (Int32 × Pm) :=
  (if inb v1 6 = true then nb (up2 P 5 (ix v1) v3) (fun P2 => (if v2 = 0 then some (v4, P2) else some (v5, P2))) else none)
def f_X7_can_J68 (P : Pm) (v1 : Int32) (v2 : Int32) (v3 : Int32) (v4 : Int32) (v5 : Int32) (v6 : Int32) : Option ((Int32 × Int32 × Int32 × Pm) ⊕ (Int32 × Int32 × Pm)) :=
  some (.inl (v4, v5, (v6 + (-1)), P))
def f_X7_can_B38 (v1 : Int32) (v2 : Int32) (v3 : Int32) (v4 : Int32) (v5 : Int32) (v6 : Int32) (P : Pm) : Option ((Int32 × Int32 × Int32 × Pm) ⊕ (Int32 × Int32 × Pm)) :=
  (if v6 < 0 then some (.inr (v4, v5, P)) else (if inb v1 6 = true then nb (up2 P 5 (ix v1) v6) (fun P4 => bn2 (f_X7_isSeen P4) (fun x5 P6 => (if x5 = 0 then f_X7_can_J68 P6 v1 v2 v3 v4 v5 v6 else f_X7_can_J68 P6 v1 v2 v3 (v4 + 1) v6 v6))) else none))
def f_X7_can_H38 (P : Pm) (v1 : Int32) (v2 : Int32) (v3 : Int32) (v4 : Int32) (v5 : Int32) (v6 : Int32) : Option (Int32 × Pm) :=
  bn3 (iter (fun t => f_X7_can_B38 v1 v2 v3 t.1 t.2.1 t.2.2.1 t.2.2.2) 200 (v4, v5, v6, P)) (fun v4 v5 P => f_X7_can_J74 P v1 v2 v3 v4 v5)
def f_X7_can (P : Pm) (a1 : Int32) (a2 : Int32) : Option (Int32 × Pm) :=
  Option.bind (f_X7_isBorrower P a1) (fun x7 => (if x7 = 0 then some ((-1), P) else Option.bind (f_X7_in P a2 0 1) (fun x8 => (if x8 = 0 then some ((-1), P) else (if inb a1 6 = true then f_X7_can_H38 P a1 a2 (P 5 (ix a1)) 0 (-5) 9 else none)))))
set_option maxHeartbeats 4000000 in
set_option maxRecDepth 100000 in
theorem c_X7_can (l : Launch) (G : GE) {σ : Mm} {lm : Ml}  {P : Pm} {a1 : Int32} {a2 : Int32} {rz : Int32} {Pz : Pm} (h : f_X7_can P a1 a2 = some (rz, Pz)) : CM l G yX7_can bX7_can 7 (Option.some Jvm.ClassFile.FieldType.int) rm_X7_can [.ref (gA G 17 0), .int a1, .int a2] (m1 σ 17 P) lm (some (.int rz)) (m1 σ 17 Pz) lm := by
  refine CM.of (own := zR7) (L0 := [(0, .ref (gA G 17 0)), (1, .int a1), (2, .int a2)]) (by decide +kernel) rfl (Nat.le_of_ble_eq_true rfl) rfl (fun X hl hX hR hQ => ?_)
  have K74 : ∀ (P : Pm) (v1 : Int32) (v2 : Int32) (v3 : Int32) (v4 : Int32) (v5 : Int32) (_ : True), f_X7_can_J74 P v1 v2 v3 v4 v5 = some (rz, Pz) → WW X G 7 (m1 σ 17 P) lm 74 [(0, .ref (gA G 17 0)), (1, .int v1), (2, .int v2), (3, .int v3), (4, .int v4), (5, .int v5)] [] := by
    intro P v1 v2 v3 v4 v5 _ h
    unfold f_X7_can_J74 at h
    refine r_aload_n hX rfl 0 rfl dX7_can_74 ?_
    refine gf_7_4 (o := 17) hX fl_X7_23 rfl m1_g dX7_can_75 ?_
    refine r_iload_n hX rfl 1 rfl dX7_can_78 ?_
    refine r_iload_n hX rfl 3 rfl dX7_can_79 ?_
    obtain ⟨hk1, h⟩ := kc_e h
    obtain ⟨P2, hP2, h⟩ := nb_e h
    refine pa_7_5 (o := 17) hX rfl m1_g hk1 (m1_w hP2) dX7_can_80 ?_
    refine r_iload_n hX rfl 2 rfl dX7_can_81 ?_
    refine r_if_ne hX dX7_can_82 (fun hc => ?_) (fun hc => ?_)
    · replace h := in_e hc h
      refine r_iload hX 5 rfl dX7_can_90 ?_
      have g0 := Option.some.inj h
      obtain ⟨q0, g1⟩ := Prod.mk.inj g0
      subst q0
      subst g1
      exact r_iret hX hQ dX7_can_92
    · replace h := ip_e hc h
      refine r_iload hX 4 rfl dX7_can_85 ?_
      refine r_goto hX dX7_can_87 ?_
      have g0 := Option.some.inj h
      obtain ⟨q0, g1⟩ := Prod.mk.inj g0
      subst q0
      subst g1
      exact r_iret hX hQ dX7_can_92
  have K38 : ∀ (P : Pm) (v1 : Int32) (v2 : Int32) (v3 : Int32) (v4 : Int32) (v5 : Int32) (v6 : Int32) (_ : True), f_X7_can_H38 P v1 v2 v3 v4 v5 v6 = some (rz, Pz) → WW X G 7 (m1 σ 17 P) lm 38 [(0, .ref (gA G 17 0)), (1, .int v1), (2, .int v2), (3, .int v3), (4, .int v4), (5, .int v5), (6, .int v6)] [] := by
    intro P v1 v2 v3 v4 v5 v6 _ h
    unfold f_X7_can_H38 at h
    obtain ⟨e_v4, e_v5, e_P, hit, hO⟩ := bn3_e h
    refine iter_w (P := fun t : Int32 × Int32 × Int32 × Pm => WW X G 7 (m1 σ 17 t.2.2.2) lm 38 [(0, .ref (gA G 17 0)), (1, .int v1), (2, .int v2), (3, .int v3), (4, .int t.1), (5, .int t.2.1), (6, .int t.2.2.1)] []) (x := (e_v4, e_v5, e_P)) ?_ 200 (v4, v5, v6, P) hit
    clear hit
    intro t z1 hb hin1 hex1
    obtain ⟨v4, v5, v6, P⟩ := t
    have h : f_X7_can_B38 v1 v2 v3 v4 v5 v6 P = some z1 := hb
    clear hb
    have K68 : ∀ (P : Pm) (v4 : Int32) (v5 : Int32) (v6 : Int32) (_ : True), f_X7_can_J68 P v1 v2 v3 v4 v5 v6 = some z1 → WW X G 7 (m1 σ 17 P) lm 68 [(0, .ref (gA G 17 0)), (1, .int v1), (2, .int v2), (3, .int v3), (4, .int v4), (5, .int v5), (6, .int v6)] [] := by
      intro P v4 v5 v6 _ h
      unfold f_X7_can_J68 at h
      refine r_iinc (v := v6 + (-1)) (L2 := [(6, .int (v6 + (-1))), (0, .ref (gA G 17 0)), (1, .int v1), (2, .int v2), (3, .int v3), (4, .int v4), (5, .int v5)]) hX 6 rfl (congrArg (fun z : Int32 => v6 + z) (by decide : Int32.ofInt (-1) = (-1))) (by decide) rfl dX7_can_68 ?_
      refine r_goto hX dX7_can_71 ?_
      exact WW.sub [1, 2, 3, 4, 5, 6, 0] rfl (hin1 _ (Option.some.inj h).symm)
    unfold f_X7_can_B38 at h
    refine r_iload hX 6 rfl dX7_can_38 ?_
    refine r_if_lt hX dX7_can_40 (fun hc => ?_) (fun hc => ?_)
    · replace h := ip_e hc h
      have g0 := hex1 _ (Option.some.inj h).symm
      obtain ⟨q0, g1⟩ := Prod.mk.inj g0
      obtain ⟨q1, g2⟩ := Prod.mk.inj g1
      subst q0
      subst q1
      subst g2
      exact WW.sub [0, 1, 2, 3, 4, 5] rfl (K74 P v1 v2 v3 v4 v5 trivial hO)
    · replace h := in_e hc h
      refine r_aload_n hX rfl 0 rfl dX7_can_43 ?_
      refine gf_7_4 (o := 17) hX fl_X7_23 rfl m1_g dX7_can_44 ?_
      refine r_iload_n hX rfl 1 rfl dX7_can_47 ?_
      refine r_iload hX 6 rfl dX7_can_48 ?_
      obtain ⟨hk3, h⟩ := kc_e h
      obtain ⟨P4, hP4, h⟩ := nb_e h
      refine pa_7_5 (o := 17) hX rfl m1_g hk3 (m1_w hP4) dX7_can_50 ?_
      refine r_aload_n hX rfl 0 rfl dX7_can_51 ?_
      obtain ⟨x5, P6, hc6, h⟩ := bn2_e h
      refine r_callVi hX hR (c_X7_isSeen (σ := σ) X.2.1 G hc6) rfl rfl mf_X7_isSeen ml_X7_412 in_X7_isSeen se_X7_isSeen rfl rfl ⟨rfl, rfl, Nat.le_of_ble_eq_true rfl, Nat.le_of_ble_eq_true rfl⟩ rfl (st := []) rfl (Nat.le_of_ble_eq_true rfl) dX7_can_52 ?_
      refine r_if_ne hX dX7_can_55 (fun hc => ?_) (fun hc => ?_)
      · replace h := in_e hc h
        refine r_iinc (v := v4 + 1) (L2 := [(4, .int (v4 + 1)), (0, .ref (gA G 17 0)), (1, .int v1), (2, .int v2), (3, .int v3), (5, .int v5), (6, .int v6)]) hX 4 rfl rfl (by decide) rfl dX7_can_61 ?_
        refine r_iload hX 6 rfl dX7_can_64 ?_
        refine r_istore (L2 := [(5, .int v6), (4, .int (v4 + 1)), (0, .ref (gA G 17 0)), (1, .int v1), (2, .int v2), (3, .int v3), (6, .int v6)]) hX (by decide) rfl dX7_can_66 ?_
        exact WW.sub [2, 3, 4, 5, 1, 0, 6] rfl (K68 P6 (v4 + 1) v6 v6 trivial h)
      · replace h := ip_e hc h
        refine r_goto hX dX7_can_58 ?_
        exact WW.sub [0, 1, 2, 3, 4, 5, 6] rfl (K68 P6 v4 v5 v6 trivial h)
  unfold f_X7_can at h
  refine r_aload_n hX rfl 0 rfl dX7_can_0 ?_
  refine r_iload_n hX rfl 1 rfl dX7_can_1 ?_
  obtain ⟨x7, hc7, h⟩ := bn_e h
  refine r_callVi hX hR (c_X7_isBorrower (σ := σ) X.2.1 G hc7) rfl rfl mf_X7_isBorrower ml_X7_274 in_X7_isBorrower se_X7_isBorrower rfl rfl ⟨rfl, rfl, Nat.le_of_ble_eq_true rfl, Nat.le_of_ble_eq_true rfl⟩ rfl (st := []) rfl (Nat.le_of_ble_eq_true rfl) dX7_can_2 ?_
  refine r_if_eq hX dX7_can_5 (fun hc => ?_) (fun hc => ?_)
  · replace h := ip_e hc h
    refine r_iconst (v := (-1)) hX (by decide) dX7_can_18 ?_
    have g0 := Option.some.inj h
    obtain ⟨q0, g1⟩ := Prod.mk.inj g0
    subst q0
    subst g1
    exact r_iret hX hQ dX7_can_19
  · replace h := in_e hc h
    refine r_aload_n hX rfl 0 rfl dX7_can_8 ?_
    refine r_iload_n hX rfl 2 rfl dX7_can_9 ?_
    refine r_iconst (v := 0) hX (by decide) dX7_can_10 ?_
    refine r_iconst (v := 1) hX (by decide) dX7_can_11 ?_
    obtain ⟨x8, hc8, h⟩ := bn_e h
    refine r_callVi hX hR (c_X7_in (σ := σ) X.2.1 G hc8) rfl rfl mf_X7_in ml_X7_263 in_X7_in se_X7_in rfl rfl ⟨rfl, rfl, Nat.le_of_ble_eq_true rfl, Nat.le_of_ble_eq_true rfl⟩ rfl (st := []) rfl (Nat.le_of_ble_eq_true rfl) dX7_can_12 ?_
    refine r_if_ne hX dX7_can_15 (fun hc => ?_) (fun hc => ?_)
    · replace h := in_e hc h
      refine r_aload_n hX rfl 0 rfl dX7_can_20 ?_
      refine gf_7_4 (o := 17) hX fl_X7_23 rfl m1_g dX7_can_21 ?_
      refine r_iload_n hX rfl 1 rfl dX7_can_24 ?_
      obtain ⟨hk9, h⟩ := kc_e h
      refine ga_7_5 (o := 17) hX rfl m1_g hk9 dX7_can_25 ?_
      refine r_istore_n (L2 := [(3, .int (P 5 (ix a1))), (0, .ref (gA G 17 0)), (1, .int a1), (2, .int a2)]) hX rfl (by decide) rfl dX7_can_26 ?_
      refine r_iconst (v := 0) hX (by decide) dX7_can_27 ?_
      refine r_istore (L2 := [(4, .int 0), (3, .int (P 5 (ix a1))), (0, .ref (gA G 17 0)), (1, .int a1), (2, .int a2)]) hX (by decide) rfl dX7_can_28 ?_
      refine r_bipush (v := (-5)) hX (by decide) dX7_can_30 ?_
      refine r_istore (L2 := [(5, .int (-5)), (4, .int 0), (3, .int (P 5 (ix a1))), (0, .ref (gA G 17 0)), (1, .int a1), (2, .int a2)]) hX (by decide) rfl dX7_can_32 ?_
      refine r_bipush (v := 9) hX (by decide) dX7_can_34 ?_
      refine r_istore (L2 := [(6, .int 9), (5, .int (-5)), (4, .int 0), (3, .int (P 5 (ix a1))), (0, .ref (gA G 17 0)), (1, .int a1), (2, .int a2)]) hX (by decide) rfl dX7_can_36 ?_
      exact WW.sub [4, 5, 6, 3, 2, 1, 0] rfl (K38 P a1 a2 (P 5 (ix a1)) 0 (-5) 9 trivial h)
    · replace h := ip_e hc h
      refine r_iconst (v := (-1)) hX (by decide) dX7_can_18 ?_
      have g0 := Option.some.inj h
      obtain ⟨q0, g1⟩ := Prod.mk.inj g0
      subst q0
      subst g1
      exact r_iret hX hQ dX7_can_19
abbrev rm_X7_divisor : Room := { frames := 0, cells := 0, slots := 0, locals := 60 }
def f_X7_divisor_J26 (P : Pm) (v3 : Int32) : Option (Int32) :=
  some v3
def f_X7_divisor_B5 (P : Pm) (v3 : Int32) (v4 : Int32) : Option ((Int32 × Int32) ⊕ (Int32)) :=
  (if v4 = 0 then some (.inr v3) else (if v4 = 0 then none else some (.inl (v4, (v3 - v3 / v4 * v4)))))
def f_X7_divisor_H5 (P : Pm) (v3 : Int32) (v4 : Int32) : Option (Int32) :=
  Option.bind (iter (fun t => f_X7_divisor_B5 P t.1 t.2) 200 (v3, v4)) (fun v3 => f_X7_divisor_J26 P v3)
def f_X7_divisor (P : Pm) (a1 : Int32) (a2 : Int32) : Option (Int32) :=
  f_X7_divisor_H5 P a1 a2
set_option maxHeartbeats 4000000 in
set_option maxRecDepth 100000 in
theorem c_X7_divisor (l : Launch) (G : GE) {σ : Mm} {lm : Ml}  {P : Pm} {a1 : Int32} {a2 : Int32} {rz : Int32} (h : f_X7_divisor P a1 a2 = some rz) : CM l G yX7_divisor bX7_divisor 6 (Option.some Jvm.ClassFile.FieldType.int) rm_X7_divisor [.ref (gA G 17 0), .int a1, .int a2] (m1 σ 17 P) lm (some (.int rz)) (m1 σ 17 P) lm := by
  refine CM.of (own := zR7) (L0 := [(0, .ref (gA G 17 0)), (1, .int a1), (2, .int a2)]) (by decide +kernel) rfl (Nat.le_of_ble_eq_true rfl) rfl (fun X hl hX hR hQ => ?_)
  have K26 : ∀ (v3 : Int32) (_ : True), f_X7_divisor_J26 P v3 = some rz → WW X G 6 (m1 σ 17 P) lm 26 [(3, .int v3)] [] := by
    intro v3 _ h
    unfold f_X7_divisor_J26 at h
    refine r_iload_n hX rfl 0 rfl dX7_divisor_26 ?_
    have g0 := Option.some.inj h
    subst g0
    exact r_iret hX hQ dX7_divisor_27
  have K5 : ∀ (v3 : Int32) (v4 : Int32) (_ : True), f_X7_divisor_H5 P v3 v4 = some rz → WW X G 6 (m1 σ 17 P) lm 5 [(3, .int v3), (4, .int v4)] [] := by
    intro v3 v4 _ h
    unfold f_X7_divisor_H5 at h
    obtain ⟨e_v3, hit, hO⟩ := bn_e h
    refine iter_w (P := fun t : Int32 × Int32 => WW X G 6 (m1 σ 17 P) lm 5 [(3, .int t.1), (4, .int t.2)] []) (x := e_v3) ?_ 200 (v3, v4) hit
    clear hit
    intro t z1 hb hin1 hex1
    obtain ⟨v3, v4⟩ := t
    have h : f_X7_divisor_B5 P v3 v4 = some z1 := hb
    clear hb
    unfold f_X7_divisor_B5 at h
    refine r_iload hX 1 rfl dX7_divisor_5 ?_
    refine r_if_eq hX dX7_divisor_7 (fun hc => ?_) (fun hc => ?_)
    · replace h := ip_e hc h
      have g0 := hex1 _ (Option.some.inj h).symm
      subst g0
      exact WW.sub [0] rfl (K26 v3 trivial hO)
    · replace h := in_e hc h
      refine r_iload_n hX rfl 0 rfl dX7_divisor_10 ?_
      refine r_iload hX 1 rfl dX7_divisor_11 ?_
      obtain ⟨hk1, h⟩ := cz_e h
      refine r_irem hX hk1 dX7_divisor_13 ?_
      refine r_istore (L2 := [(5, .int (v3 - v3 / v4 * v4)), (3, .int v3), (4, .int v4)]) hX (by decide) rfl dX7_divisor_14 ?_
      refine r_iload hX 2 rfl dX7_divisor_16 ?_
      refine r_istore_n (L2 := [(3, .int v4), (5, .int (v3 - v3 / v4 * v4)), (4, .int v4)]) hX rfl (by decide) rfl dX7_divisor_18 ?_
      refine r_iload hX 1 rfl dX7_divisor_19 ?_
      refine r_istore (L2 := [(4, .int (v3 - v3 / v4 * v4)), (3, .int v4), (5, .int (v3 - v3 / v4 * v4))]) hX (by decide) rfl dX7_divisor_21 ?_
      refine r_goto hX dX7_divisor_23 ?_
      exact WW.sub [1, 0] rfl (hin1 _ (Option.some.inj h).symm)
  unfold f_X7_divisor at h
  refine r_iload_n hX rfl 1 rfl dX7_divisor_0 ?_
  refine r_istore_n (L2 := [(3, .int a1), (0, .ref (gA G 17 0)), (1, .int a1), (2, .int a2)]) hX rfl (by decide) rfl dX7_divisor_1 ?_
  refine r_iload_n hX rfl 3 rfl dX7_divisor_2 ?_
  refine r_istore (L2 := [(4, .int a2), (3, .int a1), (0, .ref (gA G 17 0)), (1, .int a1), (2, .int a2)]) hX (by decide) rfl dX7_divisor_3 ?_
  exact WW.sub [1, 0] rfl (K5 a1 a2 trivial h)
abbrev rm_X7_lowest_ : Room := { frames := 1, cells := 0, slots := 0, locals := 85 }
def f_X7_lowest_ (P : Pm) (a1 : Int32) (a2 : Int32) (a3 : Int32) : Option (Int64) :=
  Option.bind (f_X7_divisor P a1 a2) (fun x1 => (if a3 = 0 then (if x1 = 0 then none else some ((a1 / x1).toInt64)) else (if x1 = 0 then none else some ((a2 / x1).toInt64))))
set_option maxHeartbeats 4000000 in
set_option maxRecDepth 100000 in
theorem c_X7_lowest_ (l : Launch) (G : GE) {σ : Mm} {lm : Ml}  {P : Pm} {a1 : Int32} {a2 : Int32} {a3 : Int32} {rz : Int64} (h : f_X7_lowest_ P a1 a2 a3 = some rz) : CM l G yX7_lowest_ bX7_lowest_ 5 (Option.some Jvm.ClassFile.FieldType.long) rm_X7_lowest_ [.ref (gA G 17 0), .int a1, .int a2, .int a3] (m1 σ 17 P) lm (some (.long rz)) (m1 σ 17 P) lm := by
  refine CM.of (own := zR7) (L0 := [(0, .ref (gA G 17 0)), (1, .int a1), (2, .int a2), (3, .int a3)]) (by decide +kernel) rfl (Nat.le_of_ble_eq_true rfl) rfl (fun X hl hX hR hQ => ?_)
  unfold f_X7_lowest_ at h
  refine r_aload_n hX rfl 0 rfl dX7_lowest__0 ?_
  refine r_iload_n hX rfl 1 rfl dX7_lowest__1 ?_
  refine r_iload_n hX rfl 2 rfl dX7_lowest__2 ?_
  obtain ⟨x1, hc1, h⟩ := bn_e h
  refine r_callVi hX hR (c_X7_divisor (σ := σ) X.2.1 G hc1) rfl rfl mf_X7_divisor ml_X7_415 in_X7_divisor se_X7_divisor rfl rfl ⟨rfl, rfl, Nat.le_of_ble_eq_true rfl, Nat.le_of_ble_eq_true rfl⟩ rfl (st := []) rfl (Nat.le_of_ble_eq_true rfl) dX7_lowest__3 ?_
  refine r_istore (L2 := [(4, .int x1), (0, .ref (gA G 17 0)), (1, .int a1), (2, .int a2), (3, .int a3)]) hX (by decide) rfl dX7_lowest__6 ?_
  refine r_iload_n hX rfl 4 rfl dX7_lowest__8 ?_
  refine r_if_ne hX dX7_lowest__9 (fun hc => ?_) (fun hc => ?_)
  · replace h := in_e hc h
    refine r_iload_n hX rfl 3 rfl dX7_lowest__20 ?_
    refine r_iload hX 0 rfl dX7_lowest__21 ?_
    obtain ⟨hk2, h⟩ := cz_e h
    refine r_idiv hX hk2 dX7_lowest__23 ?_
    refine r_i2l hX dX7_lowest__24 ?_
    have g0 := Option.some.inj h
    subst g0
    exact r_lret hX hQ dX7_lowest__25
  · replace h := ip_e hc h
    refine r_iload_n hX rfl 2 rfl dX7_lowest__12 ?_
    refine r_iload hX 0 rfl dX7_lowest__13 ?_
    obtain ⟨hk3, h⟩ := cz_e h
    refine r_idiv hX hk3 dX7_lowest__15 ?_
    refine r_i2l hX dX7_lowest__16 ?_
    refine r_goto hX dX7_lowest__17 ?_
    have g0 := Option.some.inj h
    subst g0
    exact r_lret hX hQ dX7_lowest__25
abbrev rm_X7_odds : Room := { frames := 7, cells := 0, slots := 0, locals := 211 }
def f_X7_odds_J83 (P : Pm) (v2 : Int32) (v3 : Int32) : Option (Int64 × Pm) :=
  Option.bind (f_X7_lowest_ P v3 (P 0 1) v2) (fun x1 => some (x1, P))
def f_X7_odds_J71 (P : Pm) (v1 : Int32) (v2 : Int32) (v4 : Int32) (w0 : Int32) (w1 : Int32) : Option ((Int32 × Int32 × Pm) ⊕ (Int32 × Pm)) :=
  Option.bind (f_X7_putBack P) (fun P2 => some (.inl ((w1 + w0), (v4 + 1), P2)))
def f_X7_odds_B34 (v1 : Int32) (v2 : Int32) (v3 : Int32) (v4 : Int32) (P : Pm) : Option ((Int32 × Int32 × Pm) ⊕ (Int32 × Pm)) :=
  (if (P 0 1) ≤ v4 then some (.inr (v3, P)) else Option.bind (f_X7_save P) (fun P3 => nb (up2 P3 0 31 v4) (fun P4 => Option.bind (f_X7_goDays P4 v1) (fun P5 => (if (P5 0 34) = 0 then f_X7_odds_J71 P5 v1 v2 v4 1 v3 else f_X7_odds_J71 P5 v1 v2 v4 0 v3)))))
def f_X7_odds_H34 (P : Pm) (v1 : Int32) (v2 : Int32) (v3 : Int32) (v4 : Int32) : Option (Int64 × Pm) :=
  bn2 (iter (fun t => f_X7_odds_B34 v1 v2 t.1 t.2.1 t.2.2) 200 (v3, v4, P)) (fun v3 P => f_X7_odds_J83 P v2 v3)
def f_X7_odds_J25 (P : Pm) : Option (Int64 × Pm) :=
  some ((-9223372036854775808), P)
def f_X7_odds (P : Pm) (a1 : Int32) (a2 : Int32) : Option (Int64 × Pm) :=
  Option.bind (f_X7_isDays P a1) (fun x6 => (if x6 = 0 then f_X7_odds_J25 P else Option.bind (f_X7_in P a2 0 1) (fun x7 => (if x7 = 0 then f_X7_odds_J25 P else (if (P 0 1) = 0 then f_X7_odds_J25 P else f_X7_odds_H34 P a1 a2 0 0)))))
set_option maxHeartbeats 4000000 in
set_option maxRecDepth 100000 in
theorem c_X7_odds (l : Launch) (G : GE) {σ : Mm} {lm : Ml}  {P : Pm} {a1 : Int32} {a2 : Int32} {rz : Int64} {Pz : Pm} (h : f_X7_odds P a1 a2 = some (rz, Pz)) : CM l G yX7_odds bX7_odds 5 (Option.some Jvm.ClassFile.FieldType.long) rm_X7_odds [.ref (gA G 17 0), .int a1, .int a2] (m1 σ 17 P) lm (some (.long rz)) (m1 σ 17 Pz) lm := by
  refine CM.of (own := zR7) (L0 := [(0, .ref (gA G 17 0)), (1, .int a1), (2, .int a2)]) (by decide +kernel) rfl (Nat.le_of_ble_eq_true rfl) rfl (fun X hl hX hR hQ => ?_)
  have K83 : ∀ (P : Pm) (v2 : Int32) (v3 : Int32) (_ : True), f_X7_odds_J83 P v2 v3 = some (rz, Pz) → WW X G 5 (m1 σ 17 P) lm 83 [(0, .ref (gA G 17 0)), (2, .int v2), (3, .int v3)] [] := by
    intro P v2 v3 _ h
    unfold f_X7_odds_J83 at h
    refine r_aload_n hX rfl 0 rfl dX7_odds_83 ?_
    refine r_iload_n hX rfl 2 rfl dX7_odds_84 ?_
    refine r_aload_n hX rfl 0 rfl dX7_odds_85 ?_
    refine gf_7_1 (o := 17) hX fl_X7_13 rfl m1_g dX7_odds_86 ?_
    refine r_iload_n hX rfl 1 rfl dX7_odds_89 ?_
    obtain ⟨x1, hc1, h⟩ := bn_e h
    refine r_callVi hX hR (c_X7_lowest_ (σ := σ) X.2.1 G hc1) rfl rfl mf_X7_lowest_ ml_X7_420 in_X7_lowest_ se_X7_lowest_ rfl rfl ⟨rfl, rfl, Nat.le_of_ble_eq_true rfl, Nat.le_of_ble_eq_true rfl⟩ rfl (st := []) rfl (Nat.le_of_ble_eq_true rfl) dX7_odds_90 ?_
    have g0 := Option.some.inj h
    obtain ⟨q0, g1⟩ := Prod.mk.inj g0
    subst q0
    subst g1
    exact r_lret hX hQ dX7_odds_93
  have K34 : ∀ (P : Pm) (v1 : Int32) (v2 : Int32) (v3 : Int32) (v4 : Int32) (_ : True), f_X7_odds_H34 P v1 v2 v3 v4 = some (rz, Pz) → WW X G 5 (m1 σ 17 P) lm 34 [(0, .ref (gA G 17 0)), (1, .int v1), (2, .int v2), (3, .int v3), (4, .int v4)] [] := by
    intro P v1 v2 v3 v4 _ h
    unfold f_X7_odds_H34 at h
    obtain ⟨e_v3, e_P, hit, hO⟩ := bn2_e h
    refine iter_w (P := fun t : Int32 × Int32 × Pm => WW X G 5 (m1 σ 17 t.2.2) lm 34 [(0, .ref (gA G 17 0)), (1, .int v1), (2, .int v2), (3, .int t.1), (4, .int t.2.1)] []) (x := (e_v3, e_P)) ?_ 200 (v3, v4, P) hit
    clear hit
    intro t z1 hb hin1 hex1
    obtain ⟨v3, v4, P⟩ := t
    have h : f_X7_odds_B34 v1 v2 v3 v4 P = some z1 := hb
    clear hb
    have K71 : ∀ (P : Pm) (v4 : Int32) (w0 : Int32) (w1 : Int32) (_ : True), f_X7_odds_J71 P v1 v2 v4 w0 w1 = some z1 → WW X G 5 (m1 σ 17 P) lm 71 [(0, .ref (gA G 17 0)), (1, .int v1), (2, .int v2), (4, .int v4)] [.int w0, .int w1] := by
      intro P v4 w0 w1 _ h
      unfold f_X7_odds_J71 at h
      refine r_iadd hX dX7_odds_71 ?_
      refine r_istore_n (L2 := [(3, .int (w1 + w0)), (0, .ref (gA G 17 0)), (1, .int v1), (2, .int v2), (4, .int v4)]) hX rfl (by decide) rfl dX7_odds_72 ?_
      refine r_aload_n hX rfl 1 rfl dX7_odds_73 ?_
      obtain ⟨P2, hc2, h⟩ := bn_e h
      refine r_callVv hX hR (c_X7_putBack (σ := σ) X.2.1 G hc2) rfl rfl mf_X7_putBack ml_X7_394 in_X7_putBack se_X7_putBack rfl rfl ⟨rfl, rfl, Nat.le_of_ble_eq_true rfl, Nat.le_of_ble_eq_true rfl⟩ rfl (st := []) rfl (Nat.le_of_ble_eq_true rfl) dX7_odds_74 ?_
      refine r_iinc (v := v4 + 1) (L2 := [(4, .int (v4 + 1)), (3, .int (w1 + w0)), (0, .ref (gA G 17 0)), (1, .int v1), (2, .int v2)]) hX 4 rfl rfl (by decide) rfl dX7_odds_77 ?_
      refine r_goto hX dX7_odds_80 ?_
      exact WW.sub [2, 3, 4, 1, 0] rfl (hin1 _ (Option.some.inj h).symm)
    unfold f_X7_odds_B34 at h
    refine r_iload hX 4 rfl dX7_odds_34 ?_
    refine r_aload_n hX rfl 0 rfl dX7_odds_36 ?_
    refine gf_7_1 (o := 17) hX fl_X7_13 rfl m1_g dX7_odds_37 ?_
    refine r_icmp_ge hX dX7_odds_40 (fun hc => ?_) (fun hc => ?_)
    · replace h := ip_e hc h
      have g0 := hex1 _ (Option.some.inj h).symm
      obtain ⟨q0, g1⟩ := Prod.mk.inj g0
      subst q0
      subst g1
      exact WW.sub [0, 2, 3] rfl (K83 P v2 v3 trivial hO)
    · replace h := in_e hc h
      refine r_aload_n hX rfl 0 rfl dX7_odds_43 ?_
      obtain ⟨P3, hc3, h⟩ := bn_e h
      refine r_callVv hX hR (c_X7_save (σ := σ) X.2.1 G hc3) rfl rfl mf_X7_save ml_X7_391 in_X7_save se_X7_save rfl rfl ⟨rfl, rfl, Nat.le_of_ble_eq_true rfl, Nat.le_of_ble_eq_true rfl⟩ rfl (st := []) rfl (Nat.le_of_ble_eq_true rfl) dX7_odds_44 ?_
      refine r_aload_n hX rfl 0 rfl dX7_odds_47 ?_
      refine r_iload hX 4 rfl dX7_odds_48 ?_
      obtain ⟨P4, hP4, h⟩ := nb_e h
      refine pf_7_31 (o := 17) hX fl_X7_104 rfl m1_g dX7_odds_50 (m1_w hP4) ?_
      refine r_aload_n hX rfl 0 rfl dX7_odds_53 ?_
      refine r_iload_n hX rfl 1 rfl dX7_odds_54 ?_
      obtain ⟨P5, hc5, h⟩ := bn_e h
      refine r_callVv hX hR (c_X7_goDays (σ := σ) X.2.1 G hc5) rfl rfl mf_X7_goDays ml_X7_387 in_X7_goDays se_X7_goDays rfl rfl ⟨rfl, rfl, Nat.le_of_ble_eq_true rfl, Nat.le_of_ble_eq_true rfl⟩ rfl (st := []) rfl (Nat.le_of_ble_eq_true rfl) dX7_odds_55 ?_
      refine r_iload_n hX rfl 3 rfl dX7_odds_58 ?_
      refine r_aload_n hX rfl 0 rfl dX7_odds_59 ?_
      refine gf_7_34 (o := 17) hX fl_X7_114 rfl m1_g dX7_odds_60 ?_
      refine r_if_ne hX dX7_odds_63 (fun hc => ?_) (fun hc => ?_)
      · replace h := in_e hc h
        refine r_iconst (v := 0) hX (by decide) dX7_odds_70 ?_
        exact WW.sub [0, 1, 2, 4] rfl (K71 P5 v4 0 v3 trivial h)
      · replace h := ip_e hc h
        refine r_iconst (v := 1) hX (by decide) dX7_odds_66 ?_
        refine r_goto hX dX7_odds_67 ?_
        exact WW.sub [0, 1, 2, 4] rfl (K71 P5 v4 1 v3 trivial h)
  have K25 : ∀ (P : Pm) (_ : True), f_X7_odds_J25 P = some (rz, Pz) → WW X G 5 (m1 σ 17 P) lm 25 [] [] := by
    intro P _ h
    unfold f_X7_odds_J25 at h
    refine r_ldc2 hX cl_X7_418 dX7_odds_25 ?_
    have g0 := Option.some.inj h
    obtain ⟨q0, g1⟩ := Prod.mk.inj g0
    subst q0
    subst g1
    exact r_lret hX hQ dX7_odds_28
  unfold f_X7_odds at h
  refine r_aload_n hX rfl 0 rfl dX7_odds_0 ?_
  refine r_iload_n hX rfl 1 rfl dX7_odds_1 ?_
  obtain ⟨x6, hc6, h⟩ := bn_e h
  refine r_callVi hX hR (c_X7_isDays (σ := σ) X.2.1 G hc6) rfl rfl mf_X7_isDays ml_X7_384 in_X7_isDays se_X7_isDays rfl rfl ⟨rfl, rfl, Nat.le_of_ble_eq_true rfl, Nat.le_of_ble_eq_true rfl⟩ rfl (st := []) rfl (Nat.le_of_ble_eq_true rfl) dX7_odds_2 ?_
  refine r_if_eq hX dX7_odds_5 (fun hc => ?_) (fun hc => ?_)
  · replace h := ip_e hc h
    exact WW.sub [] rfl (K25 P trivial h)
  · replace h := in_e hc h
    refine r_aload_n hX rfl 0 rfl dX7_odds_8 ?_
    refine r_iload_n hX rfl 2 rfl dX7_odds_9 ?_
    refine r_iconst (v := 0) hX (by decide) dX7_odds_10 ?_
    refine r_iconst (v := 1) hX (by decide) dX7_odds_11 ?_
    obtain ⟨x7, hc7, h⟩ := bn_e h
    refine r_callVi hX hR (c_X7_in (σ := σ) X.2.1 G hc7) rfl rfl mf_X7_in ml_X7_263 in_X7_in se_X7_in rfl rfl ⟨rfl, rfl, Nat.le_of_ble_eq_true rfl, Nat.le_of_ble_eq_true rfl⟩ rfl (st := []) rfl (Nat.le_of_ble_eq_true rfl) dX7_odds_12 ?_
    refine r_if_eq hX dX7_odds_15 (fun hc => ?_) (fun hc => ?_)
    · replace h := ip_e hc h
      exact WW.sub [] rfl (K25 P trivial h)
    · replace h := in_e hc h
      refine r_aload_n hX rfl 0 rfl dX7_odds_18 ?_
      refine gf_7_1 (o := 17) hX fl_X7_13 rfl m1_g dX7_odds_19 ?_
      refine r_if_ne hX dX7_odds_22 (fun hc => ?_) (fun hc => ?_)
      · replace h := in_e hc h
        refine r_iconst (v := 0) hX (by decide) dX7_odds_29 ?_
        refine r_istore_n (L2 := [(3, .int 0), (0, .ref (gA G 17 0)), (1, .int a1), (2, .int a2)]) hX rfl (by decide) rfl dX7_odds_30 ?_
        refine r_iconst (v := 0) hX (by decide) dX7_odds_31 ?_
        refine r_istore (L2 := [(4, .int 0), (3, .int 0), (0, .ref (gA G 17 0)), (1, .int a1), (2, .int a2)]) hX (by decide) rfl dX7_odds_32 ?_
        exact WW.sub [2, 3, 4, 1, 0] rfl (K34 P a1 a2 0 0 trivial h)
      · replace h := ip_e hc h
        exact WW.sub [] rfl (K25 P trivial h)
abbrev rm_X7_mean : Room := { frames := 7, cells := 0, slots := 0, locals := 211 }
def f_X7_mean_J25 (P : Pm) : Option (Int64 × Pm) :=
  some ((-9223372036854775808), P)
def f_X7_mean (P : Pm) (a1 : Int32) (a2 : Int32) : Option (Int64 × Pm) :=
  Option.bind (f_X7_isDays P a1) (fun x1 => (if x1 = 0 then f_X7_mean_J25 P else Option.bind (f_X7_in P a2 0 1) (fun x2 => (if x2 = 0 then f_X7_mean_J25 P else (if (P 0 1) = 0 then f_X7_mean_J25 P else Option.bind (f_X7_save P) (fun P3 => Option.bind (f_X7_goDays P3 a1) (fun P4 => Option.bind (f_X7_allOwes P4) (fun x5 => Option.bind (f_X7_putBack P4) (fun P6 => Option.bind (f_X7_lowest_ P6 x5 (P6 0 1) a2) (fun x7 => some (x7, P6)))))))))))
set_option maxHeartbeats 4000000 in
set_option maxRecDepth 100000 in
theorem c_X7_mean (l : Launch) (G : GE) {σ : Mm} {lm : Ml}  {P : Pm} {a1 : Int32} {a2 : Int32} {rz : Int64} {Pz : Pm} (h : f_X7_mean P a1 a2 = some (rz, Pz)) : CM l G yX7_mean bX7_mean 4 (Option.some Jvm.ClassFile.FieldType.long) rm_X7_mean [.ref (gA G 17 0), .int a1, .int a2] (m1 σ 17 P) lm (some (.long rz)) (m1 σ 17 Pz) lm := by
  refine CM.of (own := zR7) (L0 := [(0, .ref (gA G 17 0)), (1, .int a1), (2, .int a2)]) (by decide +kernel) rfl (Nat.le_of_ble_eq_true rfl) rfl (fun X hl hX hR hQ => ?_)
  have K25 : ∀ (P : Pm) (_ : True), f_X7_mean_J25 P = some (rz, Pz) → WW X G 4 (m1 σ 17 P) lm 25 [] [] := by
    intro P _ h
    unfold f_X7_mean_J25 at h
    refine r_ldc2 hX cl_X7_418 dX7_mean_25 ?_
    have g0 := Option.some.inj h
    obtain ⟨q0, g1⟩ := Prod.mk.inj g0
    subst q0
    subst g1
    exact r_lret hX hQ dX7_mean_28
  unfold f_X7_mean at h
  refine r_aload_n hX rfl 0 rfl dX7_mean_0 ?_
  refine r_iload_n hX rfl 1 rfl dX7_mean_1 ?_
  obtain ⟨x1, hc1, h⟩ := bn_e h
  refine r_callVi hX hR (c_X7_isDays (σ := σ) X.2.1 G hc1) rfl rfl mf_X7_isDays ml_X7_384 in_X7_isDays se_X7_isDays rfl rfl ⟨rfl, rfl, Nat.le_of_ble_eq_true rfl, Nat.le_of_ble_eq_true rfl⟩ rfl (st := []) rfl (Nat.le_of_ble_eq_true rfl) dX7_mean_2 ?_
  refine r_if_eq hX dX7_mean_5 (fun hc => ?_) (fun hc => ?_)
  · replace h := ip_e hc h
    exact WW.sub [] rfl (K25 P trivial h)
  · replace h := in_e hc h
    refine r_aload_n hX rfl 0 rfl dX7_mean_8 ?_
    refine r_iload_n hX rfl 2 rfl dX7_mean_9 ?_
    refine r_iconst (v := 0) hX (by decide) dX7_mean_10 ?_
    refine r_iconst (v := 1) hX (by decide) dX7_mean_11 ?_
    obtain ⟨x2, hc2, h⟩ := bn_e h
    refine r_callVi hX hR (c_X7_in (σ := σ) X.2.1 G hc2) rfl rfl mf_X7_in ml_X7_263 in_X7_in se_X7_in rfl rfl ⟨rfl, rfl, Nat.le_of_ble_eq_true rfl, Nat.le_of_ble_eq_true rfl⟩ rfl (st := []) rfl (Nat.le_of_ble_eq_true rfl) dX7_mean_12 ?_
    refine r_if_eq hX dX7_mean_15 (fun hc => ?_) (fun hc => ?_)
    · replace h := ip_e hc h
      exact WW.sub [] rfl (K25 P trivial h)
    · replace h := in_e hc h
      refine r_aload_n hX rfl 0 rfl dX7_mean_18 ?_
      refine gf_7_1 (o := 17) hX fl_X7_13 rfl m1_g dX7_mean_19 ?_
      refine r_if_ne hX dX7_mean_22 (fun hc => ?_) (fun hc => ?_)
      · replace h := in_e hc h
        refine r_aload_n hX rfl 0 rfl dX7_mean_29 ?_
        obtain ⟨P3, hc3, h⟩ := bn_e h
        refine r_callVv hX hR (c_X7_save (σ := σ) X.2.1 G hc3) rfl rfl mf_X7_save ml_X7_391 in_X7_save se_X7_save rfl rfl ⟨rfl, rfl, Nat.le_of_ble_eq_true rfl, Nat.le_of_ble_eq_true rfl⟩ rfl (st := []) rfl (Nat.le_of_ble_eq_true rfl) dX7_mean_30 ?_
        refine r_aload_n hX rfl 0 rfl dX7_mean_33 ?_
        refine r_iload_n hX rfl 1 rfl dX7_mean_34 ?_
        obtain ⟨P4, hc4, h⟩ := bn_e h
        refine r_callVv hX hR (c_X7_goDays (σ := σ) X.2.1 G hc4) rfl rfl mf_X7_goDays ml_X7_387 in_X7_goDays se_X7_goDays rfl rfl ⟨rfl, rfl, Nat.le_of_ble_eq_true rfl, Nat.le_of_ble_eq_true rfl⟩ rfl (st := []) rfl (Nat.le_of_ble_eq_true rfl) dX7_mean_35 ?_
        refine r_aload_n hX rfl 0 rfl dX7_mean_38 ?_
        obtain ⟨x5, hc5, h⟩ := bn_e h
        refine r_callVi hX hR (c_X7_allOwes (σ := σ) X.2.1 G hc5) rfl rfl mf_X7_allOwes ml_X7_371 in_X7_allOwes se_X7_allOwes rfl rfl ⟨rfl, rfl, Nat.le_of_ble_eq_true rfl, Nat.le_of_ble_eq_true rfl⟩ rfl (st := []) rfl (Nat.le_of_ble_eq_true rfl) dX7_mean_39 ?_
        refine r_istore_n (L2 := [(3, .int x5), (0, .ref (gA G 17 0)), (1, .int a1), (2, .int a2)]) hX rfl (by decide) rfl dX7_mean_42 ?_
        refine r_aload_n hX rfl 1 rfl dX7_mean_43 ?_
        obtain ⟨P6, hc6, h⟩ := bn_e h
        refine r_callVv hX hR (c_X7_putBack (σ := σ) X.2.1 G hc6) rfl rfl mf_X7_putBack ml_X7_394 in_X7_putBack se_X7_putBack rfl rfl ⟨rfl, rfl, Nat.le_of_ble_eq_true rfl, Nat.le_of_ble_eq_true rfl⟩ rfl (st := []) rfl (Nat.le_of_ble_eq_true rfl) dX7_mean_44 ?_
        refine r_aload_n hX rfl 1 rfl dX7_mean_47 ?_
        refine r_iload_n hX rfl 0 rfl dX7_mean_48 ?_
        refine r_aload_n hX rfl 1 rfl dX7_mean_49 ?_
        refine gf_7_1 (o := 17) hX fl_X7_13 rfl m1_g dX7_mean_50 ?_
        refine r_iload_n hX rfl 3 rfl dX7_mean_53 ?_
        obtain ⟨x7, hc7, h⟩ := bn_e h
        refine r_callVi hX hR (c_X7_lowest_ (σ := σ) X.2.1 G hc7) rfl rfl mf_X7_lowest_ ml_X7_420 in_X7_lowest_ se_X7_lowest_ rfl rfl ⟨rfl, rfl, Nat.le_of_ble_eq_true rfl, Nat.le_of_ble_eq_true rfl⟩ rfl (st := []) rfl (Nat.le_of_ble_eq_true rfl) dX7_mean_54 ?_
        have g0 := Option.some.inj h
        obtain ⟨q0, g1⟩ := Prod.mk.inj g0
        subst q0
        subst g1
        exact r_lret hX hQ dX7_mean_57
      · replace h := ip_e hc h
        exact WW.sub [] rfl (K25 P trivial h)
abbrev rm_X7_year : Room := { frames := 2, cells := 0, slots := 0, locals := 104 }
def f_X7_year_J77 (P : Pm) (w0 : Int32) (w1 : Int32) : Option (Int32 × Pm) :=
  (if inb w1 10 = true then nb (up2 P 51 (ix w1) w0) (fun P2 => nb (up2 P2 0 47 ((P2 0 47) + 1)) (fun P3 => some ((P3 0 47), P3))) else none)
def f_X7_year_J37 (P : Pm) (v1 : Int32) (v2 : Int32) : Option (Int32 × Pm) :=
  (if (P 0 47) = 10 then some ((-4), P) else (if inb (P 0 47) 10 = true then nb (up2 P 50 (ix (P 0 47)) v1) (fun P5 => (if v1 = 1 then f_X7_year_J77 P5 v2 (P5 0 47) else f_X7_year_J77 P5 0 (P5 0 47))) else none))
def f_X7_year (P : Pm) (a1 : Int32) (a2 : Int32) : Option (Int32 × Pm) :=
  (if a1 = (-1) then nb (up2 P 0 47 0) (fun P8 => some (0, P8)) else Option.bind (f_X7_in P a1 0 2) (fun x6 => (if x6 = 0 then some ((-1), P) else (if a1 = 1 then Option.bind (f_X7_isBorrower P a2) (fun x7 => (if x7 = 0 then some ((-1), P) else f_X7_year_J37 P a1 a2)) else f_X7_year_J37 P a1 a2))))
set_option maxHeartbeats 4000000 in
set_option maxRecDepth 100000 in
theorem c_X7_year (l : Launch) (G : GE) {σ : Mm} {lm : Ml}  {P : Pm} {a1 : Int32} {a2 : Int32} {rz : Int32} {Pz : Pm} (h : f_X7_year P a1 a2 = some (rz, Pz)) : CM l G yX7_year bX7_year 3 (Option.some Jvm.ClassFile.FieldType.int) rm_X7_year [.ref (gA G 17 0), .int a1, .int a2] (m1 σ 17 P) lm (some (.int rz)) (m1 σ 17 Pz) lm := by
  refine CM.of (own := zR7) (L0 := [(0, .ref (gA G 17 0)), (1, .int a1), (2, .int a2)]) (by decide +kernel) rfl (Nat.le_of_ble_eq_true rfl) rfl (fun X hl hX hR hQ => ?_)
  have K77 : ∀ (P : Pm) (w0 : Int32) (w1 : Int32) (_ : True), f_X7_year_J77 P w0 w1 = some (rz, Pz) → WW X G 3 (m1 σ 17 P) lm 77 [(0, .ref (gA G 17 0))] [.int w0, .int w1, .ref (gA G 17 51)] := by
    intro P w0 w1 _ h
    unfold f_X7_year_J77 at h
    obtain ⟨hk1, h⟩ := kc_e h
    obtain ⟨P2, hP2, h⟩ := nb_e h
    refine pa_7_51 (o := 17) hX rfl m1_g hk1 (m1_w hP2) dX7_year_77 ?_
    refine r_aload_n hX rfl 0 rfl dX7_year_78 ?_
    refine r_dup hX rfl dX7_year_79 ?_
    refine gf_7_47 (o := 17) hX fl_X7_153 rfl m1_g dX7_year_80 ?_
    refine r_iconst (v := 1) hX (by decide) dX7_year_83 ?_
    refine r_iadd hX dX7_year_84 ?_
    obtain ⟨P3, hP3, h⟩ := nb_e h
    refine pf_7_47 (o := 17) hX fl_X7_153 rfl m1_g dX7_year_85 (m1_w hP3) ?_
    refine r_aload_n hX rfl 0 rfl dX7_year_88 ?_
    refine gf_7_47 (o := 17) hX fl_X7_153 rfl m1_g dX7_year_89 ?_
    have g0 := Option.some.inj h
    obtain ⟨q0, g1⟩ := Prod.mk.inj g0
    subst q0
    subst g1
    exact r_iret hX hQ dX7_year_92
  have K37 : ∀ (P : Pm) (v1 : Int32) (v2 : Int32) (_ : True), f_X7_year_J37 P v1 v2 = some (rz, Pz) → WW X G 3 (m1 σ 17 P) lm 37 [(0, .ref (gA G 17 0)), (1, .int v1), (2, .int v2)] [] := by
    intro P v1 v2 _ h
    unfold f_X7_year_J37 at h
    refine r_aload_n hX rfl 0 rfl dX7_year_37 ?_
    refine gf_7_47 (o := 17) hX fl_X7_153 rfl m1_g dX7_year_38 ?_
    refine r_bipush (v := 10) hX (by decide) dX7_year_41 ?_
    refine r_icmp_ne hX dX7_year_43 (fun hc => ?_) (fun hc => ?_)
    · replace h := in_e hc h
      refine r_aload_n hX rfl 0 rfl dX7_year_49 ?_
      refine gf_7_49 (o := 17) hX fl_X7_159 rfl m1_g dX7_year_50 ?_
      refine r_aload_n hX rfl 0 rfl dX7_year_53 ?_
      refine gf_7_47 (o := 17) hX fl_X7_153 rfl m1_g dX7_year_54 ?_
      refine r_iload_n hX rfl 1 rfl dX7_year_57 ?_
      obtain ⟨hk4, h⟩ := kc_e h
      obtain ⟨P5, hP5, h⟩ := nb_e h
      refine pa_7_50 (o := 17) hX rfl m1_g hk4 (m1_w hP5) dX7_year_58 ?_
      refine r_aload_n hX rfl 0 rfl dX7_year_59 ?_
      refine gf_7_50 (o := 17) hX fl_X7_162 rfl m1_g dX7_year_60 ?_
      refine r_aload_n hX rfl 0 rfl dX7_year_63 ?_
      refine gf_7_47 (o := 17) hX fl_X7_153 rfl m1_g dX7_year_64 ?_
      refine r_iload_n hX rfl 1 rfl dX7_year_67 ?_
      refine r_iconst (v := 1) hX (by decide) dX7_year_68 ?_
      refine r_icmp_ne hX dX7_year_69 (fun hc => ?_) (fun hc => ?_)
      · replace h := in_e hc h
        refine r_iconst (v := 0) hX (by decide) dX7_year_76 ?_
        exact WW.sub [0] rfl (K77 P5 0 (P5 0 47) trivial h)
      · replace h := ip_e hc h
        refine r_iload_n hX rfl 2 rfl dX7_year_72 ?_
        refine r_goto hX dX7_year_73 ?_
        exact WW.sub [0] rfl (K77 P5 v2 (P5 0 47) trivial h)
    · replace h := ip_e hc h
      refine r_bipush (v := (-4)) hX (by decide) dX7_year_46 ?_
      have g0 := Option.some.inj h
      obtain ⟨q0, g1⟩ := Prod.mk.inj g0
      subst q0
      subst g1
      exact r_iret hX hQ dX7_year_48
  unfold f_X7_year at h
  refine r_iload_n hX rfl 1 rfl dX7_year_0 ?_
  refine r_iconst (v := (-1)) hX (by decide) dX7_year_1 ?_
  refine r_icmp_ne hX dX7_year_2 (fun hc => ?_) (fun hc => ?_)
  · replace h := in_e hc h
    refine r_aload_n hX rfl 0 rfl dX7_year_12 ?_
    refine r_iload_n hX rfl 1 rfl dX7_year_13 ?_
    refine r_iconst (v := 0) hX (by decide) dX7_year_14 ?_
    refine r_iconst (v := 2) hX (by decide) dX7_year_15 ?_
    obtain ⟨x6, hc6, h⟩ := bn_e h
    refine r_callVi hX hR (c_X7_in (σ := σ) X.2.1 G hc6) rfl rfl mf_X7_in ml_X7_263 in_X7_in se_X7_in rfl rfl ⟨rfl, rfl, Nat.le_of_ble_eq_true rfl, Nat.le_of_ble_eq_true rfl⟩ rfl (st := []) rfl (Nat.le_of_ble_eq_true rfl) dX7_year_16 ?_
    refine r_if_eq hX dX7_year_19 (fun hc => ?_) (fun hc => ?_)
    · replace h := ip_e hc h
      refine r_iconst (v := (-1)) hX (by decide) dX7_year_35 ?_
      have g0 := Option.some.inj h
      obtain ⟨q0, g1⟩ := Prod.mk.inj g0
      subst q0
      subst g1
      exact r_iret hX hQ dX7_year_36
    · replace h := in_e hc h
      refine r_iload_n hX rfl 1 rfl dX7_year_22 ?_
      refine r_iconst (v := 1) hX (by decide) dX7_year_23 ?_
      refine r_icmp_ne hX dX7_year_24 (fun hc => ?_) (fun hc => ?_)
      · replace h := in_e hc h
        exact WW.sub [0, 1, 2] rfl (K37 P a1 a2 trivial h)
      · replace h := ip_e hc h
        refine r_aload_n hX rfl 0 rfl dX7_year_27 ?_
        refine r_iload_n hX rfl 2 rfl dX7_year_28 ?_
        obtain ⟨x7, hc7, h⟩ := bn_e h
        refine r_callVi hX hR (c_X7_isBorrower (σ := σ) X.2.1 G hc7) rfl rfl mf_X7_isBorrower ml_X7_274 in_X7_isBorrower se_X7_isBorrower rfl rfl ⟨rfl, rfl, Nat.le_of_ble_eq_true rfl, Nat.le_of_ble_eq_true rfl⟩ rfl (st := []) rfl (Nat.le_of_ble_eq_true rfl) dX7_year_29 ?_
        refine r_if_ne hX dX7_year_32 (fun hc => ?_) (fun hc => ?_)
        · replace h := in_e hc h
          exact WW.sub [0, 1, 2] rfl (K37 P a1 a2 trivial h)
        · replace h := ip_e hc h
          refine r_iconst (v := (-1)) hX (by decide) dX7_year_35 ?_
          have g0 := Option.some.inj h
          obtain ⟨q0, g1⟩ := Prod.mk.inj g0
          subst q0
          subst g1
          exact r_iret hX hQ dX7_year_36
  · replace h := ip_e hc h
    refine r_aload_n hX rfl 0 rfl dX7_year_5 ?_
    refine r_iconst (v := 0) hX (by decide) dX7_year_6 ?_
    obtain ⟨P8, hP8, h⟩ := nb_e h
    refine pf_7_47 (o := 17) hX fl_X7_153 rfl m1_g dX7_year_7 (m1_w hP8) ?_
    refine r_iconst (v := 0) hX (by decide) dX7_year_10 ?_
    have g0 := Option.some.inj h
    obtain ⟨q0, g1⟩ := Prod.mk.inj g0
    subst q0
    subst g1
    exact r_iret hX hQ dX7_year_11
abbrev rm_X7_gone : Room := { frames := 6, cells := 0, slots := 0, locals := 189 }
def f_X7_gone_J108 (P : Pm) (w0 : Int32) : Option (Int32 × Pm) :=
  Option.bind (f_X7_putBack P) (fun P1 => some (w0, P1))
def f_X7_gone_J93 (P : Pm) (v1 : Int32) : Option (Int32 × Pm) :=
  (if v1 = 0 then f_X7_gone_J108 P (P 0 0) else f_X7_gone_J108 P (P 0 34))
def f_X7_gone_J87 (P : Pm) (v1 : Int32) (v2 : Int32) : Option ((Int32 × Pm) ⊕ (Pm)) :=
  some (.inl ((v2 + 1), P))
def f_X7_gone_J59 (P : Pm) (v1 : Int32) (v2 : Int32) : Option ((Int32 × Pm) ⊕ (Pm)) :=
  (if inb v2 10 = true then (if (P 50 (ix v2)) = 2 then Option.bind (f_X7_held P ((P 0 0) + 10) 9999) (fun x3 => nb (up2 P 0 0 x3) (fun P4 => f_X7_gone_J87 P4 v1 v2)) else f_X7_gone_J87 P v1 v2) else none)
def f_X7_gone_J39 (P : Pm) (v1 : Int32) (v2 : Int32) : Option ((Int32 × Pm) ⊕ (Pm)) :=
  (if inb v2 10 = true then (if (P 50 (ix v2)) = 1 then (if inb v2 10 = true then Option.bind (f_X7_calls P (P 51 (ix v2))) (fun P7 => f_X7_gone_J59 P7 v1 v2) else none) else f_X7_gone_J59 P v1 v2) else none)
def f_X7_gone_B18 (v1 : Int32) (v2 : Int32) (P : Pm) : Option ((Int32 × Pm) ⊕ (Pm)) :=
  (if (P 0 47) ≤ v2 then some (.inr P) else (if inb v2 10 = true then (if (P 50 (ix v2)) = 0 then Option.bind (f_X7_goDay P) (fun P9 => f_X7_gone_J39 P9 v1 v2) else f_X7_gone_J39 P v1 v2) else none))
def f_X7_gone_H18 (P : Pm) (v1 : Int32) (v2 : Int32) : Option (Int32 × Pm) :=
  Option.bind (iter (fun t => f_X7_gone_B18 v1 t.1 t.2) 200 (v2, P)) (fun P => f_X7_gone_J93 P v1)
def f_X7_gone (P : Pm) (a1 : Int32) : Option (Int32 × Pm) :=
  Option.bind (f_X7_in P a1 0 1) (fun x10 => (if x10 = 0 then some ((-1), P) else Option.bind (f_X7_save P) (fun P11 => f_X7_gone_H18 P11 a1 0)))
set_option maxHeartbeats 4000000 in
set_option maxRecDepth 100000 in
theorem c_X7_gone (l : Launch) (G : GE) {σ : Mm} {lm : Ml}  {P : Pm} {a1 : Int32} {rz : Int32} {Pz : Pm} (h : f_X7_gone P a1 = some (rz, Pz)) : CM l G yX7_gone bX7_gone 3 (Option.some Jvm.ClassFile.FieldType.int) rm_X7_gone [.ref (gA G 17 0), .int a1] (m1 σ 17 P) lm (some (.int rz)) (m1 σ 17 Pz) lm := by
  refine CM.of (own := zR7) (L0 := [(0, .ref (gA G 17 0)), (1, .int a1)]) (by decide +kernel) rfl (Nat.le_of_ble_eq_true rfl) rfl (fun X hl hX hR hQ => ?_)
  have K108 : ∀ (P : Pm) (w0 : Int32) (_ : True), f_X7_gone_J108 P w0 = some (rz, Pz) → WW X G 3 (m1 σ 17 P) lm 108 [(0, .ref (gA G 17 0))] [.int w0] := by
    intro P w0 _ h
    unfold f_X7_gone_J108 at h
    refine r_istore_n (L2 := [(2, .int w0), (0, .ref (gA G 17 0))]) hX rfl (by decide) rfl dX7_gone_108 ?_
    refine r_aload_n hX rfl 1 rfl dX7_gone_109 ?_
    obtain ⟨P1, hc1, h⟩ := bn_e h
    refine r_callVv hX hR (c_X7_putBack (σ := σ) X.2.1 G hc1) rfl rfl mf_X7_putBack ml_X7_394 in_X7_putBack se_X7_putBack rfl rfl ⟨rfl, rfl, Nat.le_of_ble_eq_true rfl, Nat.le_of_ble_eq_true rfl⟩ rfl (st := []) rfl (Nat.le_of_ble_eq_true rfl) dX7_gone_110 ?_
    refine r_iload_n hX rfl 0 rfl dX7_gone_113 ?_
    have g0 := Option.some.inj h
    obtain ⟨q0, g1⟩ := Prod.mk.inj g0
    subst q0
    subst g1
    exact r_iret hX hQ dX7_gone_114
  have K93 : ∀ (P : Pm) (v1 : Int32) (_ : True), f_X7_gone_J93 P v1 = some (rz, Pz) → WW X G 3 (m1 σ 17 P) lm 93 [(0, .ref (gA G 17 0)), (1, .int v1)] [] := by
    intro P v1 _ h
    unfold f_X7_gone_J93 at h
    refine r_iload_n hX rfl 1 rfl dX7_gone_93 ?_
    refine r_if_ne hX dX7_gone_94 (fun hc => ?_) (fun hc => ?_)
    · replace h := in_e hc h
      refine r_aload_n hX rfl 0 rfl dX7_gone_104 ?_
      refine gf_7_34 (o := 17) hX fl_X7_114 rfl m1_g dX7_gone_105 ?_
      exact WW.sub [0] rfl (K108 P (P 0 34) trivial h)
    · replace h := ip_e hc h
      refine r_aload_n hX rfl 0 rfl dX7_gone_97 ?_
      refine gf_7_0 (o := 17) hX fl_X7_7 rfl m1_g dX7_gone_98 ?_
      refine r_goto hX dX7_gone_101 ?_
      exact WW.sub [0] rfl (K108 P (P 0 0) trivial h)
  have K18 : ∀ (P : Pm) (v1 : Int32) (v2 : Int32) (_ : True), f_X7_gone_H18 P v1 v2 = some (rz, Pz) → WW X G 3 (m1 σ 17 P) lm 18 [(0, .ref (gA G 17 0)), (1, .int v1), (2, .int v2)] [] := by
    intro P v1 v2 _ h
    unfold f_X7_gone_H18 at h
    obtain ⟨e_P, hit, hO⟩ := bn_e h
    refine iter_w (P := fun t : Int32 × Pm => WW X G 3 (m1 σ 17 t.2) lm 18 [(0, .ref (gA G 17 0)), (1, .int v1), (2, .int t.1)] []) (x := e_P) ?_ 200 (v2, P) hit
    clear hit
    intro t z1 hb hin1 hex1
    obtain ⟨v2, P⟩ := t
    have h : f_X7_gone_B18 v1 v2 P = some z1 := hb
    clear hb
    have K87 : ∀ (P : Pm) (v2 : Int32) (_ : True), f_X7_gone_J87 P v1 v2 = some z1 → WW X G 3 (m1 σ 17 P) lm 87 [(0, .ref (gA G 17 0)), (1, .int v1), (2, .int v2)] [] := by
      intro P v2 _ h
      unfold f_X7_gone_J87 at h
      refine r_iinc (v := v2 + 1) (L2 := [(2, .int (v2 + 1)), (0, .ref (gA G 17 0)), (1, .int v1)]) hX 2 rfl rfl (by decide) rfl dX7_gone_87 ?_
      refine r_goto hX dX7_gone_90 ?_
      exact WW.sub [1, 2, 0] rfl (hin1 _ (Option.some.inj h).symm)
    have K59 : ∀ (P : Pm) (v2 : Int32) (_ : True), f_X7_gone_J59 P v1 v2 = some z1 → WW X G 3 (m1 σ 17 P) lm 59 [(0, .ref (gA G 17 0)), (1, .int v1), (2, .int v2)] [] := by
      intro P v2 _ h
      unfold f_X7_gone_J59 at h
      refine r_aload_n hX rfl 0 rfl dX7_gone_59 ?_
      refine gf_7_49 (o := 17) hX fl_X7_159 rfl m1_g dX7_gone_60 ?_
      refine r_iload_n hX rfl 2 rfl dX7_gone_63 ?_
      obtain ⟨hk2, h⟩ := kc_e h
      refine ga_7_50 (o := 17) hX rfl m1_g hk2 dX7_gone_64 ?_
      refine r_iconst (v := 2) hX (by decide) dX7_gone_65 ?_
      refine r_icmp_ne hX dX7_gone_66 (fun hc => ?_) (fun hc => ?_)
      · replace h := in_e hc h
        exact WW.sub [0, 1, 2] rfl (K87 P v2 trivial h)
      · replace h := ip_e hc h
        refine r_aload_n hX rfl 0 rfl dX7_gone_69 ?_
        refine r_aload_n hX rfl 0 rfl dX7_gone_70 ?_
        refine r_aload_n hX rfl 0 rfl dX7_gone_71 ?_
        refine gf_7_0 (o := 17) hX fl_X7_7 rfl m1_g dX7_gone_72 ?_
        refine r_bipush (v := 10) hX (by decide) dX7_gone_75 ?_
        refine r_iadd hX dX7_gone_77 ?_
        refine r_sipush (v := 9999) hX (by decide) dX7_gone_78 ?_
        obtain ⟨x3, hc3, h⟩ := bn_e h
        refine r_callVi hX hR (c_X7_held (σ := σ) X.2.1 G hc3) rfl rfl mf_X7_held ml_X7_284 in_X7_held se_X7_held rfl rfl ⟨rfl, rfl, Nat.le_of_ble_eq_true rfl, Nat.le_of_ble_eq_true rfl⟩ rfl (st := [.ref (gA G 17 0)]) rfl (Nat.le_of_ble_eq_true rfl) dX7_gone_81 ?_
        obtain ⟨P4, hP4, h⟩ := nb_e h
        refine pf_7_0 (o := 17) hX fl_X7_7 rfl m1_g dX7_gone_84 (m1_w hP4) ?_
        exact WW.sub [0, 1, 2] rfl (K87 P4 v2 trivial h)
    have K39 : ∀ (P : Pm) (v2 : Int32) (_ : True), f_X7_gone_J39 P v1 v2 = some z1 → WW X G 3 (m1 σ 17 P) lm 39 [(0, .ref (gA G 17 0)), (1, .int v1), (2, .int v2)] [] := by
      intro P v2 _ h
      unfold f_X7_gone_J39 at h
      refine r_aload_n hX rfl 0 rfl dX7_gone_39 ?_
      refine gf_7_49 (o := 17) hX fl_X7_159 rfl m1_g dX7_gone_40 ?_
      refine r_iload_n hX rfl 2 rfl dX7_gone_43 ?_
      obtain ⟨hk5, h⟩ := kc_e h
      refine ga_7_50 (o := 17) hX rfl m1_g hk5 dX7_gone_44 ?_
      refine r_iconst (v := 1) hX (by decide) dX7_gone_45 ?_
      refine r_icmp_ne hX dX7_gone_46 (fun hc => ?_) (fun hc => ?_)
      · replace h := in_e hc h
        exact WW.sub [0, 1, 2] rfl (K59 P v2 trivial h)
      · replace h := ip_e hc h
        refine r_aload_n hX rfl 0 rfl dX7_gone_49 ?_
        refine r_aload_n hX rfl 0 rfl dX7_gone_50 ?_
        refine gf_7_50 (o := 17) hX fl_X7_162 rfl m1_g dX7_gone_51 ?_
        refine r_iload_n hX rfl 2 rfl dX7_gone_54 ?_
        obtain ⟨hk6, h⟩ := kc_e h
        refine ga_7_51 (o := 17) hX rfl m1_g hk6 dX7_gone_55 ?_
        obtain ⟨P7, hc7, h⟩ := bn_e h
        refine r_callVv hX hR (c_X7_calls (σ := σ) X.2.1 G hc7) rfl rfl mf_X7_calls ml_X7_288 in_X7_calls se_X7_calls rfl rfl ⟨rfl, rfl, Nat.le_of_ble_eq_true rfl, Nat.le_of_ble_eq_true rfl⟩ rfl (st := []) rfl (Nat.le_of_ble_eq_true rfl) dX7_gone_56 ?_
        exact WW.sub [0, 1, 2] rfl (K59 P7 v2 trivial h)
    unfold f_X7_gone_B18 at h
    refine r_iload_n hX rfl 2 rfl dX7_gone_18 ?_
    refine r_aload_n hX rfl 0 rfl dX7_gone_19 ?_
    refine gf_7_47 (o := 17) hX fl_X7_153 rfl m1_g dX7_gone_20 ?_
    refine r_icmp_ge hX dX7_gone_23 (fun hc => ?_) (fun hc => ?_)
    · replace h := ip_e hc h
      have g0 := hex1 _ (Option.some.inj h).symm
      subst g0
      exact WW.sub [0, 1] rfl (K93 P v1 trivial hO)
    · replace h := in_e hc h
      refine r_aload_n hX rfl 0 rfl dX7_gone_26 ?_
      refine gf_7_49 (o := 17) hX fl_X7_159 rfl m1_g dX7_gone_27 ?_
      refine r_iload_n hX rfl 2 rfl dX7_gone_30 ?_
      obtain ⟨hk8, h⟩ := kc_e h
      refine ga_7_50 (o := 17) hX rfl m1_g hk8 dX7_gone_31 ?_
      refine r_if_ne hX dX7_gone_32 (fun hc => ?_) (fun hc => ?_)
      · replace h := in_e hc h
        exact WW.sub [0, 1, 2] rfl (K39 P v2 trivial h)
      · replace h := ip_e hc h
        refine r_aload_n hX rfl 0 rfl dX7_gone_35 ?_
        obtain ⟨P9, hc9, h⟩ := bn_e h
        refine r_callVv hX hR (c_X7_goDay (σ := σ) X.2.1 G hc9) rfl rfl mf_X7_goDay ml_X7_381 in_X7_goDay se_X7_goDay rfl rfl ⟨rfl, rfl, Nat.le_of_ble_eq_true rfl, Nat.le_of_ble_eq_true rfl⟩ rfl (st := []) rfl (Nat.le_of_ble_eq_true rfl) dX7_gone_36 ?_
        exact WW.sub [0, 1, 2] rfl (K39 P9 v2 trivial h)
  unfold f_X7_gone at h
  refine r_aload_n hX rfl 0 rfl dX7_gone_0 ?_
  refine r_iload_n hX rfl 1 rfl dX7_gone_1 ?_
  refine r_iconst (v := 0) hX (by decide) dX7_gone_2 ?_
  refine r_iconst (v := 1) hX (by decide) dX7_gone_3 ?_
  obtain ⟨x10, hc10, h⟩ := bn_e h
  refine r_callVi hX hR (c_X7_in (σ := σ) X.2.1 G hc10) rfl rfl mf_X7_in ml_X7_263 in_X7_in se_X7_in rfl rfl ⟨rfl, rfl, Nat.le_of_ble_eq_true rfl, Nat.le_of_ble_eq_true rfl⟩ rfl (st := []) rfl (Nat.le_of_ble_eq_true rfl) dX7_gone_4 ?_
  refine r_if_ne hX dX7_gone_7 (fun hc => ?_) (fun hc => ?_)
  · replace h := in_e hc h
    refine r_aload_n hX rfl 0 rfl dX7_gone_12 ?_
    obtain ⟨P11, hc11, h⟩ := bn_e h
    refine r_callVv hX hR (c_X7_save (σ := σ) X.2.1 G hc11) rfl rfl mf_X7_save ml_X7_391 in_X7_save se_X7_save rfl rfl ⟨rfl, rfl, Nat.le_of_ble_eq_true rfl, Nat.le_of_ble_eq_true rfl⟩ rfl (st := []) rfl (Nat.le_of_ble_eq_true rfl) dX7_gone_13 ?_
    refine r_iconst (v := 0) hX (by decide) dX7_gone_16 ?_
    refine r_istore_n (L2 := [(2, .int 0), (0, .ref (gA G 17 0)), (1, .int a1)]) hX rfl (by decide) rfl dX7_gone_17 ?_
    exact WW.sub [1, 2, 0] rfl (K18 P11 a1 0 trivial h)
  · replace h := ip_e hc h
    refine r_iconst (v := (-1)) hX (by decide) dX7_gone_10 ?_
    have g0 := Option.some.inj h
    obtain ⟨q0, g1⟩ := Prod.mk.inj g0
    subst q0
    subst g1
    exact r_iret hX hQ dX7_gone_11
abbrev rm_X7_book : Room := { frames := 2, cells := 0, slots := 0, locals := 104 }
def f_X7_book (P : Pm) (a1 : Int32) (a2 : Int32) : Option (Int32 × Pm) :=
  (if a1 = (-1) then nb (up2 P 0 48 0) (fun P8 => some (0, P8)) else Option.bind (f_X7_isBorrower P a1) (fun x1 => (if x1 = 0 then some ((-1), P) else Option.bind (f_X7_in P a2 0 99999) (fun x2 => (if x2 = 0 then some ((-2), P) else (if (P 0 48) = 8 then some ((-4), P) else (if inb (P 0 48) 8 = true then nb (up2 P 52 (ix (P 0 48)) a1) (fun P4 => (if inb (P4 0 48) 8 = true then nb (up2 P4 53 (ix (P4 0 48)) a2) (fun P6 => nb (up2 P6 0 48 ((P6 0 48) + 1)) (fun P7 => some ((P7 0 48), P7))) else none)) else none)))))))
set_option maxHeartbeats 4000000 in
set_option maxRecDepth 100000 in
theorem c_X7_book (l : Launch) (G : GE) {σ : Mm} {lm : Ml}  {P : Pm} {a1 : Int32} {a2 : Int32} {rz : Int32} {Pz : Pm} (h : f_X7_book P a1 a2 = some (rz, Pz)) : CM l G yX7_book bX7_book 3 (Option.some Jvm.ClassFile.FieldType.int) rm_X7_book [.ref (gA G 17 0), .int a1, .int a2] (m1 σ 17 P) lm (some (.int rz)) (m1 σ 17 Pz) lm := by
  refine CM.of (own := zR7) (L0 := [(0, .ref (gA G 17 0)), (1, .int a1), (2, .int a2)]) (by decide +kernel) rfl (Nat.le_of_ble_eq_true rfl) rfl (fun X hl hX hR hQ => ?_)
  unfold f_X7_book at h
  refine r_iload_n hX rfl 1 rfl dX7_book_0 ?_
  refine r_iconst (v := (-1)) hX (by decide) dX7_book_1 ?_
  refine r_icmp_ne hX dX7_book_2 (fun hc => ?_) (fun hc => ?_)
  · replace h := in_e hc h
    refine r_aload_n hX rfl 0 rfl dX7_book_12 ?_
    refine r_iload_n hX rfl 1 rfl dX7_book_13 ?_
    obtain ⟨x1, hc1, h⟩ := bn_e h
    refine r_callVi hX hR (c_X7_isBorrower (σ := σ) X.2.1 G hc1) rfl rfl mf_X7_isBorrower ml_X7_274 in_X7_isBorrower se_X7_isBorrower rfl rfl ⟨rfl, rfl, Nat.le_of_ble_eq_true rfl, Nat.le_of_ble_eq_true rfl⟩ rfl (st := []) rfl (Nat.le_of_ble_eq_true rfl) dX7_book_14 ?_
    refine r_if_ne hX dX7_book_17 (fun hc => ?_) (fun hc => ?_)
    · replace h := in_e hc h
      refine r_aload_n hX rfl 0 rfl dX7_book_22 ?_
      refine r_iload_n hX rfl 2 rfl dX7_book_23 ?_
      refine r_iconst (v := 0) hX (by decide) dX7_book_24 ?_
      refine r_ldcw hX co_X7_374 dX7_book_25 ?_
      obtain ⟨x2, hc2, h⟩ := bn_e h
      refine r_callVi hX hR (c_X7_in (σ := σ) X.2.1 G hc2) rfl rfl mf_X7_in ml_X7_263 in_X7_in se_X7_in rfl rfl ⟨rfl, rfl, Nat.le_of_ble_eq_true rfl, Nat.le_of_ble_eq_true rfl⟩ rfl (st := []) rfl (Nat.le_of_ble_eq_true rfl) dX7_book_28 ?_
      refine r_if_ne hX dX7_book_31 (fun hc => ?_) (fun hc => ?_)
      · replace h := in_e hc h
        refine r_aload_n hX rfl 0 rfl dX7_book_37 ?_
        refine gf_7_48 (o := 17) hX fl_X7_156 rfl m1_g dX7_book_38 ?_
        refine r_bipush (v := 8) hX (by decide) dX7_book_41 ?_
        refine r_icmp_ne hX dX7_book_43 (fun hc => ?_) (fun hc => ?_)
        · replace h := in_e hc h
          refine r_aload_n hX rfl 0 rfl dX7_book_49 ?_
          refine gf_7_51 (o := 17) hX fl_X7_165 rfl m1_g dX7_book_50 ?_
          refine r_aload_n hX rfl 0 rfl dX7_book_53 ?_
          refine gf_7_48 (o := 17) hX fl_X7_156 rfl m1_g dX7_book_54 ?_
          refine r_iload_n hX rfl 1 rfl dX7_book_57 ?_
          obtain ⟨hk3, h⟩ := kc_e h
          obtain ⟨P4, hP4, h⟩ := nb_e h
          refine pa_7_52 (o := 17) hX rfl m1_g hk3 (m1_w hP4) dX7_book_58 ?_
          refine r_aload_n hX rfl 0 rfl dX7_book_59 ?_
          refine gf_7_52 (o := 17) hX fl_X7_168 rfl m1_g dX7_book_60 ?_
          refine r_aload_n hX rfl 0 rfl dX7_book_63 ?_
          refine gf_7_48 (o := 17) hX fl_X7_156 rfl m1_g dX7_book_64 ?_
          refine r_iload_n hX rfl 2 rfl dX7_book_67 ?_
          obtain ⟨hk5, h⟩ := kc_e h
          obtain ⟨P6, hP6, h⟩ := nb_e h
          refine pa_7_53 (o := 17) hX rfl m1_g hk5 (m1_w hP6) dX7_book_68 ?_
          refine r_aload_n hX rfl 0 rfl dX7_book_69 ?_
          refine r_dup hX rfl dX7_book_70 ?_
          refine gf_7_48 (o := 17) hX fl_X7_156 rfl m1_g dX7_book_71 ?_
          refine r_iconst (v := 1) hX (by decide) dX7_book_74 ?_
          refine r_iadd hX dX7_book_75 ?_
          obtain ⟨P7, hP7, h⟩ := nb_e h
          refine pf_7_48 (o := 17) hX fl_X7_156 rfl m1_g dX7_book_76 (m1_w hP7) ?_
          refine r_aload_n hX rfl 0 rfl dX7_book_79 ?_
          refine gf_7_48 (o := 17) hX fl_X7_156 rfl m1_g dX7_book_80 ?_
          have g0 := Option.some.inj h
          obtain ⟨q0, g1⟩ := Prod.mk.inj g0
          subst q0
          subst g1
          exact r_iret hX hQ dX7_book_83
        · replace h := ip_e hc h
          refine r_bipush (v := (-4)) hX (by decide) dX7_book_46 ?_
          have g0 := Option.some.inj h
          obtain ⟨q0, g1⟩ := Prod.mk.inj g0
          subst q0
          subst g1
          exact r_iret hX hQ dX7_book_48
      · replace h := ip_e hc h
        refine r_bipush (v := (-2)) hX (by decide) dX7_book_34 ?_
        have g0 := Option.some.inj h
        obtain ⟨q0, g1⟩ := Prod.mk.inj g0
        subst q0
        subst g1
        exact r_iret hX hQ dX7_book_36
    · replace h := ip_e hc h
      refine r_iconst (v := (-1)) hX (by decide) dX7_book_20 ?_
      have g0 := Option.some.inj h
      obtain ⟨q0, g1⟩ := Prod.mk.inj g0
      subst q0
      subst g1
      exact r_iret hX hQ dX7_book_21
  · replace h := ip_e hc h
    refine r_aload_n hX rfl 0 rfl dX7_book_5 ?_
    refine r_iconst (v := 0) hX (by decide) dX7_book_6 ?_
    obtain ⟨P8, hP8, h⟩ := nb_e h
    refine pf_7_48 (o := 17) hX fl_X7_156 rfl m1_g dX7_book_7 (m1_w hP8) ?_
    refine r_iconst (v := 0) hX (by decide) dX7_book_10 ?_
    have g0 := Option.some.inj h
    obtain ⟨q0, g1⟩ := Prod.mk.inj g0
    subst q0
    subst g1
    exact r_iret hX hQ dX7_book_11
abbrev rm_X7_looked : Room := { frames := 0, cells := 0, slots := 0, locals := 60 }
def f_X7_looked_B2 (P : Pm) (v1 : Int32) : Option ((Int32) ⊕ (Int32)) :=
  (if (P 0 48) ≤ v1 then wr (some (-5)) else (if inb v1 8 = true then (if inb (P 52 (ix v1)) 6 = true then (if inb v1 8 = true then (if (P 10 (ix (P 52 (ix v1)))) = (P 53 (ix v1)) then some (.inl (v1 + 1)) else wr (some v1)) else none) else none) else none))
def f_X7_looked_H2 (P : Pm) (v1 : Int32) : Option (Int32) :=
  iter (fun t => f_X7_looked_B2 P t) 200 v1
def f_X7_looked (P : Pm) : Option (Int32) :=
  f_X7_looked_H2 P 0
set_option maxHeartbeats 4000000 in
set_option maxRecDepth 100000 in
theorem c_X7_looked (l : Launch) (G : GE) {σ : Mm} {lm : Ml}  {P : Pm} {rz : Int32} (h : f_X7_looked P = some rz) : CM l G yX7_looked bX7_looked 2 (Option.some Jvm.ClassFile.FieldType.int) rm_X7_looked [.ref (gA G 17 0)] (m1 σ 17 P) lm (some (.int rz)) (m1 σ 17 P) lm := by
  refine CM.of (own := zR7) (L0 := [(0, .ref (gA G 17 0))]) (by decide +kernel) rfl (Nat.le_of_ble_eq_true rfl) rfl (fun X hl hX hR hQ => ?_)
  have K2 : ∀ (v1 : Int32) (_ : True), f_X7_looked_H2 P v1 = some rz → WW X G 2 (m1 σ 17 P) lm 2 [(0, .ref (gA G 17 0)), (1, .int v1)] [] := by
    intro v1 _ h
    unfold f_X7_looked_H2 at h
    have hit := h
    refine iter_w (P := fun t : Int32 => WW X G 2 (m1 σ 17 P) lm 2 [(0, .ref (gA G 17 0)), (1, .int t)] []) (x := rz) ?_ 200 v1 hit
    clear hit
    clear h
    intro v1 z1 hb hin1 hex1
    have h : f_X7_looked_B2 P v1 = some z1 := hb
    clear hb
    unfold f_X7_looked_B2 at h
    refine r_iload_n hX rfl 1 rfl dX7_looked_2 ?_
    refine r_aload_n hX rfl 0 rfl dX7_looked_3 ?_
    refine gf_7_48 (o := 17) hX fl_X7_156 rfl m1_g dX7_looked_4 ?_
    refine r_icmp_ge hX dX7_looked_7 (fun hc => ?_) (fun hc => ?_)
    · replace h := ip_e hc h
      refine r_bipush (v := (-5)) hX (by decide) dX7_looked_38 ?_
      obtain ⟨y1, h, e1⟩ := wr_e h
      rw [hex1 _ e1] at h
      have g0 := Option.some.inj h
      subst g0
      exact r_iret hX hQ dX7_looked_40
    · replace h := in_e hc h
      refine r_aload_n hX rfl 0 rfl dX7_looked_10 ?_
      refine gf_7_9 (o := 17) hX fl_X7_38 rfl m1_g dX7_looked_11 ?_
      refine r_aload_n hX rfl 0 rfl dX7_looked_14 ?_
      refine gf_7_51 (o := 17) hX fl_X7_165 rfl m1_g dX7_looked_15 ?_
      refine r_iload_n hX rfl 1 rfl dX7_looked_18 ?_
      obtain ⟨hk1, h⟩ := kc_e h
      refine ga_7_52 (o := 17) hX rfl m1_g hk1 dX7_looked_19 ?_
      obtain ⟨hk2, h⟩ := kc_e h
      refine ga_7_10 (o := 17) hX rfl m1_g hk2 dX7_looked_20 ?_
      refine r_aload_n hX rfl 0 rfl dX7_looked_21 ?_
      refine gf_7_52 (o := 17) hX fl_X7_168 rfl m1_g dX7_looked_22 ?_
      refine r_iload_n hX rfl 1 rfl dX7_looked_25 ?_
      obtain ⟨hk3, h⟩ := kc_e h
      refine ga_7_53 (o := 17) hX rfl m1_g hk3 dX7_looked_26 ?_
      refine r_icmp_eq hX dX7_looked_27 (fun hc => ?_) (fun hc => ?_)
      · replace h := ip_e hc h
        refine r_iinc (v := v1 + 1) (L2 := [(1, .int (v1 + 1)), (0, .ref (gA G 17 0))]) hX 1 rfl rfl (by decide) rfl dX7_looked_32 ?_
        refine r_goto hX dX7_looked_35 ?_
        exact WW.sub [1, 0] rfl (hin1 _ (Option.some.inj h).symm)
      · replace h := in_e hc h
        refine r_iload_n hX rfl 1 rfl dX7_looked_30 ?_
        obtain ⟨y1, h, e1⟩ := wr_e h
        rw [hex1 _ e1] at h
        have g0 := Option.some.inj h
        subst g0
        exact r_iret hX hQ dX7_looked_31
  unfold f_X7_looked at h
  refine r_iconst (v := 0) hX (by decide) dX7_looked_0 ?_
  refine r_istore_n (L2 := [(1, .int 0), (0, .ref (gA G 17 0))]) hX rfl (by decide) rfl dX7_looked_1 ?_
  exact WW.sub [1, 0] rfl (K2 0 trivial h)
abbrev rm_X7_isTape : Room := { frames := 1, cells := 0, slots := 0, locals := 83 }
def f_X7_isTape (P : Pm) (a1 : Int32) : Option (Int32) :=
  Option.bind (f_X7_in P a1 0 5) (fun x1 => (if x1 = 0 ∨ x1 = 1 then some x1 else none))
set_option maxHeartbeats 4000000 in
set_option maxRecDepth 100000 in
theorem c_X7_isTape (l : Launch) (G : GE) {σ : Mm} {lm : Ml}  {P : Pm} {a1 : Int32} {rz : Int32} (h : f_X7_isTape P a1 = some rz) : CM l G yX7_isTape bX7_isTape 2 (Option.some Jvm.ClassFile.FieldType.boolean) rm_X7_isTape [.ref (gA G 17 0), .int a1] (m1 σ 17 P) lm (some (.int rz)) (m1 σ 17 P) lm := by
  refine CM.of (own := zR7) (L0 := [(0, .ref (gA G 17 0)), (1, .int a1)]) (by decide +kernel) rfl (Nat.le_of_ble_eq_true rfl) rfl (fun X hl hX hR hQ => ?_)
  unfold f_X7_isTape at h
  refine r_aload_n hX rfl 0 rfl dX7_isTape_0 ?_
  refine r_iload_n hX rfl 1 rfl dX7_isTape_1 ?_
  refine r_iconst (v := 0) hX (by decide) dX7_isTape_2 ?_
  refine r_iconst (v := 5) hX (by decide) dX7_isTape_3 ?_
  obtain ⟨x1, hc1, h⟩ := bn_e h
  refine r_callVi hX hR (c_X7_in (σ := σ) X.2.1 G hc1) rfl rfl mf_X7_in ml_X7_263 in_X7_in se_X7_in rfl rfl ⟨rfl, rfl, Nat.le_of_ble_eq_true rfl, Nat.le_of_ble_eq_true rfl⟩ rfl (st := []) rfl (Nat.le_of_ble_eq_true rfl) dX7_isTape_4 ?_
  obtain ⟨hk2, h⟩ := kc_e h
  have g0 := Option.some.inj h
  subst g0
  exact r_zret hX hk2 hQ dX7_isTape_7
abbrev rm_X7_judge : Room := { frames := 2, cells := 0, slots := 0, locals := 104 }
def f_X7_judge_J69 (P : Pm) (lm : Ml) (v3 : Int32) : Option (Int32) :=
  some (100 + v3)
def f_X7_judge_B34 (P : Pm) (lm : Ml) (v1 : Int32) (v2 : Int32) (v3 : Int32) : Option ((Int32) ⊕ (Int32)) :=
  (if (P 0 1) ≤ v3 then wr (some (-5)) else (if inb v1 6 = true then (if (P 80 (ix v1)) < 0 then wr (f_X7_judge_J69 P lm v3) else (if v2 < 0 then wr (f_X7_judge_J69 P lm v3) else (if inb v1 6 = true then (if v2 ≤ (((P 81 (ix v1)) - v3) - 1) then (if inb (((60 * v1) + v2) + v3) 360 = true then (if inb v3 6 = true then (if (lg_cmp (lm 17 82 (ix (((60 * v1) + v2) + v3))) ((P 8 (ix v3)).toInt64)) = 0 then some (.inl (v3 + 1)) else wr (some v3)) else none) else none) else wr (f_X7_judge_J69 P lm v3)) else none))) else none))
def f_X7_judge_H34 (P : Pm) (lm : Ml) (v1 : Int32) (v2 : Int32) (v3 : Int32) : Option (Int32) :=
  iter (fun t => f_X7_judge_B34 P lm v1 v2 t) 200 v3
def f_X7_judge_J32 (P : Pm) (lm : Ml) (v1 : Int32) (v2 : Int32) : Option (Int32) :=
  f_X7_judge_H34 P lm v1 v2 0
def f_X7_judge (P : Pm) (lm : Ml) (a1 : Int32) (a2 : Int32) : Option (Int32) :=
  Option.bind (f_X7_isTape P a1) (fun x5 => (if x5 = 0 then some (-1) else (if inb a1 6 = true then (if (P 80 (ix a1)) < 0 then f_X7_judge_J32 P lm a1 a2 else (if inb a1 6 = true then (if (P 80 (ix a1)) = 2 then f_X7_judge_J32 P lm a1 a2 else some (-12)) else none)) else none)))
set_option maxHeartbeats 4000000 in
set_option maxRecDepth 100000 in
theorem c_X7_judge (l : Launch) (G : GE) {σ : Mm}  {P : Pm} {lm : Ml} {a1 : Int32} {a2 : Int32} {rz : Int32} (h : f_X7_judge P lm a1 a2 = some rz) : CM l G yX7_judge bX7_judge 4 (Option.some Jvm.ClassFile.FieldType.int) rm_X7_judge [.ref (gA G 17 0), .int a1, .int a2] (m1 σ 17 P) lm (some (.int rz)) (m1 σ 17 P) lm := by
  refine CM.of (own := zR7) (L0 := [(0, .ref (gA G 17 0)), (1, .int a1), (2, .int a2)]) (by decide +kernel) rfl (Nat.le_of_ble_eq_true rfl) rfl (fun X hl hX hR hQ => ?_)
  have K69 : ∀ (v3 : Int32) (_ : True), f_X7_judge_J69 P lm v3 = some rz → WW X G 4 (m1 σ 17 P) lm 69 [(3, .int v3)] [] := by
    intro v3 _ h
    unfold f_X7_judge_J69 at h
    refine r_bipush (v := 100) hX (by decide) dX7_judge_69 ?_
    refine r_iload_n hX rfl 0 rfl dX7_judge_71 ?_
    refine r_iadd hX dX7_judge_72 ?_
    have g0 := Option.some.inj h
    subst g0
    exact r_iret hX hQ dX7_judge_73
  have K34 : ∀ (v1 : Int32) (v2 : Int32) (v3 : Int32) (_ : True), f_X7_judge_H34 P lm v1 v2 v3 = some rz → WW X G 4 (m1 σ 17 P) lm 34 [(0, .ref (gA G 17 0)), (1, .int v1), (2, .int v2), (3, .int v3)] [] := by
    intro v1 v2 v3 _ h
    unfold f_X7_judge_H34 at h
    have hit := h
    refine iter_w (P := fun t : Int32 => WW X G 4 (m1 σ 17 P) lm 34 [(0, .ref (gA G 17 0)), (1, .int v1), (2, .int v2), (3, .int t)] []) (x := rz) ?_ 200 v3 hit
    clear hit
    clear h
    intro v3 z1 hb hin1 hex1
    have h : f_X7_judge_B34 P lm v1 v2 v3 = some z1 := hb
    clear hb
    unfold f_X7_judge_B34 at h
    refine r_iload_n hX rfl 3 rfl dX7_judge_34 ?_
    refine r_aload_n hX rfl 0 rfl dX7_judge_35 ?_
    refine gf_7_1 (o := 17) hX fl_X7_13 rfl m1_g dX7_judge_36 ?_
    refine r_icmp_ge hX dX7_judge_39 (fun hc => ?_) (fun hc => ?_)
    · replace h := ip_e hc h
      refine r_bipush (v := (-5)) hX (by decide) dX7_judge_106 ?_
      obtain ⟨y1, h, e1⟩ := wr_e h
      rw [hex1 _ e1] at h
      have g0 := Option.some.inj h
      subst g0
      exact r_iret hX hQ dX7_judge_108
    · replace h := in_e hc h
      refine r_aload_n hX rfl 0 rfl dX7_judge_42 ?_
      refine gf_7_79 (o := 17) hX fl_X7_250 rfl m1_g dX7_judge_43 ?_
      refine r_iload_n hX rfl 1 rfl dX7_judge_46 ?_
      obtain ⟨hk1, h⟩ := kc_e h
      refine ga_7_80 (o := 17) hX rfl m1_g hk1 dX7_judge_47 ?_
      refine r_if_lt hX dX7_judge_48 (fun hc => ?_) (fun hc => ?_)
      · replace h := ip_e hc h
        obtain ⟨y1, h, e1⟩ := wr_e h
        rw [hex1 _ e1] at h
        exact WW.sub [3] rfl (K69 v3 trivial h)
      · replace h := in_e hc h
        refine r_iload_n hX rfl 2 rfl dX7_judge_51 ?_
        refine r_if_lt hX dX7_judge_52 (fun hc => ?_) (fun hc => ?_)
        · replace h := ip_e hc h
          obtain ⟨y1, h, e1⟩ := wr_e h
          rw [hex1 _ e1] at h
          exact WW.sub [3] rfl (K69 v3 trivial h)
        · replace h := in_e hc h
          refine r_iload_n hX rfl 2 rfl dX7_judge_55 ?_
          refine r_aload_n hX rfl 0 rfl dX7_judge_56 ?_
          refine gf_7_80 (o := 17) hX fl_X7_253 rfl m1_g dX7_judge_57 ?_
          refine r_iload_n hX rfl 1 rfl dX7_judge_60 ?_
          obtain ⟨hk2, h⟩ := kc_e h
          refine ga_7_81 (o := 17) hX rfl m1_g hk2 dX7_judge_61 ?_
          refine r_iload_n hX rfl 3 rfl dX7_judge_62 ?_
          refine r_isub hX dX7_judge_63 ?_
          refine r_iconst (v := 1) hX (by decide) dX7_judge_64 ?_
          refine r_isub hX dX7_judge_65 ?_
          refine r_icmp_le hX dX7_judge_66 (fun hc => ?_) (fun hc => ?_)
          · replace h := ip_e hc h
            refine r_aload_n hX rfl 0 rfl dX7_judge_74 ?_
            refine gf_7_81 (o := 17) hX fl_X7_256 rfl m1_g dX7_judge_75 ?_
            refine r_bipush (v := 60) hX (by decide) dX7_judge_78 ?_
            refine r_iload_n hX rfl 1 rfl dX7_judge_80 ?_
            refine r_imul hX dX7_judge_81 ?_
            refine r_iload_n hX rfl 2 rfl dX7_judge_82 ?_
            refine r_iadd hX dX7_judge_83 ?_
            refine r_iload_n hX rfl 3 rfl dX7_judge_84 ?_
            refine r_iadd hX dX7_judge_85 ?_
            obtain ⟨hk3, h⟩ := kc_e h
            refine ga_7_82 (o := 17) hX rfl hk3 dX7_judge_86 ?_
            refine r_aload_n hX rfl 0 rfl dX7_judge_87 ?_
            refine gf_7_7 (o := 17) hX fl_X7_32 rfl m1_g dX7_judge_88 ?_
            refine r_iload_n hX rfl 3 rfl dX7_judge_91 ?_
            obtain ⟨hk4, h⟩ := kc_e h
            refine ga_7_8 (o := 17) hX rfl m1_g hk4 dX7_judge_92 ?_
            refine r_i2l hX dX7_judge_93 ?_
            refine r_lcmp hX dX7_judge_94 ?_
            refine r_if_eq hX dX7_judge_95 (fun hc => ?_) (fun hc => ?_)
            · replace h := ip_e hc h
              refine r_iinc (v := v3 + 1) (L2 := [(3, .int (v3 + 1)), (0, .ref (gA G 17 0)), (1, .int v1), (2, .int v2)]) hX 3 rfl rfl (by decide) rfl dX7_judge_100 ?_
              refine r_goto hX dX7_judge_103 ?_
              exact WW.sub [1, 2, 3, 0] rfl (hin1 _ (Option.some.inj h).symm)
            · replace h := in_e hc h
              refine r_iload_n hX rfl 3 rfl dX7_judge_98 ?_
              obtain ⟨y1, h, e1⟩ := wr_e h
              rw [hex1 _ e1] at h
              have g0 := Option.some.inj h
              subst g0
              exact r_iret hX hQ dX7_judge_99
          · replace h := in_e hc h
            obtain ⟨y1, h, e1⟩ := wr_e h
            rw [hex1 _ e1] at h
            exact WW.sub [3] rfl (K69 v3 trivial h)
  have K32 : ∀ (v1 : Int32) (v2 : Int32) (_ : True), f_X7_judge_J32 P lm v1 v2 = some rz → WW X G 4 (m1 σ 17 P) lm 32 [(0, .ref (gA G 17 0)), (1, .int v1), (2, .int v2)] [] := by
    intro v1 v2 _ h
    unfold f_X7_judge_J32 at h
    refine r_iconst (v := 0) hX (by decide) dX7_judge_32 ?_
    refine r_istore_n (L2 := [(3, .int 0), (0, .ref (gA G 17 0)), (1, .int v1), (2, .int v2)]) hX rfl (by decide) rfl dX7_judge_33 ?_
    exact WW.sub [1, 2, 3, 0] rfl (K34 v1 v2 0 trivial h)
  unfold f_X7_judge at h
  refine r_aload_n hX rfl 0 rfl dX7_judge_0 ?_
  refine r_iload_n hX rfl 1 rfl dX7_judge_1 ?_
  obtain ⟨x5, hc5, h⟩ := bn_e h
  refine r_callVi hX hR (c_X7_isTape (σ := σ) X.2.1 G hc5) rfl rfl mf_X7_isTape ml_X7_424 in_X7_isTape se_X7_isTape rfl rfl ⟨rfl, rfl, Nat.le_of_ble_eq_true rfl, Nat.le_of_ble_eq_true rfl⟩ rfl (st := []) rfl (Nat.le_of_ble_eq_true rfl) dX7_judge_2 ?_
  refine r_if_ne hX dX7_judge_5 (fun hc => ?_) (fun hc => ?_)
  · replace h := in_e hc h
    refine r_aload_n hX rfl 0 rfl dX7_judge_10 ?_
    refine gf_7_79 (o := 17) hX fl_X7_250 rfl m1_g dX7_judge_11 ?_
    refine r_iload_n hX rfl 1 rfl dX7_judge_14 ?_
    obtain ⟨hk6, h⟩ := kc_e h
    refine ga_7_80 (o := 17) hX rfl m1_g hk6 dX7_judge_15 ?_
    refine r_if_lt hX dX7_judge_16 (fun hc => ?_) (fun hc => ?_)
    · replace h := ip_e hc h
      exact WW.sub [0, 1, 2] rfl (K32 a1 a2 trivial h)
    · replace h := in_e hc h
      refine r_aload_n hX rfl 0 rfl dX7_judge_19 ?_
      refine gf_7_79 (o := 17) hX fl_X7_250 rfl m1_g dX7_judge_20 ?_
      refine r_iload_n hX rfl 1 rfl dX7_judge_23 ?_
      obtain ⟨hk7, h⟩ := kc_e h
      refine ga_7_80 (o := 17) hX rfl m1_g hk7 dX7_judge_24 ?_
      refine r_iconst (v := 2) hX (by decide) dX7_judge_25 ?_
      refine r_icmp_eq hX dX7_judge_26 (fun hc => ?_) (fun hc => ?_)
      · replace h := ip_e hc h
        exact WW.sub [0, 1, 2] rfl (K32 a1 a2 trivial h)
      · replace h := in_e hc h
        refine r_bipush (v := (-12)) hX (by decide) dX7_judge_29 ?_
        have g0 := Option.some.inj h
        subst g0
        exact r_iret hX hQ dX7_judge_31
  · replace h := ip_e hc h
    refine r_iconst (v := (-1)) hX (by decide) dX7_judge_8 ?_
    have g0 := Option.some.inj h
    subst g0
    exact r_iret hX hQ dX7_judge_9
abbrev rm_X7_image : Room := { frames := 0, cells := 0, slots := 0, locals := 60 }
def f_X7_image_J322 (P : Pm) : Option (Int32 × Pm) :=
  some ((P 0 1), P)
def f_X7_image_B286 (v1 : Int32) (P : Pm) : Option ((Int32 × Pm) ⊕ (Pm)) :=
  (if 8 ≤ v1 then some (.inr P) else (if inb v1 8 = true then (if inb v1 8 = true then nb (up2 P 76 (ix v1) (P 52 (ix v1))) (fun P3 => (if inb v1 8 = true then (if inb v1 8 = true then nb (up2 P3 77 (ix v1) (P3 53 (ix v1))) (fun P6 => some (.inl ((v1 + 1), P6))) else none) else none)) else none) else none))
def f_X7_image_H286 (P : Pm) (v1 : Int32) : Option (Int32 × Pm) :=
  Option.bind (iter (fun t => f_X7_image_B286 t.1 t.2) 200 (v1, P)) (fun P => f_X7_image_J322 P)
def f_X7_image_J284 (P : Pm) : Option (Int32 × Pm) :=
  f_X7_image_H286 P 0
def f_X7_image_B248 (v1 : Int32) (P : Pm) : Option ((Int32 × Pm) ⊕ (Pm)) :=
  (if 10 ≤ v1 then some (.inr P) else (if inb v1 10 = true then (if inb v1 10 = true then nb (up2 P 74 (ix v1) (P 50 (ix v1))) (fun P9 => (if inb v1 10 = true then (if inb v1 10 = true then nb (up2 P9 75 (ix v1) (P9 51 (ix v1))) (fun P12 => some (.inl ((v1 + 1), P12))) else none) else none)) else none) else none))
def f_X7_image_H248 (P : Pm) (v1 : Int32) : Option (Int32 × Pm) :=
  Option.bind (iter (fun t => f_X7_image_B248 t.1 t.2) 200 (v1, P)) (fun P => f_X7_image_J284 P)
def f_X7_image_J246 (P : Pm) : Option (Int32 × Pm) :=
  f_X7_image_H248 P 0
def f_X7_image_B211 (v1 : Int32) (P : Pm) : Option ((Int32 × Pm) ⊕ (Pm)) :=
  (if 5 ≤ v1 then some (.inr P) else (if inb v1 5 = true then (if inb v1 5 = true then nb (up2 P 72 (ix v1) (P 46 (ix v1))) (fun P15 => (if inb v1 5 = true then (if inb v1 5 = true then nb (up2 P15 73 (ix v1) (P15 47 (ix v1))) (fun P18 => some (.inl ((v1 + 1), P18))) else none) else none)) else none) else none))
def f_X7_image_H211 (P : Pm) (v1 : Int32) : Option (Int32 × Pm) :=
  Option.bind (iter (fun t => f_X7_image_B211 t.1 t.2) 200 (v1, P)) (fun P => f_X7_image_J246 P)
def f_X7_image_J209 (P : Pm) : Option (Int32 × Pm) :=
  f_X7_image_H211 P 0
def f_X7_image_B185 (v1 : Int32) (P : Pm) : Option ((Int32 × Pm) ⊕ (Pm)) :=
  (if 24 ≤ v1 then some (.inr P) else (if inb v1 24 = true then (if inb v1 24 = true then nb (up2 P 71 (ix v1) (P 12 (ix v1))) (fun P21 => some (.inl ((v1 + 1), P21))) else none) else none))
def f_X7_image_H185 (P : Pm) (v1 : Int32) : Option (Int32 × Pm) :=
  Option.bind (iter (fun t => f_X7_image_B185 t.1 t.2) 200 (v1, P)) (fun P => f_X7_image_J209 P)
def f_X7_image_J183 (P : Pm) : Option (Int32 × Pm) :=
  f_X7_image_H185 P 0
def f_X7_image_B63 (v1 : Int32) (P : Pm) : Option ((Int32 × Pm) ⊕ (Pm)) :=
  (if 6 ≤ v1 then some (.inr P) else (if inb v1 6 = true then (if inb v1 6 = true then nb (up2 P 62 (ix v1) (P 4 (ix v1))) (fun P24 => (if inb v1 6 = true then (if inb v1 6 = true then nb (up2 P24 63 (ix v1) (P24 5 (ix v1))) (fun P27 => (if inb v1 6 = true then (if inb v1 6 = true then nb (up2 P27 64 (ix v1) (P27 6 (ix v1))) (fun P30 => (if inb v1 6 = true then (if inb v1 6 = true then nb (up2 P30 65 (ix v1) (P30 7 (ix v1))) (fun P33 => (if inb v1 6 = true then (if inb v1 6 = true then nb (up2 P33 66 (ix v1) (P33 8 (ix v1))) (fun P36 => (if inb v1 6 = true then (if inb v1 6 = true then nb (up2 P36 67 (ix v1) (P36 9 (ix v1))) (fun P39 => (if inb v1 6 = true then (if inb v1 6 = true then nb (up2 P39 68 (ix v1) (P39 10 (ix v1))) (fun P42 => (if inb v1 6 = true then (if inb v1 6 = true then nb (up2 P42 69 (ix v1) (P42 11 (ix v1))) (fun P45 => (if inb v1 6 = true then (if inb v1 6 = true then nb (up2 P45 70 (ix v1) (P45 13 (ix v1))) (fun P48 => some (.inl ((v1 + 1), P48))) else none) else none)) else none) else none)) else none) else none)) else none) else none)) else none) else none)) else none) else none)) else none) else none)) else none) else none)) else none) else none))
def f_X7_image_H63 (P : Pm) (v1 : Int32) : Option (Int32 × Pm) :=
  Option.bind (iter (fun t => f_X7_image_B63 t.1 t.2) 200 (v1, P)) (fun P => f_X7_image_J183 P)
def f_X7_image (P : Pm) : Option (Int32 × Pm) :=
  nb (up2 P 0 53 1) (fun P49 => nb (up2 P49 0 54 (P49 0 14)) (fun P50 => nb (up2 P50 0 55 (P50 0 0)) (fun P51 => nb (up2 P51 0 56 (P51 0 1)) (fun P52 => nb (up2 P52 0 57 (P52 0 2)) (fun P53 => nb (up2 P53 0 58 (P53 0 44)) (fun P54 => nb (up2 P54 0 59 (P54 0 47)) (fun P55 => nb (up2 P55 0 60 (P55 0 48)) (fun P56 => f_X7_image_H63 P56 0))))))))
set_option maxHeartbeats 4000000 in
set_option maxRecDepth 100000 in
theorem c_X7_image (l : Launch) (G : GE) {σ : Mm} {lm : Ml}  {P : Pm} {rz : Int32} {Pz : Pm} (h : f_X7_image P = some (rz, Pz)) : CM l G yX7_image bX7_image 2 (Option.some Jvm.ClassFile.FieldType.int) rm_X7_image [.ref (gA G 17 0)] (m1 σ 17 P) lm (some (.int rz)) (m1 σ 17 Pz) lm := by
  refine CM.of (own := zR7) (L0 := [(0, .ref (gA G 17 0))]) (by decide +kernel) rfl (Nat.le_of_ble_eq_true rfl) rfl (fun X hl hX hR hQ => ?_)
  have K322 : ∀ (P : Pm) (_ : True), f_X7_image_J322 P = some (rz, Pz) → WW X G 2 (m1 σ 17 P) lm 322 [(0, .ref (gA G 17 0))] [] := by
    intro P _ h
    unfold f_X7_image_J322 at h
    refine r_aload_n hX rfl 0 rfl dX7_image_322 ?_
    refine gf_7_1 (o := 17) hX fl_X7_13 rfl m1_g dX7_image_323 ?_
    have g0 := Option.some.inj h
    obtain ⟨q0, g1⟩ := Prod.mk.inj g0
    subst q0
    subst g1
    exact r_iret hX hQ dX7_image_326
  have K286 : ∀ (P : Pm) (v1 : Int32) (_ : True), f_X7_image_H286 P v1 = some (rz, Pz) → WW X G 2 (m1 σ 17 P) lm 286 [(0, .ref (gA G 17 0)), (1, .int v1)] [] := by
    intro P v1 _ h
    unfold f_X7_image_H286 at h
    obtain ⟨e_P, hit, hO⟩ := bn_e h
    refine iter_w (P := fun t : Int32 × Pm => WW X G 2 (m1 σ 17 t.2) lm 286 [(0, .ref (gA G 17 0)), (1, .int t.1)] []) (x := e_P) ?_ 200 (v1, P) hit
    clear hit
    intro t z1 hb hin1 hex1
    obtain ⟨v1, P⟩ := t
    have h : f_X7_image_B286 v1 P = some z1 := hb
    clear hb
    unfold f_X7_image_B286 at h
    refine r_iload_n hX rfl 1 rfl dX7_image_286 ?_
    refine r_bipush (v := 8) hX (by decide) dX7_image_287 ?_
    refine r_icmp_ge hX dX7_image_289 (fun hc => ?_) (fun hc => ?_)
    · replace h := ip_e hc h
      have g0 := hex1 _ (Option.some.inj h).symm
      subst g0
      exact WW.sub [0] rfl (K322 P trivial hO)
    · replace h := in_e hc h
      refine r_aload_n hX rfl 0 rfl dX7_image_292 ?_
      refine gf_7_75 (o := 17) hX fl_X7_238 rfl m1_g dX7_image_293 ?_
      refine r_iload_n hX rfl 1 rfl dX7_image_296 ?_
      refine r_aload_n hX rfl 0 rfl dX7_image_297 ?_
      refine gf_7_51 (o := 17) hX fl_X7_165 rfl m1_g dX7_image_298 ?_
      refine r_iload_n hX rfl 1 rfl dX7_image_301 ?_
      obtain ⟨hk1, h⟩ := kc_e h
      refine ga_7_52 (o := 17) hX rfl m1_g hk1 dX7_image_302 ?_
      obtain ⟨hk2, h⟩ := kc_e h
      obtain ⟨P3, hP3, h⟩ := nb_e h
      refine pa_7_76 (o := 17) hX rfl m1_g hk2 (m1_w hP3) dX7_image_303 ?_
      refine r_aload_n hX rfl 0 rfl dX7_image_304 ?_
      refine gf_7_76 (o := 17) hX fl_X7_241 rfl m1_g dX7_image_305 ?_
      refine r_iload_n hX rfl 1 rfl dX7_image_308 ?_
      refine r_aload_n hX rfl 0 rfl dX7_image_309 ?_
      refine gf_7_52 (o := 17) hX fl_X7_168 rfl m1_g dX7_image_310 ?_
      refine r_iload_n hX rfl 1 rfl dX7_image_313 ?_
      obtain ⟨hk4, h⟩ := kc_e h
      refine ga_7_53 (o := 17) hX rfl m1_g hk4 dX7_image_314 ?_
      obtain ⟨hk5, h⟩ := kc_e h
      obtain ⟨P6, hP6, h⟩ := nb_e h
      refine pa_7_77 (o := 17) hX rfl m1_g hk5 (m1_w hP6) dX7_image_315 ?_
      refine r_iinc (v := v1 + 1) (L2 := [(1, .int (v1 + 1)), (0, .ref (gA G 17 0))]) hX 1 rfl rfl (by decide) rfl dX7_image_316 ?_
      refine r_goto hX dX7_image_319 ?_
      exact WW.sub [1, 0] rfl (hin1 _ (Option.some.inj h).symm)
  have K284 : ∀ (P : Pm) (_ : True), f_X7_image_J284 P = some (rz, Pz) → WW X G 2 (m1 σ 17 P) lm 284 [(0, .ref (gA G 17 0))] [] := by
    intro P _ h
    unfold f_X7_image_J284 at h
    refine r_iconst (v := 0) hX (by decide) dX7_image_284 ?_
    refine r_istore_n (L2 := [(1, .int 0), (0, .ref (gA G 17 0))]) hX rfl (by decide) rfl dX7_image_285 ?_
    exact WW.sub [1, 0] rfl (K286 P 0 trivial h)
  have K248 : ∀ (P : Pm) (v1 : Int32) (_ : True), f_X7_image_H248 P v1 = some (rz, Pz) → WW X G 2 (m1 σ 17 P) lm 248 [(0, .ref (gA G 17 0)), (1, .int v1)] [] := by
    intro P v1 _ h
    unfold f_X7_image_H248 at h
    obtain ⟨e_P, hit, hO⟩ := bn_e h
    refine iter_w (P := fun t : Int32 × Pm => WW X G 2 (m1 σ 17 t.2) lm 248 [(0, .ref (gA G 17 0)), (1, .int t.1)] []) (x := e_P) ?_ 200 (v1, P) hit
    clear hit
    intro t z1 hb hin1 hex1
    obtain ⟨v1, P⟩ := t
    have h : f_X7_image_B248 v1 P = some z1 := hb
    clear hb
    unfold f_X7_image_B248 at h
    refine r_iload_n hX rfl 1 rfl dX7_image_248 ?_
    refine r_bipush (v := 10) hX (by decide) dX7_image_249 ?_
    refine r_icmp_ge hX dX7_image_251 (fun hc => ?_) (fun hc => ?_)
    · replace h := ip_e hc h
      have g0 := hex1 _ (Option.some.inj h).symm
      subst g0
      exact WW.sub [0] rfl (K284 P trivial hO)
    · replace h := in_e hc h
      refine r_aload_n hX rfl 0 rfl dX7_image_254 ?_
      refine gf_7_73 (o := 17) hX fl_X7_232 rfl m1_g dX7_image_255 ?_
      refine r_iload_n hX rfl 1 rfl dX7_image_258 ?_
      refine r_aload_n hX rfl 0 rfl dX7_image_259 ?_
      refine gf_7_49 (o := 17) hX fl_X7_159 rfl m1_g dX7_image_260 ?_
      refine r_iload_n hX rfl 1 rfl dX7_image_263 ?_
      obtain ⟨hk7, h⟩ := kc_e h
      refine ga_7_50 (o := 17) hX rfl m1_g hk7 dX7_image_264 ?_
      obtain ⟨hk8, h⟩ := kc_e h
      obtain ⟨P9, hP9, h⟩ := nb_e h
      refine pa_7_74 (o := 17) hX rfl m1_g hk8 (m1_w hP9) dX7_image_265 ?_
      refine r_aload_n hX rfl 0 rfl dX7_image_266 ?_
      refine gf_7_74 (o := 17) hX fl_X7_235 rfl m1_g dX7_image_267 ?_
      refine r_iload_n hX rfl 1 rfl dX7_image_270 ?_
      refine r_aload_n hX rfl 0 rfl dX7_image_271 ?_
      refine gf_7_50 (o := 17) hX fl_X7_162 rfl m1_g dX7_image_272 ?_
      refine r_iload_n hX rfl 1 rfl dX7_image_275 ?_
      obtain ⟨hk10, h⟩ := kc_e h
      refine ga_7_51 (o := 17) hX rfl m1_g hk10 dX7_image_276 ?_
      obtain ⟨hk11, h⟩ := kc_e h
      obtain ⟨P12, hP12, h⟩ := nb_e h
      refine pa_7_75 (o := 17) hX rfl m1_g hk11 (m1_w hP12) dX7_image_277 ?_
      refine r_iinc (v := v1 + 1) (L2 := [(1, .int (v1 + 1)), (0, .ref (gA G 17 0))]) hX 1 rfl rfl (by decide) rfl dX7_image_278 ?_
      refine r_goto hX dX7_image_281 ?_
      exact WW.sub [1, 0] rfl (hin1 _ (Option.some.inj h).symm)
  have K246 : ∀ (P : Pm) (_ : True), f_X7_image_J246 P = some (rz, Pz) → WW X G 2 (m1 σ 17 P) lm 246 [(0, .ref (gA G 17 0))] [] := by
    intro P _ h
    unfold f_X7_image_J246 at h
    refine r_iconst (v := 0) hX (by decide) dX7_image_246 ?_
    refine r_istore_n (L2 := [(1, .int 0), (0, .ref (gA G 17 0))]) hX rfl (by decide) rfl dX7_image_247 ?_
    exact WW.sub [1, 0] rfl (K248 P 0 trivial h)
  have K211 : ∀ (P : Pm) (v1 : Int32) (_ : True), f_X7_image_H211 P v1 = some (rz, Pz) → WW X G 2 (m1 σ 17 P) lm 211 [(0, .ref (gA G 17 0)), (1, .int v1)] [] := by
    intro P v1 _ h
    unfold f_X7_image_H211 at h
    obtain ⟨e_P, hit, hO⟩ := bn_e h
    refine iter_w (P := fun t : Int32 × Pm => WW X G 2 (m1 σ 17 t.2) lm 211 [(0, .ref (gA G 17 0)), (1, .int t.1)] []) (x := e_P) ?_ 200 (v1, P) hit
    clear hit
    intro t z1 hb hin1 hex1
    obtain ⟨v1, P⟩ := t
    have h : f_X7_image_B211 v1 P = some z1 := hb
    clear hb
    unfold f_X7_image_B211 at h
    refine r_iload_n hX rfl 1 rfl dX7_image_211 ?_
    refine r_iconst (v := 5) hX (by decide) dX7_image_212 ?_
    refine r_icmp_ge hX dX7_image_213 (fun hc => ?_) (fun hc => ?_)
    · replace h := ip_e hc h
      have g0 := hex1 _ (Option.some.inj h).symm
      subst g0
      exact WW.sub [0] rfl (K246 P trivial hO)
    · replace h := in_e hc h
      refine r_aload_n hX rfl 0 rfl dX7_image_216 ?_
      refine gf_7_71 (o := 17) hX fl_X7_226 rfl m1_g dX7_image_217 ?_
      refine r_iload_n hX rfl 1 rfl dX7_image_220 ?_
      refine r_aload_n hX rfl 0 rfl dX7_image_221 ?_
      refine gf_7_45 (o := 17) hX fl_X7_147 rfl m1_g dX7_image_222 ?_
      refine r_iload_n hX rfl 1 rfl dX7_image_225 ?_
      obtain ⟨hk13, h⟩ := kc_e h
      refine ga_7_46 (o := 17) hX rfl m1_g hk13 dX7_image_226 ?_
      obtain ⟨hk14, h⟩ := kc_e h
      obtain ⟨P15, hP15, h⟩ := nb_e h
      refine pa_7_72 (o := 17) hX rfl m1_g hk14 (m1_w hP15) dX7_image_227 ?_
      refine r_aload_n hX rfl 0 rfl dX7_image_228 ?_
      refine gf_7_72 (o := 17) hX fl_X7_229 rfl m1_g dX7_image_229 ?_
      refine r_iload_n hX rfl 1 rfl dX7_image_232 ?_
      refine r_aload_n hX rfl 0 rfl dX7_image_233 ?_
      refine gf_7_46 (o := 17) hX fl_X7_150 rfl m1_g dX7_image_234 ?_
      refine r_iload_n hX rfl 1 rfl dX7_image_237 ?_
      obtain ⟨hk16, h⟩ := kc_e h
      refine ga_7_47 (o := 17) hX rfl m1_g hk16 dX7_image_238 ?_
      obtain ⟨hk17, h⟩ := kc_e h
      obtain ⟨P18, hP18, h⟩ := nb_e h
      refine pa_7_73 (o := 17) hX rfl m1_g hk17 (m1_w hP18) dX7_image_239 ?_
      refine r_iinc (v := v1 + 1) (L2 := [(1, .int (v1 + 1)), (0, .ref (gA G 17 0))]) hX 1 rfl rfl (by decide) rfl dX7_image_240 ?_
      refine r_goto hX dX7_image_243 ?_
      exact WW.sub [1, 0] rfl (hin1 _ (Option.some.inj h).symm)
  have K209 : ∀ (P : Pm) (_ : True), f_X7_image_J209 P = some (rz, Pz) → WW X G 2 (m1 σ 17 P) lm 209 [(0, .ref (gA G 17 0))] [] := by
    intro P _ h
    unfold f_X7_image_J209 at h
    refine r_iconst (v := 0) hX (by decide) dX7_image_209 ?_
    refine r_istore_n (L2 := [(1, .int 0), (0, .ref (gA G 17 0))]) hX rfl (by decide) rfl dX7_image_210 ?_
    exact WW.sub [1, 0] rfl (K211 P 0 trivial h)
  have K185 : ∀ (P : Pm) (v1 : Int32) (_ : True), f_X7_image_H185 P v1 = some (rz, Pz) → WW X G 2 (m1 σ 17 P) lm 185 [(0, .ref (gA G 17 0)), (1, .int v1)] [] := by
    intro P v1 _ h
    unfold f_X7_image_H185 at h
    obtain ⟨e_P, hit, hO⟩ := bn_e h
    refine iter_w (P := fun t : Int32 × Pm => WW X G 2 (m1 σ 17 t.2) lm 185 [(0, .ref (gA G 17 0)), (1, .int t.1)] []) (x := e_P) ?_ 200 (v1, P) hit
    clear hit
    intro t z1 hb hin1 hex1
    obtain ⟨v1, P⟩ := t
    have h : f_X7_image_B185 v1 P = some z1 := hb
    clear hb
    unfold f_X7_image_B185 at h
    refine r_iload_n hX rfl 1 rfl dX7_image_185 ?_
    refine r_bipush (v := 24) hX (by decide) dX7_image_186 ?_
    refine r_icmp_ge hX dX7_image_188 (fun hc => ?_) (fun hc => ?_)
    · replace h := ip_e hc h
      have g0 := hex1 _ (Option.some.inj h).symm
      subst g0
      exact WW.sub [0] rfl (K209 P trivial hO)
    · replace h := in_e hc h
      refine r_aload_n hX rfl 0 rfl dX7_image_191 ?_
      refine gf_7_70 (o := 17) hX fl_X7_223 rfl m1_g dX7_image_192 ?_
      refine r_iload_n hX rfl 1 rfl dX7_image_195 ?_
      refine r_aload_n hX rfl 0 rfl dX7_image_196 ?_
      refine gf_7_11 (o := 17) hX fl_X7_44 rfl m1_g dX7_image_197 ?_
      refine r_iload_n hX rfl 1 rfl dX7_image_200 ?_
      obtain ⟨hk19, h⟩ := kc_e h
      refine ga_7_12 (o := 17) hX rfl m1_g hk19 dX7_image_201 ?_
      obtain ⟨hk20, h⟩ := kc_e h
      obtain ⟨P21, hP21, h⟩ := nb_e h
      refine pa_7_71 (o := 17) hX rfl m1_g hk20 (m1_w hP21) dX7_image_202 ?_
      refine r_iinc (v := v1 + 1) (L2 := [(1, .int (v1 + 1)), (0, .ref (gA G 17 0))]) hX 1 rfl rfl (by decide) rfl dX7_image_203 ?_
      refine r_goto hX dX7_image_206 ?_
      exact WW.sub [1, 0] rfl (hin1 _ (Option.some.inj h).symm)
  have K183 : ∀ (P : Pm) (_ : True), f_X7_image_J183 P = some (rz, Pz) → WW X G 2 (m1 σ 17 P) lm 183 [(0, .ref (gA G 17 0))] [] := by
    intro P _ h
    unfold f_X7_image_J183 at h
    refine r_iconst (v := 0) hX (by decide) dX7_image_183 ?_
    refine r_istore_n (L2 := [(1, .int 0), (0, .ref (gA G 17 0))]) hX rfl (by decide) rfl dX7_image_184 ?_
    exact WW.sub [1, 0] rfl (K185 P 0 trivial h)
  have K63 : ∀ (P : Pm) (v1 : Int32) (_ : True), f_X7_image_H63 P v1 = some (rz, Pz) → WW X G 2 (m1 σ 17 P) lm 63 [(0, .ref (gA G 17 0)), (1, .int v1)] [] := by
    intro P v1 _ h
    unfold f_X7_image_H63 at h
    obtain ⟨e_P, hit, hO⟩ := bn_e h
    refine iter_w (P := fun t : Int32 × Pm => WW X G 2 (m1 σ 17 t.2) lm 63 [(0, .ref (gA G 17 0)), (1, .int t.1)] []) (x := e_P) ?_ 200 (v1, P) hit
    clear hit
    intro t z1 hb hin1 hex1
    obtain ⟨v1, P⟩ := t
    have h : f_X7_image_B63 v1 P = some z1 := hb
    clear hb
    unfold f_X7_image_B63 at h
    refine r_iload_n hX rfl 1 rfl dX7_image_63 ?_
    refine r_bipush (v := 6) hX (by decide) dX7_image_64 ?_
    refine r_icmp_ge hX dX7_image_66 (fun hc => ?_) (fun hc => ?_)
    · replace h := ip_e hc h
      have g0 := hex1 _ (Option.some.inj h).symm
      subst g0
      exact WW.sub [0] rfl (K183 P trivial hO)
    · replace h := in_e hc h
      refine r_aload_n hX rfl 0 rfl dX7_image_69 ?_
      refine gf_7_61 (o := 17) hX fl_X7_196 rfl m1_g dX7_image_70 ?_
      refine r_iload_n hX rfl 1 rfl dX7_image_73 ?_
      refine r_aload_n hX rfl 0 rfl dX7_image_74 ?_
      refine gf_7_3 (o := 17) hX fl_X7_19 rfl m1_g dX7_image_75 ?_
      refine r_iload_n hX rfl 1 rfl dX7_image_78 ?_
      obtain ⟨hk22, h⟩ := kc_e h
      refine ga_7_4 (o := 17) hX rfl m1_g hk22 dX7_image_79 ?_
      obtain ⟨hk23, h⟩ := kc_e h
      obtain ⟨P24, hP24, h⟩ := nb_e h
      refine pa_7_62 (o := 17) hX rfl m1_g hk23 (m1_w hP24) dX7_image_80 ?_
      refine r_aload_n hX rfl 0 rfl dX7_image_81 ?_
      refine gf_7_62 (o := 17) hX fl_X7_199 rfl m1_g dX7_image_82 ?_
      refine r_iload_n hX rfl 1 rfl dX7_image_85 ?_
      refine r_aload_n hX rfl 0 rfl dX7_image_86 ?_
      refine gf_7_4 (o := 17) hX fl_X7_23 rfl m1_g dX7_image_87 ?_
      refine r_iload_n hX rfl 1 rfl dX7_image_90 ?_
      obtain ⟨hk25, h⟩ := kc_e h
      refine ga_7_5 (o := 17) hX rfl m1_g hk25 dX7_image_91 ?_
      obtain ⟨hk26, h⟩ := kc_e h
      obtain ⟨P27, hP27, h⟩ := nb_e h
      refine pa_7_63 (o := 17) hX rfl m1_g hk26 (m1_w hP27) dX7_image_92 ?_
      refine r_aload_n hX rfl 0 rfl dX7_image_93 ?_
      refine gf_7_63 (o := 17) hX fl_X7_202 rfl m1_g dX7_image_94 ?_
      refine r_iload_n hX rfl 1 rfl dX7_image_97 ?_
      refine r_aload_n hX rfl 0 rfl dX7_image_98 ?_
      refine gf_7_5 (o := 17) hX fl_X7_26 rfl m1_g dX7_image_99 ?_
      refine r_iload_n hX rfl 1 rfl dX7_image_102 ?_
      obtain ⟨hk28, h⟩ := kc_e h
      refine ga_7_6 (o := 17) hX rfl m1_g hk28 dX7_image_103 ?_
      obtain ⟨hk29, h⟩ := kc_e h
      obtain ⟨P30, hP30, h⟩ := nb_e h
      refine pa_7_64 (o := 17) hX rfl m1_g hk29 (m1_w hP30) dX7_image_104 ?_
      refine r_aload_n hX rfl 0 rfl dX7_image_105 ?_
      refine gf_7_64 (o := 17) hX fl_X7_205 rfl m1_g dX7_image_106 ?_
      refine r_iload_n hX rfl 1 rfl dX7_image_109 ?_
      refine r_aload_n hX rfl 0 rfl dX7_image_110 ?_
      refine gf_7_6 (o := 17) hX fl_X7_29 rfl m1_g dX7_image_111 ?_
      refine r_iload_n hX rfl 1 rfl dX7_image_114 ?_
      obtain ⟨hk31, h⟩ := kc_e h
      refine ga_7_7 (o := 17) hX rfl m1_g hk31 dX7_image_115 ?_
      obtain ⟨hk32, h⟩ := kc_e h
      obtain ⟨P33, hP33, h⟩ := nb_e h
      refine pa_7_65 (o := 17) hX rfl m1_g hk32 (m1_w hP33) dX7_image_116 ?_
      refine r_aload_n hX rfl 0 rfl dX7_image_117 ?_
      refine gf_7_65 (o := 17) hX fl_X7_208 rfl m1_g dX7_image_118 ?_
      refine r_iload_n hX rfl 1 rfl dX7_image_121 ?_
      refine r_aload_n hX rfl 0 rfl dX7_image_122 ?_
      refine gf_7_7 (o := 17) hX fl_X7_32 rfl m1_g dX7_image_123 ?_
      refine r_iload_n hX rfl 1 rfl dX7_image_126 ?_
      obtain ⟨hk34, h⟩ := kc_e h
      refine ga_7_8 (o := 17) hX rfl m1_g hk34 dX7_image_127 ?_
      obtain ⟨hk35, h⟩ := kc_e h
      obtain ⟨P36, hP36, h⟩ := nb_e h
      refine pa_7_66 (o := 17) hX rfl m1_g hk35 (m1_w hP36) dX7_image_128 ?_
      refine r_aload_n hX rfl 0 rfl dX7_image_129 ?_
      refine gf_7_66 (o := 17) hX fl_X7_211 rfl m1_g dX7_image_130 ?_
      refine r_iload_n hX rfl 1 rfl dX7_image_133 ?_
      refine r_aload_n hX rfl 0 rfl dX7_image_134 ?_
      refine gf_7_8 (o := 17) hX fl_X7_35 rfl m1_g dX7_image_135 ?_
      refine r_iload_n hX rfl 1 rfl dX7_image_138 ?_
      obtain ⟨hk37, h⟩ := kc_e h
      refine ga_7_9 (o := 17) hX rfl m1_g hk37 dX7_image_139 ?_
      obtain ⟨hk38, h⟩ := kc_e h
      obtain ⟨P39, hP39, h⟩ := nb_e h
      refine pa_7_67 (o := 17) hX rfl m1_g hk38 (m1_w hP39) dX7_image_140 ?_
      refine r_aload_n hX rfl 0 rfl dX7_image_141 ?_
      refine gf_7_67 (o := 17) hX fl_X7_214 rfl m1_g dX7_image_142 ?_
      refine r_iload_n hX rfl 1 rfl dX7_image_145 ?_
      refine r_aload_n hX rfl 0 rfl dX7_image_146 ?_
      refine gf_7_9 (o := 17) hX fl_X7_38 rfl m1_g dX7_image_147 ?_
      refine r_iload_n hX rfl 1 rfl dX7_image_150 ?_
      obtain ⟨hk40, h⟩ := kc_e h
      refine ga_7_10 (o := 17) hX rfl m1_g hk40 dX7_image_151 ?_
      obtain ⟨hk41, h⟩ := kc_e h
      obtain ⟨P42, hP42, h⟩ := nb_e h
      refine pa_7_68 (o := 17) hX rfl m1_g hk41 (m1_w hP42) dX7_image_152 ?_
      refine r_aload_n hX rfl 0 rfl dX7_image_153 ?_
      refine gf_7_68 (o := 17) hX fl_X7_217 rfl m1_g dX7_image_154 ?_
      refine r_iload_n hX rfl 1 rfl dX7_image_157 ?_
      refine r_aload_n hX rfl 0 rfl dX7_image_158 ?_
      refine gf_7_10 (o := 17) hX fl_X7_41 rfl m1_g dX7_image_159 ?_
      refine r_iload_n hX rfl 1 rfl dX7_image_162 ?_
      obtain ⟨hk43, h⟩ := kc_e h
      refine ga_7_11 (o := 17) hX rfl m1_g hk43 dX7_image_163 ?_
      obtain ⟨hk44, h⟩ := kc_e h
      obtain ⟨P45, hP45, h⟩ := nb_e h
      refine pa_7_69 (o := 17) hX rfl m1_g hk44 (m1_w hP45) dX7_image_164 ?_
      refine r_aload_n hX rfl 0 rfl dX7_image_165 ?_
      refine gf_7_69 (o := 17) hX fl_X7_220 rfl m1_g dX7_image_166 ?_
      refine r_iload_n hX rfl 1 rfl dX7_image_169 ?_
      refine r_aload_n hX rfl 0 rfl dX7_image_170 ?_
      refine gf_7_12 (o := 17) hX fl_X7_47 rfl m1_g dX7_image_171 ?_
      refine r_iload_n hX rfl 1 rfl dX7_image_174 ?_
      obtain ⟨hk46, h⟩ := kc_e h
      refine ga_7_13 (o := 17) hX rfl m1_g hk46 dX7_image_175 ?_
      obtain ⟨hk47, h⟩ := kc_e h
      obtain ⟨P48, hP48, h⟩ := nb_e h
      refine pa_7_70 (o := 17) hX rfl m1_g hk47 (m1_w hP48) dX7_image_176 ?_
      refine r_iinc (v := v1 + 1) (L2 := [(1, .int (v1 + 1)), (0, .ref (gA G 17 0))]) hX 1 rfl rfl (by decide) rfl dX7_image_177 ?_
      refine r_goto hX dX7_image_180 ?_
      exact WW.sub [1, 0] rfl (hin1 _ (Option.some.inj h).symm)
  unfold f_X7_image at h
  refine r_aload_n hX rfl 0 rfl dX7_image_0 ?_
  refine r_iconst (v := 1) hX (by decide) dX7_image_1 ?_
  obtain ⟨P49, hP49, h⟩ := nb_e h
  refine pf_7_53 (o := 17) (Or.inr rfl) hX fl_X7_171 rfl m1_g dX7_image_2 (m1_w hP49) ?_
  refine r_aload_n hX rfl 0 rfl dX7_image_5 ?_
  refine r_aload_n hX rfl 0 rfl dX7_image_6 ?_
  refine gf_7_14 (o := 17) hX fl_X7_53 rfl m1_g dX7_image_7 ?_
  obtain ⟨P50, hP50, h⟩ := nb_e h
  refine pf_7_54 (o := 17) hX fl_X7_175 rfl m1_g dX7_image_10 (m1_w hP50) ?_
  refine r_aload_n hX rfl 0 rfl dX7_image_13 ?_
  refine r_aload_n hX rfl 0 rfl dX7_image_14 ?_
  refine gf_7_0 (o := 17) hX fl_X7_7 rfl m1_g dX7_image_15 ?_
  obtain ⟨P51, hP51, h⟩ := nb_e h
  refine pf_7_55 (o := 17) hX fl_X7_178 rfl m1_g dX7_image_18 (m1_w hP51) ?_
  refine r_aload_n hX rfl 0 rfl dX7_image_21 ?_
  refine r_aload_n hX rfl 0 rfl dX7_image_22 ?_
  refine gf_7_1 (o := 17) hX fl_X7_13 rfl m1_g dX7_image_23 ?_
  obtain ⟨P52, hP52, h⟩ := nb_e h
  refine pf_7_56 (o := 17) hX fl_X7_181 rfl m1_g dX7_image_26 (m1_w hP52) ?_
  refine r_aload_n hX rfl 0 rfl dX7_image_29 ?_
  refine r_aload_n hX rfl 0 rfl dX7_image_30 ?_
  refine gf_7_2 (o := 17) hX fl_X7_16 rfl m1_g dX7_image_31 ?_
  obtain ⟨P53, hP53, h⟩ := nb_e h
  refine pf_7_57 (o := 17) hX fl_X7_184 rfl m1_g dX7_image_34 (m1_w hP53) ?_
  refine r_aload_n hX rfl 0 rfl dX7_image_37 ?_
  refine r_aload_n hX rfl 0 rfl dX7_image_38 ?_
  refine gf_7_44 (o := 17) hX fl_X7_144 rfl m1_g dX7_image_39 ?_
  obtain ⟨P54, hP54, h⟩ := nb_e h
  refine pf_7_58 (o := 17) hX fl_X7_187 rfl m1_g dX7_image_42 (m1_w hP54) ?_
  refine r_aload_n hX rfl 0 rfl dX7_image_45 ?_
  refine r_aload_n hX rfl 0 rfl dX7_image_46 ?_
  refine gf_7_47 (o := 17) hX fl_X7_153 rfl m1_g dX7_image_47 ?_
  obtain ⟨P55, hP55, h⟩ := nb_e h
  refine pf_7_59 (o := 17) hX fl_X7_190 rfl m1_g dX7_image_50 (m1_w hP55) ?_
  refine r_aload_n hX rfl 0 rfl dX7_image_53 ?_
  refine r_aload_n hX rfl 0 rfl dX7_image_54 ?_
  refine gf_7_48 (o := 17) hX fl_X7_156 rfl m1_g dX7_image_55 ?_
  obtain ⟨P56, hP56, h⟩ := nb_e h
  refine pf_7_60 (o := 17) hX fl_X7_193 rfl m1_g dX7_image_58 (m1_w hP56) ?_
  refine r_iconst (v := 0) hX (by decide) dX7_image_61 ?_
  refine r_istore_n (L2 := [(1, .int 0), (0, .ref (gA G 17 0))]) hX rfl (by decide) rfl dX7_image_62 ?_
  exact WW.sub [1, 0] rfl (K63 P56 0 trivial h)
abbrev rm_X7_undo : Room := { frames := 0, cells := 0, slots := 0, locals := 60 }
def f_X7_undo_J327 (P : Pm) : Option (Int32 × Pm) :=
  some ((P 0 1), P)
def f_X7_undo_B291 (v1 : Int32) (P : Pm) : Option ((Int32 × Pm) ⊕ (Pm)) :=
  (if 8 ≤ v1 then some (.inr P) else (if inb v1 8 = true then (if inb v1 8 = true then nb (up2 P 52 (ix v1) (P 76 (ix v1))) (fun P3 => (if inb v1 8 = true then (if inb v1 8 = true then nb (up2 P3 53 (ix v1) (P3 77 (ix v1))) (fun P6 => some (.inl ((v1 + 1), P6))) else none) else none)) else none) else none))
def f_X7_undo_H291 (P : Pm) (v1 : Int32) : Option (Int32 × Pm) :=
  Option.bind (iter (fun t => f_X7_undo_B291 t.1 t.2) 200 (v1, P)) (fun P => f_X7_undo_J327 P)
def f_X7_undo_J289 (P : Pm) : Option (Int32 × Pm) :=
  f_X7_undo_H291 P 0
def f_X7_undo_B253 (v1 : Int32) (P : Pm) : Option ((Int32 × Pm) ⊕ (Pm)) :=
  (if 10 ≤ v1 then some (.inr P) else (if inb v1 10 = true then (if inb v1 10 = true then nb (up2 P 50 (ix v1) (P 74 (ix v1))) (fun P9 => (if inb v1 10 = true then (if inb v1 10 = true then nb (up2 P9 51 (ix v1) (P9 75 (ix v1))) (fun P12 => some (.inl ((v1 + 1), P12))) else none) else none)) else none) else none))
def f_X7_undo_H253 (P : Pm) (v1 : Int32) : Option (Int32 × Pm) :=
  Option.bind (iter (fun t => f_X7_undo_B253 t.1 t.2) 200 (v1, P)) (fun P => f_X7_undo_J289 P)
def f_X7_undo_J251 (P : Pm) : Option (Int32 × Pm) :=
  f_X7_undo_H253 P 0
def f_X7_undo_B216 (v1 : Int32) (P : Pm) : Option ((Int32 × Pm) ⊕ (Pm)) :=
  (if 5 ≤ v1 then some (.inr P) else (if inb v1 5 = true then (if inb v1 5 = true then nb (up2 P 46 (ix v1) (P 72 (ix v1))) (fun P15 => (if inb v1 5 = true then (if inb v1 5 = true then nb (up2 P15 47 (ix v1) (P15 73 (ix v1))) (fun P18 => some (.inl ((v1 + 1), P18))) else none) else none)) else none) else none))
def f_X7_undo_H216 (P : Pm) (v1 : Int32) : Option (Int32 × Pm) :=
  Option.bind (iter (fun t => f_X7_undo_B216 t.1 t.2) 200 (v1, P)) (fun P => f_X7_undo_J251 P)
def f_X7_undo_J214 (P : Pm) : Option (Int32 × Pm) :=
  f_X7_undo_H216 P 0
def f_X7_undo_B190 (v1 : Int32) (P : Pm) : Option ((Int32 × Pm) ⊕ (Pm)) :=
  (if 24 ≤ v1 then some (.inr P) else (if inb v1 24 = true then (if inb v1 24 = true then nb (up2 P 12 (ix v1) (P 71 (ix v1))) (fun P21 => some (.inl ((v1 + 1), P21))) else none) else none))
def f_X7_undo_H190 (P : Pm) (v1 : Int32) : Option (Int32 × Pm) :=
  Option.bind (iter (fun t => f_X7_undo_B190 t.1 t.2) 200 (v1, P)) (fun P => f_X7_undo_J214 P)
def f_X7_undo_J188 (P : Pm) : Option (Int32 × Pm) :=
  f_X7_undo_H190 P 0
def f_X7_undo_B68 (v1 : Int32) (P : Pm) : Option ((Int32 × Pm) ⊕ (Pm)) :=
  (if 6 ≤ v1 then some (.inr P) else (if inb v1 6 = true then (if inb v1 6 = true then nb (up2 P 4 (ix v1) (P 62 (ix v1))) (fun P24 => (if inb v1 6 = true then (if inb v1 6 = true then nb (up2 P24 5 (ix v1) (P24 63 (ix v1))) (fun P27 => (if inb v1 6 = true then (if inb v1 6 = true then nb (up2 P27 6 (ix v1) (P27 64 (ix v1))) (fun P30 => (if inb v1 6 = true then (if inb v1 6 = true then nb (up2 P30 7 (ix v1) (P30 65 (ix v1))) (fun P33 => (if inb v1 6 = true then (if inb v1 6 = true then nb (up2 P33 8 (ix v1) (P33 66 (ix v1))) (fun P36 => (if inb v1 6 = true then (if inb v1 6 = true then nb (up2 P36 9 (ix v1) (P36 67 (ix v1))) (fun P39 => (if inb v1 6 = true then (if inb v1 6 = true then nb (up2 P39 10 (ix v1) (P39 68 (ix v1))) (fun P42 => (if inb v1 6 = true then (if inb v1 6 = true then nb (up2 P42 11 (ix v1) (P42 69 (ix v1))) (fun P45 => (if inb v1 6 = true then (if inb v1 6 = true then nb (up2 P45 13 (ix v1) (P45 70 (ix v1))) (fun P48 => some (.inl ((v1 + 1), P48))) else none) else none)) else none) else none)) else none) else none)) else none) else none)) else none) else none)) else none) else none)) else none) else none)) else none) else none)) else none) else none))
def f_X7_undo_H68 (P : Pm) (v1 : Int32) : Option (Int32 × Pm) :=
  Option.bind (iter (fun t => f_X7_undo_B68 t.1 t.2) 200 (v1, P)) (fun P => f_X7_undo_J188 P)
def f_X7_undo (P : Pm) : Option (Int32 × Pm) :=
  (if (P 0 53) = 0 then some ((-3), P) else nb (up2 P 0 14 (P 0 54)) (fun P49 => nb (up2 P49 0 0 (P49 0 55)) (fun P50 => nb (up2 P50 0 1 (P50 0 56)) (fun P51 => nb (up2 P51 0 2 (P51 0 57)) (fun P52 => nb (up2 P52 0 44 (P52 0 58)) (fun P53 => nb (up2 P53 0 47 (P53 0 59)) (fun P54 => nb (up2 P54 0 48 (P54 0 60)) (fun P55 => f_X7_undo_H68 P55 0))))))))
set_option maxHeartbeats 4000000 in
set_option maxRecDepth 100000 in
theorem c_X7_undo (l : Launch) (G : GE) {σ : Mm} {lm : Ml}  {P : Pm} {rz : Int32} {Pz : Pm} (h : f_X7_undo P = some (rz, Pz)) : CM l G yX7_undo bX7_undo 2 (Option.some Jvm.ClassFile.FieldType.int) rm_X7_undo [.ref (gA G 17 0)] (m1 σ 17 P) lm (some (.int rz)) (m1 σ 17 Pz) lm := by
  refine CM.of (own := zR7) (L0 := [(0, .ref (gA G 17 0))]) (by decide +kernel) rfl (Nat.le_of_ble_eq_true rfl) rfl (fun X hl hX hR hQ => ?_)
  have K327 : ∀ (P : Pm) (_ : True), f_X7_undo_J327 P = some (rz, Pz) → WW X G 2 (m1 σ 17 P) lm 327 [(0, .ref (gA G 17 0))] [] := by
    intro P _ h
    unfold f_X7_undo_J327 at h
    refine r_aload_n hX rfl 0 rfl dX7_undo_327 ?_
    refine gf_7_1 (o := 17) hX fl_X7_13 rfl m1_g dX7_undo_328 ?_
    have g0 := Option.some.inj h
    obtain ⟨q0, g1⟩ := Prod.mk.inj g0
    subst q0
    subst g1
    exact r_iret hX hQ dX7_undo_331
  have K291 : ∀ (P : Pm) (v1 : Int32) (_ : True), f_X7_undo_H291 P v1 = some (rz, Pz) → WW X G 2 (m1 σ 17 P) lm 291 [(0, .ref (gA G 17 0)), (1, .int v1)] [] := by
    intro P v1 _ h
    unfold f_X7_undo_H291 at h
    obtain ⟨e_P, hit, hO⟩ := bn_e h
    refine iter_w (P := fun t : Int32 × Pm => WW X G 2 (m1 σ 17 t.2) lm 291 [(0, .ref (gA G 17 0)), (1, .int t.1)] []) (x := e_P) ?_ 200 (v1, P) hit
    clear hit
    intro t z1 hb hin1 hex1
    obtain ⟨v1, P⟩ := t
    have h : f_X7_undo_B291 v1 P = some z1 := hb
    clear hb
    unfold f_X7_undo_B291 at h
    refine r_iload_n hX rfl 1 rfl dX7_undo_291 ?_
    refine r_bipush (v := 8) hX (by decide) dX7_undo_292 ?_
    refine r_icmp_ge hX dX7_undo_294 (fun hc => ?_) (fun hc => ?_)
    · replace h := ip_e hc h
      have g0 := hex1 _ (Option.some.inj h).symm
      subst g0
      exact WW.sub [0] rfl (K327 P trivial hO)
    · replace h := in_e hc h
      refine r_aload_n hX rfl 0 rfl dX7_undo_297 ?_
      refine gf_7_51 (o := 17) hX fl_X7_165 rfl m1_g dX7_undo_298 ?_
      refine r_iload_n hX rfl 1 rfl dX7_undo_301 ?_
      refine r_aload_n hX rfl 0 rfl dX7_undo_302 ?_
      refine gf_7_75 (o := 17) hX fl_X7_238 rfl m1_g dX7_undo_303 ?_
      refine r_iload_n hX rfl 1 rfl dX7_undo_306 ?_
      obtain ⟨hk1, h⟩ := kc_e h
      refine ga_7_76 (o := 17) hX rfl m1_g hk1 dX7_undo_307 ?_
      obtain ⟨hk2, h⟩ := kc_e h
      obtain ⟨P3, hP3, h⟩ := nb_e h
      refine pa_7_52 (o := 17) hX rfl m1_g hk2 (m1_w hP3) dX7_undo_308 ?_
      refine r_aload_n hX rfl 0 rfl dX7_undo_309 ?_
      refine gf_7_52 (o := 17) hX fl_X7_168 rfl m1_g dX7_undo_310 ?_
      refine r_iload_n hX rfl 1 rfl dX7_undo_313 ?_
      refine r_aload_n hX rfl 0 rfl dX7_undo_314 ?_
      refine gf_7_76 (o := 17) hX fl_X7_241 rfl m1_g dX7_undo_315 ?_
      refine r_iload_n hX rfl 1 rfl dX7_undo_318 ?_
      obtain ⟨hk4, h⟩ := kc_e h
      refine ga_7_77 (o := 17) hX rfl m1_g hk4 dX7_undo_319 ?_
      obtain ⟨hk5, h⟩ := kc_e h
      obtain ⟨P6, hP6, h⟩ := nb_e h
      refine pa_7_53 (o := 17) hX rfl m1_g hk5 (m1_w hP6) dX7_undo_320 ?_
      refine r_iinc (v := v1 + 1) (L2 := [(1, .int (v1 + 1)), (0, .ref (gA G 17 0))]) hX 1 rfl rfl (by decide) rfl dX7_undo_321 ?_
      refine r_goto hX dX7_undo_324 ?_
      exact WW.sub [1, 0] rfl (hin1 _ (Option.some.inj h).symm)
  have K289 : ∀ (P : Pm) (_ : True), f_X7_undo_J289 P = some (rz, Pz) → WW X G 2 (m1 σ 17 P) lm 289 [(0, .ref (gA G 17 0))] [] := by
    intro P _ h
    unfold f_X7_undo_J289 at h
    refine r_iconst (v := 0) hX (by decide) dX7_undo_289 ?_
    refine r_istore_n (L2 := [(1, .int 0), (0, .ref (gA G 17 0))]) hX rfl (by decide) rfl dX7_undo_290 ?_
    exact WW.sub [1, 0] rfl (K291 P 0 trivial h)
  have K253 : ∀ (P : Pm) (v1 : Int32) (_ : True), f_X7_undo_H253 P v1 = some (rz, Pz) → WW X G 2 (m1 σ 17 P) lm 253 [(0, .ref (gA G 17 0)), (1, .int v1)] [] := by
    intro P v1 _ h
    unfold f_X7_undo_H253 at h
    obtain ⟨e_P, hit, hO⟩ := bn_e h
    refine iter_w (P := fun t : Int32 × Pm => WW X G 2 (m1 σ 17 t.2) lm 253 [(0, .ref (gA G 17 0)), (1, .int t.1)] []) (x := e_P) ?_ 200 (v1, P) hit
    clear hit
    intro t z1 hb hin1 hex1
    obtain ⟨v1, P⟩ := t
    have h : f_X7_undo_B253 v1 P = some z1 := hb
    clear hb
    unfold f_X7_undo_B253 at h
    refine r_iload_n hX rfl 1 rfl dX7_undo_253 ?_
    refine r_bipush (v := 10) hX (by decide) dX7_undo_254 ?_
    refine r_icmp_ge hX dX7_undo_256 (fun hc => ?_) (fun hc => ?_)
    · replace h := ip_e hc h
      have g0 := hex1 _ (Option.some.inj h).symm
      subst g0
      exact WW.sub [0] rfl (K289 P trivial hO)
    · replace h := in_e hc h
      refine r_aload_n hX rfl 0 rfl dX7_undo_259 ?_
      refine gf_7_49 (o := 17) hX fl_X7_159 rfl m1_g dX7_undo_260 ?_
      refine r_iload_n hX rfl 1 rfl dX7_undo_263 ?_
      refine r_aload_n hX rfl 0 rfl dX7_undo_264 ?_
      refine gf_7_73 (o := 17) hX fl_X7_232 rfl m1_g dX7_undo_265 ?_
      refine r_iload_n hX rfl 1 rfl dX7_undo_268 ?_
      obtain ⟨hk7, h⟩ := kc_e h
      refine ga_7_74 (o := 17) hX rfl m1_g hk7 dX7_undo_269 ?_
      obtain ⟨hk8, h⟩ := kc_e h
      obtain ⟨P9, hP9, h⟩ := nb_e h
      refine pa_7_50 (o := 17) hX rfl m1_g hk8 (m1_w hP9) dX7_undo_270 ?_
      refine r_aload_n hX rfl 0 rfl dX7_undo_271 ?_
      refine gf_7_50 (o := 17) hX fl_X7_162 rfl m1_g dX7_undo_272 ?_
      refine r_iload_n hX rfl 1 rfl dX7_undo_275 ?_
      refine r_aload_n hX rfl 0 rfl dX7_undo_276 ?_
      refine gf_7_74 (o := 17) hX fl_X7_235 rfl m1_g dX7_undo_277 ?_
      refine r_iload_n hX rfl 1 rfl dX7_undo_280 ?_
      obtain ⟨hk10, h⟩ := kc_e h
      refine ga_7_75 (o := 17) hX rfl m1_g hk10 dX7_undo_281 ?_
      obtain ⟨hk11, h⟩ := kc_e h
      obtain ⟨P12, hP12, h⟩ := nb_e h
      refine pa_7_51 (o := 17) hX rfl m1_g hk11 (m1_w hP12) dX7_undo_282 ?_
      refine r_iinc (v := v1 + 1) (L2 := [(1, .int (v1 + 1)), (0, .ref (gA G 17 0))]) hX 1 rfl rfl (by decide) rfl dX7_undo_283 ?_
      refine r_goto hX dX7_undo_286 ?_
      exact WW.sub [1, 0] rfl (hin1 _ (Option.some.inj h).symm)
  have K251 : ∀ (P : Pm) (_ : True), f_X7_undo_J251 P = some (rz, Pz) → WW X G 2 (m1 σ 17 P) lm 251 [(0, .ref (gA G 17 0))] [] := by
    intro P _ h
    unfold f_X7_undo_J251 at h
    refine r_iconst (v := 0) hX (by decide) dX7_undo_251 ?_
    refine r_istore_n (L2 := [(1, .int 0), (0, .ref (gA G 17 0))]) hX rfl (by decide) rfl dX7_undo_252 ?_
    exact WW.sub [1, 0] rfl (K253 P 0 trivial h)
  have K216 : ∀ (P : Pm) (v1 : Int32) (_ : True), f_X7_undo_H216 P v1 = some (rz, Pz) → WW X G 2 (m1 σ 17 P) lm 216 [(0, .ref (gA G 17 0)), (1, .int v1)] [] := by
    intro P v1 _ h
    unfold f_X7_undo_H216 at h
    obtain ⟨e_P, hit, hO⟩ := bn_e h
    refine iter_w (P := fun t : Int32 × Pm => WW X G 2 (m1 σ 17 t.2) lm 216 [(0, .ref (gA G 17 0)), (1, .int t.1)] []) (x := e_P) ?_ 200 (v1, P) hit
    clear hit
    intro t z1 hb hin1 hex1
    obtain ⟨v1, P⟩ := t
    have h : f_X7_undo_B216 v1 P = some z1 := hb
    clear hb
    unfold f_X7_undo_B216 at h
    refine r_iload_n hX rfl 1 rfl dX7_undo_216 ?_
    refine r_iconst (v := 5) hX (by decide) dX7_undo_217 ?_
    refine r_icmp_ge hX dX7_undo_218 (fun hc => ?_) (fun hc => ?_)
    · replace h := ip_e hc h
      have g0 := hex1 _ (Option.some.inj h).symm
      subst g0
      exact WW.sub [0] rfl (K251 P trivial hO)
    · replace h := in_e hc h
      refine r_aload_n hX rfl 0 rfl dX7_undo_221 ?_
      refine gf_7_45 (o := 17) hX fl_X7_147 rfl m1_g dX7_undo_222 ?_
      refine r_iload_n hX rfl 1 rfl dX7_undo_225 ?_
      refine r_aload_n hX rfl 0 rfl dX7_undo_226 ?_
      refine gf_7_71 (o := 17) hX fl_X7_226 rfl m1_g dX7_undo_227 ?_
      refine r_iload_n hX rfl 1 rfl dX7_undo_230 ?_
      obtain ⟨hk13, h⟩ := kc_e h
      refine ga_7_72 (o := 17) hX rfl m1_g hk13 dX7_undo_231 ?_
      obtain ⟨hk14, h⟩ := kc_e h
      obtain ⟨P15, hP15, h⟩ := nb_e h
      refine pa_7_46 (o := 17) hX rfl m1_g hk14 (m1_w hP15) dX7_undo_232 ?_
      refine r_aload_n hX rfl 0 rfl dX7_undo_233 ?_
      refine gf_7_46 (o := 17) hX fl_X7_150 rfl m1_g dX7_undo_234 ?_
      refine r_iload_n hX rfl 1 rfl dX7_undo_237 ?_
      refine r_aload_n hX rfl 0 rfl dX7_undo_238 ?_
      refine gf_7_72 (o := 17) hX fl_X7_229 rfl m1_g dX7_undo_239 ?_
      refine r_iload_n hX rfl 1 rfl dX7_undo_242 ?_
      obtain ⟨hk16, h⟩ := kc_e h
      refine ga_7_73 (o := 17) hX rfl m1_g hk16 dX7_undo_243 ?_
      obtain ⟨hk17, h⟩ := kc_e h
      obtain ⟨P18, hP18, h⟩ := nb_e h
      refine pa_7_47 (o := 17) hX rfl m1_g hk17 (m1_w hP18) dX7_undo_244 ?_
      refine r_iinc (v := v1 + 1) (L2 := [(1, .int (v1 + 1)), (0, .ref (gA G 17 0))]) hX 1 rfl rfl (by decide) rfl dX7_undo_245 ?_
      refine r_goto hX dX7_undo_248 ?_
      exact WW.sub [1, 0] rfl (hin1 _ (Option.some.inj h).symm)
  have K214 : ∀ (P : Pm) (_ : True), f_X7_undo_J214 P = some (rz, Pz) → WW X G 2 (m1 σ 17 P) lm 214 [(0, .ref (gA G 17 0))] [] := by
    intro P _ h
    unfold f_X7_undo_J214 at h
    refine r_iconst (v := 0) hX (by decide) dX7_undo_214 ?_
    refine r_istore_n (L2 := [(1, .int 0), (0, .ref (gA G 17 0))]) hX rfl (by decide) rfl dX7_undo_215 ?_
    exact WW.sub [1, 0] rfl (K216 P 0 trivial h)
  have K190 : ∀ (P : Pm) (v1 : Int32) (_ : True), f_X7_undo_H190 P v1 = some (rz, Pz) → WW X G 2 (m1 σ 17 P) lm 190 [(0, .ref (gA G 17 0)), (1, .int v1)] [] := by
    intro P v1 _ h
    unfold f_X7_undo_H190 at h
    obtain ⟨e_P, hit, hO⟩ := bn_e h
    refine iter_w (P := fun t : Int32 × Pm => WW X G 2 (m1 σ 17 t.2) lm 190 [(0, .ref (gA G 17 0)), (1, .int t.1)] []) (x := e_P) ?_ 200 (v1, P) hit
    clear hit
    intro t z1 hb hin1 hex1
    obtain ⟨v1, P⟩ := t
    have h : f_X7_undo_B190 v1 P = some z1 := hb
    clear hb
    unfold f_X7_undo_B190 at h
    refine r_iload_n hX rfl 1 rfl dX7_undo_190 ?_
    refine r_bipush (v := 24) hX (by decide) dX7_undo_191 ?_
    refine r_icmp_ge hX dX7_undo_193 (fun hc => ?_) (fun hc => ?_)
    · replace h := ip_e hc h
      have g0 := hex1 _ (Option.some.inj h).symm
      subst g0
      exact WW.sub [0] rfl (K214 P trivial hO)
    · replace h := in_e hc h
      refine r_aload_n hX rfl 0 rfl dX7_undo_196 ?_
      refine gf_7_11 (o := 17) hX fl_X7_44 rfl m1_g dX7_undo_197 ?_
      refine r_iload_n hX rfl 1 rfl dX7_undo_200 ?_
      refine r_aload_n hX rfl 0 rfl dX7_undo_201 ?_
      refine gf_7_70 (o := 17) hX fl_X7_223 rfl m1_g dX7_undo_202 ?_
      refine r_iload_n hX rfl 1 rfl dX7_undo_205 ?_
      obtain ⟨hk19, h⟩ := kc_e h
      refine ga_7_71 (o := 17) hX rfl m1_g hk19 dX7_undo_206 ?_
      obtain ⟨hk20, h⟩ := kc_e h
      obtain ⟨P21, hP21, h⟩ := nb_e h
      refine pa_7_12 (o := 17) hX rfl m1_g hk20 (m1_w hP21) dX7_undo_207 ?_
      refine r_iinc (v := v1 + 1) (L2 := [(1, .int (v1 + 1)), (0, .ref (gA G 17 0))]) hX 1 rfl rfl (by decide) rfl dX7_undo_208 ?_
      refine r_goto hX dX7_undo_211 ?_
      exact WW.sub [1, 0] rfl (hin1 _ (Option.some.inj h).symm)
  have K188 : ∀ (P : Pm) (_ : True), f_X7_undo_J188 P = some (rz, Pz) → WW X G 2 (m1 σ 17 P) lm 188 [(0, .ref (gA G 17 0))] [] := by
    intro P _ h
    unfold f_X7_undo_J188 at h
    refine r_iconst (v := 0) hX (by decide) dX7_undo_188 ?_
    refine r_istore_n (L2 := [(1, .int 0), (0, .ref (gA G 17 0))]) hX rfl (by decide) rfl dX7_undo_189 ?_
    exact WW.sub [1, 0] rfl (K190 P 0 trivial h)
  have K68 : ∀ (P : Pm) (v1 : Int32) (_ : True), f_X7_undo_H68 P v1 = some (rz, Pz) → WW X G 2 (m1 σ 17 P) lm 68 [(0, .ref (gA G 17 0)), (1, .int v1)] [] := by
    intro P v1 _ h
    unfold f_X7_undo_H68 at h
    obtain ⟨e_P, hit, hO⟩ := bn_e h
    refine iter_w (P := fun t : Int32 × Pm => WW X G 2 (m1 σ 17 t.2) lm 68 [(0, .ref (gA G 17 0)), (1, .int t.1)] []) (x := e_P) ?_ 200 (v1, P) hit
    clear hit
    intro t z1 hb hin1 hex1
    obtain ⟨v1, P⟩ := t
    have h : f_X7_undo_B68 v1 P = some z1 := hb
    clear hb
    unfold f_X7_undo_B68 at h
    refine r_iload_n hX rfl 1 rfl dX7_undo_68 ?_
    refine r_bipush (v := 6) hX (by decide) dX7_undo_69 ?_
    refine r_icmp_ge hX dX7_undo_71 (fun hc => ?_) (fun hc => ?_)
    · replace h := ip_e hc h
      have g0 := hex1 _ (Option.some.inj h).symm
      subst g0
      exact WW.sub [0] rfl (K188 P trivial hO)
    · replace h := in_e hc h
      refine r_aload_n hX rfl 0 rfl dX7_undo_74 ?_
      refine gf_7_3 (o := 17) hX fl_X7_19 rfl m1_g dX7_undo_75 ?_
      refine r_iload_n hX rfl 1 rfl dX7_undo_78 ?_
      refine r_aload_n hX rfl 0 rfl dX7_undo_79 ?_
      refine gf_7_61 (o := 17) hX fl_X7_196 rfl m1_g dX7_undo_80 ?_
      refine r_iload_n hX rfl 1 rfl dX7_undo_83 ?_
      obtain ⟨hk22, h⟩ := kc_e h
      refine ga_7_62 (o := 17) hX rfl m1_g hk22 dX7_undo_84 ?_
      obtain ⟨hk23, h⟩ := kc_e h
      obtain ⟨P24, hP24, h⟩ := nb_e h
      refine pa_7_4 (o := 17) hX rfl m1_g hk23 (m1_w hP24) dX7_undo_85 ?_
      refine r_aload_n hX rfl 0 rfl dX7_undo_86 ?_
      refine gf_7_4 (o := 17) hX fl_X7_23 rfl m1_g dX7_undo_87 ?_
      refine r_iload_n hX rfl 1 rfl dX7_undo_90 ?_
      refine r_aload_n hX rfl 0 rfl dX7_undo_91 ?_
      refine gf_7_62 (o := 17) hX fl_X7_199 rfl m1_g dX7_undo_92 ?_
      refine r_iload_n hX rfl 1 rfl dX7_undo_95 ?_
      obtain ⟨hk25, h⟩ := kc_e h
      refine ga_7_63 (o := 17) hX rfl m1_g hk25 dX7_undo_96 ?_
      obtain ⟨hk26, h⟩ := kc_e h
      obtain ⟨P27, hP27, h⟩ := nb_e h
      refine pa_7_5 (o := 17) hX rfl m1_g hk26 (m1_w hP27) dX7_undo_97 ?_
      refine r_aload_n hX rfl 0 rfl dX7_undo_98 ?_
      refine gf_7_5 (o := 17) hX fl_X7_26 rfl m1_g dX7_undo_99 ?_
      refine r_iload_n hX rfl 1 rfl dX7_undo_102 ?_
      refine r_aload_n hX rfl 0 rfl dX7_undo_103 ?_
      refine gf_7_63 (o := 17) hX fl_X7_202 rfl m1_g dX7_undo_104 ?_
      refine r_iload_n hX rfl 1 rfl dX7_undo_107 ?_
      obtain ⟨hk28, h⟩ := kc_e h
      refine ga_7_64 (o := 17) hX rfl m1_g hk28 dX7_undo_108 ?_
      obtain ⟨hk29, h⟩ := kc_e h
      obtain ⟨P30, hP30, h⟩ := nb_e h
      refine pa_7_6 (o := 17) hX rfl m1_g hk29 (m1_w hP30) dX7_undo_109 ?_
      refine r_aload_n hX rfl 0 rfl dX7_undo_110 ?_
      refine gf_7_6 (o := 17) hX fl_X7_29 rfl m1_g dX7_undo_111 ?_
      refine r_iload_n hX rfl 1 rfl dX7_undo_114 ?_
      refine r_aload_n hX rfl 0 rfl dX7_undo_115 ?_
      refine gf_7_64 (o := 17) hX fl_X7_205 rfl m1_g dX7_undo_116 ?_
      refine r_iload_n hX rfl 1 rfl dX7_undo_119 ?_
      obtain ⟨hk31, h⟩ := kc_e h
      refine ga_7_65 (o := 17) hX rfl m1_g hk31 dX7_undo_120 ?_
      obtain ⟨hk32, h⟩ := kc_e h
      obtain ⟨P33, hP33, h⟩ := nb_e h
      refine pa_7_7 (o := 17) hX rfl m1_g hk32 (m1_w hP33) dX7_undo_121 ?_
      refine r_aload_n hX rfl 0 rfl dX7_undo_122 ?_
      refine gf_7_7 (o := 17) hX fl_X7_32 rfl m1_g dX7_undo_123 ?_
      refine r_iload_n hX rfl 1 rfl dX7_undo_126 ?_
      refine r_aload_n hX rfl 0 rfl dX7_undo_127 ?_
      refine gf_7_65 (o := 17) hX fl_X7_208 rfl m1_g dX7_undo_128 ?_
      refine r_iload_n hX rfl 1 rfl dX7_undo_131 ?_
      obtain ⟨hk34, h⟩ := kc_e h
      refine ga_7_66 (o := 17) hX rfl m1_g hk34 dX7_undo_132 ?_
      obtain ⟨hk35, h⟩ := kc_e h
      obtain ⟨P36, hP36, h⟩ := nb_e h
      refine pa_7_8 (o := 17) hX rfl m1_g hk35 (m1_w hP36) dX7_undo_133 ?_
      refine r_aload_n hX rfl 0 rfl dX7_undo_134 ?_
      refine gf_7_8 (o := 17) hX fl_X7_35 rfl m1_g dX7_undo_135 ?_
      refine r_iload_n hX rfl 1 rfl dX7_undo_138 ?_
      refine r_aload_n hX rfl 0 rfl dX7_undo_139 ?_
      refine gf_7_66 (o := 17) hX fl_X7_211 rfl m1_g dX7_undo_140 ?_
      refine r_iload_n hX rfl 1 rfl dX7_undo_143 ?_
      obtain ⟨hk37, h⟩ := kc_e h
      refine ga_7_67 (o := 17) hX rfl m1_g hk37 dX7_undo_144 ?_
      obtain ⟨hk38, h⟩ := kc_e h
      obtain ⟨P39, hP39, h⟩ := nb_e h
      refine pa_7_9 (o := 17) hX rfl m1_g hk38 (m1_w hP39) dX7_undo_145 ?_
      refine r_aload_n hX rfl 0 rfl dX7_undo_146 ?_
      refine gf_7_9 (o := 17) hX fl_X7_38 rfl m1_g dX7_undo_147 ?_
      refine r_iload_n hX rfl 1 rfl dX7_undo_150 ?_
      refine r_aload_n hX rfl 0 rfl dX7_undo_151 ?_
      refine gf_7_67 (o := 17) hX fl_X7_214 rfl m1_g dX7_undo_152 ?_
      refine r_iload_n hX rfl 1 rfl dX7_undo_155 ?_
      obtain ⟨hk40, h⟩ := kc_e h
      refine ga_7_68 (o := 17) hX rfl m1_g hk40 dX7_undo_156 ?_
      obtain ⟨hk41, h⟩ := kc_e h
      obtain ⟨P42, hP42, h⟩ := nb_e h
      refine pa_7_10 (o := 17) hX rfl m1_g hk41 (m1_w hP42) dX7_undo_157 ?_
      refine r_aload_n hX rfl 0 rfl dX7_undo_158 ?_
      refine gf_7_10 (o := 17) hX fl_X7_41 rfl m1_g dX7_undo_159 ?_
      refine r_iload_n hX rfl 1 rfl dX7_undo_162 ?_
      refine r_aload_n hX rfl 0 rfl dX7_undo_163 ?_
      refine gf_7_68 (o := 17) hX fl_X7_217 rfl m1_g dX7_undo_164 ?_
      refine r_iload_n hX rfl 1 rfl dX7_undo_167 ?_
      obtain ⟨hk43, h⟩ := kc_e h
      refine ga_7_69 (o := 17) hX rfl m1_g hk43 dX7_undo_168 ?_
      obtain ⟨hk44, h⟩ := kc_e h
      obtain ⟨P45, hP45, h⟩ := nb_e h
      refine pa_7_11 (o := 17) hX rfl m1_g hk44 (m1_w hP45) dX7_undo_169 ?_
      refine r_aload_n hX rfl 0 rfl dX7_undo_170 ?_
      refine gf_7_12 (o := 17) hX fl_X7_47 rfl m1_g dX7_undo_171 ?_
      refine r_iload_n hX rfl 1 rfl dX7_undo_174 ?_
      refine r_aload_n hX rfl 0 rfl dX7_undo_175 ?_
      refine gf_7_69 (o := 17) hX fl_X7_220 rfl m1_g dX7_undo_176 ?_
      refine r_iload_n hX rfl 1 rfl dX7_undo_179 ?_
      obtain ⟨hk46, h⟩ := kc_e h
      refine ga_7_70 (o := 17) hX rfl m1_g hk46 dX7_undo_180 ?_
      obtain ⟨hk47, h⟩ := kc_e h
      obtain ⟨P48, hP48, h⟩ := nb_e h
      refine pa_7_13 (o := 17) hX rfl m1_g hk47 (m1_w hP48) dX7_undo_181 ?_
      refine r_iinc (v := v1 + 1) (L2 := [(1, .int (v1 + 1)), (0, .ref (gA G 17 0))]) hX 1 rfl rfl (by decide) rfl dX7_undo_182 ?_
      refine r_goto hX dX7_undo_185 ?_
      exact WW.sub [1, 0] rfl (hin1 _ (Option.some.inj h).symm)
  unfold f_X7_undo at h
  refine r_aload_n hX rfl 0 rfl dX7_undo_0 ?_
  refine gf_7_53 (o := 17) hX fl_X7_171 rfl m1_g dX7_undo_1 ?_
  refine r_if_ne hX dX7_undo_4 (fun hc => ?_) (fun hc => ?_)
  · replace h := in_e hc h
    refine r_aload_n hX rfl 0 rfl dX7_undo_10 ?_
    refine r_aload_n hX rfl 0 rfl dX7_undo_11 ?_
    refine gf_7_54 (o := 17) hX fl_X7_175 rfl m1_g dX7_undo_12 ?_
    obtain ⟨P49, hP49, h⟩ := nb_e h
    refine pf_7_14 (o := 17) hX fl_X7_53 rfl m1_g dX7_undo_15 (m1_w hP49) ?_
    refine r_aload_n hX rfl 0 rfl dX7_undo_18 ?_
    refine r_aload_n hX rfl 0 rfl dX7_undo_19 ?_
    refine gf_7_55 (o := 17) hX fl_X7_178 rfl m1_g dX7_undo_20 ?_
    obtain ⟨P50, hP50, h⟩ := nb_e h
    refine pf_7_0 (o := 17) hX fl_X7_7 rfl m1_g dX7_undo_23 (m1_w hP50) ?_
    refine r_aload_n hX rfl 0 rfl dX7_undo_26 ?_
    refine r_aload_n hX rfl 0 rfl dX7_undo_27 ?_
    refine gf_7_56 (o := 17) hX fl_X7_181 rfl m1_g dX7_undo_28 ?_
    obtain ⟨P51, hP51, h⟩ := nb_e h
    refine pf_7_1 (o := 17) hX fl_X7_13 rfl m1_g dX7_undo_31 (m1_w hP51) ?_
    refine r_aload_n hX rfl 0 rfl dX7_undo_34 ?_
    refine r_aload_n hX rfl 0 rfl dX7_undo_35 ?_
    refine gf_7_57 (o := 17) hX fl_X7_184 rfl m1_g dX7_undo_36 ?_
    obtain ⟨P52, hP52, h⟩ := nb_e h
    refine pf_7_2 (o := 17) hX fl_X7_16 rfl m1_g dX7_undo_39 (m1_w hP52) ?_
    refine r_aload_n hX rfl 0 rfl dX7_undo_42 ?_
    refine r_aload_n hX rfl 0 rfl dX7_undo_43 ?_
    refine gf_7_58 (o := 17) hX fl_X7_187 rfl m1_g dX7_undo_44 ?_
    obtain ⟨P53, hP53, h⟩ := nb_e h
    refine pf_7_44 (o := 17) hX fl_X7_144 rfl m1_g dX7_undo_47 (m1_w hP53) ?_
    refine r_aload_n hX rfl 0 rfl dX7_undo_50 ?_
    refine r_aload_n hX rfl 0 rfl dX7_undo_51 ?_
    refine gf_7_59 (o := 17) hX fl_X7_190 rfl m1_g dX7_undo_52 ?_
    obtain ⟨P54, hP54, h⟩ := nb_e h
    refine pf_7_47 (o := 17) hX fl_X7_153 rfl m1_g dX7_undo_55 (m1_w hP54) ?_
    refine r_aload_n hX rfl 0 rfl dX7_undo_58 ?_
    refine r_aload_n hX rfl 0 rfl dX7_undo_59 ?_
    refine gf_7_60 (o := 17) hX fl_X7_193 rfl m1_g dX7_undo_60 ?_
    obtain ⟨P55, hP55, h⟩ := nb_e h
    refine pf_7_48 (o := 17) hX fl_X7_156 rfl m1_g dX7_undo_63 (m1_w hP55) ?_
    refine r_iconst (v := 0) hX (by decide) dX7_undo_66 ?_
    refine r_istore_n (L2 := [(1, .int 0), (0, .ref (gA G 17 0))]) hX rfl (by decide) rfl dX7_undo_67 ?_
    exact WW.sub [1, 0] rfl (K68 P55 0 trivial h)
  · replace h := ip_e hc h
    refine r_bipush (v := (-3)) hX (by decide) dX7_undo_7 ?_
    have g0 := Option.some.inj h
    obtain ⟨q0, g1⟩ := Prod.mk.inj g0
    subst q0
    subst g1
    exact r_iret hX hQ dX7_undo_9
