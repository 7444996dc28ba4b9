/-! the pure functions and the walks; written by wip/whole/gen_walk.py -/
abbrev rm_X7_in : Room := { frames := 0, cells := 0, slots := 0, locals := 60 }
def f_X7_in (P : Pm) (a1 : Int32) (a2 : Int32) (a3 : Int32) : Option (Int32) :=
  (if a1 < a2 then some 0 else (if a3 < a1 then some 0 else some 1))
set_option maxHeartbeats 4000000 in
set_option maxRecDepth 100000 in
theorem c_X7_in (l : Launch) (G : GE) {σ : Mm} {lm : Ml}  {P : Pm} {a1 : Int32} {a2 : Int32} {a3 : Int32} {rz : Int32} (h : f_X7_in P a1 a2 a3 = some rz) : CM l G yX7_in bX7_in 4 (Option.some Jvm.ClassFile.FieldType.boolean) rm_X7_in [.ref (gA G 17 0), .int a1, .int a2, .int a3] (m1 σ 17 P) lm (some (.int rz)) (m1 σ 17 P) lm := by
  refine CM.of (own := zR7) (L0 := [(0, .ref (gA G 17 0)), (1, .int a1), (2, .int a2), (3, .int a3)]) (by decide +kernel) rfl (Nat.le_of_ble_eq_true rfl) rfl (fun X hl hX hR hQ => ?_)
  unfold f_X7_in at h
  refine r_iload_n hX rfl 1 rfl dX7_in_0 ?_
  refine r_iload_n hX rfl 2 rfl dX7_in_1 ?_
  refine r_icmp_lt hX dX7_in_2 (fun hc => ?_) (fun hc => ?_)
  · replace h := ip_e hc h
    refine r_iconst (v := 0) hX (by decide) dX7_in_14 ?_
    have g0 := Option.some.inj h
    subst g0
    exact r_zret hX (Or.inl rfl) hQ dX7_in_15
  · replace h := in_e hc h
    refine r_iload_n hX rfl 1 rfl dX7_in_5 ?_
    refine r_iload_n hX rfl 3 rfl dX7_in_6 ?_
    refine r_icmp_gt hX dX7_in_7 (fun hc => ?_) (fun hc => ?_)
    · replace h := ip_e hc h
      refine r_iconst (v := 0) hX (by decide) dX7_in_14 ?_
      have g0 := Option.some.inj h
      subst g0
      exact r_zret hX (Or.inl rfl) hQ dX7_in_15
    · replace h := in_e hc h
      refine r_iconst (v := 1) hX (by decide) dX7_in_10 ?_
      refine r_goto hX dX7_in_11 ?_
      have g0 := Option.some.inj h
      subst g0
      exact r_zret hX (Or.inr rfl) hQ dX7_in_15
abbrev rm_X7_held : Room := { frames := 0, cells := 0, slots := 0, locals := 60 }
def f_X7_held (P : Pm) (a1 : Int32) (a2 : Int32) : Option (Int32) :=
  (if 0 ≤ a1 then (if a1 ≤ a2 then some a1 else some a2) else some 0)
set_option maxHeartbeats 4000000 in
set_option maxRecDepth 100000 in
theorem c_X7_held (l : Launch) (G : GE) {σ : Mm} {lm : Ml}  {P : Pm} {a1 : Int32} {a2 : Int32} {rz : Int32} (h : f_X7_held P a1 a2 = some rz) : CM l G yX7_held bX7_held 3 (Option.some Jvm.ClassFile.FieldType.int) rm_X7_held [.ref (gA G 17 0), .int a1, .int a2] (m1 σ 17 P) lm (some (.int rz)) (m1 σ 17 P) lm := by
  refine CM.of (own := zR7) (L0 := [(0, .ref (gA G 17 0)), (1, .int a1), (2, .int a2)]) (by decide +kernel) rfl (Nat.le_of_ble_eq_true rfl) rfl (fun X hl hX hR hQ => ?_)
  unfold f_X7_held at h
  refine r_iload_n hX rfl 1 rfl dX7_held_0 ?_
  refine r_if_ge hX dX7_held_1 (fun hc => ?_) (fun hc => ?_)
  · replace h := ip_e hc h
    refine r_iload_n hX rfl 1 rfl dX7_held_8 ?_
    refine r_iload_n hX rfl 2 rfl dX7_held_9 ?_
    refine r_icmp_le hX dX7_held_10 (fun hc => ?_) (fun hc => ?_)
    · replace h := ip_e hc h
      refine r_iload_n hX rfl 1 rfl dX7_held_17 ?_
      have g0 := Option.some.inj h
      subst g0
      exact r_iret hX hQ dX7_held_18
    · replace h := in_e hc h
      refine r_iload_n hX rfl 2 rfl dX7_held_13 ?_
      refine r_goto hX dX7_held_14 ?_
      have g0 := Option.some.inj h
      subst g0
      exact r_iret hX hQ dX7_held_18
  · replace h := in_e hc h
    refine r_iconst (v := 0) hX (by decide) dX7_held_4 ?_
    refine r_goto hX dX7_held_5 ?_
    have g0 := Option.some.inj h
    subst g0
    exact r_iret hX hQ dX7_held_18
abbrev rm_X7_isBorrower : Room := { frames := 1, cells := 0, slots := 0, locals := 83 }
def f_X7_isBorrower (P : Pm) (a1 : Int32) : Option (Int32) :=
  Option.bind (f_X7_in P a1 0 ((P 0 1) - 1)) (fun x1 => (if x1 = 0 ∨ x1 = 1 then some x1 else none))
set_option maxHeartbeats 4000000 in
set_option maxRecDepth 100000 in
theorem c_X7_isBorrower (l : Launch) (G : GE) {σ : Mm} {lm : Ml}  {P : Pm} {a1 : Int32} {rz : Int32} (h : f_X7_isBorrower P a1 = some rz) : CM l G yX7_isBorrower bX7_isBorrower 2 (Option.some Jvm.ClassFile.FieldType.boolean) rm_X7_isBorrower [.ref (gA G 17 0), .int a1] (m1 σ 17 P) lm (some (.int rz)) (m1 σ 17 P) lm := by
  refine CM.of (own := zR7) (L0 := [(0, .ref (gA G 17 0)), (1, .int a1)]) (by decide +kernel) rfl (Nat.le_of_ble_eq_true rfl) rfl (fun X hl hX hR hQ => ?_)
  unfold f_X7_isBorrower at h
  refine r_aload_n hX rfl 0 rfl dX7_isBorrower_0 ?_
  refine r_iload_n hX rfl 1 rfl dX7_isBorrower_1 ?_
  refine r_iconst (v := 0) hX (by decide) dX7_isBorrower_2 ?_
  refine r_aload_n hX rfl 0 rfl dX7_isBorrower_3 ?_
  refine gf_7_1 (o := 17) hX fl_X7_13 rfl m1_g dX7_isBorrower_4 ?_
  refine r_iconst (v := 1) hX (by decide) dX7_isBorrower_7 ?_
  refine r_isub hX dX7_isBorrower_8 ?_
  obtain ⟨x1, hc1, h⟩ := bn_e h
  refine r_callVi hX hR (c_X7_in (σ := σ) X.2.1 G hc1) rfl rfl mf_X7_in ml_X7_263 in_X7_in se_X7_in rfl rfl ⟨rfl, rfl, Nat.le_of_ble_eq_true rfl, Nat.le_of_ble_eq_true rfl⟩ rfl (st := []) rfl (Nat.le_of_ble_eq_true rfl) dX7_isBorrower_9 ?_
  obtain ⟨hk2, h⟩ := kc_e h
  have g0 := Option.some.inj h
  subst g0
  exact r_zret hX hk2 hQ dX7_isBorrower_12
abbrev rm_X7_isDepth : Room := { frames := 1, cells := 0, slots := 0, locals := 83 }
def f_X7_isDepth (P : Pm) (a1 : Int32) : Option (Int32) :=
  Option.bind (f_X7_in P a1 0 9999) (fun x1 => (if x1 = 0 ∨ x1 = 1 then some x1 else none))
set_option maxHeartbeats 4000000 in
set_option maxRecDepth 100000 in
theorem c_X7_isDepth (l : Launch) (G : GE) {σ : Mm} {lm : Ml}  {P : Pm} {a1 : Int32} {rz : Int32} (h : f_X7_isDepth P a1 = some rz) : CM l G yX7_isDepth bX7_isDepth 2 (Option.some Jvm.ClassFile.FieldType.boolean) rm_X7_isDepth [.ref (gA G 17 0), .int a1] (m1 σ 17 P) lm (some (.int rz)) (m1 σ 17 P) lm := by
  refine CM.of (own := zR7) (L0 := [(0, .ref (gA G 17 0)), (1, .int a1)]) (by decide +kernel) rfl (Nat.le_of_ble_eq_true rfl) rfl (fun X hl hX hR hQ => ?_)
  unfold f_X7_isDepth at h
  refine r_aload_n hX rfl 0 rfl dX7_isDepth_0 ?_
  refine r_iload_n hX rfl 1 rfl dX7_isDepth_1 ?_
  refine r_iconst (v := 0) hX (by decide) dX7_isDepth_2 ?_
  refine r_sipush (v := 9999) hX (by decide) dX7_isDepth_3 ?_
  obtain ⟨x1, hc1, h⟩ := bn_e h
  refine r_callVi hX hR (c_X7_in (σ := σ) X.2.1 G hc1) rfl rfl mf_X7_in ml_X7_263 in_X7_in se_X7_in rfl rfl ⟨rfl, rfl, Nat.le_of_ble_eq_true rfl, Nat.le_of_ble_eq_true rfl⟩ rfl (st := []) rfl (Nat.le_of_ble_eq_true rfl) dX7_isDepth_6 ?_
  obtain ⟨hk2, h⟩ := kc_e h
  have g0 := Option.some.inj h
  subst g0
  exact r_zret hX hk2 hQ dX7_isDepth_9
abbrev rm_X7_isDays : Room := { frames := 1, cells := 0, slots := 0, locals := 83 }
def f_X7_isDays (P : Pm) (a1 : Int32) : Option (Int32) :=
  Option.bind (f_X7_in P a1 0 60) (fun x1 => (if x1 = 0 ∨ x1 = 1 then some x1 else none))
set_option maxHeartbeats 4000000 in
set_option maxRecDepth 100000 in
theorem c_X7_isDays (l : Launch) (G : GE) {σ : Mm} {lm : Ml}  {P : Pm} {a1 : Int32} {rz : Int32} (h : f_X7_isDays P a1 = some rz) : CM l G yX7_isDays bX7_isDays 2 (Option.some Jvm.ClassFile.FieldType.boolean) rm_X7_isDays [.ref (gA G 17 0), .int a1] (m1 σ 17 P) lm (some (.int rz)) (m1 σ 17 P) lm := by
  refine CM.of (own := zR7) (L0 := [(0, .ref (gA G 17 0)), (1, .int a1)]) (by decide +kernel) rfl (Nat.le_of_ble_eq_true rfl) rfl (fun X hl hX hR hQ => ?_)
  unfold f_X7_isDays at h
  refine r_aload_n hX rfl 0 rfl dX7_isDays_0 ?_
  refine r_iload_n hX rfl 1 rfl dX7_isDays_1 ?_
  refine r_iconst (v := 0) hX (by decide) dX7_isDays_2 ?_
  refine r_bipush (v := 60) hX (by decide) dX7_isDays_3 ?_
  obtain ⟨x1, hc1, h⟩ := bn_e h
  refine r_callVi hX hR (c_X7_in (σ := σ) X.2.1 G hc1) rfl rfl mf_X7_in ml_X7_263 in_X7_in se_X7_in rfl rfl ⟨rfl, rfl, Nat.le_of_ble_eq_true rfl, Nat.le_of_ble_eq_true rfl⟩ rfl (st := []) rfl (Nat.le_of_ble_eq_true rfl) dX7_isDays_5 ?_
  obtain ⟨hk2, h⟩ := kc_e h
  have g0 := Option.some.inj h
  subst g0
  exact r_zret hX hk2 hQ dX7_isDays_8
abbrev rm_X7_isWants : Room := { frames := 1, cells := 0, slots := 0, locals := 83 }
def f_X7_isWants (P : Pm) (a1 : Int32) : Option (Int32) :=
  Option.bind (f_X7_in P a1 1 99) (fun x1 => (if x1 = 0 ∨ x1 = 1 then some x1 else none))
set_option maxHeartbeats 4000000 in
set_option maxRecDepth 100000 in
theorem c_X7_isWants (l : Launch) (G : GE) {σ : Mm} {lm : Ml}  {P : Pm} {a1 : Int32} {rz : Int32} (h : f_X7_isWants P a1 = some rz) : CM l G yX7_isWants bX7_isWants 2 (Option.some Jvm.ClassFile.FieldType.boolean) rm_X7_isWants [.ref (gA G 17 0), .int a1] (m1 σ 17 P) lm (some (.int rz)) (m1 σ 17 P) lm := by
  refine CM.of (own := zR7) (L0 := [(0, .ref (gA G 17 0)), (1, .int a1)]) (by decide +kernel) rfl (Nat.le_of_ble_eq_true rfl) rfl (fun X hl hX hR hQ => ?_)
  unfold f_X7_isWants at h
  refine r_aload_n hX rfl 0 rfl dX7_isWants_0 ?_
  refine r_iload_n hX rfl 1 rfl dX7_isWants_1 ?_
  refine r_iconst (v := 1) hX (by decide) dX7_isWants_2 ?_
  refine r_bipush (v := 99) hX (by decide) dX7_isWants_3 ?_
  obtain ⟨x1, hc1, h⟩ := bn_e h
  refine r_callVi hX hR (c_X7_in (σ := σ) X.2.1 G hc1) rfl rfl mf_X7_in ml_X7_263 in_X7_in se_X7_in rfl rfl ⟨rfl, rfl, Nat.le_of_ble_eq_true rfl, Nat.le_of_ble_eq_true rfl⟩ rfl (st := []) rfl (Nat.le_of_ble_eq_true rfl) dX7_isWants_5 ?_
  obtain ⟨hk2, h⟩ := kc_e h
  have g0 := Option.some.inj h
  subst g0
  exact r_zret hX hk2 hQ dX7_isWants_8
abbrev rm_X7_isEvery : Room := { frames := 1, cells := 0, slots := 0, locals := 83 }
def f_X7_isEvery (P : Pm) (a1 : Int32) : Option (Int32) :=
  Option.bind (f_X7_in P a1 1 20) (fun x1 => (if x1 = 0 ∨ x1 = 1 then some x1 else none))
set_option maxHeartbeats 4000000 in
set_option maxRecDepth 100000 in
theorem c_X7_isEvery (l : Launch) (G : GE) {σ : Mm} {lm : Ml}  {P : Pm} {a1 : Int32} {rz : Int32} (h : f_X7_isEvery P a1 = some rz) : CM l G yX7_isEvery bX7_isEvery 2 (Option.some Jvm.ClassFile.FieldType.boolean) rm_X7_isEvery [.ref (gA G 17 0), .int a1] (m1 σ 17 P) lm (some (.int rz)) (m1 σ 17 P) lm := by
  refine CM.of (own := zR7) (L0 := [(0, .ref (gA G 17 0)), (1, .int a1)]) (by decide +kernel) rfl (Nat.le_of_ble_eq_true rfl) rfl (fun X hl hX hR hQ => ?_)
  unfold f_X7_isEvery at h
  refine r_aload_n hX rfl 0 rfl dX7_isEvery_0 ?_
  refine r_iload_n hX rfl 1 rfl dX7_isEvery_1 ?_
  refine r_iconst (v := 1) hX (by decide) dX7_isEvery_2 ?_
  refine r_bipush (v := 20) hX (by decide) dX7_isEvery_3 ?_
  obtain ⟨x1, hc1, h⟩ := bn_e h
  refine r_callVi hX hR (c_X7_in (σ := σ) X.2.1 G hc1) rfl rfl mf_X7_in ml_X7_263 in_X7_in se_X7_in rfl rfl ⟨rfl, rfl, Nat.le_of_ble_eq_true rfl, Nat.le_of_ble_eq_true rfl⟩ rfl (st := []) rfl (Nat.le_of_ble_eq_true rfl) dX7_isEvery_5 ?_
  obtain ⟨hk2, h⟩ := kc_e h
  have g0 := Option.some.inj h
  subst g0
  exact r_zret hX hk2 hQ dX7_isEvery_8
abbrev rm_X7_borrower : Room := { frames := 2, cells := 0, slots := 0, locals := 104 }
def f_X7_borrower_J167 (P : Pm) : Option (Int32 × Pm) :=
  (if inb (P 0 1) 6 = true then nb (up2 P 13 (ix (P 0 1)) (P 0 1)) (fun P2 => nb (up2 P2 0 1 ((P2 0 1) + 1)) (fun P3 => some (((P3 0 1) - 1), P3))) else none)
def f_X7_borrower_B140 (v5 : Int32) (P : Pm) : Option ((Int32 × Pm) ⊕ (Pm)) :=
  (if 4 ≤ v5 then some (.inr P) else (if inb ((4 * (P 0 1)) + v5) 24 = true then nb (up2 P 12 (ix ((4 * (P 0 1)) + v5)) 0) (fun P5 => some (.inl ((v5 + 1), P5))) else none))
def f_X7_borrower_H140 (P : Pm) (v5 : Int32) : Option (Int32 × Pm) :=
  Option.bind (iter (fun t => f_X7_borrower_B140 t.1 t.2) 200 (v5, P)) (fun P => f_X7_borrower_J167 P)
def f_X7_borrower (P : Pm) (a1 : Int32) (a2 : Int32) (a3 : Int32) (a4 : Int32) : Option (Int32 × Pm) :=
  Option.bind (f_X7_in P a1 0 6) (fun x6 => (if x6 = 0 then some ((-1), P) else Option.bind (f_X7_in P a2 0 9) (fun x7 => (if x7 = 0 then some ((-2), P) else Option.bind (f_X7_isWants P a3) (fun x8 => (if x8 = 0 then some ((-2), P) else Option.bind (f_X7_isEvery P a4) (fun x9 => (if x9 = 0 then some ((-2), P) else (if (P 0 1) = 6 then some ((-4), P) else (if inb (P 0 1) 6 = true then nb (up2 P 4 (ix (P 0 1)) a1) (fun P11 => (if inb (P11 0 1) 6 = true then nb (up2 P11 5 (ix (P11 0 1)) a2) (fun P13 => (if inb (P13 0 1) 6 = true then nb (up2 P13 6 (ix (P13 0 1)) a3) (fun P15 => (if inb (P15 0 1) 6 = true then nb (up2 P15 7 (ix (P15 0 1)) a4) (fun P17 => (if inb (P17 0 1) 6 = true then nb (up2 P17 8 (ix (P17 0 1)) 0) (fun P19 => (if inb (P19 0 1) 6 = true then nb (up2 P19 9 (ix (P19 0 1)) 0) (fun P21 => (if inb (P21 0 1) 6 = true then nb (up2 P21 10 (ix (P21 0 1)) 0) (fun P23 => (if inb (P23 0 1) 6 = true then nb (up2 P23 11 (ix (P23 0 1)) 0) (fun P25 => f_X7_borrower_H140 P25 0) else none)) else none)) else none)) else none)) else none)) else none)) else none)) else none))))))))))
set_option maxHeartbeats 4000000 in
set_option maxRecDepth 100000 in
theorem c_X7_borrower (l : Launch) (G : GE) {σ : Mm} {lm : Ml}  {P : Pm} {a1 : Int32} {a2 : Int32} {a3 : Int32} {a4 : Int32} {rz : Int32} {Pz : Pm} (h : f_X7_borrower P a1 a2 a3 a4 = some (rz, Pz)) : CM l G yX7_borrower bX7_borrower 6 (Option.some Jvm.ClassFile.FieldType.int) rm_X7_borrower [.ref (gA G 17 0), .int a1, .int a2, .int a3, .int a4] (m1 σ 17 P) lm (some (.int rz)) (m1 σ 17 Pz) lm := by
  refine CM.of (own := zR7) (L0 := [(0, .ref (gA G 17 0)), (1, .int a1), (2, .int a2), (3, .int a3), (4, .int a4)]) (by decide +kernel) rfl (Nat.le_of_ble_eq_true rfl) rfl (fun X hl hX hR hQ => ?_)
  have K167 : ∀ (P : Pm) (_ : True), f_X7_borrower_J167 P = some (rz, Pz) → WW X G 6 (m1 σ 17 P) lm 167 [(0, .ref (gA G 17 0))] [] := by
    intro P _ h
    unfold f_X7_borrower_J167 at h
    refine r_aload_n hX rfl 0 rfl dX7_borrower_167 ?_
    refine gf_7_12 (o := 17) hX fl_X7_47 rfl m1_g dX7_borrower_168 ?_
    refine r_aload_n hX rfl 0 rfl dX7_borrower_171 ?_
    refine gf_7_1 (o := 17) hX fl_X7_13 rfl m1_g dX7_borrower_172 ?_
    refine r_aload_n hX rfl 0 rfl dX7_borrower_175 ?_
    refine gf_7_1 (o := 17) hX fl_X7_13 rfl m1_g dX7_borrower_176 ?_
    obtain ⟨hk1, h⟩ := kc_e h
    obtain ⟨P2, hP2, h⟩ := nb_e h
    refine pa_7_13 (o := 17) hX rfl m1_g hk1 (m1_w hP2) dX7_borrower_179 ?_
    refine r_aload_n hX rfl 0 rfl dX7_borrower_180 ?_
    refine r_dup hX rfl dX7_borrower_181 ?_
    refine gf_7_1 (o := 17) hX fl_X7_13 rfl m1_g dX7_borrower_182 ?_
    refine r_iconst (v := 1) hX (by decide) dX7_borrower_185 ?_
    refine r_iadd hX dX7_borrower_186 ?_
    obtain ⟨P3, hP3, h⟩ := nb_e h
    refine pf_7_1 (o := 17) hX fl_X7_13 rfl m1_g dX7_borrower_187 (m1_w hP3) ?_
    refine r_aload_n hX rfl 0 rfl dX7_borrower_190 ?_
    refine gf_7_1 (o := 17) hX fl_X7_13 rfl m1_g dX7_borrower_191 ?_
    refine r_iconst (v := 1) hX (by decide) dX7_borrower_194 ?_
    refine r_isub hX dX7_borrower_195 ?_
    have g0 := Option.some.inj h
    obtain ⟨q0, g1⟩ := Prod.mk.inj g0
    subst q0
    subst g1
    exact r_iret hX hQ dX7_borrower_196
  have K140 : ∀ (P : Pm) (v5 : Int32) (_ : True), f_X7_borrower_H140 P v5 = some (rz, Pz) → WW X G 6 (m1 σ 17 P) lm 140 [(0, .ref (gA G 17 0)), (5, .int v5)] [] := by
    intro P v5 _ h
    unfold f_X7_borrower_H140 at h
    obtain ⟨e_P, hit, hO⟩ := bn_e h
    refine iter_w (P := fun t : Int32 × Pm => WW X G 6 (m1 σ 17 t.2) lm 140 [(0, .ref (gA G 17 0)), (5, .int t.1)] []) (x := e_P) ?_ 200 (v5, P) hit
    clear hit
    intro t z1 hb hin1 hex1
    obtain ⟨v5, P⟩ := t
    have h : f_X7_borrower_B140 v5 P = some z1 := hb
    clear hb
    unfold f_X7_borrower_B140 at h
    refine r_iload hX 1 rfl dX7_borrower_140 ?_
    refine r_iconst (v := 4) hX (by decide) dX7_borrower_142 ?_
    refine r_icmp_ge hX dX7_borrower_143 (fun hc => ?_) (fun hc => ?_)
    · replace h := ip_e hc h
      have g0 := hex1 _ (Option.some.inj h).symm
      subst g0
      exact WW.sub [0] rfl (K167 P trivial hO)
    · replace h := in_e hc h
      refine r_aload_n hX rfl 0 rfl dX7_borrower_146 ?_
      refine gf_7_11 (o := 17) hX fl_X7_44 rfl m1_g dX7_borrower_147 ?_
      refine r_iconst (v := 4) hX (by decide) dX7_borrower_150 ?_
      refine r_aload_n hX rfl 0 rfl dX7_borrower_151 ?_
      refine gf_7_1 (o := 17) hX fl_X7_13 rfl m1_g dX7_borrower_152 ?_
      refine r_imul hX dX7_borrower_155 ?_
      refine r_iload hX 1 rfl dX7_borrower_156 ?_
      refine r_iadd hX dX7_borrower_158 ?_
      refine r_iconst (v := 0) hX (by decide) dX7_borrower_159 ?_
      obtain ⟨hk4, h⟩ := kc_e h
      obtain ⟨P5, hP5, h⟩ := nb_e h
      refine pa_7_12 (o := 17) hX rfl m1_g hk4 (m1_w hP5) dX7_borrower_160 ?_
      refine r_iinc (v := v5 + 1) (L2 := [(5, .int (v5 + 1)), (0, .ref (gA G 17 0))]) hX 1 rfl rfl (by decide) rfl dX7_borrower_161 ?_
      refine r_goto hX dX7_borrower_164 ?_
      exact WW.sub [1, 0] rfl (hin1 _ (Option.some.inj h).symm)
  unfold f_X7_borrower at h
  refine r_aload_n hX rfl 0 rfl dX7_borrower_0 ?_
  refine r_iload_n hX rfl 1 rfl dX7_borrower_1 ?_
  refine r_iconst (v := 0) hX (by decide) dX7_borrower_2 ?_
  refine r_bipush (v := 6) hX (by decide) dX7_borrower_3 ?_
  obtain ⟨x6, hc6, h⟩ := bn_e h
  refine r_callVi hX hR (c_X7_in (σ := σ) X.2.1 G hc6) rfl rfl mf_X7_in ml_X7_263 in_X7_in se_X7_in rfl rfl ⟨rfl, rfl, Nat.le_of_ble_eq_true rfl, Nat.le_of_ble_eq_true rfl⟩ rfl (st := []) rfl (Nat.le_of_ble_eq_true rfl) dX7_borrower_5 ?_
  refine r_if_ne hX dX7_borrower_8 (fun hc => ?_) (fun hc => ?_)
  · replace h := in_e hc h
    refine r_aload_n hX rfl 0 rfl dX7_borrower_13 ?_
    refine r_iload_n hX rfl 2 rfl dX7_borrower_14 ?_
    refine r_iconst (v := 0) hX (by decide) dX7_borrower_15 ?_
    refine r_bipush (v := 9) hX (by decide) dX7_borrower_16 ?_
    obtain ⟨x7, hc7, h⟩ := bn_e h
    refine r_callVi hX hR (c_X7_in (σ := σ) X.2.1 G hc7) rfl rfl mf_X7_in ml_X7_263 in_X7_in se_X7_in rfl rfl ⟨rfl, rfl, Nat.le_of_ble_eq_true rfl, Nat.le_of_ble_eq_true rfl⟩ rfl (st := []) rfl (Nat.le_of_ble_eq_true rfl) dX7_borrower_18 ?_
    refine r_if_eq hX dX7_borrower_21 (fun hc => ?_) (fun hc => ?_)
    · replace h := ip_e hc h
      refine r_bipush (v := (-2)) hX (by decide) dX7_borrower_41 ?_
      have g0 := Option.some.inj h
      obtain ⟨q0, g1⟩ := Prod.mk.inj g0
      subst q0
      subst g1
      exact r_iret hX hQ dX7_borrower_43
    · replace h := in_e hc h
      refine r_aload_n hX rfl 0 rfl dX7_borrower_24 ?_
      refine r_iload_n hX rfl 3 rfl dX7_borrower_25 ?_
      obtain ⟨x8, hc8, h⟩ := bn_e h
      refine r_callVi hX hR (c_X7_isWants (σ := σ) X.2.1 G hc8) rfl rfl mf_X7_isWants ml_X7_267 in_X7_isWants se_X7_isWants rfl rfl ⟨rfl, rfl, Nat.le_of_ble_eq_true rfl, Nat.le_of_ble_eq_true rfl⟩ rfl (st := []) rfl (Nat.le_of_ble_eq_true rfl) dX7_borrower_26 ?_
      refine r_if_eq hX dX7_borrower_29 (fun hc => ?_) (fun hc => ?_)
      · replace h := ip_e hc h
        refine r_bipush (v := (-2)) hX (by decide) dX7_borrower_41 ?_
        have g0 := Option.some.inj h
        obtain ⟨q0, g1⟩ := Prod.mk.inj g0
        subst q0
        subst g1
        exact r_iret hX hQ dX7_borrower_43
      · replace h := in_e hc h
        refine r_aload_n hX rfl 0 rfl dX7_borrower_32 ?_
        refine r_iload hX 4 rfl dX7_borrower_33 ?_
        obtain ⟨x9, hc9, h⟩ := bn_e h
        refine r_callVi hX hR (c_X7_isEvery (σ := σ) X.2.1 G hc9) rfl rfl mf_X7_isEvery ml_X7_271 in_X7_isEvery se_X7_isEvery rfl rfl ⟨rfl, rfl, Nat.le_of_ble_eq_true rfl, Nat.le_of_ble_eq_true rfl⟩ rfl (st := []) rfl (Nat.le_of_ble_eq_true rfl) dX7_borrower_35 ?_
        refine r_if_ne hX dX7_borrower_38 (fun hc => ?_) (fun hc => ?_)
        · replace h := in_e hc h
          refine r_aload_n hX rfl 0 rfl dX7_borrower_44 ?_
          refine gf_7_1 (o := 17) hX fl_X7_13 rfl m1_g dX7_borrower_45 ?_
          refine r_bipush (v := 6) hX (by decide) dX7_borrower_48 ?_
          refine r_icmp_ne hX dX7_borrower_50 (fun hc => ?_) (fun hc => ?_)
          · replace h := in_e hc h
            refine r_aload_n hX rfl 0 rfl dX7_borrower_56 ?_
            refine gf_7_3 (o := 17) hX fl_X7_19 rfl m1_g dX7_borrower_57 ?_
            refine r_aload_n hX rfl 0 rfl dX7_borrower_60 ?_
            refine gf_7_1 (o := 17) hX fl_X7_13 rfl m1_g dX7_borrower_61 ?_
            refine r_iload_n hX rfl 1 rfl dX7_borrower_64 ?_
            obtain ⟨hk10, h⟩ := kc_e h
            obtain ⟨P11, hP11, h⟩ := nb_e h
            refine pa_7_4 (o := 17) hX rfl m1_g hk10 (m1_w hP11) dX7_borrower_65 ?_
            refine r_aload_n hX rfl 0 rfl dX7_borrower_66 ?_
            refine gf_7_4 (o := 17) hX fl_X7_23 rfl m1_g dX7_borrower_67 ?_
            refine r_aload_n hX rfl 0 rfl dX7_borrower_70 ?_
            refine gf_7_1 (o := 17) hX fl_X7_13 rfl m1_g dX7_borrower_71 ?_
            refine r_iload_n hX rfl 2 rfl dX7_borrower_74 ?_
            obtain ⟨hk12, h⟩ := kc_e h
            obtain ⟨P13, hP13, h⟩ := nb_e h
            refine pa_7_5 (o := 17) hX rfl m1_g hk12 (m1_w hP13) dX7_borrower_75 ?_
            refine r_aload_n hX rfl 0 rfl dX7_borrower_76 ?_
            refine gf_7_5 (o := 17) hX fl_X7_26 rfl m1_g dX7_borrower_77 ?_
            refine r_aload_n hX rfl 0 rfl dX7_borrower_80 ?_
            refine gf_7_1 (o := 17) hX fl_X7_13 rfl m1_g dX7_borrower_81 ?_
            refine r_iload_n hX rfl 3 rfl dX7_borrower_84 ?_
            obtain ⟨hk14, h⟩ := kc_e h
            obtain ⟨P15, hP15, h⟩ := nb_e h
            refine pa_7_6 (o := 17) hX rfl m1_g hk14 (m1_w hP15) dX7_borrower_85 ?_
            refine r_aload_n hX rfl 0 rfl dX7_borrower_86 ?_
            refine gf_7_6 (o := 17) hX fl_X7_29 rfl m1_g dX7_borrower_87 ?_
            refine r_aload_n hX rfl 0 rfl dX7_borrower_90 ?_
            refine gf_7_1 (o := 17) hX fl_X7_13 rfl m1_g dX7_borrower_91 ?_
            refine r_iload hX 4 rfl dX7_borrower_94 ?_
            obtain ⟨hk16, h⟩ := kc_e h
            obtain ⟨P17, hP17, h⟩ := nb_e h
            refine pa_7_7 (o := 17) hX rfl m1_g hk16 (m1_w hP17) dX7_borrower_96 ?_
            refine r_aload_n hX rfl 0 rfl dX7_borrower_97 ?_
            refine gf_7_7 (o := 17) hX fl_X7_32 rfl m1_g dX7_borrower_98 ?_
            refine r_aload_n hX rfl 0 rfl dX7_borrower_101 ?_
            refine gf_7_1 (o := 17) hX fl_X7_13 rfl m1_g dX7_borrower_102 ?_
            refine r_iconst (v := 0) hX (by decide) dX7_borrower_105 ?_
            obtain ⟨hk18, h⟩ := kc_e h
            obtain ⟨P19, hP19, h⟩ := nb_e h
            refine pa_7_8 (o := 17) hX rfl m1_g hk18 (m1_w hP19) dX7_borrower_106 ?_
            refine r_aload_n hX rfl 0 rfl dX7_borrower_107 ?_
            refine gf_7_8 (o := 17) hX fl_X7_35 rfl m1_g dX7_borrower_108 ?_
            refine r_aload_n hX rfl 0 rfl dX7_borrower_111 ?_
            refine gf_7_1 (o := 17) hX fl_X7_13 rfl m1_g dX7_borrower_112 ?_
            refine r_iconst (v := 0) hX (by decide) dX7_borrower_115 ?_
            obtain ⟨hk20, h⟩ := kc_e h
            obtain ⟨P21, hP21, h⟩ := nb_e h
            refine pa_7_9 (o := 17) hX rfl m1_g hk20 (m1_w hP21) dX7_borrower_116 ?_
            refine r_aload_n hX rfl 0 rfl dX7_borrower_117 ?_
            refine gf_7_9 (o := 17) hX fl_X7_38 rfl m1_g dX7_borrower_118 ?_
            refine r_aload_n hX rfl 0 rfl dX7_borrower_121 ?_
            refine gf_7_1 (o := 17) hX fl_X7_13 rfl m1_g dX7_borrower_122 ?_
            refine r_iconst (v := 0) hX (by decide) dX7_borrower_125 ?_
            obtain ⟨hk22, h⟩ := kc_e h
            obtain ⟨P23, hP23, h⟩ := nb_e h
            refine pa_7_10 (o := 17) hX rfl m1_g hk22 (m1_w hP23) dX7_borrower_126 ?_
            refine r_aload_n hX rfl 0 rfl dX7_borrower_127 ?_
            refine gf_7_10 (o := 17) hX fl_X7_41 rfl m1_g dX7_borrower_128 ?_
            refine r_aload_n hX rfl 0 rfl dX7_borrower_131 ?_
            refine gf_7_1 (o := 17) hX fl_X7_13 rfl m1_g dX7_borrower_132 ?_
            refine r_iconst (v := 0) hX (by decide) dX7_borrower_135 ?_
            obtain ⟨hk24, h⟩ := kc_e h
            obtain ⟨P25, hP25, h⟩ := nb_e h
            refine pa_7_11 (o := 17) hX rfl m1_g hk24 (m1_w hP25) dX7_borrower_136 ?_
            refine r_iconst (v := 0) hX (by decide) dX7_borrower_137 ?_
            refine r_istore (L2 := [(5, .int 0), (0, .ref (gA G 17 0)), (1, .int a1), (2, .int a2), (3, .int a3), (4, .int a4)]) hX (by decide) rfl dX7_borrower_138 ?_
            exact WW.sub [1, 0] rfl (K140 P25 0 trivial h)
          · replace h := ip_e hc h
            refine r_bipush (v := (-4)) hX (by decide) dX7_borrower_53 ?_
            have g0 := Option.some.inj h
            obtain ⟨q0, g1⟩ := Prod.mk.inj g0
            subst q0
            subst g1
            exact r_iret hX hQ dX7_borrower_55
        · replace h := ip_e hc h
          refine r_bipush (v := (-2)) hX (by decide) dX7_borrower_41 ?_
          have g0 := Option.some.inj h
          obtain ⟨q0, g1⟩ := Prod.mk.inj g0
          subst q0
          subst g1
          exact r_iret hX hQ dX7_borrower_43
  · replace h := ip_e hc h
    refine r_iconst (v := (-1)) hX (by decide) dX7_borrower_11 ?_
    have g0 := Option.some.inj h
    obtain ⟨q0, g1⟩ := Prod.mk.inj g0
    subst q0
    subst g1
    exact r_iret hX hQ dX7_borrower_12
abbrev rm_X7_set : Room := { frames := 2, cells := 0, slots := 0, locals := 104 }
def f_X7_set_J65 (P : Pm) (v1 : Int32) (v2 : Int32) (v3 : Int32) (w0 : Int32) : Option (Int32 × Pm) :=
  (if v2 = 0 then (if inb v1 6 = true then nb (up2 P 6 (ix v1) v3) (fun P4 => some (w0, P4)) else none) else (if inb v1 6 = true then nb (up2 P 7 (ix v1) v3) (fun P2 => some (w0, P2)) else none))
def f_X7_set_J46 (P : Pm) (v1 : Int32) (v2 : Int32) (v3 : Int32) : Option (Int32 × Pm) :=
  (if v2 = 0 then (if inb v1 6 = true then f_X7_set_J65 P v1 v2 v3 (P 6 (ix v1)) else none) else (if inb v1 6 = true then f_X7_set_J65 P v1 v2 v3 (P 7 (ix v1)) else none))
def f_X7_set (P : Pm) (a1 : Int32) (a2 : Int32) (a3 : Int32) : Option (Int32 × Pm) :=
  Option.bind (f_X7_isBorrower P a1) (fun x7 => (if x7 = 0 then some ((-1), P) else Option.bind (f_X7_in P a2 0 1) (fun x8 => (if x8 = 0 then some ((-1), P) else (if a2 = 0 then Option.bind (f_X7_isWants P a3) (fun x10 => (if x10 = 0 then some ((-2), P) else f_X7_set_J46 P a1 a2 a3)) else Option.bind (f_X7_isEvery P a3) (fun x9 => (if x9 = 0 then some ((-2), P) else f_X7_set_J46 P a1 a2 a3)))))))
set_option maxHeartbeats 4000000 in
set_option maxRecDepth 100000 in
theorem c_X7_set (l : Launch) (G : GE) {σ : Mm} {lm : Ml}  {P : Pm} {a1 : Int32} {a2 : Int32} {a3 : Int32} {rz : Int32} {Pz : Pm} (h : f_X7_set P a1 a2 a3 = some (rz, Pz)) : CM l G yX7_set bX7_set 5 (Option.some Jvm.ClassFile.FieldType.int) rm_X7_set [.ref (gA G 17 0), .int a1, .int a2, .int a3] (m1 σ 17 P) lm (some (.int rz)) (m1 σ 17 Pz) lm := by
  refine CM.of (own := zR7) (L0 := [(0, .ref (gA G 17 0)), (1, .int a1), (2, .int a2), (3, .int a3)]) (by decide +kernel) rfl (Nat.le_of_ble_eq_true rfl) rfl (fun X hl hX hR hQ => ?_)
  have K65 : ∀ (P : Pm) (v1 : Int32) (v2 : Int32) (v3 : Int32) (w0 : Int32) (_ : True), f_X7_set_J65 P v1 v2 v3 w0 = some (rz, Pz) → WW X G 5 (m1 σ 17 P) lm 65 [(0, .ref (gA G 17 0)), (1, .int v1), (2, .int v2), (3, .int v3)] [.int w0] := by
    intro P v1 v2 v3 w0 _ h
    unfold f_X7_set_J65 at h
    refine r_istore (L2 := [(4, .int w0), (0, .ref (gA G 17 0)), (1, .int v1), (2, .int v2), (3, .int v3)]) hX (by decide) rfl dX7_set_65 ?_
    refine r_iload_n hX rfl 3 rfl dX7_set_67 ?_
    refine r_if_ne hX dX7_set_68 (fun hc => ?_) (fun hc => ?_)
    · replace h := in_e hc h
      refine r_aload_n hX rfl 1 rfl dX7_set_81 ?_
      refine gf_7_6 (o := 17) hX fl_X7_29 rfl m1_g dX7_set_82 ?_
      refine r_iload_n hX rfl 2 rfl dX7_set_85 ?_
      refine r_iload_n hX rfl 4 rfl dX7_set_86 ?_
      obtain ⟨hk1, h⟩ := kc_e h
      obtain ⟨P2, hP2, h⟩ := nb_e h
      refine pa_7_7 (o := 17) hX rfl m1_g hk1 (m1_w hP2) dX7_set_87 ?_
      refine r_iload hX 0 rfl dX7_set_88 ?_
      have g0 := Option.some.inj h
      obtain ⟨q0, g1⟩ := Prod.mk.inj g0
      subst q0
      subst g1
      exact r_iret hX hQ dX7_set_90
    · replace h := ip_e hc h
      refine r_aload_n hX rfl 1 rfl dX7_set_71 ?_
      refine gf_7_5 (o := 17) hX fl_X7_26 rfl m1_g dX7_set_72 ?_
      refine r_iload_n hX rfl 2 rfl dX7_set_75 ?_
      refine r_iload_n hX rfl 4 rfl dX7_set_76 ?_
      obtain ⟨hk3, h⟩ := kc_e h
      obtain ⟨P4, hP4, h⟩ := nb_e h
      refine pa_7_6 (o := 17) hX rfl m1_g hk3 (m1_w hP4) dX7_set_77 ?_
      refine r_goto hX dX7_set_78 ?_
      refine r_iload hX 0 rfl dX7_set_88 ?_
      have g0 := Option.some.inj h
      obtain ⟨q0, g1⟩ := Prod.mk.inj g0
      subst q0
      subst g1
      exact r_iret hX hQ dX7_set_90
  have K46 : ∀ (P : Pm) (v1 : Int32) (v2 : Int32) (v3 : Int32) (_ : True), f_X7_set_J46 P v1 v2 v3 = some (rz, Pz) → WW X G 5 (m1 σ 17 P) lm 46 [(0, .ref (gA G 17 0)), (1, .int v1), (2, .int v2), (3, .int v3)] [] := by
    intro P v1 v2 v3 _ h
    unfold f_X7_set_J46 at h
    refine r_iload_n hX rfl 2 rfl dX7_set_46 ?_
    refine r_if_ne hX dX7_set_47 (fun hc => ?_) (fun hc => ?_)
    · replace h := in_e hc h
      refine r_aload_n hX rfl 0 rfl dX7_set_59 ?_
      refine gf_7_6 (o := 17) hX fl_X7_29 rfl m1_g dX7_set_60 ?_
      refine r_iload_n hX rfl 1 rfl dX7_set_63 ?_
      obtain ⟨hk5, h⟩ := kc_e h
      refine ga_7_7 (o := 17) hX rfl m1_g hk5 dX7_set_64 ?_
      exact WW.sub [0, 1, 2, 3] rfl (K65 P v1 v2 v3 (P 7 (ix v1)) trivial h)
    · replace h := ip_e hc h
      refine r_aload_n hX rfl 0 rfl dX7_set_50 ?_
      refine gf_7_5 (o := 17) hX fl_X7_26 rfl m1_g dX7_set_51 ?_
      refine r_iload_n hX rfl 1 rfl dX7_set_54 ?_
      obtain ⟨hk6, h⟩ := kc_e h
      refine ga_7_6 (o := 17) hX rfl m1_g hk6 dX7_set_55 ?_
      refine r_goto hX dX7_set_56 ?_
      exact WW.sub [0, 1, 2, 3] rfl (K65 P v1 v2 v3 (P 6 (ix v1)) trivial h)
  unfold f_X7_set at h
  refine r_aload_n hX rfl 0 rfl dX7_set_0 ?_
  refine r_iload_n hX rfl 1 rfl dX7_set_1 ?_
  obtain ⟨x7, hc7, h⟩ := bn_e h
  refine r_callVi hX hR (c_X7_isBorrower (σ := σ) X.2.1 G hc7) rfl rfl mf_X7_isBorrower ml_X7_274 in_X7_isBorrower se_X7_isBorrower rfl rfl ⟨rfl, rfl, Nat.le_of_ble_eq_true rfl, Nat.le_of_ble_eq_true rfl⟩ rfl (st := []) rfl (Nat.le_of_ble_eq_true rfl) dX7_set_2 ?_
  refine r_if_eq hX dX7_set_5 (fun hc => ?_) (fun hc => ?_)
  · replace h := ip_e hc h
    refine r_iconst (v := (-1)) hX (by decide) dX7_set_18 ?_
    have g0 := Option.some.inj h
    obtain ⟨q0, g1⟩ := Prod.mk.inj g0
    subst q0
    subst g1
    exact r_iret hX hQ dX7_set_19
  · replace h := in_e hc h
    refine r_aload_n hX rfl 0 rfl dX7_set_8 ?_
    refine r_iload_n hX rfl 2 rfl dX7_set_9 ?_
    refine r_iconst (v := 0) hX (by decide) dX7_set_10 ?_
    refine r_iconst (v := 1) hX (by decide) dX7_set_11 ?_
    obtain ⟨x8, hc8, h⟩ := bn_e h
    refine r_callVi hX hR (c_X7_in (σ := σ) X.2.1 G hc8) rfl rfl mf_X7_in ml_X7_263 in_X7_in se_X7_in rfl rfl ⟨rfl, rfl, Nat.le_of_ble_eq_true rfl, Nat.le_of_ble_eq_true rfl⟩ rfl (st := []) rfl (Nat.le_of_ble_eq_true rfl) dX7_set_12 ?_
    refine r_if_ne hX dX7_set_15 (fun hc => ?_) (fun hc => ?_)
    · replace h := in_e hc h
      refine r_iload_n hX rfl 2 rfl dX7_set_20 ?_
      refine r_if_ne hX dX7_set_21 (fun hc => ?_) (fun hc => ?_)
      · replace h := in_e hc h
        refine r_aload_n hX rfl 0 rfl dX7_set_35 ?_
        refine r_iload_n hX rfl 3 rfl dX7_set_36 ?_
        obtain ⟨x9, hc9, h⟩ := bn_e h
        refine r_callVi hX hR (c_X7_isEvery (σ := σ) X.2.1 G hc9) rfl rfl mf_X7_isEvery ml_X7_271 in_X7_isEvery se_X7_isEvery rfl rfl ⟨rfl, rfl, Nat.le_of_ble_eq_true rfl, Nat.le_of_ble_eq_true rfl⟩ rfl (st := []) rfl (Nat.le_of_ble_eq_true rfl) dX7_set_37 ?_
        refine r_if_ne hX dX7_set_40 (fun hc => ?_) (fun hc => ?_)
        · replace h := in_e hc h
          exact WW.sub [0, 1, 2, 3] rfl (K46 P a1 a2 a3 trivial h)
        · replace h := ip_e hc h
          refine r_bipush (v := (-2)) hX (by decide) dX7_set_43 ?_
          have g0 := Option.some.inj h
          obtain ⟨q0, g1⟩ := Prod.mk.inj g0
          subst q0
          subst g1
          exact r_iret hX hQ dX7_set_45
      · replace h := ip_e hc h
        refine r_aload_n hX rfl 0 rfl dX7_set_24 ?_
        refine r_iload_n hX rfl 3 rfl dX7_set_25 ?_
        obtain ⟨x10, hc10, h⟩ := bn_e h
        refine r_callVi hX hR (c_X7_isWants (σ := σ) X.2.1 G hc10) rfl rfl mf_X7_isWants ml_X7_267 in_X7_isWants se_X7_isWants rfl rfl ⟨rfl, rfl, Nat.le_of_ble_eq_true rfl, Nat.le_of_ble_eq_true rfl⟩ rfl (st := []) rfl (Nat.le_of_ble_eq_true rfl) dX7_set_26 ?_
        refine r_if_ne hX dX7_set_29 (fun hc => ?_) (fun hc => ?_)
        · replace h := in_e hc h
          exact WW.sub [0, 1, 2, 3] rfl (K46 P a1 a2 a3 trivial h)
        · replace h := ip_e hc h
          refine r_goto hX dX7_set_32 ?_
          refine r_bipush (v := (-2)) hX (by decide) dX7_set_43 ?_
          have g0 := Option.some.inj h
          obtain ⟨q0, g1⟩ := Prod.mk.inj g0
          subst q0
          subst g1
          exact r_iret hX hQ dX7_set_45
    · replace h := ip_e hc h
      refine r_iconst (v := (-1)) hX (by decide) dX7_set_18 ?_
      have g0 := Option.some.inj h
      obtain ⟨q0, g1⟩ := Prod.mk.inj g0
      subst q0
      subst g1
      exact r_iret hX hQ dX7_set_19
abbrev rm_X7_row : Room := { frames := 2, cells := 0, slots := 0, locals := 104 }
def f_X7_row (P : Pm) (a1 : Int32) (a2 : Int32) (a3 : Int32) : Option (Int32 × Pm) :=
  Option.bind (f_X7_isBorrower P a1) (fun x1 => (if x1 = 0 then some ((-1), P) else Option.bind (f_X7_in P a2 0 3) (fun x2 => (if x2 = 0 then some ((-1), P) else Option.bind (f_X7_in P a3 0 9) (fun x3 => (if x3 = 0 then some ((-2), P) else (if inb a1 6 = true then (if (P 4 (ix a1)) = 6 then (if inb ((4 * a1) + a2) 24 = true then (if inb ((4 * a1) + a2) 24 = true then nb (up2 P 12 (ix ((4 * a1) + a2)) a3) (fun P7 => some ((P 12 (ix ((4 * a1) + a2))), P7)) else none) else none) else some ((-3), P)) else none)))))))
set_option maxHeartbeats 4000000 in
set_option maxRecDepth 100000 in
theorem c_X7_row (l : Launch) (G : GE) {σ : Mm} {lm : Ml}  {P : Pm} {a1 : Int32} {a2 : Int32} {a3 : Int32} {rz : Int32} {Pz : Pm} (h : f_X7_row P a1 a2 a3 = some (rz, Pz)) : CM l G yX7_row bX7_row 5 (Option.some Jvm.ClassFile.FieldType.int) rm_X7_row [.ref (gA G 17 0), .int a1, .int a2, .int a3] (m1 σ 17 P) lm (some (.int rz)) (m1 σ 17 Pz) lm := by
  refine CM.of (own := zR7) (L0 := [(0, .ref (gA G 17 0)), (1, .int a1), (2, .int a2), (3, .int a3)]) (by decide +kernel) rfl (Nat.le_of_ble_eq_true rfl) rfl (fun X hl hX hR hQ => ?_)
  unfold f_X7_row at h
  refine r_aload_n hX rfl 0 rfl dX7_row_0 ?_
  refine r_iload_n hX rfl 1 rfl dX7_row_1 ?_
  obtain ⟨x1, hc1, h⟩ := bn_e h
  refine r_callVi hX hR (c_X7_isBorrower (σ := σ) X.2.1 G hc1) rfl rfl mf_X7_isBorrower ml_X7_274 in_X7_isBorrower se_X7_isBorrower rfl rfl ⟨rfl, rfl, Nat.le_of_ble_eq_true rfl, Nat.le_of_ble_eq_true rfl⟩ rfl (st := []) rfl (Nat.le_of_ble_eq_true rfl) dX7_row_2 ?_
  refine r_if_eq hX dX7_row_5 (fun hc => ?_) (fun hc => ?_)
  · replace h := ip_e hc h
    refine r_iconst (v := (-1)) hX (by decide) dX7_row_18 ?_
    have g0 := Option.some.inj h
    obtain ⟨q0, g1⟩ := Prod.mk.inj g0
    subst q0
    subst g1
    exact r_iret hX hQ dX7_row_19
  · replace h := in_e hc h
    refine r_aload_n hX rfl 0 rfl dX7_row_8 ?_
    refine r_iload_n hX rfl 2 rfl dX7_row_9 ?_
    refine r_iconst (v := 0) hX (by decide) dX7_row_10 ?_
    refine r_iconst (v := 3) hX (by decide) dX7_row_11 ?_
    obtain ⟨x2, hc2, h⟩ := bn_e h
    refine r_callVi hX hR (c_X7_in (σ := σ) X.2.1 G hc2) rfl rfl mf_X7_in ml_X7_263 in_X7_in se_X7_in rfl rfl ⟨rfl, rfl, Nat.le_of_ble_eq_true rfl, Nat.le_of_ble_eq_true rfl⟩ rfl (st := []) rfl (Nat.le_of_ble_eq_true rfl) dX7_row_12 ?_
    refine r_if_ne hX dX7_row_15 (fun hc => ?_) (fun hc => ?_)
    · replace h := in_e hc h
      refine r_aload_n hX rfl 0 rfl dX7_row_20 ?_
      refine r_iload_n hX rfl 3 rfl dX7_row_21 ?_
      refine r_iconst (v := 0) hX (by decide) dX7_row_22 ?_
      refine r_bipush (v := 9) hX (by decide) dX7_row_23 ?_
      obtain ⟨x3, hc3, h⟩ := bn_e h
      refine r_callVi hX hR (c_X7_in (σ := σ) X.2.1 G hc3) rfl rfl mf_X7_in ml_X7_263 in_X7_in se_X7_in rfl rfl ⟨rfl, rfl, Nat.le_of_ble_eq_true rfl, Nat.le_of_ble_eq_true rfl⟩ rfl (st := []) rfl (Nat.le_of_ble_eq_true rfl) dX7_row_25 ?_
      refine r_if_ne hX dX7_row_28 (fun hc => ?_) (fun hc => ?_)
      · replace h := in_e hc h
        refine r_aload_n hX rfl 0 rfl dX7_row_34 ?_
        refine gf_7_3 (o := 17) hX fl_X7_19 rfl m1_g dX7_row_35 ?_
        refine r_iload_n hX rfl 1 rfl dX7_row_38 ?_
        obtain ⟨hk4, h⟩ := kc_e h
        refine ga_7_4 (o := 17) hX rfl m1_g hk4 dX7_row_39 ?_
        refine r_bipush (v := 6) hX (by decide) dX7_row_40 ?_
        refine r_icmp_eq hX dX7_row_42 (fun hc => ?_) (fun hc => ?_)
        · replace h := ip_e hc h
          refine r_aload_n hX rfl 0 rfl dX7_row_48 ?_
          refine gf_7_11 (o := 17) hX fl_X7_44 rfl m1_g dX7_row_49 ?_
          refine r_iconst (v := 4) hX (by decide) dX7_row_52 ?_
          refine r_iload_n hX rfl 1 rfl dX7_row_53 ?_
          refine r_imul hX dX7_row_54 ?_
          refine r_iload_n hX rfl 2 rfl dX7_row_55 ?_
          refine r_iadd hX dX7_row_56 ?_
          obtain ⟨hk5, h⟩ := kc_e h
          refine ga_7_12 (o := 17) hX rfl m1_g hk5 dX7_row_57 ?_
          refine r_istore (L2 := [(4, .int (P 12 (ix ((4 * a1) + a2)))), (0, .ref (gA G 17 0)), (1, .int a1), (2, .int a2), (3, .int a3)]) hX (by decide) rfl dX7_row_58 ?_
          refine r_aload_n hX rfl 1 rfl dX7_row_60 ?_
          refine gf_7_11 (o := 17) hX fl_X7_44 rfl m1_g dX7_row_61 ?_
          refine r_iconst (v := 4) hX (by decide) dX7_row_64 ?_
          refine r_iload_n hX rfl 2 rfl dX7_row_65 ?_
          refine r_imul hX dX7_row_66 ?_
          refine r_iload_n hX rfl 3 rfl dX7_row_67 ?_
          refine r_iadd hX dX7_row_68 ?_
          refine r_iload_n hX rfl 4 rfl dX7_row_69 ?_
          obtain ⟨hk6, h⟩ := kc_e h
          obtain ⟨P7, hP7, h⟩ := nb_e h
          refine pa_7_12 (o := 17) hX rfl m1_g hk6 (m1_w hP7) dX7_row_70 ?_
          refine r_iload hX 0 rfl dX7_row_71 ?_
          have g0 := Option.some.inj h
          obtain ⟨q0, g1⟩ := Prod.mk.inj g0
          subst q0
          subst g1
          exact r_iret hX hQ dX7_row_73
        · replace h := in_e hc h
          refine r_bipush (v := (-3)) hX (by decide) dX7_row_45 ?_
          have g0 := Option.some.inj h
          obtain ⟨q0, g1⟩ := Prod.mk.inj g0
          subst q0
          subst g1
          exact r_iret hX hQ dX7_row_47
      · replace h := ip_e hc h
        refine r_bipush (v := (-2)) hX (by decide) dX7_row_31 ?_
        have g0 := Option.some.inj h
        obtain ⟨q0, g1⟩ := Prod.mk.inj g0
        subst q0
        subst g1
        exact r_iret hX hQ dX7_row_33
    · replace h := ip_e hc h
      refine r_iconst (v := (-1)) hX (by decide) dX7_row_18 ?_
      have g0 := Option.some.inj h
      obtain ⟨q0, g1⟩ := Prod.mk.inj g0
      subst q0
      subst g1
      exact r_iret hX hQ dX7_row_19
abbrev rm_X7_depth : Room := { frames := 2, cells := 0, slots := 0, locals := 104 }
def f_X7_depth (P : Pm) (a1 : Int32) : Option (Int32 × Pm) :=
  Option.bind (f_X7_isDepth P a1) (fun x1 => (if x1 = 0 then some ((-2), P) else nb (up2 P 0 0 a1) (fun P2 => some ((P 0 0), P2))))
set_option maxHeartbeats 4000000 in
set_option maxRecDepth 100000 in
theorem c_X7_depth (l : Launch) (G : GE) {σ : Mm} {lm : Ml}  {P : Pm} {a1 : Int32} {rz : Int32} {Pz : Pm} (h : f_X7_depth P a1 = some (rz, Pz)) : CM l G yX7_depth bX7_depth 3 (Option.some Jvm.ClassFile.FieldType.int) rm_X7_depth [.ref (gA G 17 0), .int a1] (m1 σ 17 P) lm (some (.int rz)) (m1 σ 17 Pz) lm := by
  refine CM.of (own := zR7) (L0 := [(0, .ref (gA G 17 0)), (1, .int a1)]) (by decide +kernel) rfl (Nat.le_of_ble_eq_true rfl) rfl (fun X hl hX hR hQ => ?_)
  unfold f_X7_depth at h
  refine r_aload_n hX rfl 0 rfl dX7_depth_0 ?_
  refine r_iload_n hX rfl 1 rfl dX7_depth_1 ?_
  obtain ⟨x1, hc1, h⟩ := bn_e h
  refine r_callVi hX hR (c_X7_isDepth (σ := σ) X.2.1 G hc1) rfl rfl mf_X7_isDepth ml_X7_277 in_X7_isDepth se_X7_isDepth rfl rfl ⟨rfl, rfl, Nat.le_of_ble_eq_true rfl, Nat.le_of_ble_eq_true rfl⟩ rfl (st := []) rfl (Nat.le_of_ble_eq_true rfl) dX7_depth_2 ?_
  refine r_if_ne hX dX7_depth_5 (fun hc => ?_) (fun hc => ?_)
  · replace h := in_e hc h
    refine r_aload_n hX rfl 0 rfl dX7_depth_11 ?_
    refine gf_7_0 (o := 17) hX fl_X7_7 rfl m1_g dX7_depth_12 ?_
    refine r_istore_n (L2 := [(2, .int (P 0 0)), (0, .ref (gA G 17 0)), (1, .int a1)]) hX rfl (by decide) rfl dX7_depth_15 ?_
    refine r_aload_n hX rfl 1 rfl dX7_depth_16 ?_
    refine r_iload_n hX rfl 2 rfl dX7_depth_17 ?_
    obtain ⟨P2, hP2, h⟩ := nb_e h
    refine pf_7_0 (o := 17) hX fl_X7_7 rfl m1_g dX7_depth_18 (m1_w hP2) ?_
    refine r_iload_n hX rfl 0 rfl dX7_depth_21 ?_
    have g0 := Option.some.inj h
    obtain ⟨q0, g1⟩ := Prod.mk.inj g0
    subst q0
    subst g1
    exact r_iret hX hQ dX7_depth_22
  · replace h := ip_e hc h
    refine r_bipush (v := (-2)) hX (by decide) dX7_depth_8 ?_
    have g0 := Option.some.inj h
    obtain ⟨q0, g1⟩ := Prod.mk.inj g0
    subst q0
    subst g1
    exact r_iret hX hQ dX7_depth_10
abbrev rm_X7_changes : Room := { frames := 0, cells := 0, slots := 0, locals := 60 }
def f_X7_changes (P : Pm) (a1 : Int32) (a2 : Int32) : Option (Pm) :=
  (if inb a1 6 = true then (if inb a2 6 = true then (if inb a1 6 = true then nb (up2 P 13 (ix a1) (P 13 (ix a2))) (fun P4 => (if inb a2 6 = true then nb (up2 P4 13 (ix a2) (P 13 (ix a1))) (fun P6 => some P6) else none)) else none) else none) else none)
set_option maxHeartbeats 4000000 in
set_option maxRecDepth 100000 in
theorem c_X7_changes (l : Launch) (G : GE) {σ : Mm} {lm : Ml}  {P : Pm} {a1 : Int32} {a2 : Int32} {Pz : Pm} (h : f_X7_changes P a1 a2 = some Pz) : CM l G yX7_changes bX7_changes 4 (Option.none : Option Jvm.ClassFile.FieldType) rm_X7_changes [.ref (gA G 17 0), .int a1, .int a2] (m1 σ 17 P) lm (none) (m1 σ 17 Pz) lm := by
  refine CM.of (own := zR7) (L0 := [(0, .ref (gA G 17 0)), (1, .int a1), (2, .int a2)]) (by decide +kernel) rfl (Nat.le_of_ble_eq_true rfl) rfl (fun X hl hX hR hQ => ?_)
  unfold f_X7_changes at h
  refine r_aload_n hX rfl 0 rfl dX7_changes_0 ?_
  refine gf_7_12 (o := 17) hX fl_X7_47 rfl m1_g dX7_changes_1 ?_
  refine r_iload_n hX rfl 1 rfl dX7_changes_4 ?_
  obtain ⟨hk1, h⟩ := kc_e h
  refine ga_7_13 (o := 17) hX rfl m1_g hk1 dX7_changes_5 ?_
  refine r_istore_n (L2 := [(3, .int (P 13 (ix a1))), (0, .ref (gA G 17 0)), (1, .int a1), (2, .int a2)]) hX rfl (by decide) rfl dX7_changes_6 ?_
  refine r_aload_n hX rfl 1 rfl dX7_changes_7 ?_
  refine gf_7_12 (o := 17) hX fl_X7_47 rfl m1_g dX7_changes_8 ?_
  refine r_iload_n hX rfl 2 rfl dX7_changes_11 ?_
  refine r_aload_n hX rfl 1 rfl dX7_changes_12 ?_
  refine gf_7_12 (o := 17) hX fl_X7_47 rfl m1_g dX7_changes_13 ?_
  refine r_iload_n hX rfl 3 rfl dX7_changes_16 ?_
  obtain ⟨hk2, h⟩ := kc_e h
  refine ga_7_13 (o := 17) hX rfl m1_g hk2 dX7_changes_17 ?_
  obtain ⟨hk3, h⟩ := kc_e h
  obtain ⟨P4, hP4, h⟩ := nb_e h
  refine pa_7_13 (o := 17) hX rfl m1_g hk3 (m1_w hP4) dX7_changes_18 ?_
  refine r_aload_n hX rfl 1 rfl dX7_changes_19 ?_
  refine gf_7_12 (o := 17) hX fl_X7_47 rfl m1_g dX7_changes_20 ?_
  refine r_iload_n hX rfl 3 rfl dX7_changes_23 ?_
  refine r_iload_n hX rfl 0 rfl dX7_changes_24 ?_
  obtain ⟨hk5, h⟩ := kc_e h
  obtain ⟨P6, hP6, h⟩ := nb_e h
  refine pa_7_13 (o := 17) hX rfl m1_g hk5 (m1_w hP6) dX7_changes_25 ?_
  have g0 := Option.some.inj h
  subst g0
  exact r_vret hX hQ dX7_changes_26
abbrev rm_X7_change : Room := { frames := 2, cells := 0, slots := 0, locals := 104 }
def f_X7_change (P : Pm) (a1 : Int32) (a2 : Int32) : Option (Int32 × Pm) :=
  Option.bind (f_X7_isBorrower P a1) (fun x1 => (if x1 = 0 then some ((-1), P) else Option.bind (f_X7_isBorrower P a2) (fun x2 => (if x2 = 0 then some ((-1), P) else (if a1 = a2 then some ((-2), P) else Option.bind (f_X7_changes P a1 a2) (fun P3 => (if inb a2 6 = true then some ((P3 13 (ix a2)), P3) else none)))))))
set_option maxHeartbeats 4000000 in
set_option maxRecDepth 100000 in
theorem c_X7_change (l : Launch) (G : GE) {σ : Mm} {lm : Ml}  {P : Pm} {a1 : Int32} {a2 : Int32} {rz : Int32} {Pz : Pm} (h : f_X7_change P a1 a2 = some (rz, Pz)) : CM l G yX7_change bX7_change 3 (Option.some Jvm.ClassFile.FieldType.int) rm_X7_change [.ref (gA G 17 0), .int a1, .int a2] (m1 σ 17 P) lm (some (.int rz)) (m1 σ 17 Pz) lm := by
  refine CM.of (own := zR7) (L0 := [(0, .ref (gA G 17 0)), (1, .int a1), (2, .int a2)]) (by decide +kernel) rfl (Nat.le_of_ble_eq_true rfl) rfl (fun X hl hX hR hQ => ?_)
  unfold f_X7_change at h
  refine r_aload_n hX rfl 0 rfl dX7_change_0 ?_
  refine r_iload_n hX rfl 1 rfl dX7_change_1 ?_
  obtain ⟨x1, hc1, h⟩ := bn_e h
  refine r_callVi hX hR (c_X7_isBorrower (σ := σ) X.2.1 G hc1) rfl rfl mf_X7_isBorrower ml_X7_274 in_X7_isBorrower se_X7_isBorrower rfl rfl ⟨rfl, rfl, Nat.le_of_ble_eq_true rfl, Nat.le_of_ble_eq_true rfl⟩ rfl (st := []) rfl (Nat.le_of_ble_eq_true rfl) dX7_change_2 ?_
  refine r_if_eq hX dX7_change_5 (fun hc => ?_) (fun hc => ?_)
  · replace h := ip_e hc h
    refine r_iconst (v := (-1)) hX (by decide) dX7_change_16 ?_
    have g0 := Option.some.inj h
    obtain ⟨q0, g1⟩ := Prod.mk.inj g0
    subst q0
    subst g1
    exact r_iret hX hQ dX7_change_17
  · replace h := in_e hc h
    refine r_aload_n hX rfl 0 rfl dX7_change_8 ?_
    refine r_iload_n hX rfl 2 rfl dX7_change_9 ?_
    obtain ⟨x2, hc2, h⟩ := bn_e h
    refine r_callVi hX hR (c_X7_isBorrower (σ := σ) X.2.1 G hc2) rfl rfl mf_X7_isBorrower ml_X7_274 in_X7_isBorrower se_X7_isBorrower rfl rfl ⟨rfl, rfl, Nat.le_of_ble_eq_true rfl, Nat.le_of_ble_eq_true rfl⟩ rfl (st := []) rfl (Nat.le_of_ble_eq_true rfl) dX7_change_10 ?_
    refine r_if_ne hX dX7_change_13 (fun hc => ?_) (fun hc => ?_)
    · replace h := in_e hc h
      refine r_iload_n hX rfl 1 rfl dX7_change_18 ?_
      refine r_iload_n hX rfl 2 rfl dX7_change_19 ?_
      refine r_icmp_ne hX dX7_change_20 (fun hc => ?_) (fun hc => ?_)
      · replace h := in_e hc h
        refine r_aload_n hX rfl 0 rfl dX7_change_26 ?_
        refine r_iload_n hX rfl 1 rfl dX7_change_27 ?_
        refine r_iload_n hX rfl 2 rfl dX7_change_28 ?_
        obtain ⟨P3, hc3, h⟩ := bn_e h
        refine r_callVv hX hR (c_X7_changes (σ := σ) X.2.1 G hc3) rfl rfl mf_X7_changes ml_X7_280 in_X7_changes se_X7_changes rfl rfl ⟨rfl, rfl, Nat.le_of_ble_eq_true rfl, Nat.le_of_ble_eq_true rfl⟩ rfl (st := []) rfl (Nat.le_of_ble_eq_true rfl) dX7_change_29 ?_
        refine r_aload_n hX rfl 0 rfl dX7_change_32 ?_
        refine gf_7_12 (o := 17) hX fl_X7_47 rfl m1_g dX7_change_33 ?_
        refine r_iload_n hX rfl 2 rfl dX7_change_36 ?_
        obtain ⟨hk4, h⟩ := kc_e h
        refine ga_7_13 (o := 17) hX rfl m1_g hk4 dX7_change_37 ?_
        have g0 := Option.some.inj h
        obtain ⟨q0, g1⟩ := Prod.mk.inj g0
        subst q0
        subst g1
        exact r_iret hX hQ dX7_change_38
      · replace h := ip_e hc h
        refine r_bipush (v := (-2)) hX (by decide) dX7_change_23 ?_
        have g0 := Option.some.inj h
        obtain ⟨q0, g1⟩ := Prod.mk.inj g0
        subst q0
        subst g1
        exact r_iret hX hQ dX7_change_25
    · replace h := ip_e hc h
      refine r_iconst (v := (-1)) hX (by decide) dX7_change_16 ?_
      have g0 := Option.some.inj h
      obtain ⟨q0, g1⟩ := Prod.mk.inj g0
      subst q0
      subst g1
      exact r_iret hX hQ dX7_change_17
abbrev rm_X7_calls : Room := { frames := 1, cells := 0, slots := 0, locals := 82 }
def f_X7_calls (P : Pm) (a1 : Int32) : Option (Pm) :=
  (if inb a1 6 = true then Option.bind (f_X7_held P ((P 0 0) + (P 8 (ix a1))) 9999) (fun x2 => nb (up2 P 0 0 x2) (fun P3 => (if inb a1 6 = true then nb (up2 P3 8 (ix a1) 0) (fun P5 => (if inb a1 6 = true then nb (up2 P5 9 (ix a1) 0) (fun P7 => some P7) else none)) else none))) else none)
set_option maxHeartbeats 4000000 in
set_option maxRecDepth 100000 in
theorem c_X7_calls (l : Launch) (G : GE) {σ : Mm} {lm : Ml}  {P : Pm} {a1 : Int32} {Pz : Pm} (h : f_X7_calls P a1 = some Pz) : CM l G yX7_calls bX7_calls 2 (Option.none : Option Jvm.ClassFile.FieldType) rm_X7_calls [.ref (gA G 17 0), .int a1] (m1 σ 17 P) lm (none) (m1 σ 17 Pz) lm := by
  refine CM.of (own := zR7) (L0 := [(0, .ref (gA G 17 0)), (1, .int a1)]) (by decide +kernel) rfl (Nat.le_of_ble_eq_true rfl) rfl (fun X hl hX hR hQ => ?_)
  unfold f_X7_calls at h
  refine r_aload_n hX rfl 0 rfl dX7_calls_0 ?_
  refine r_aload_n hX rfl 0 rfl dX7_calls_1 ?_
  refine r_aload_n hX rfl 0 rfl dX7_calls_2 ?_
  refine gf_7_0 (o := 17) hX fl_X7_7 rfl m1_g dX7_calls_3 ?_
  refine r_aload_n hX rfl 0 rfl dX7_calls_6 ?_
  refine gf_7_7 (o := 17) hX fl_X7_32 rfl m1_g dX7_calls_7 ?_
  refine r_iload_n hX rfl 1 rfl dX7_calls_10 ?_
  obtain ⟨hk1, h⟩ := kc_e h
  refine ga_7_8 (o := 17) hX rfl m1_g hk1 dX7_calls_11 ?_
  refine r_iadd hX dX7_calls_12 ?_
  refine r_sipush (v := 9999) hX (by decide) dX7_calls_13 ?_
  obtain ⟨x2, hc2, h⟩ := bn_e h
  refine r_callVi hX hR (c_X7_held (σ := σ) X.2.1 G hc2) rfl rfl mf_X7_held ml_X7_284 in_X7_held se_X7_held rfl rfl ⟨rfl, rfl, Nat.le_of_ble_eq_true rfl, Nat.le_of_ble_eq_true rfl⟩ rfl (st := [.ref (gA G 17 0)]) rfl (Nat.le_of_ble_eq_true rfl) dX7_calls_16 ?_
  obtain ⟨P3, hP3, h⟩ := nb_e h
  refine pf_7_0 (o := 17) hX fl_X7_7 rfl m1_g dX7_calls_19 (m1_w hP3) ?_
  refine r_aload_n hX rfl 0 rfl dX7_calls_22 ?_
  refine gf_7_7 (o := 17) hX fl_X7_32 rfl m1_g dX7_calls_23 ?_
  refine r_iload_n hX rfl 1 rfl dX7_calls_26 ?_
  refine r_iconst (v := 0) hX (by decide) dX7_calls_27 ?_
  obtain ⟨hk4, h⟩ := kc_e h
  obtain ⟨P5, hP5, h⟩ := nb_e h
  refine pa_7_8 (o := 17) hX rfl m1_g hk4 (m1_w hP5) dX7_calls_28 ?_
  refine r_aload_n hX rfl 0 rfl dX7_calls_29 ?_
  refine gf_7_8 (o := 17) hX fl_X7_35 rfl m1_g dX7_calls_30 ?_
  refine r_iload_n hX rfl 1 rfl dX7_calls_33 ?_
  refine r_iconst (v := 0) hX (by decide) dX7_calls_34 ?_
  obtain ⟨hk6, h⟩ := kc_e h
  obtain ⟨P7, hP7, h⟩ := nb_e h
  refine pa_7_9 (o := 17) hX rfl m1_g hk6 (m1_w hP7) dX7_calls_35 ?_
  have g0 := Option.some.inj h
  subst g0
  exact r_vret hX hQ dX7_calls_36
abbrev rm_X7_call : Room := { frames := 2, cells := 0, slots := 0, locals := 104 }
def f_X7_call (P : Pm) (a1 : Int32) : Option (Int32 × Pm) :=
  Option.bind (f_X7_isBorrower P a1) (fun x1 => (if x1 = 0 then some ((-1), P) else (if inb a1 6 = true then (if (P 8 (ix a1)) = 0 then some ((-3), P) else (if inb a1 6 = true then Option.bind (f_X7_calls P a1) (fun P4 => some ((P 8 (ix a1)), P4)) else none)) else none)))
set_option maxHeartbeats 4000000 in
set_option maxRecDepth 100000 in
theorem c_X7_call (l : Launch) (G : GE) {σ : Mm} {lm : Ml}  {P : Pm} {a1 : Int32} {rz : Int32} {Pz : Pm} (h : f_X7_call P a1 = some (rz, Pz)) : CM l G yX7_call bX7_call 3 (Option.some Jvm.ClassFile.FieldType.int) rm_X7_call [.ref (gA G 17 0), .int a1] (m1 σ 17 P) lm (some (.int rz)) (m1 σ 17 Pz) lm := by
  refine CM.of (own := zR7) (L0 := [(0, .ref (gA G 17 0)), (1, .int a1)]) (by decide +kernel) rfl (Nat.le_of_ble_eq_true rfl) rfl (fun X hl hX hR hQ => ?_)
  unfold f_X7_call at h
  refine r_aload_n hX rfl 0 rfl dX7_call_0 ?_
  refine r_iload_n hX rfl 1 rfl dX7_call_1 ?_
  obtain ⟨x1, hc1, h⟩ := bn_e h
  refine r_callVi hX hR (c_X7_isBorrower (σ := σ) X.2.1 G hc1) rfl rfl mf_X7_isBorrower ml_X7_274 in_X7_isBorrower se_X7_isBorrower rfl rfl ⟨rfl, rfl, Nat.le_of_ble_eq_true rfl, Nat.le_of_ble_eq_true rfl⟩ rfl (st := []) rfl (Nat.le_of_ble_eq_true rfl) dX7_call_2 ?_
  refine r_if_ne hX dX7_call_5 (fun hc => ?_) (fun hc => ?_)
  · replace h := in_e hc h
    refine r_aload_n hX rfl 0 rfl dX7_call_10 ?_
    refine gf_7_7 (o := 17) hX fl_X7_32 rfl m1_g dX7_call_11 ?_
    refine r_iload_n hX rfl 1 rfl dX7_call_14 ?_
    obtain ⟨hk2, h⟩ := kc_e h
    refine ga_7_8 (o := 17) hX rfl m1_g hk2 dX7_call_15 ?_
    refine r_if_ne hX dX7_call_16 (fun hc => ?_) (fun hc => ?_)
    · replace h := in_e hc h
      refine r_aload_n hX rfl 0 rfl dX7_call_22 ?_
      refine gf_7_7 (o := 17) hX fl_X7_32 rfl m1_g dX7_call_23 ?_
      refine r_iload_n hX rfl 1 rfl dX7_call_26 ?_
      obtain ⟨hk3, h⟩ := kc_e h
      refine ga_7_8 (o := 17) hX rfl m1_g hk3 dX7_call_27 ?_
      refine r_istore_n (L2 := [(2, .int (P 8 (ix a1))), (0, .ref (gA G 17 0)), (1, .int a1)]) hX rfl (by decide) rfl dX7_call_28 ?_
      refine r_aload_n hX rfl 1 rfl dX7_call_29 ?_
      refine r_iload_n hX rfl 2 rfl dX7_call_30 ?_
      obtain ⟨P4, hc4, h⟩ := bn_e h
      refine r_callVv hX hR (c_X7_calls (σ := σ) X.2.1 G hc4) rfl rfl mf_X7_calls ml_X7_288 in_X7_calls se_X7_calls rfl rfl ⟨rfl, rfl, Nat.le_of_ble_eq_true rfl, Nat.le_of_ble_eq_true rfl⟩ rfl (st := []) rfl (Nat.le_of_ble_eq_true rfl) dX7_call_31 ?_
      refine r_iload_n hX rfl 0 rfl dX7_call_34 ?_
      have g0 := Option.some.inj h
      obtain ⟨q0, g1⟩ := Prod.mk.inj g0
      subst q0
      subst g1
      exact r_iret hX hQ dX7_call_35
    · replace h := ip_e hc h
      refine r_bipush (v := (-3)) hX (by decide) dX7_call_19 ?_
      have g0 := Option.some.inj h
      obtain ⟨q0, g1⟩ := Prod.mk.inj g0
      subst q0
      subst g1
      exact r_iret hX hQ dX7_call_21
  · replace h := ip_e hc h
    refine r_iconst (v := (-1)) hX (by decide) dX7_call_8 ?_
    have g0 := Option.some.inj h
    obtain ⟨q0, g1⟩ := Prod.mk.inj g0
    subst q0
    subst g1
    exact r_iret hX hQ dX7_call_9
abbrev rm_X7_feed : Room := { frames := 1, cells := 0, slots := 0, locals := 83 }
def f_X7_feed (P : Pm) (a1 : Int32) : Option (Int32 × Pm) :=
  Option.bind (f_X7_in P a1 0 127) (fun x1 => (if x1 = 0 then some ((-2), P) else (if (P 0 15) = 100 then some ((-4), P) else (if inb (P 0 15) 100 = true then nb (up2 P 19 (ix (P 0 15)) a1) (fun P3 => nb (up2 P3 0 15 ((P3 0 15) + 1)) (fun P4 => some ((P4 0 15), P4))) else none))))
set_option maxHeartbeats 4000000 in
set_option maxRecDepth 100000 in
theorem c_X7_feed (l : Launch) (G : GE) {σ : Mm} {lm : Ml}  {P : Pm} {a1 : Int32} {rz : Int32} {Pz : Pm} (h : f_X7_feed P a1 = some (rz, Pz)) : CM l G yX7_feed bX7_feed 2 (Option.some Jvm.ClassFile.FieldType.int) rm_X7_feed [.ref (gA G 17 0), .int a1] (m1 σ 17 P) lm (some (.int rz)) (m1 σ 17 Pz) lm := by
  refine CM.of (own := zR7) (L0 := [(0, .ref (gA G 17 0)), (1, .int a1)]) (by decide +kernel) rfl (Nat.le_of_ble_eq_true rfl) rfl (fun X hl hX hR hQ => ?_)
  unfold f_X7_feed at h
  refine r_aload_n hX rfl 0 rfl dX7_feed_0 ?_
  refine r_iload_n hX rfl 1 rfl dX7_feed_1 ?_
  refine r_iconst (v := 0) hX (by decide) dX7_feed_2 ?_
  refine r_bipush (v := 127) hX (by decide) dX7_feed_3 ?_
  obtain ⟨x1, hc1, h⟩ := bn_e h
  refine r_callVi hX hR (c_X7_in (σ := σ) X.2.1 G hc1) rfl rfl mf_X7_in ml_X7_263 in_X7_in se_X7_in rfl rfl ⟨rfl, rfl, Nat.le_of_ble_eq_true rfl, Nat.le_of_ble_eq_true rfl⟩ rfl (st := []) rfl (Nat.le_of_ble_eq_true rfl) dX7_feed_5 ?_
  refine r_if_ne hX dX7_feed_8 (fun hc => ?_) (fun hc => ?_)
  · replace h := in_e hc h
    refine r_aload_n hX rfl 0 rfl dX7_feed_14 ?_
    refine gf_7_15 (o := 17) hX fl_X7_56 rfl m1_g dX7_feed_15 ?_
    refine r_bipush (v := 100) hX (by decide) dX7_feed_18 ?_
    refine r_icmp_ne hX dX7_feed_20 (fun hc => ?_) (fun hc => ?_)
    · replace h := in_e hc h
      refine r_aload_n hX rfl 0 rfl dX7_feed_26 ?_
      refine gf_7_18 (o := 17) hX fl_X7_65 rfl m1_g dX7_feed_27 ?_
      refine r_aload_n hX rfl 0 rfl dX7_feed_30 ?_
      refine gf_7_15 (o := 17) hX fl_X7_56 rfl m1_g dX7_feed_31 ?_
      refine r_iload_n hX rfl 1 rfl dX7_feed_34 ?_
      obtain ⟨hk2, h⟩ := kc_e h
      obtain ⟨P3, hP3, h⟩ := nb_e h
      refine pa_7_19 (o := 17) hX rfl m1_g hk2 (m1_w hP3) dX7_feed_35 ?_
      refine r_aload_n hX rfl 0 rfl dX7_feed_36 ?_
      refine r_dup hX rfl dX7_feed_37 ?_
      refine gf_7_15 (o := 17) hX fl_X7_56 rfl m1_g dX7_feed_38 ?_
      refine r_iconst (v := 1) hX (by decide) dX7_feed_41 ?_
      refine r_iadd hX dX7_feed_42 ?_
      obtain ⟨P4, hP4, h⟩ := nb_e h
      refine pf_7_15 (o := 17) hX fl_X7_56 rfl m1_g dX7_feed_43 (m1_w hP4) ?_
      refine r_aload_n hX rfl 0 rfl dX7_feed_46 ?_
      refine gf_7_15 (o := 17) hX fl_X7_56 rfl m1_g dX7_feed_47 ?_
      have g0 := Option.some.inj h
      obtain ⟨q0, g1⟩ := Prod.mk.inj g0
      subst q0
      subst g1
      exact r_iret hX hQ dX7_feed_50
    · replace h := ip_e hc h
      refine r_bipush (v := (-4)) hX (by decide) dX7_feed_23 ?_
      have g0 := Option.some.inj h
      obtain ⟨q0, g1⟩ := Prod.mk.inj g0
      subst q0
      subst g1
      exact r_iret hX hQ dX7_feed_25
  · replace h := ip_e hc h
    refine r_bipush (v := (-2)) hX (by decide) dX7_feed_11 ?_
    have g0 := Option.some.inj h
    obtain ⟨q0, g1⟩ := Prod.mk.inj g0
    subst q0
    subst g1
    exact r_iret hX hQ dX7_feed_13
abbrev rm_X7_next : Room := { frames := 0, cells := 0, slots := 0, locals := 60 }
def f_X7_next (P : Pm) : Option (Int32) :=
  (if (P 0 15) ≤ (P 0 16) then some (-1) else (if inb (P 0 16) 100 = true then some (P 19 (ix (P 0 16))) else none))
set_option maxHeartbeats 4000000 in
set_option maxRecDepth 100000 in
theorem c_X7_next (l : Launch) (G : GE) {σ : Mm} {lm : Ml}  {P : Pm} {rz : Int32} (h : f_X7_next P = some rz) : CM l G yX7_next bX7_next 1 (Option.some Jvm.ClassFile.FieldType.int) rm_X7_next [.ref (gA G 17 0)] (m1 σ 17 P) lm (some (.int rz)) (m1 σ 17 P) lm := by
  refine CM.of (own := zR7) (L0 := [(0, .ref (gA G 17 0))]) (by decide +kernel) rfl (Nat.le_of_ble_eq_true rfl) rfl (fun X hl hX hR hQ => ?_)
  unfold f_X7_next at h
  refine r_aload_n hX rfl 0 rfl dX7_next_0 ?_
  refine gf_7_16 (o := 17) hX fl_X7_59 rfl m1_g dX7_next_1 ?_
  refine r_aload_n hX rfl 0 rfl dX7_next_4 ?_
  refine gf_7_15 (o := 17) hX fl_X7_56 rfl m1_g dX7_next_5 ?_
  refine r_icmp_ge hX dX7_next_8 (fun hc => ?_) (fun hc => ?_)
  · replace h := ip_e hc h
    refine r_iconst (v := (-1)) hX (by decide) dX7_next_23 ?_
    have g0 := Option.some.inj h
    subst g0
    exact r_iret hX hQ dX7_next_24
  · replace h := in_e hc h
    refine r_aload_n hX rfl 0 rfl dX7_next_11 ?_
    refine gf_7_18 (o := 17) hX fl_X7_65 rfl m1_g dX7_next_12 ?_
    refine r_aload_n hX rfl 0 rfl dX7_next_15 ?_
    refine gf_7_16 (o := 17) hX fl_X7_59 rfl m1_g dX7_next_16 ?_
    obtain ⟨hk1, h⟩ := kc_e h
    refine ga_7_19 (o := 17) hX rfl m1_g hk1 dX7_next_19 ?_
    refine r_goto hX dX7_next_20 ?_
    have g0 := Option.some.inj h
    subst g0
    exact r_iret hX hQ dX7_next_24
abbrev rm_X7_takes : Room := { frames := 1, cells := 0, slots := 0, locals := 80 }
def f_X7_takes (P : Pm) (a1 : Int32) : Option (Int32 × Pm) :=
  Option.bind (f_X7_next P) (fun x1 => (if x1 = a1 then nb (up2 P 0 16 ((P 0 16) + 1)) (fun P2 => some (1, P2)) else some (0, P)))
set_option maxHeartbeats 4000000 in
set_option maxRecDepth 100000 in
theorem c_X7_takes (l : Launch) (G : GE) {σ : Mm} {lm : Ml}  {P : Pm} {a1 : Int32} {rz : Int32} {Pz : Pm} (h : f_X7_takes P a1 = some (rz, Pz)) : CM l G yX7_takes bX7_takes 2 (Option.some Jvm.ClassFile.FieldType.boolean) rm_X7_takes [.ref (gA G 17 0), .int a1] (m1 σ 17 P) lm (some (.int rz)) (m1 σ 17 Pz) lm := by
  refine CM.of (own := zR7) (L0 := [(0, .ref (gA G 17 0)), (1, .int a1)]) (by decide +kernel) rfl (Nat.le_of_ble_eq_true rfl) rfl (fun X hl hX hR hQ => ?_)
  unfold f_X7_takes at h
  refine r_aload_n hX rfl 0 rfl dX7_takes_0 ?_
  obtain ⟨x1, hc1, h⟩ := bn_e h
  refine r_callVi hX hR (c_X7_next (σ := σ) X.2.1 G hc1) rfl rfl mf_X7_next ml_X7_292 in_X7_next se_X7_next rfl rfl ⟨rfl, rfl, Nat.le_of_ble_eq_true rfl, Nat.le_of_ble_eq_true rfl⟩ rfl (st := []) rfl (Nat.le_of_ble_eq_true rfl) dX7_takes_1 ?_
  refine r_iload_n hX rfl 1 rfl dX7_takes_4 ?_
  refine r_icmp_eq hX dX7_takes_5 (fun hc => ?_) (fun hc => ?_)
  · replace h := ip_e hc h
    refine r_aload_n hX rfl 0 rfl dX7_takes_10 ?_
    refine r_dup hX rfl dX7_takes_11 ?_
    refine gf_7_16 (o := 17) hX fl_X7_59 rfl m1_g dX7_takes_12 ?_
    refine r_iconst (v := 1) hX (by decide) dX7_takes_15 ?_
    refine r_iadd hX dX7_takes_16 ?_
    obtain ⟨P2, hP2, h⟩ := nb_e h
    refine pf_7_16 (o := 17) hX fl_X7_59 rfl m1_g dX7_takes_17 (m1_w hP2) ?_
    refine r_iconst (v := 1) hX (by decide) dX7_takes_20 ?_
    have g0 := Option.some.inj h
    obtain ⟨q0, g1⟩ := Prod.mk.inj g0
    subst q0
    subst g1
    exact r_zret hX (Or.inr rfl) hQ dX7_takes_21
  · replace h := in_e hc h
    refine r_iconst (v := 0) hX (by decide) dX7_takes_8 ?_
    have g0 := Option.some.inj h
    obtain ⟨q0, g1⟩ := Prod.mk.inj g0
    subst q0
    subst g1
    exact r_zret hX (Or.inl rfl) hQ dX7_takes_9
abbrev rm_X7_takesWord : Room := { frames := 2, cells := 0, slots := 0, locals := 101 }
def f_X7_takesWord_J30 (P : Pm) : Option (Int32 × Pm) :=
  bn2 (f_X7_takes P 32) (fun x1 P2 => (if x1 = 0 ∨ x1 = 1 then some (x1, P2) else none))
def f_X7_takesWord_B2 (v1 : Int32) (v2 : Int32) (v3 : Int32) (P : Pm) : Option ((Int32 × Pm) ⊕ (Int32 × Pm)) :=
  (if v2 ≤ v3 then wr (f_X7_takesWord_J30 P) else (if inb (v1 + v3) 23 = true then bn2 (f_X7_takes P (P 30 (ix (v1 + v3)))) (fun x5 P6 => (if x5 = 0 then wr (some (0, P6)) else some (.inl ((v3 + 1), P6)))) else none))
def f_X7_takesWord_H2 (P : Pm) (v1 : Int32) (v2 : Int32) (v3 : Int32) : Option (Int32 × Pm) :=
  iter (fun t => f_X7_takesWord_B2 v1 v2 t.1 t.2) 200 (v3, P)
def f_X7_takesWord (P : Pm) (a1 : Int32) (a2 : Int32) : Option (Int32 × Pm) :=
  f_X7_takesWord_H2 P a1 a2 0
set_option maxHeartbeats 4000000 in
set_option maxRecDepth 100000 in
theorem c_X7_takesWord (l : Launch) (G : GE) {σ : Mm} {lm : Ml}  {P : Pm} {a1 : Int32} {a2 : Int32} {rz : Int32} {Pz : Pm} (h : f_X7_takesWord P a1 a2 = some (rz, Pz)) : CM l G yX7_takesWord bX7_takesWord 4 (Option.some Jvm.ClassFile.FieldType.boolean) rm_X7_takesWord [.ref (gA G 17 0), .int a1, .int a2] (m1 σ 17 P) lm (some (.int rz)) (m1 σ 17 Pz) lm := by
  refine CM.of (own := zR7) (L0 := [(0, .ref (gA G 17 0)), (1, .int a1), (2, .int a2)]) (by decide +kernel) rfl (Nat.le_of_ble_eq_true rfl) rfl (fun X hl hX hR hQ => ?_)
  have K30 : ∀ (P : Pm) (_ : True), f_X7_takesWord_J30 P = some (rz, Pz) → WW X G 4 (m1 σ 17 P) lm 30 [(0, .ref (gA G 17 0))] [] := by
    intro P _ h
    unfold f_X7_takesWord_J30 at h
    refine r_aload_n hX rfl 0 rfl dX7_takesWord_30 ?_
    refine r_bipush (v := 32) hX (by decide) dX7_takesWord_31 ?_
    obtain ⟨x1, P2, hc2, h⟩ := bn2_e h
    refine r_callVi hX hR (c_X7_takes (σ := σ) X.2.1 G hc2) rfl rfl mf_X7_takes ml_X7_296 in_X7_takes se_X7_takes rfl rfl ⟨rfl, rfl, Nat.le_of_ble_eq_true rfl, Nat.le_of_ble_eq_true rfl⟩ rfl (st := []) rfl (Nat.le_of_ble_eq_true rfl) dX7_takesWord_33 ?_
    obtain ⟨hk3, h⟩ := kc_e h
    have g0 := Option.some.inj h
    obtain ⟨q0, g1⟩ := Prod.mk.inj g0
    subst q0
    subst g1
    exact r_zret hX hk3 hQ dX7_takesWord_36
  have K2 : ∀ (P : Pm) (v1 : Int32) (v2 : Int32) (v3 : Int32) (_ : True), f_X7_takesWord_H2 P v1 v2 v3 = some (rz, Pz) → WW X G 4 (m1 σ 17 P) lm 2 [(0, .ref (gA G 17 0)), (1, .int v1), (2, .int v2), (3, .int v3)] [] := by
    intro P v1 v2 v3 _ h
    unfold f_X7_takesWord_H2 at h
    have hit := h
    refine iter_w (P := fun t : Int32 × Pm => WW X G 4 (m1 σ 17 t.2) lm 2 [(0, .ref (gA G 17 0)), (1, .int v1), (2, .int v2), (3, .int t.1)] []) (x := (rz, Pz)) ?_ 200 (v3, P) hit
    clear hit
    clear h
    intro t z1 hb hin1 hex1
    obtain ⟨v3, P⟩ := t
    have h : f_X7_takesWord_B2 v1 v2 v3 P = some z1 := hb
    clear hb
    unfold f_X7_takesWord_B2 at h
    refine r_iload_n hX rfl 3 rfl dX7_takesWord_2 ?_
    refine r_iload_n hX rfl 2 rfl dX7_takesWord_3 ?_
    refine r_icmp_ge hX dX7_takesWord_4 (fun hc => ?_) (fun hc => ?_)
    · replace h := ip_e hc h
      obtain ⟨y1, h, e1⟩ := wr_e h
      rw [hex1 _ e1] at h
      exact WW.sub [0] rfl (K30 P trivial h)
    · replace h := in_e hc h
      refine r_aload_n hX rfl 0 rfl dX7_takesWord_7 ?_
      refine r_aload_n hX rfl 0 rfl dX7_takesWord_8 ?_
      refine gf_7_29 (o := 17) hX fl_X7_98 rfl m1_g dX7_takesWord_9 ?_
      refine r_iload_n hX rfl 1 rfl dX7_takesWord_12 ?_
      refine r_iload_n hX rfl 3 rfl dX7_takesWord_13 ?_
      refine r_iadd hX dX7_takesWord_14 ?_
      obtain ⟨hk4, h⟩ := kc_e h
      refine ga_7_30 (o := 17) hX rfl m1_g hk4 dX7_takesWord_15 ?_
      obtain ⟨x5, P6, hc6, h⟩ := bn2_e h
      refine r_callVi hX hR (c_X7_takes (σ := σ) X.2.1 G hc6) rfl rfl mf_X7_takes ml_X7_296 in_X7_takes se_X7_takes rfl rfl ⟨rfl, rfl, Nat.le_of_ble_eq_true rfl, Nat.le_of_ble_eq_true rfl⟩ rfl (st := []) rfl (Nat.le_of_ble_eq_true rfl) dX7_takesWord_16 ?_
      refine r_if_ne hX dX7_takesWord_19 (fun hc => ?_) (fun hc => ?_)
      · replace h := in_e hc h
        refine r_iinc (v := v3 + 1) (L2 := [(3, .int (v3 + 1)), (0, .ref (gA G 17 0)), (1, .int v1), (2, .int v2)]) hX 3 rfl rfl (by decide) rfl dX7_takesWord_24 ?_
        refine r_goto hX dX7_takesWord_27 ?_
        exact WW.sub [1, 2, 3, 0] rfl (hin1 _ (Option.some.inj h).symm)
      · replace h := ip_e hc h
        refine r_iconst (v := 0) hX (by decide) dX7_takesWord_22 ?_
        obtain ⟨y1, h, e1⟩ := wr_e h
        rw [hex1 _ e1] at h
        have g0 := Option.some.inj h
        obtain ⟨q0, g1⟩ := Prod.mk.inj g0
        subst q0
        subst g1
        exact r_zret hX (Or.inl rfl) hQ dX7_takesWord_23
  unfold f_X7_takesWord at h
  refine r_iconst (v := 0) hX (by decide) dX7_takesWord_0 ?_
  refine r_istore_n (L2 := [(3, .int 0), (0, .ref (gA G 17 0)), (1, .int a1), (2, .int a2)]) hX rfl (by decide) rfl dX7_takesWord_1 ?_
  exact WW.sub [1, 2, 3, 0] rfl (K2 P a1 a2 0 trivial h)
abbrev rm_X7_isDigit : Room := { frames := 1, cells := 0, slots := 0, locals := 83 }
def f_X7_isDigit (P : Pm) : Option (Int32) :=
  Option.bind (f_X7_next P) (fun x1 => Option.bind (f_X7_in P x1 48 57) (fun x2 => (if x2 = 0 ∨ x2 = 1 then some x2 else none)))
set_option maxHeartbeats 4000000 in
set_option maxRecDepth 100000 in
theorem c_X7_isDigit (l : Launch) (G : GE) {σ : Mm} {lm : Ml}  {P : Pm} {rz : Int32} (h : f_X7_isDigit P = some rz) : CM l G yX7_isDigit bX7_isDigit 1 (Option.some Jvm.ClassFile.FieldType.boolean) rm_X7_isDigit [.ref (gA G 17 0)] (m1 σ 17 P) lm (some (.int rz)) (m1 σ 17 P) lm := by
  refine CM.of (own := zR7) (L0 := [(0, .ref (gA G 17 0))]) (by decide +kernel) rfl (Nat.le_of_ble_eq_true rfl) rfl (fun X hl hX hR hQ => ?_)
  unfold f_X7_isDigit at h
  refine r_aload_n hX rfl 0 rfl dX7_isDigit_0 ?_
  refine r_aload_n hX rfl 0 rfl dX7_isDigit_1 ?_
  obtain ⟨x1, hc1, h⟩ := bn_e h
  refine r_callVi hX hR (c_X7_next (σ := σ) X.2.1 G hc1) rfl rfl mf_X7_next ml_X7_292 in_X7_next se_X7_next rfl rfl ⟨rfl, rfl, Nat.le_of_ble_eq_true rfl, Nat.le_of_ble_eq_true rfl⟩ rfl (st := [.ref (gA G 17 0)]) rfl (Nat.le_of_ble_eq_true rfl) dX7_isDigit_2 ?_
  refine r_bipush (v := 48) hX (by decide) dX7_isDigit_5 ?_
  refine r_bipush (v := 57) hX (by decide) dX7_isDigit_7 ?_
  obtain ⟨x2, hc2, h⟩ := bn_e h
  refine r_callVi hX hR (c_X7_in (σ := σ) X.2.1 G hc2) rfl rfl mf_X7_in ml_X7_263 in_X7_in se_X7_in rfl rfl ⟨rfl, rfl, Nat.le_of_ble_eq_true rfl, Nat.le_of_ble_eq_true rfl⟩ rfl (st := []) rfl (Nat.le_of_ble_eq_true rfl) dX7_isDigit_9 ?_
  obtain ⟨hk3, h⟩ := kc_e h
  have g0 := Option.some.inj h
  subst g0
  exact r_zret hX hk3 hQ dX7_isDigit_12
abbrev rm_X7_takesNumber : Room := { frames := 2, cells := 0, slots := 0, locals := 103 }
def f_X7_takesNumber_J63 (P : Pm) : Option (Int32 × Pm) :=
  some (1, P)
def f_X7_takesNumber_B16 (v1 : Int32) (P : Pm) : Option ((Int32 × Pm) ⊕ (Pm)) :=
  (if 2 ≤ v1 then some (.inr P) else Option.bind (f_X7_isDigit P) (fun x1 => (if x1 = 0 then some (.inr P) else Option.bind (f_X7_next P) (fun x2 => nb (up2 P 0 17 (((10 * (P 0 17)) + x2) - 48)) (fun P3 => nb (up2 P3 0 16 ((P3 0 16) + 1)) (fun P4 => some (.inl ((v1 + 1), P4))))))))
def f_X7_takesNumber_H16 (P : Pm) (v1 : Int32) : Option (Int32 × Pm) :=
  Option.bind (iter (fun t => f_X7_takesNumber_B16 t.1 t.2) 200 (v1, P)) (fun P => f_X7_takesNumber_J63 P)
def f_X7_takesNumber (P : Pm) : Option (Int32 × Pm) :=
  Option.bind (f_X7_isDigit P) (fun x5 => (if x5 = 0 then some (0, P) else nb (up2 P 0 17 0) (fun P6 => f_X7_takesNumber_H16 P6 0)))
set_option maxHeartbeats 4000000 in
set_option maxRecDepth 100000 in
theorem c_X7_takesNumber (l : Launch) (G : GE) {σ : Mm} {lm : Ml}  {P : Pm} {rz : Int32} {Pz : Pm} (h : f_X7_takesNumber P = some (rz, Pz)) : CM l G yX7_takesNumber bX7_takesNumber 2 (Option.some Jvm.ClassFile.FieldType.boolean) rm_X7_takesNumber [.ref (gA G 17 0)] (m1 σ 17 P) lm (some (.int rz)) (m1 σ 17 Pz) lm := by
  refine CM.of (own := zR7) (L0 := [(0, .ref (gA G 17 0))]) (by decide +kernel) rfl (Nat.le_of_ble_eq_true rfl) rfl (fun X hl hX hR hQ => ?_)
  have K63 : ∀ (P : Pm) (_ : True), f_X7_takesNumber_J63 P = some (rz, Pz) → WW X G 2 (m1 σ 17 P) lm 63 [] [] := by
    intro P _ h
    unfold f_X7_takesNumber_J63 at h
    refine r_iconst (v := 1) hX (by decide) dX7_takesNumber_63 ?_
    have g0 := Option.some.inj h
    obtain ⟨q0, g1⟩ := Prod.mk.inj g0
    subst q0
    subst g1
    exact r_zret hX (Or.inr rfl) hQ dX7_takesNumber_64
  have K16 : ∀ (P : Pm) (v1 : Int32) (_ : True), f_X7_takesNumber_H16 P v1 = some (rz, Pz) → WW X G 2 (m1 σ 17 P) lm 16 [(0, .ref (gA G 17 0)), (1, .int v1)] [] := by
    intro P v1 _ h
    unfold f_X7_takesNumber_H16 at h
    obtain ⟨e_P, hit, hO⟩ := bn_e h
    refine iter_w (P := fun t : Int32 × Pm => WW X G 2 (m1 σ 17 t.2) lm 16 [(0, .ref (gA G 17 0)), (1, .int t.1)] []) (x := e_P) ?_ 200 (v1, P) hit
    clear hit
    intro t z1 hb hin1 hex1
    obtain ⟨v1, P⟩ := t
    have h : f_X7_takesNumber_B16 v1 P = some z1 := hb
    clear hb
    unfold f_X7_takesNumber_B16 at h
    refine r_iload_n hX rfl 1 rfl dX7_takesNumber_16 ?_
    refine r_iconst (v := 2) hX (by decide) dX7_takesNumber_17 ?_
    refine r_icmp_ge hX dX7_takesNumber_18 (fun hc => ?_) (fun hc => ?_)
    · replace h := ip_e hc h
      have g0 := hex1 _ (Option.some.inj h).symm
      subst g0
      exact WW.sub [] rfl (K63 P trivial hO)
    · replace h := in_e hc h
      refine r_aload_n hX rfl 0 rfl dX7_takesNumber_21 ?_
      obtain ⟨x1, hc1, h⟩ := bn_e h
      refine r_callVi hX hR (c_X7_isDigit (σ := σ) X.2.1 G hc1) rfl rfl mf_X7_isDigit ml_X7_299 in_X7_isDigit se_X7_isDigit rfl rfl ⟨rfl, rfl, Nat.le_of_ble_eq_true rfl, Nat.le_of_ble_eq_true rfl⟩ rfl (st := []) rfl (Nat.le_of_ble_eq_true rfl) dX7_takesNumber_22 ?_
      refine r_if_eq hX dX7_takesNumber_25 (fun hc => ?_) (fun hc => ?_)
      · replace h := ip_e hc h
        have g0 := hex1 _ (Option.some.inj h).symm
        subst g0
        exact WW.sub [] rfl (K63 P trivial hO)
      · replace h := in_e hc h
        refine r_aload_n hX rfl 0 rfl dX7_takesNumber_28 ?_
        refine r_bipush (v := 10) hX (by decide) dX7_takesNumber_29 ?_
        refine r_aload_n hX rfl 0 rfl dX7_takesNumber_31 ?_
        refine gf_7_17 (o := 17) hX fl_X7_62 rfl m1_g dX7_takesNumber_32 ?_
        refine r_imul hX dX7_takesNumber_35 ?_
        refine r_aload_n hX rfl 0 rfl dX7_takesNumber_36 ?_
        obtain ⟨x2, hc2, h⟩ := bn_e h
        refine r_callVi hX hR (c_X7_next (σ := σ) X.2.1 G hc2) rfl rfl mf_X7_next ml_X7_292 in_X7_next se_X7_next rfl rfl ⟨rfl, rfl, Nat.le_of_ble_eq_true rfl, Nat.le_of_ble_eq_true rfl⟩ rfl (st := [.int (10 * (P 0 17)), .ref (gA G 17 0)]) rfl (Nat.le_of_ble_eq_true rfl) dX7_takesNumber_37 ?_
        refine r_iadd hX dX7_takesNumber_40 ?_
        refine r_bipush (v := 48) hX (by decide) dX7_takesNumber_41 ?_
        refine r_isub hX dX7_takesNumber_43 ?_
        obtain ⟨P3, hP3, h⟩ := nb_e h
        refine pf_7_17 (o := 17) hX fl_X7_62 rfl m1_g dX7_takesNumber_44 (m1_w hP3) ?_
        refine r_aload_n hX rfl 0 rfl dX7_takesNumber_47 ?_
        refine r_dup hX rfl dX7_takesNumber_48 ?_
        refine gf_7_16 (o := 17) hX fl_X7_59 rfl m1_g dX7_takesNumber_49 ?_
        refine r_iconst (v := 1) hX (by decide) dX7_takesNumber_52 ?_
        refine r_iadd hX dX7_takesNumber_53 ?_
        obtain ⟨P4, hP4, h⟩ := nb_e h
        refine pf_7_16 (o := 17) hX fl_X7_59 rfl m1_g dX7_takesNumber_54 (m1_w hP4) ?_
        refine r_iinc (v := v1 + 1) (L2 := [(1, .int (v1 + 1)), (0, .ref (gA G 17 0))]) hX 1 rfl rfl (by decide) rfl dX7_takesNumber_57 ?_
        refine r_goto hX dX7_takesNumber_60 ?_
        exact WW.sub [1, 0] rfl (hin1 _ (Option.some.inj h).symm)
  unfold f_X7_takesNumber at h
  refine r_aload_n hX rfl 0 rfl dX7_takesNumber_0 ?_
  obtain ⟨x5, hc5, h⟩ := bn_e h
  refine r_callVi hX hR (c_X7_isDigit (σ := σ) X.2.1 G hc5) rfl rfl mf_X7_isDigit ml_X7_299 in_X7_isDigit se_X7_isDigit rfl rfl ⟨rfl, rfl, Nat.le_of_ble_eq_true rfl, Nat.le_of_ble_eq_true rfl⟩ rfl (st := []) rfl (Nat.le_of_ble_eq_true rfl) dX7_takesNumber_1 ?_
  refine r_if_ne hX dX7_takesNumber_4 (fun hc => ?_) (fun hc => ?_)
  · replace h := in_e hc h
    refine r_aload_n hX rfl 0 rfl dX7_takesNumber_9 ?_
    refine r_iconst (v := 0) hX (by decide) dX7_takesNumber_10 ?_
    obtain ⟨P6, hP6, h⟩ := nb_e h
    refine pf_7_17 (o := 17) hX fl_X7_62 rfl m1_g dX7_takesNumber_11 (m1_w hP6) ?_
    refine r_iconst (v := 0) hX (by decide) dX7_takesNumber_14 ?_
    refine r_istore_n (L2 := [(1, .int 0), (0, .ref (gA G 17 0))]) hX rfl (by decide) rfl dX7_takesNumber_15 ?_
    exact WW.sub [1, 0] rfl (K16 P6 0 trivial h)
  · replace h := ip_e hc h
    refine r_iconst (v := 0) hX (by decide) dX7_takesNumber_7 ?_
    have g0 := Option.some.inj h
    obtain ⟨q0, g1⟩ := Prod.mk.inj g0
    subst q0
    subst g1
    exact r_zret hX (Or.inl rfl) hQ dX7_takesNumber_8
abbrev rm_X7_emits : Room := { frames := 0, cells := 0, slots := 0, locals := 60 }
def f_X7_emits (P : Pm) (a1 : Int32) : Option (Pm) :=
  (if inb (P 0 26) 600 = true then nb (up2 P 25 (ix (P 0 26)) a1) (fun P2 => nb (up2 P2 0 26 ((P2 0 26) + 1)) (fun P3 => some P3)) else none)
set_option maxHeartbeats 4000000 in
set_option maxRecDepth 100000 in
theorem c_X7_emits (l : Launch) (G : GE) {σ : Mm} {lm : Ml}  {P : Pm} {a1 : Int32} {Pz : Pm} (h : f_X7_emits P a1 = some Pz) : CM l G yX7_emits bX7_emits 2 (Option.none : Option Jvm.ClassFile.FieldType) rm_X7_emits [.ref (gA G 17 0), .int a1] (m1 σ 17 P) lm (none) (m1 σ 17 Pz) lm := by
  refine CM.of (own := zR7) (L0 := [(0, .ref (gA G 17 0)), (1, .int a1)]) (by decide +kernel) rfl (Nat.le_of_ble_eq_true rfl) rfl (fun X hl hX hR hQ => ?_)
  unfold f_X7_emits at h
  refine r_aload_n hX rfl 0 rfl dX7_emits_0 ?_
  refine gf_7_24 (o := 17) hX fl_X7_83 rfl m1_g dX7_emits_1 ?_
  refine r_aload_n hX rfl 0 rfl dX7_emits_4 ?_
  refine gf_7_26 (o := 17) hX fl_X7_89 rfl m1_g dX7_emits_5 ?_
  refine r_iload_n hX rfl 1 rfl dX7_emits_8 ?_
  obtain ⟨hk1, h⟩ := kc_e h
  obtain ⟨P2, hP2, h⟩ := nb_e h
  refine pa_7_25 (o := 17) hX rfl m1_g hk1 (m1_w hP2) dX7_emits_9 ?_
  refine r_aload_n hX rfl 0 rfl dX7_emits_10 ?_
  refine r_dup hX rfl dX7_emits_11 ?_
  refine gf_7_26 (o := 17) hX fl_X7_89 rfl m1_g dX7_emits_12 ?_
  refine r_iconst (v := 1) hX (by decide) dX7_emits_15 ?_
  refine r_iadd hX dX7_emits_16 ?_
  obtain ⟨P3, hP3, h⟩ := nb_e h
  refine pf_7_26 (o := 17) hX fl_X7_89 rfl m1_g dX7_emits_17 (m1_w hP3) ?_
  have g0 := Option.some.inj h
  subst g0
  exact r_vret hX hQ dX7_emits_20
abbrev rm_X7_whole : Room := { frames := 1, cells := 0, slots := 0, locals := 81 }
def f_X7_whole_J52 (P : Pm) : Option (Pm) :=
  some P
def f_X7_whole_B0 (P : Pm) : Option ((Pm) ⊕ (Pm)) :=
  (if (P 0 27) ≤ 0 then some (.inr P) else (if inb ((P 0 27) - 1) 101 = true then (if (P 26 (ix ((P 0 27) - 1))) = 33 then Option.bind (f_X7_emits P (-33)) (fun P2 => nb (up2 P2 0 27 ((P2 0 27) - 1)) (fun P3 => nb (up2 P3 0 28 ((P3 0 28) - 1)) (fun P4 => some (.inl P4)))) else some (.inr P)) else none))
def f_X7_whole_H0 (P : Pm) : Option (Pm) :=
  Option.bind (iter (fun t => f_X7_whole_B0 t) 200 P) (fun P => f_X7_whole_J52 P)
def f_X7_whole (P : Pm) : Option (Pm) :=
  f_X7_whole_H0 P
set_option maxHeartbeats 4000000 in
set_option maxRecDepth 100000 in
theorem c_X7_whole (l : Launch) (G : GE) {σ : Mm} {lm : Ml}  {P : Pm} {Pz : Pm} (h : f_X7_whole P = some Pz) : CM l G yX7_whole bX7_whole 1 (Option.none : Option Jvm.ClassFile.FieldType) rm_X7_whole [.ref (gA G 17 0)] (m1 σ 17 P) lm (none) (m1 σ 17 Pz) lm := by
  refine CM.of (own := zR7) (L0 := [(0, .ref (gA G 17 0))]) (by decide +kernel) rfl (Nat.le_of_ble_eq_true rfl) rfl (fun X hl hX hR hQ => ?_)
  have K52 : ∀ (P : Pm) (_ : True), f_X7_whole_J52 P = some Pz → WW X G 1 (m1 σ 17 P) lm 52 [] [] := by
    intro P _ h
    unfold f_X7_whole_J52 at h
    have g0 := Option.some.inj h
    subst g0
    exact r_vret hX hQ dX7_whole_52
  have K0 : ∀ (P : Pm) (_ : True), f_X7_whole_H0 P = some Pz → WW X G 1 (m1 σ 17 P) lm 0 [(0, .ref (gA G 17 0))] [] := by
    intro P _ h
    unfold f_X7_whole_H0 at h
    obtain ⟨e_P, hit, hO⟩ := bn_e h
    refine iter_w (P := fun t : Pm => WW X G 1 (m1 σ 17 t) lm 0 [(0, .ref (gA G 17 0))] []) (x := e_P) ?_ 200 P hit
    clear hit
    intro P z1 hb hin1 hex1
    have h : f_X7_whole_B0 P = some z1 := hb
    clear hb
    unfold f_X7_whole_B0 at h
    refine r_aload_n hX rfl 0 rfl dX7_whole_0 ?_
    refine gf_7_27 (o := 17) hX fl_X7_92 rfl m1_g dX7_whole_1 ?_
    refine r_if_le hX dX7_whole_4 (fun hc => ?_) (fun hc => ?_)
    · replace h := ip_e hc h
      have g0 := hex1 _ (Option.some.inj h).symm
      subst g0
      exact WW.sub [] rfl (K52 P trivial hO)
    · replace h := in_e hc h
      refine r_aload_n hX rfl 0 rfl dX7_whole_7 ?_
      refine gf_7_25 (o := 17) hX fl_X7_86 rfl m1_g dX7_whole_8 ?_
      refine r_aload_n hX rfl 0 rfl dX7_whole_11 ?_
      refine gf_7_27 (o := 17) hX fl_X7_92 rfl m1_g dX7_whole_12 ?_
      refine r_iconst (v := 1) hX (by decide) dX7_whole_15 ?_
      refine r_isub hX dX7_whole_16 ?_
      obtain ⟨hk1, h⟩ := kc_e h
      refine ga_7_26 (o := 17) hX rfl m1_g hk1 dX7_whole_17 ?_
      refine r_bipush (v := 33) hX (by decide) dX7_whole_18 ?_
      refine r_icmp_ne hX dX7_whole_20 (fun hc => ?_) (fun hc => ?_)
      · replace h := in_e hc h
        have g0 := hex1 _ (Option.some.inj h).symm
        subst g0
        exact WW.sub [] rfl (K52 P trivial hO)
      · replace h := ip_e hc h
        refine r_aload_n hX rfl 0 rfl dX7_whole_23 ?_
        refine r_bipush (v := (-33)) hX (by decide) dX7_whole_24 ?_
        obtain ⟨P2, hc2, h⟩ := bn_e h
        refine r_callVv hX hR (c_X7_emits (σ := σ) X.2.1 G hc2) rfl rfl mf_X7_emits ml_X7_303 in_X7_emits se_X7_emits rfl rfl ⟨rfl, rfl, Nat.le_of_ble_eq_true rfl, Nat.le_of_ble_eq_true rfl⟩ rfl (st := []) rfl (Nat.le_of_ble_eq_true rfl) dX7_whole_26 ?_
        refine r_aload_n hX rfl 0 rfl dX7_whole_29 ?_
        refine r_dup hX rfl dX7_whole_30 ?_
        refine gf_7_27 (o := 17) hX fl_X7_92 rfl m1_g dX7_whole_31 ?_
        refine r_iconst (v := 1) hX (by decide) dX7_whole_34 ?_
        refine r_isub hX dX7_whole_35 ?_
        obtain ⟨P3, hP3, h⟩ := nb_e h
        refine pf_7_27 (o := 17) hX fl_X7_92 rfl m1_g dX7_whole_36 (m1_w hP3) ?_
        refine r_aload_n hX rfl 0 rfl dX7_whole_39 ?_
        refine r_dup hX rfl dX7_whole_40 ?_
        refine gf_7_28 (o := 17) hX fl_X7_95 rfl m1_g dX7_whole_41 ?_
        refine r_iconst (v := 1) hX (by decide) dX7_whole_44 ?_
        refine r_isub hX dX7_whole_45 ?_
        obtain ⟨P4, hP4, h⟩ := nb_e h
        refine pf_7_28 (o := 17) hX fl_X7_95 rfl m1_g dX7_whole_46 (m1_w hP4) ?_
        refine r_goto hX dX7_whole_49 ?_
        exact WW.sub [0] rfl (hin1 _ (Option.some.inj h).symm)
  unfold f_X7_whole at h
  exact WW.sub [0] rfl (K0 P trivial h)
abbrev rm_X7_settle : Room := { frames := 1, cells := 0, slots := 0, locals := 81 }
def f_X7_settle_J72 (P : Pm) : Option (Pm) :=
  some P
def f_X7_settle_J45 (P : Pm) (v1 : Int32) : Option ((Pm) ⊕ (Pm)) :=
  nb (up2 P 0 27 ((P 0 27) - 1)) (fun P1 => (if inb (P1 0 27) 101 = true then Option.bind (f_X7_emits P1 (-(P1 26 (ix (P1 0 27))))) (fun P3 => some (.inl P3)) else none))
def f_X7_settle_B0 (v1 : Int32) (P : Pm) : Option ((Pm) ⊕ (Pm)) :=
  (if (P 0 27) ≤ 0 then some (.inr P) else (if inb ((P 0 27) - 1) 101 = true then (if (P 26 (ix ((P 0 27) - 1))) = 38 then f_X7_settle_J45 P v1 else (if inb ((P 0 27) - 1) 101 = true then (if (P 26 (ix ((P 0 27) - 1))) = 124 then (if v1 = 38 then some (.inr P) else f_X7_settle_J45 P v1) else some (.inr P)) else none)) else none))
def f_X7_settle_H0 (P : Pm) (v1 : Int32) : Option (Pm) :=
  Option.bind (iter (fun t => f_X7_settle_B0 v1 t) 200 P) (fun P => f_X7_settle_J72 P)
def f_X7_settle (P : Pm) (a1 : Int32) : Option (Pm) :=
  f_X7_settle_H0 P a1
set_option maxHeartbeats 4000000 in
set_option maxRecDepth 100000 in
theorem c_X7_settle (l : Launch) (G : GE) {σ : Mm} {lm : Ml}  {P : Pm} {a1 : Int32} {Pz : Pm} (h : f_X7_settle P a1 = some Pz) : CM l G yX7_settle bX7_settle 2 (Option.none : Option Jvm.ClassFile.FieldType) rm_X7_settle [.ref (gA G 17 0), .int a1] (m1 σ 17 P) lm (none) (m1 σ 17 Pz) lm := by
  refine CM.of (own := zR7) (L0 := [(0, .ref (gA G 17 0)), (1, .int a1)]) (by decide +kernel) rfl (Nat.le_of_ble_eq_true rfl) rfl (fun X hl hX hR hQ => ?_)
  have K72 : ∀ (P : Pm) (_ : True), f_X7_settle_J72 P = some Pz → WW X G 2 (m1 σ 17 P) lm 72 [] [] := by
    intro P _ h
    unfold f_X7_settle_J72 at h
    have g0 := Option.some.inj h
    subst g0
    exact r_vret hX hQ dX7_settle_72
  have K0 : ∀ (P : Pm) (v1 : Int32) (_ : True), f_X7_settle_H0 P v1 = some Pz → WW X G 2 (m1 σ 17 P) lm 0 [(0, .ref (gA G 17 0)), (1, .int v1)] [] := by
    intro P v1 _ h
    unfold f_X7_settle_H0 at h
    obtain ⟨e_P, hit, hO⟩ := bn_e h
    refine iter_w (P := fun t : Pm => WW X G 2 (m1 σ 17 t) lm 0 [(0, .ref (gA G 17 0)), (1, .int v1)] []) (x := e_P) ?_ 200 P hit
    clear hit
    intro P z1 hb hin1 hex1
    have h : f_X7_settle_B0 v1 P = some z1 := hb
    clear hb
    have K45 : ∀ (P : Pm) (_ : True), f_X7_settle_J45 P v1 = some z1 → WW X G 2 (m1 σ 17 P) lm 45 [(0, .ref (gA G 17 0)), (1, .int v1)] [] := by
      intro P _ h
      unfold f_X7_settle_J45 at h
      refine r_aload_n hX rfl 0 rfl dX7_settle_45 ?_
      refine r_dup hX rfl dX7_settle_46 ?_
      refine gf_7_27 (o := 17) hX fl_X7_92 rfl m1_g dX7_settle_47 ?_
      refine r_iconst (v := 1) hX (by decide) dX7_settle_50 ?_
      refine r_isub hX dX7_settle_51 ?_
      obtain ⟨P1, hP1, h⟩ := nb_e h
      refine pf_7_27 (o := 17) hX fl_X7_92 rfl m1_g dX7_settle_52 (m1_w hP1) ?_
      refine r_aload_n hX rfl 0 rfl dX7_settle_55 ?_
      refine r_aload_n hX rfl 0 rfl dX7_settle_56 ?_
      refine gf_7_25 (o := 17) hX fl_X7_86 rfl m1_g dX7_settle_57 ?_
      refine r_aload_n hX rfl 0 rfl dX7_settle_60 ?_
      refine gf_7_27 (o := 17) hX fl_X7_92 rfl m1_g dX7_settle_61 ?_
      obtain ⟨hk2, h⟩ := kc_e h
      refine ga_7_26 (o := 17) hX rfl m1_g hk2 dX7_settle_64 ?_
      refine r_ineg hX dX7_settle_65 ?_
      obtain ⟨P3, hc3, h⟩ := bn_e h
      refine r_callVv hX hR (c_X7_emits (σ := σ) X.2.1 G hc3) rfl rfl mf_X7_emits ml_X7_303 in_X7_emits se_X7_emits rfl rfl ⟨rfl, rfl, Nat.le_of_ble_eq_true rfl, Nat.le_of_ble_eq_true rfl⟩ rfl (st := []) rfl (Nat.le_of_ble_eq_true rfl) dX7_settle_66 ?_
      refine r_goto hX dX7_settle_69 ?_
      exact WW.sub [0, 1] rfl (hin1 _ (Option.some.inj h).symm)
    unfold f_X7_settle_B0 at h
    refine r_aload_n hX rfl 0 rfl dX7_settle_0 ?_
    refine gf_7_27 (o := 17) hX fl_X7_92 rfl m1_g dX7_settle_1 ?_
    refine r_if_le hX dX7_settle_4 (fun hc => ?_) (fun hc => ?_)
    · replace h := ip_e hc h
      have g0 := hex1 _ (Option.some.inj h).symm
      subst g0
      exact WW.sub [] rfl (K72 P trivial hO)
    · replace h := in_e hc h
      refine r_aload_n hX rfl 0 rfl dX7_settle_7 ?_
      refine gf_7_25 (o := 17) hX fl_X7_86 rfl m1_g dX7_settle_8 ?_
      refine r_aload_n hX rfl 0 rfl dX7_settle_11 ?_
      refine gf_7_27 (o := 17) hX fl_X7_92 rfl m1_g dX7_settle_12 ?_
      refine r_iconst (v := 1) hX (by decide) dX7_settle_15 ?_
      refine r_isub hX dX7_settle_16 ?_
      obtain ⟨hk4, h⟩ := kc_e h
      refine ga_7_26 (o := 17) hX rfl m1_g hk4 dX7_settle_17 ?_
      refine r_bipush (v := 38) hX (by decide) dX7_settle_18 ?_
      refine r_icmp_eq hX dX7_settle_20 (fun hc => ?_) (fun hc => ?_)
      · replace h := ip_e hc h
        exact WW.sub [0, 1] rfl (K45 P trivial h)
      · replace h := in_e hc h
        refine r_aload_n hX rfl 0 rfl dX7_settle_23 ?_
        refine gf_7_25 (o := 17) hX fl_X7_86 rfl m1_g dX7_settle_24 ?_
        refine r_aload_n hX rfl 0 rfl dX7_settle_27 ?_
        refine gf_7_27 (o := 17) hX fl_X7_92 rfl m1_g dX7_settle_28 ?_
        refine r_iconst (v := 1) hX (by decide) dX7_settle_31 ?_
        refine r_isub hX dX7_settle_32 ?_
        obtain ⟨hk5, h⟩ := kc_e h
        refine ga_7_26 (o := 17) hX rfl m1_g hk5 dX7_settle_33 ?_
        refine r_bipush (v := 124) hX (by decide) dX7_settle_34 ?_
        refine r_icmp_ne hX dX7_settle_36 (fun hc => ?_) (fun hc => ?_)
        · replace h := in_e hc h
          have g0 := hex1 _ (Option.some.inj h).symm
          subst g0
          exact WW.sub [] rfl (K72 P trivial hO)
        · replace h := ip_e hc h
          refine r_iload_n hX rfl 1 rfl dX7_settle_39 ?_
          refine r_bipush (v := 38) hX (by decide) dX7_settle_40 ?_
          refine r_icmp_eq hX dX7_settle_42 (fun hc => ?_) (fun hc => ?_)
          · replace h := ip_e hc h
            have g0 := hex1 _ (Option.some.inj h).symm
            subst g0
            exact WW.sub [] rfl (K72 P trivial hO)
          · replace h := in_e hc h
            exact WW.sub [0, 1] rfl (K45 P trivial h)
  unfold f_X7_settle at h
  exact WW.sub [0, 1] rfl (K0 P a1 trivial h)
abbrev rm_X7_place : Room := { frames := 0, cells := 0, slots := 0, locals := 60 }
def f_X7_place (P : Pm) (a1 : Int32) : Option (Int32) :=
  (if a1 = 98 then some 0 else (if a1 = 100 then some 5 else (if a1 = 104 then some 3 else (if a1 = 107 then some 1 else (if a1 = 108 then some 4 else (if a1 = 118 then some 2 else some (-1)))))))
set_option maxHeartbeats 4000000 in
set_option maxRecDepth 100000 in
theorem c_X7_place (l : Launch) (G : GE) {σ : Mm} {lm : Ml}  {P : Pm} {a1 : Int32} {rz : Int32} (h : f_X7_place P a1 = some rz) : CM l G yX7_place bX7_place 2 (Option.some Jvm.ClassFile.FieldType.int) rm_X7_place [.ref (gA G 17 0), .int a1] (m1 σ 17 P) lm (some (.int rz)) (m1 σ 17 P) lm := by
  refine CM.of (own := zR7) (L0 := [(0, .ref (gA G 17 0)), (1, .int a1)]) (by decide +kernel) rfl (Nat.le_of_ble_eq_true rfl) rfl (fun X hl hX hR hQ => ?_)
  unfold f_X7_place at h
  refine r_iload_n hX rfl 1 rfl dX7_place_0 ?_
  by_cases hc0 : a1 = 98
  · replace h := ip_e hc0 h
    refine r_lsw (off := 59) (tgt := 60) hX (by decide) (by rw [hc0]; rfl) (by decide) dX7_place_1 ?_
    refine r_iconst (v := 0) hX (by decide) dX7_place_60 ?_
    have g0 := Option.some.inj h
    subst g0
    exact r_iret hX hQ dX7_place_61
  · replace h := in_e hc0 h
    by_cases hc1 : a1 = 100
    · replace h := ip_e hc1 h
      refine r_lsw (off := 69) (tgt := 70) hX (by decide) (by rw [hc1]; rfl) (by decide) dX7_place_1 ?_
      refine r_iconst (v := 5) hX (by decide) dX7_place_70 ?_
      have g0 := Option.some.inj h
      subst g0
      exact r_iret hX hQ dX7_place_71
    · replace h := in_e hc1 h
      by_cases hc2 : a1 = 104
      · replace h := ip_e hc2 h
        refine r_lsw (off := 65) (tgt := 66) hX (by decide) (by rw [hc2]; rfl) (by decide) dX7_place_1 ?_
        refine r_iconst (v := 3) hX (by decide) dX7_place_66 ?_
        have g0 := Option.some.inj h
        subst g0
        exact r_iret hX hQ dX7_place_67
      · replace h := in_e hc2 h
        by_cases hc3 : a1 = 107
        · replace h := ip_e hc3 h
          refine r_lsw (off := 61) (tgt := 62) hX (by decide) (by rw [hc3]; rfl) (by decide) dX7_place_1 ?_
          refine r_iconst (v := 1) hX (by decide) dX7_place_62 ?_
          have g0 := Option.some.inj h
          subst g0
          exact r_iret hX hQ dX7_place_63
        · replace h := in_e hc3 h
          by_cases hc4 : a1 = 108
          · replace h := ip_e hc4 h
            refine r_lsw (off := 67) (tgt := 68) hX (by decide) (by rw [hc4]; rfl) (by decide) dX7_place_1 ?_
            refine r_iconst (v := 4) hX (by decide) dX7_place_68 ?_
            have g0 := Option.some.inj h
            subst g0
            exact r_iret hX hQ dX7_place_69
          · replace h := in_e hc4 h
            by_cases hc5 : a1 = 118
            · replace h := ip_e hc5 h
              refine r_lsw (off := 63) (tgt := 64) hX (by decide) (by rw [hc5]; rfl) (by decide) dX7_place_1 ?_
              refine r_iconst (v := 2) hX (by decide) dX7_place_64 ?_
              have g0 := Option.some.inj h
              subst g0
              exact r_iret hX hQ dX7_place_65
            · replace h := in_e hc5 h
              have hD : WW X G 2 (m1 σ 17 P) lm 72 [(0, .ref (gA G 17 0)), (1, .int a1)] [] := by
                refine r_iconst (v := (-1)) hX (by decide) dX7_place_72 ?_
                have g0 := Option.some.inj h
                subst g0
                exact r_iret hX hQ dX7_place_73
              have j0 := i32n (n := 98) hc0 rfl
              have j1 := i32n (n := 100) hc1 rfl
              have j2 := i32n (n := 104) hc2 rfl
              have j3 := i32n (n := 107) hc3 rfl
              have j4 := i32n (n := 108) hc4 rfl
              have j5 := i32n (n := 118) hc5 rfl
              refine r_lsw (off := 71) (tgt := 72) hX (by decide) ?_ (by decide) dX7_place_1 hD
              simp [Op.lookupswitch.offset, j0, Ne.symm j0, j1, Ne.symm j1, j2, Ne.symm j2, j3, Ne.symm j3, j4, Ne.symm j4, j5, Ne.symm j5]
abbrev rm_X7_takesTest : Room := { frames := 3, cells := 0, slots := 0, locals := 124 }
def f_X7_takesTest (P : Pm) : Option (Int32 × Pm) :=
  Option.bind (f_X7_next P) (fun x1 => Option.bind (f_X7_place P x1) (fun x2 => (if 0 ≤ x2 then nb (up2 P 0 16 ((P 0 16) + 1)) (fun P3 => Option.bind (f_X7_next P3) (fun x4 => Option.bind (f_X7_in P3 x4 60 62) (fun x5 => (if x5 = 0 then some (0, P3) else nb (up2 P3 0 16 ((P3 0 16) + 1)) (fun P6 => bn2 (f_X7_takesNumber P6) (fun x7 P8 => (if x7 = 0 then some (0, P8) else Option.bind (f_X7_emits P8 (((1000 * x2) + (100 * (x4 - 60))) + (P8 0 17))) (fun P9 => Option.bind (f_X7_whole P9) (fun P10 => some (1, P10)))))))))) else some (0, P))))
set_option maxHeartbeats 4000000 in
set_option maxRecDepth 100000 in
theorem c_X7_takesTest (l : Launch) (G : GE) {σ : Mm} {lm : Ml}  {P : Pm} {rz : Int32} {Pz : Pm} (h : f_X7_takesTest P = some (rz, Pz)) : CM l G yX7_takesTest bX7_takesTest 3 (Option.some Jvm.ClassFile.FieldType.boolean) rm_X7_takesTest [.ref (gA G 17 0)] (m1 σ 17 P) lm (some (.int rz)) (m1 σ 17 Pz) lm := by
  refine CM.of (own := zR7) (L0 := [(0, .ref (gA G 17 0))]) (by decide +kernel) rfl (Nat.le_of_ble_eq_true rfl) rfl (fun X hl hX hR hQ => ?_)
  unfold f_X7_takesTest at h
  refine r_aload_n hX rfl 0 rfl dX7_takesTest_0 ?_
  refine r_aload_n hX rfl 0 rfl dX7_takesTest_1 ?_
  obtain ⟨x1, hc1, h⟩ := bn_e h
  refine r_callVi hX hR (c_X7_next (σ := σ) X.2.1 G hc1) rfl rfl mf_X7_next ml_X7_292 in_X7_next se_X7_next rfl rfl ⟨rfl, rfl, Nat.le_of_ble_eq_true rfl, Nat.le_of_ble_eq_true rfl⟩ rfl (st := [.ref (gA G 17 0)]) rfl (Nat.le_of_ble_eq_true rfl) dX7_takesTest_2 ?_
  obtain ⟨x2, hc2, h⟩ := bn_e h
  refine r_callVi hX hR (c_X7_place (σ := σ) X.2.1 G hc2) rfl rfl mf_X7_place ml_X7_306 in_X7_place se_X7_place rfl rfl ⟨rfl, rfl, Nat.le_of_ble_eq_true rfl, Nat.le_of_ble_eq_true rfl⟩ rfl (st := []) rfl (Nat.le_of_ble_eq_true rfl) dX7_takesTest_5 ?_
  refine r_istore_n (L2 := [(1, .int x2), (0, .ref (gA G 17 0))]) hX rfl (by decide) rfl dX7_takesTest_8 ?_
  refine r_iload_n hX rfl 0 rfl dX7_takesTest_9 ?_
  refine r_if_ge hX dX7_takesTest_10 (fun hc => ?_) (fun hc => ?_)
  · replace h := ip_e hc h
    refine r_aload_n hX rfl 1 rfl dX7_takesTest_15 ?_
    refine r_dup hX rfl dX7_takesTest_16 ?_
    refine gf_7_16 (o := 17) hX fl_X7_59 rfl m1_g dX7_takesTest_17 ?_
    refine r_iconst (v := 1) hX (by decide) dX7_takesTest_20 ?_
    refine r_iadd hX dX7_takesTest_21 ?_
    obtain ⟨P3, hP3, h⟩ := nb_e h
    refine pf_7_16 (o := 17) hX fl_X7_59 rfl m1_g dX7_takesTest_22 (m1_w hP3) ?_
    refine r_aload_n hX rfl 1 rfl dX7_takesTest_25 ?_
    obtain ⟨x4, hc4, h⟩ := bn_e h
    refine r_callVi hX hR (c_X7_next (σ := σ) X.2.1 G hc4) rfl rfl mf_X7_next ml_X7_292 in_X7_next se_X7_next rfl rfl ⟨rfl, rfl, Nat.le_of_ble_eq_true rfl, Nat.le_of_ble_eq_true rfl⟩ rfl (st := []) rfl (Nat.le_of_ble_eq_true rfl) dX7_takesTest_26 ?_
    refine r_istore_n (L2 := [(2, .int x4), (1, .int x2), (0, .ref (gA G 17 0))]) hX rfl (by decide) rfl dX7_takesTest_29 ?_
    refine r_aload_n hX rfl 2 rfl dX7_takesTest_30 ?_
    refine r_iload_n hX rfl 0 rfl dX7_takesTest_31 ?_
    refine r_bipush (v := 60) hX (by decide) dX7_takesTest_32 ?_
    refine r_bipush (v := 62) hX (by decide) dX7_takesTest_34 ?_
    obtain ⟨x5, hc5, h⟩ := bn_e h
    refine r_callVi hX hR (c_X7_in (σ := σ) X.2.1 G hc5) rfl rfl mf_X7_in ml_X7_263 in_X7_in se_X7_in rfl rfl ⟨rfl, rfl, Nat.le_of_ble_eq_true rfl, Nat.le_of_ble_eq_true rfl⟩ rfl (st := []) rfl (Nat.le_of_ble_eq_true rfl) dX7_takesTest_36 ?_
    refine r_if_ne hX dX7_takesTest_39 (fun hc => ?_) (fun hc => ?_)
    · replace h := in_e hc h
      refine r_aload_n hX rfl 2 rfl dX7_takesTest_44 ?_
      refine r_dup hX rfl dX7_takesTest_45 ?_
      refine gf_7_16 (o := 17) hX fl_X7_59 rfl m1_g dX7_takesTest_46 ?_
      refine r_iconst (v := 1) hX (by decide) dX7_takesTest_49 ?_
      refine r_iadd hX dX7_takesTest_50 ?_
      obtain ⟨P6, hP6, h⟩ := nb_e h
      refine pf_7_16 (o := 17) hX fl_X7_59 rfl m1_g dX7_takesTest_51 (m1_w hP6) ?_
      refine r_aload_n hX rfl 2 rfl dX7_takesTest_54 ?_
      obtain ⟨x7, P8, hc8, h⟩ := bn2_e h
      refine r_callVi hX hR (c_X7_takesNumber (σ := σ) X.2.1 G hc8) rfl rfl mf_X7_takesNumber ml_X7_310 in_X7_takesNumber se_X7_takesNumber rfl rfl ⟨rfl, rfl, Nat.le_of_ble_eq_true rfl, Nat.le_of_ble_eq_true rfl⟩ rfl (st := []) rfl (Nat.le_of_ble_eq_true rfl) dX7_takesTest_55 ?_
      refine r_if_ne hX dX7_takesTest_58 (fun hc => ?_) (fun hc => ?_)
      · replace h := in_e hc h
        refine r_aload_n hX rfl 2 rfl dX7_takesTest_63 ?_
        refine r_sipush (v := 1000) hX (by decide) dX7_takesTest_64 ?_
        refine r_iload_n hX rfl 1 rfl dX7_takesTest_67 ?_
        refine r_imul hX dX7_takesTest_68 ?_
        refine r_bipush (v := 100) hX (by decide) dX7_takesTest_69 ?_
        refine r_iload_n hX rfl 0 rfl dX7_takesTest_71 ?_
        refine r_bipush (v := 60) hX (by decide) dX7_takesTest_72 ?_
        refine r_isub hX dX7_takesTest_74 ?_
        refine r_imul hX dX7_takesTest_75 ?_
        refine r_iadd hX dX7_takesTest_76 ?_
        refine r_aload_n hX rfl 2 rfl dX7_takesTest_77 ?_
        refine gf_7_17 (o := 17) hX fl_X7_62 rfl m1_g dX7_takesTest_78 ?_
        refine r_iadd hX dX7_takesTest_81 ?_
        obtain ⟨P9, hc9, h⟩ := bn_e h
        refine r_callVv hX hR (c_X7_emits (σ := σ) X.2.1 G hc9) rfl rfl mf_X7_emits ml_X7_303 in_X7_emits se_X7_emits rfl rfl ⟨rfl, rfl, Nat.le_of_ble_eq_true rfl, Nat.le_of_ble_eq_true rfl⟩ rfl (st := []) rfl (Nat.le_of_ble_eq_true rfl) dX7_takesTest_82 ?_
        refine r_aload_n hX rfl 2 rfl dX7_takesTest_85 ?_
        obtain ⟨P10, hc10, h⟩ := bn_e h
        refine r_callVv hX hR (c_X7_whole (σ := σ) X.2.1 G hc10) rfl rfl mf_X7_whole ml_X7_313 in_X7_whole se_X7_whole rfl rfl ⟨rfl, rfl, Nat.le_of_ble_eq_true rfl, Nat.le_of_ble_eq_true rfl⟩ rfl (st := []) rfl (Nat.le_of_ble_eq_true rfl) dX7_takesTest_86 ?_
        refine r_iconst (v := 1) hX (by decide) dX7_takesTest_89 ?_
        have g0 := Option.some.inj h
        obtain ⟨q0, g1⟩ := Prod.mk.inj g0
        subst q0
        subst g1
        exact r_zret hX (Or.inr rfl) hQ dX7_takesTest_90
      · replace h := ip_e hc h
        refine r_iconst (v := 0) hX (by decide) dX7_takesTest_61 ?_
        have g0 := Option.some.inj h
        obtain ⟨q0, g1⟩ := Prod.mk.inj g0
        subst q0
        subst g1
        exact r_zret hX (Or.inl rfl) hQ dX7_takesTest_62
    · replace h := ip_e hc h
      refine r_iconst (v := 0) hX (by decide) dX7_takesTest_42 ?_
      have g0 := Option.some.inj h
      obtain ⟨q0, g1⟩ := Prod.mk.inj g0
      subst q0
      subst g1
      exact r_zret hX (Or.inl rfl) hQ dX7_takesTest_43
  · replace h := in_e hc h
    refine r_iconst (v := 0) hX (by decide) dX7_takesTest_13 ?_
    have g0 := Option.some.inj h
    obtain ⟨q0, g1⟩ := Prod.mk.inj g0
    subst q0
    subst g1
    exact r_zret hX (Or.inl rfl) hQ dX7_takesTest_14
abbrev rm_X7_takesE : Room := { frames := 4, cells := 0, slots := 0, locals := 146 }
def f_X7_takesE_J122 (P : Pm) (v1 : Int32) (v3 : Int32) : Option ((Int32 × Pm) ⊕ (Int32 × Pm)) :=
  Option.bind (f_X7_settle P v3) (fun P1 => (if inb (P1 0 27) 101 = true then nb (up2 P1 26 (ix (P1 0 27)) v3) (fun P3 => nb (up2 P3 0 27 ((P3 0 27) + 1)) (fun P4 => nb (up2 P4 0 16 ((P4 0 16) + 1)) (fun P5 => some (.inl (1, P5))))) else none))
def f_X7_takesE_J43 (P : Pm) (v1 : Int32) (v2 : Int32) (v3 : Int32) : Option ((Int32 × Pm) ⊕ (Int32 × Pm)) :=
  (if (P 0 28) = 4 then wr (some (0, P)) else nb (up2 P 0 28 ((P 0 28) + 1)) (fun P6 => (if inb (P6 0 27) 101 = true then nb (up2 P6 26 (ix (P6 0 27)) v3) (fun P8 => nb (up2 P8 0 27 ((P8 0 27) + 1)) (fun P9 => nb (up2 P9 0 16 ((P9 0 16) + 1)) (fun P10 => some (.inl (v2, P10))))) else none)))
def f_X7_takesE_B22 (v1 : Int32) (v2 : Int32) (P : Pm) : Option ((Int32 × Pm) ⊕ (Int32 × Pm)) :=
  Option.bind (f_X7_next P) (fun x11 => (if v2 = 0 then (if x11 = 38 then f_X7_takesE_J122 P v1 x11 else (if x11 = 124 then f_X7_takesE_J122 P v1 x11 else Option.bind (f_X7_settle P 124) (fun P12 => (if inb v1 60 = true then nb (up2 P12 24 (ix v1) (P12 0 26)) (fun P14 => (if (P14 0 27) = 0 then wr (some (1, P14)) else (if x11 = 41 then nb (up2 P14 0 27 ((P14 0 27) - 1)) (fun P15 => nb (up2 P15 0 28 ((P15 0 28) - 1)) (fun P16 => nb (up2 P16 0 16 ((P16 0 16) + 1)) (fun P17 => Option.bind (f_X7_whole P17) (fun P18 => some (.inl (v2, P18)))))) else wr (some (0, P14))))) else none)))) else (if x11 = 33 then f_X7_takesE_J43 P v1 v2 x11 else (if x11 = 40 then f_X7_takesE_J43 P v1 v2 x11 else bn2 (f_X7_takesTest P) (fun x19 P20 => (if x19 = 0 then wr (some (0, P20)) else some (.inl (0, P20))))))))
def f_X7_takesE_H22 (P : Pm) (v1 : Int32) (v2 : Int32) : Option (Int32 × Pm) :=
  iter (fun t => f_X7_takesE_B22 v1 t.1 t.2) 200 (v2, P)
def f_X7_takesE (P : Pm) (a1 : Int32) : Option (Int32 × Pm) :=
  nb (up2 P 0 27 0) (fun P21 => nb (up2 P21 0 28 0) (fun P22 => (if inb a1 60 = true then nb (up2 P22 23 (ix a1) (P22 0 26)) (fun P24 => f_X7_takesE_H22 P24 a1 1) else none)))
set_option maxHeartbeats 4000000 in
set_option maxRecDepth 100000 in
theorem c_X7_takesE (l : Launch) (G : GE) {σ : Mm} {lm : Ml}  {P : Pm} {a1 : Int32} {rz : Int32} {Pz : Pm} (h : f_X7_takesE P a1 = some (rz, Pz)) : CM l G yX7_takesE bX7_takesE 4 (Option.some Jvm.ClassFile.FieldType.boolean) rm_X7_takesE [.ref (gA G 17 0), .int a1] (m1 σ 17 P) lm (some (.int rz)) (m1 σ 17 Pz) lm := by
  refine CM.of (own := zR7) (L0 := [(0, .ref (gA G 17 0)), (1, .int a1)]) (by decide +kernel) rfl (Nat.le_of_ble_eq_true rfl) rfl (fun X hl hX hR hQ => ?_)
  have K22 : ∀ (P : Pm) (v1 : Int32) (v2 : Int32) (_ : True), f_X7_takesE_H22 P v1 v2 = some (rz, Pz) → WW X G 4 (m1 σ 17 P) lm 22 [(0, .ref (gA G 17 0)), (1, .int v1), (2, .int v2)] [] := by
    intro P v1 v2 _ h
    unfold f_X7_takesE_H22 at h
    have hit := h
    refine iter_w (P := fun t : Int32 × Pm => WW X G 4 (m1 σ 17 t.2) lm 22 [(0, .ref (gA G 17 0)), (1, .int v1), (2, .int t.1)] []) (x := (rz, Pz)) ?_ 200 (v2, P) hit
    clear hit
    clear h
    intro t z1 hb hin1 hex1
    obtain ⟨v2, P⟩ := t
    have h : f_X7_takesE_B22 v1 v2 P = some z1 := hb
    clear hb
    have K122 : ∀ (P : Pm) (v3 : Int32) (_ : True), f_X7_takesE_J122 P v1 v3 = some z1 → WW X G 4 (m1 σ 17 P) lm 122 [(0, .ref (gA G 17 0)), (1, .int v1), (3, .int v3)] [] := by
      intro P v3 _ h
      unfold f_X7_takesE_J122 at h
      refine r_aload_n hX rfl 0 rfl dX7_takesE_122 ?_
      refine r_iload_n hX rfl 2 rfl dX7_takesE_123 ?_
      obtain ⟨P1, hc1, h⟩ := bn_e h
      refine r_callVv hX hR (c_X7_settle (σ := σ) X.2.1 G hc1) rfl rfl mf_X7_settle ml_X7_319 in_X7_settle se_X7_settle rfl rfl ⟨rfl, rfl, Nat.le_of_ble_eq_true rfl, Nat.le_of_ble_eq_true rfl⟩ rfl (st := []) rfl (Nat.le_of_ble_eq_true rfl) dX7_takesE_124 ?_
      refine r_aload_n hX rfl 0 rfl dX7_takesE_127 ?_
      refine gf_7_25 (o := 17) hX fl_X7_86 rfl m1_g dX7_takesE_128 ?_
      refine r_aload_n hX rfl 0 rfl dX7_takesE_131 ?_
      refine gf_7_27 (o := 17) hX fl_X7_92 rfl m1_g dX7_takesE_132 ?_
      refine r_iload_n hX rfl 2 rfl dX7_takesE_135 ?_
      obtain ⟨hk2, h⟩ := kc_e h
      obtain ⟨P3, hP3, h⟩ := nb_e h
      refine pa_7_26 (o := 17) hX rfl m1_g hk2 (m1_w hP3) dX7_takesE_136 ?_
      refine r_aload_n hX rfl 0 rfl dX7_takesE_137 ?_
      refine r_dup hX rfl dX7_takesE_138 ?_
      refine gf_7_27 (o := 17) hX fl_X7_92 rfl m1_g dX7_takesE_139 ?_
      refine r_iconst (v := 1) hX (by decide) dX7_takesE_142 ?_
      refine r_iadd hX dX7_takesE_143 ?_
      obtain ⟨P4, hP4, h⟩ := nb_e h
      refine pf_7_27 (o := 17) hX fl_X7_92 rfl m1_g dX7_takesE_144 (m1_w hP4) ?_
      refine r_iconst (v := 1) hX (by decide) dX7_takesE_147 ?_
      refine r_istore_n (L2 := [(2, .int 1), (0, .ref (gA G 17 0)), (1, .int v1), (3, .int v3)]) hX rfl (by decide) rfl dX7_takesE_148 ?_
      refine r_aload_n hX rfl 1 rfl dX7_takesE_149 ?_
      refine r_dup hX rfl dX7_takesE_150 ?_
      refine gf_7_16 (o := 17) hX fl_X7_59 rfl m1_g dX7_takesE_151 ?_
      refine r_iconst (v := 1) hX (by decide) dX7_takesE_154 ?_
      refine r_iadd hX dX7_takesE_155 ?_
      obtain ⟨P5, hP5, h⟩ := nb_e h
      refine pf_7_16 (o := 17) hX fl_X7_59 rfl m1_g dX7_takesE_156 (m1_w hP5) ?_
      refine r_goto hX dX7_takesE_159 ?_
      exact WW.sub [1, 2, 0] rfl (hin1 _ (Option.some.inj h).symm)
    have K43 : ∀ (P : Pm) (v2 : Int32) (v3 : Int32) (_ : True), f_X7_takesE_J43 P v1 v2 v3 = some z1 → WW X G 4 (m1 σ 17 P) lm 43 [(0, .ref (gA G 17 0)), (1, .int v1), (2, .int v2), (3, .int v3)] [] := by
      intro P v2 v3 _ h
      unfold f_X7_takesE_J43 at h
      refine r_aload_n hX rfl 0 rfl dX7_takesE_43 ?_
      refine gf_7_28 (o := 17) hX fl_X7_95 rfl m1_g dX7_takesE_44 ?_
      refine r_iconst (v := 4) hX (by decide) dX7_takesE_47 ?_
      refine r_icmp_ne hX dX7_takesE_48 (fun hc => ?_) (fun hc => ?_)
      · replace h := in_e hc h
        refine r_aload_n hX rfl 0 rfl dX7_takesE_53 ?_
        refine r_dup hX rfl dX7_takesE_54 ?_
        refine gf_7_28 (o := 17) hX fl_X7_95 rfl m1_g dX7_takesE_55 ?_
        refine r_iconst (v := 1) hX (by decide) dX7_takesE_58 ?_
        refine r_iadd hX dX7_takesE_59 ?_
        obtain ⟨P6, hP6, h⟩ := nb_e h
        refine pf_7_28 (o := 17) hX fl_X7_95 rfl m1_g dX7_takesE_60 (m1_w hP6) ?_
        refine r_aload_n hX rfl 0 rfl dX7_takesE_63 ?_
        refine gf_7_25 (o := 17) hX fl_X7_86 rfl m1_g dX7_takesE_64 ?_
        refine r_aload_n hX rfl 0 rfl dX7_takesE_67 ?_
        refine gf_7_27 (o := 17) hX fl_X7_92 rfl m1_g dX7_takesE_68 ?_
        refine r_iload_n hX rfl 3 rfl dX7_takesE_71 ?_
        obtain ⟨hk7, h⟩ := kc_e h
        obtain ⟨P8, hP8, h⟩ := nb_e h
        refine pa_7_26 (o := 17) hX rfl m1_g hk7 (m1_w hP8) dX7_takesE_72 ?_
        refine r_aload_n hX rfl 0 rfl dX7_takesE_73 ?_
        refine r_dup hX rfl dX7_takesE_74 ?_
        refine gf_7_27 (o := 17) hX fl_X7_92 rfl m1_g dX7_takesE_75 ?_
        refine r_iconst (v := 1) hX (by decide) dX7_takesE_78 ?_
        refine r_iadd hX dX7_takesE_79 ?_
        obtain ⟨P9, hP9, h⟩ := nb_e h
        refine pf_7_27 (o := 17) hX fl_X7_92 rfl m1_g dX7_takesE_80 (m1_w hP9) ?_
        refine r_aload_n hX rfl 0 rfl dX7_takesE_83 ?_
        refine r_dup hX rfl dX7_takesE_84 ?_
        refine gf_7_16 (o := 17) hX fl_X7_59 rfl m1_g dX7_takesE_85 ?_
        refine r_iconst (v := 1) hX (by decide) dX7_takesE_88 ?_
        refine r_iadd hX dX7_takesE_89 ?_
        obtain ⟨P10, hP10, h⟩ := nb_e h
        refine pf_7_16 (o := 17) hX fl_X7_59 rfl m1_g dX7_takesE_90 (m1_w hP10) ?_
        refine r_goto hX dX7_takesE_93 ?_
        exact WW.sub [0, 1, 2] rfl (hin1 _ (Option.some.inj h).symm)
      · replace h := ip_e hc h
        refine r_iconst (v := 0) hX (by decide) dX7_takesE_51 ?_
        obtain ⟨y1, h, e1⟩ := wr_e h
        rw [hex1 _ e1] at h
        have g0 := Option.some.inj h
        obtain ⟨q0, g1⟩ := Prod.mk.inj g0
        subst q0
        subst g1
        exact r_zret hX (Or.inl rfl) hQ dX7_takesE_52
    unfold f_X7_takesE_B22 at h
    refine r_aload_n hX rfl 0 rfl dX7_takesE_22 ?_
    obtain ⟨x11, hc11, h⟩ := bn_e h
    refine r_callVi hX hR (c_X7_next (σ := σ) X.2.1 G hc11) rfl rfl mf_X7_next ml_X7_292 in_X7_next se_X7_next rfl rfl ⟨rfl, rfl, Nat.le_of_ble_eq_true rfl, Nat.le_of_ble_eq_true rfl⟩ rfl (st := []) rfl (Nat.le_of_ble_eq_true rfl) dX7_takesE_23 ?_
    refine r_istore_n (L2 := [(3, .int x11), (0, .ref (gA G 17 0)), (1, .int v1), (2, .int v2)]) hX rfl (by decide) rfl dX7_takesE_26 ?_
    refine r_iload_n hX rfl 3 rfl dX7_takesE_27 ?_
    refine r_if_eq hX dX7_takesE_28 (fun hc => ?_) (fun hc => ?_)
    · replace h := ip_e hc h
      refine r_iload_n hX rfl 0 rfl dX7_takesE_110 ?_
      refine r_bipush (v := 38) hX (by decide) dX7_takesE_111 ?_
      refine r_icmp_eq hX dX7_takesE_113 (fun hc => ?_) (fun hc => ?_)
      · replace h := ip_e hc h
        exact WW.sub [1, 2, 0] rfl (K122 P x11 trivial h)
      · replace h := in_e hc h
        refine r_iload_n hX rfl 0 rfl dX7_takesE_116 ?_
        refine r_bipush (v := 124) hX (by decide) dX7_takesE_117 ?_
        refine r_icmp_ne hX dX7_takesE_119 (fun hc => ?_) (fun hc => ?_)
        · replace h := in_e hc h
          refine r_aload_n hX rfl 1 rfl dX7_takesE_162 ?_
          refine r_bipush (v := 124) hX (by decide) dX7_takesE_163 ?_
          obtain ⟨P12, hc12, h⟩ := bn_e h
          refine r_callVv hX hR (c_X7_settle (σ := σ) X.2.1 G hc12) rfl rfl mf_X7_settle ml_X7_319 in_X7_settle se_X7_settle rfl rfl ⟨rfl, rfl, Nat.le_of_ble_eq_true rfl, Nat.le_of_ble_eq_true rfl⟩ rfl (st := []) rfl (Nat.le_of_ble_eq_true rfl) dX7_takesE_165 ?_
          refine r_aload_n hX rfl 1 rfl dX7_takesE_168 ?_
          refine gf_7_23 (o := 17) hX fl_X7_80 rfl m1_g dX7_takesE_169 ?_
          refine r_iload_n hX rfl 2 rfl dX7_takesE_172 ?_
          refine r_aload_n hX rfl 1 rfl dX7_takesE_173 ?_
          refine gf_7_26 (o := 17) hX fl_X7_89 rfl m1_g dX7_takesE_174 ?_
          obtain ⟨hk13, h⟩ := kc_e h
          obtain ⟨P14, hP14, h⟩ := nb_e h
          refine pa_7_24 (o := 17) hX rfl m1_g hk13 (m1_w hP14) dX7_takesE_177 ?_
          refine r_aload_n hX rfl 1 rfl dX7_takesE_178 ?_
          refine gf_7_27 (o := 17) hX fl_X7_92 rfl m1_g dX7_takesE_179 ?_
          refine r_if_ne hX dX7_takesE_182 (fun hc => ?_) (fun hc => ?_)
          · replace h := in_e hc h
            refine r_iload_n hX rfl 0 rfl dX7_takesE_187 ?_
            refine r_bipush (v := 41) hX (by decide) dX7_takesE_188 ?_
            refine r_icmp_eq hX dX7_takesE_190 (fun hc => ?_) (fun hc => ?_)
            · replace h := ip_e hc h
              refine r_aload_n hX rfl 1 rfl dX7_takesE_195 ?_
              refine r_dup hX rfl dX7_takesE_196 ?_
              refine gf_7_27 (o := 17) hX fl_X7_92 rfl m1_g dX7_takesE_197 ?_
              refine r_iconst (v := 1) hX (by decide) dX7_takesE_200 ?_
              refine r_isub hX dX7_takesE_201 ?_
              obtain ⟨P15, hP15, h⟩ := nb_e h
              refine pf_7_27 (o := 17) hX fl_X7_92 rfl m1_g dX7_takesE_202 (m1_w hP15) ?_
              refine r_aload_n hX rfl 1 rfl dX7_takesE_205 ?_
              refine r_dup hX rfl dX7_takesE_206 ?_
              refine gf_7_28 (o := 17) hX fl_X7_95 rfl m1_g dX7_takesE_207 ?_
              refine r_iconst (v := 1) hX (by decide) dX7_takesE_210 ?_
              refine r_isub hX dX7_takesE_211 ?_
              obtain ⟨P16, hP16, h⟩ := nb_e h
              refine pf_7_28 (o := 17) hX fl_X7_95 rfl m1_g dX7_takesE_212 (m1_w hP16) ?_
              refine r_aload_n hX rfl 1 rfl dX7_takesE_215 ?_
              refine r_dup hX rfl dX7_takesE_216 ?_
              refine gf_7_16 (o := 17) hX fl_X7_59 rfl m1_g dX7_takesE_217 ?_
              refine r_iconst (v := 1) hX (by decide) dX7_takesE_220 ?_
              refine r_iadd hX dX7_takesE_221 ?_
              obtain ⟨P17, hP17, h⟩ := nb_e h
              refine pf_7_16 (o := 17) hX fl_X7_59 rfl m1_g dX7_takesE_222 (m1_w hP17) ?_
              refine r_aload_n hX rfl 1 rfl dX7_takesE_225 ?_
              obtain ⟨P18, hc18, h⟩ := bn_e h
              refine r_callVv hX hR (c_X7_whole (σ := σ) X.2.1 G hc18) rfl rfl mf_X7_whole ml_X7_313 in_X7_whole se_X7_whole rfl rfl ⟨rfl, rfl, Nat.le_of_ble_eq_true rfl, Nat.le_of_ble_eq_true rfl⟩ rfl (st := []) rfl (Nat.le_of_ble_eq_true rfl) dX7_takesE_226 ?_
              refine r_goto hX dX7_takesE_229 ?_
              exact WW.sub [1, 2, 3] rfl (hin1 _ (Option.some.inj h).symm)
            · replace h := in_e hc h
              refine r_iconst (v := 0) hX (by decide) dX7_takesE_193 ?_
              obtain ⟨y1, h, e1⟩ := wr_e h
              rw [hex1 _ e1] at h
              have g0 := Option.some.inj h
              obtain ⟨q0, g1⟩ := Prod.mk.inj g0
              subst q0
              subst g1
              exact r_zret hX (Or.inl rfl) hQ dX7_takesE_194
          · replace h := ip_e hc h
            refine r_iconst (v := 1) hX (by decide) dX7_takesE_185 ?_
            obtain ⟨y1, h, e1⟩ := wr_e h
            rw [hex1 _ e1] at h
            have g0 := Option.some.inj h
            obtain ⟨q0, g1⟩ := Prod.mk.inj g0
            subst q0
            subst g1
            exact r_zret hX (Or.inr rfl) hQ dX7_takesE_186
        · replace h := ip_e hc h
          exact WW.sub [1, 2, 0] rfl (K122 P x11 trivial h)
    · replace h := in_e hc h
      refine r_iload_n hX rfl 0 rfl dX7_takesE_31 ?_
      refine r_bipush (v := 33) hX (by decide) dX7_takesE_32 ?_
      refine r_icmp_eq hX dX7_takesE_34 (fun hc => ?_) (fun hc => ?_)
      · replace h := ip_e hc h
        exact WW.sub [1, 2, 3, 0] rfl (K43 P v2 x11 trivial h)
      · replace h := in_e hc h
        refine r_iload_n hX rfl 0 rfl dX7_takesE_37 ?_
        refine r_bipush (v := 40) hX (by decide) dX7_takesE_38 ?_
        refine r_icmp_ne hX dX7_takesE_40 (fun hc => ?_) (fun hc => ?_)
        · replace h := in_e hc h
          refine r_aload_n hX rfl 1 rfl dX7_takesE_96 ?_
          obtain ⟨x19, P20, hc20, h⟩ := bn2_e h
          refine r_callVi hX hR (c_X7_takesTest (σ := σ) X.2.1 G hc20) rfl rfl mf_X7_takesTest ml_X7_316 in_X7_takesTest se_X7_takesTest rfl rfl ⟨rfl, rfl, Nat.le_of_ble_eq_true rfl, Nat.le_of_ble_eq_true rfl⟩ rfl (st := []) rfl (Nat.le_of_ble_eq_true rfl) dX7_takesE_97 ?_
          refine r_if_eq hX dX7_takesE_100 (fun hc => ?_) (fun hc => ?_)
          · replace h := ip_e hc h
            refine r_iconst (v := 0) hX (by decide) dX7_takesE_108 ?_
            obtain ⟨y1, h, e1⟩ := wr_e h
            rw [hex1 _ e1] at h
            have g0 := Option.some.inj h
            obtain ⟨q0, g1⟩ := Prod.mk.inj g0
            subst q0
            subst g1
            exact r_zret hX (Or.inl rfl) hQ dX7_takesE_109
          · replace h := in_e hc h
            refine r_iconst (v := 0) hX (by decide) dX7_takesE_103 ?_
            refine r_istore_n (L2 := [(2, .int 0), (3, .int x11), (0, .ref (gA G 17 0)), (1, .int v1)]) hX rfl (by decide) rfl dX7_takesE_104 ?_
            refine r_goto hX dX7_takesE_105 ?_
            exact WW.sub [2, 3, 0] rfl (hin1 _ (Option.some.inj h).symm)
        · replace h := ip_e hc h
          exact WW.sub [1, 2, 3, 0] rfl (K43 P v2 x11 trivial h)
  unfold f_X7_takesE at h
  refine r_aload_n hX rfl 0 rfl dX7_takesE_0 ?_
  refine r_iconst (v := 0) hX (by decide) dX7_takesE_1 ?_
  obtain ⟨P21, hP21, h⟩ := nb_e h
  refine pf_7_27 (o := 17) hX fl_X7_92 rfl m1_g dX7_takesE_2 (m1_w hP21) ?_
  refine r_aload_n hX rfl 0 rfl dX7_takesE_5 ?_
  refine r_iconst (v := 0) hX (by decide) dX7_takesE_6 ?_
  obtain ⟨P22, hP22, h⟩ := nb_e h
  refine pf_7_28 (o := 17) hX fl_X7_95 rfl m1_g dX7_takesE_7 (m1_w hP22) ?_
  refine r_aload_n hX rfl 0 rfl dX7_takesE_10 ?_
  refine gf_7_22 (o := 17) hX fl_X7_77 rfl m1_g dX7_takesE_11 ?_
  refine r_iload_n hX rfl 1 rfl dX7_takesE_14 ?_
  refine r_aload_n hX rfl 0 rfl dX7_takesE_15 ?_
  refine gf_7_26 (o := 17) hX fl_X7_89 rfl m1_g dX7_takesE_16 ?_
  obtain ⟨hk23, h⟩ := kc_e h
  obtain ⟨P24, hP24, h⟩ := nb_e h
  refine pa_7_23 (o := 17) hX rfl m1_g hk23 (m1_w hP24) dX7_takesE_19 ?_
  refine r_iconst (v := 1) hX (by decide) dX7_takesE_20 ?_
  refine r_istore_n (L2 := [(2, .int 1), (0, .ref (gA G 17 0)), (1, .int a1)]) hX rfl (by decide) rfl dX7_takesE_21 ?_
  exact WW.sub [1, 2, 0] rfl (K22 P24 a1 1 trivial h)
