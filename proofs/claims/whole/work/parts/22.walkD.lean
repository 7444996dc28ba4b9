/-! the pure functions and the walks; written by wip/whole/gen_walk.py -/
abbrev rm_X6_trialShowsAllSeen : Room := { frames := 5, cells := 0, slots := 0, locals := 180 }
def f_X6_trialShowsAllSeen_B10 (v1 : Int32) (v2 : Int32) (s : Mm) : Option ((Int32 × Mm) ⊕ (Int32 × Mm)) :=
  (if v1 < v2 then wr (some (1, s)) else Option.bind (f_X2_seenFits (s 4) v2 ((s 2) 0 0)) (fun x1 => (if x1 = 0 then wr (some (0, s)) else Option.bind (f_X6_goTrial s 1) (fun s2 => some (.inl ((v2 + 1), s2))))))
def f_X6_trialShowsAllSeen_H10 (s : Mm) (v1 : Int32) (v2 : Int32) : Option (Int32 × Mm) :=
  iter (fun t => f_X6_trialShowsAllSeen_B10 v1 t.1 t.2) 200 (v2, s)
def f_X6_trialShowsAllSeen (s : Mm) : Option (Int32 × Mm) :=
  Option.bind (f_X2_farthestSeen (s 4)) (fun x3 => f_X6_trialShowsAllSeen_H10 s x3 0)
set_option maxHeartbeats 4000000 in
set_option maxRecDepth 100000 in
theorem c_X6_trialShowsAllSeen (l : Launch) (G : GE) {lm : Ml}  {s : Mm} {rz : Int32} {sz : Mm} (h : f_X6_trialShowsAllSeen s = some (rz, sz)) : CM l G yX6_trialShowsAllSeen bX6_trialShowsAllSeen 3 (Option.some Jvm.ClassFile.FieldType.boolean) rm_X6_trialShowsAllSeen [.ref (gA G 0 0)] s lm (some (.int rz)) sz lm := by
  refine CM.of (own := zR6) (L0 := [(0, .ref (gA G 0 0))]) (by decide +kernel) rfl (Nat.le_of_ble_eq_true rfl) rfl (fun X hl hX hR hQ => ?_)
  have K10 : ∀ (s : Mm) (v1 : Int32) (v2 : Int32) (_ : True), f_X6_trialShowsAllSeen_H10 s v1 v2 = some (rz, sz) → WW X G 3 s lm 10 [(0, .ref (gA G 0 0)), (1, .int v1), (2, .int v2)] [] := by
    intro s v1 v2 _ h
    unfold f_X6_trialShowsAllSeen_H10 at h
    have hit := h
    refine iter_w (P := fun t : Int32 × Mm => WW X G 3 t.2 lm 10 [(0, .ref (gA G 0 0)), (1, .int v1), (2, .int t.1)] []) (x := (rz, sz)) ?_ 200 (v2, s) hit
    clear hit
    clear h
    intro t z1 hb hin1 hex1
    obtain ⟨v2, s⟩ := t
    have h : f_X6_trialShowsAllSeen_B10 v1 v2 s = some z1 := hb
    clear hb
    unfold f_X6_trialShowsAllSeen_B10 at h
    refine r_iload_n hX rfl 2 rfl dX6_trialShowsAllSeen_10 ?_
    refine r_iload_n hX rfl 1 rfl dX6_trialShowsAllSeen_11 ?_
    refine r_icmp_gt hX dX6_trialShowsAllSeen_12 (fun hc => ?_) (fun hc => ?_)
    · replace h := ip_e hc h
      refine r_iconst (v := 1) hX (by decide) dX6_trialShowsAllSeen_46 ?_
      obtain ⟨y1, h, e1⟩ := wr_e h
      rw [hex1 _ e1] at h
      have g0 := Option.some.inj h
      obtain ⟨q0, g1⟩ := Prod.mk.inj g0
      subst q0
      subst g1
      exact r_zret hX (Or.inr rfl) hQ dX6_trialShowsAllSeen_47
    · replace h := in_e hc h
      refine r_aload_n hX rfl 0 rfl dX6_trialShowsAllSeen_15 ?_
      refine gf_6_3 (o := 0) hX fl_X6_27 rfl rfl dX6_trialShowsAllSeen_16 ?_
      refine r_iload_n hX rfl 2 rfl dX6_trialShowsAllSeen_19 ?_
      refine r_aload_n hX rfl 0 rfl dX6_trialShowsAllSeen_20 ?_
      refine gf_6_1 (o := 0) hX fl_X6_18 rfl rfl dX6_trialShowsAllSeen_21 ?_
      refine gf_5_0 (o := 2) hX fl_X6_148 rfl rfl dX6_trialShowsAllSeen_24 ?_
      obtain ⟨x1, hc1, h⟩ := bn_e h
      refine r_callVi hX hR (c_X2_seenFits (σ := s) X.2.1 G rfl hc1) m1_i m1_i mf_X2_seenFits ml_X6_332 in_X2_seenFits se_X2_seenFits rfl rfl ⟨rfl, rfl, Nat.le_of_ble_eq_true rfl, Nat.le_of_ble_eq_true rfl⟩ rfl (st := []) rfl (Nat.le_of_ble_eq_true rfl) dX6_trialShowsAllSeen_27 ?_
      refine r_if_ne hX dX6_trialShowsAllSeen_30 (fun hc => ?_) (fun hc => ?_)
      · replace h := in_e hc h
        refine r_aload_n hX rfl 0 rfl dX6_trialShowsAllSeen_35 ?_
        refine r_iconst (v := 1) hX (by decide) dX6_trialShowsAllSeen_36 ?_
        obtain ⟨s2, hc2, h⟩ := bn_e h
        refine r_callVv hX hR (c_X6_goTrial X.2.1 G hc2) rfl rfl mf_X6_goTrial ml_X6_195 in_X6_goTrial se_X6_goTrial rfl rfl ⟨rfl, rfl, Nat.le_of_ble_eq_true rfl, Nat.le_of_ble_eq_true rfl⟩ rfl (st := []) rfl (Nat.le_of_ble_eq_true rfl) dX6_trialShowsAllSeen_37 ?_
        refine r_iinc (v := v2 + 1) (L2 := [(2, .int (v2 + 1)), (0, .ref (gA G 0 0)), (1, .int v1)]) hX 2 rfl rfl (by decide) rfl dX6_trialShowsAllSeen_40 ?_
        refine r_goto hX dX6_trialShowsAllSeen_43 ?_
        exact WW.sub [1, 2, 0] rfl (hin1 _ (Option.some.inj h).symm)
      · replace h := ip_e hc h
        refine r_iconst (v := 0) hX (by decide) dX6_trialShowsAllSeen_33 ?_
        obtain ⟨y1, h, e1⟩ := wr_e h
        rw [hex1 _ e1] at h
        have g0 := Option.some.inj h
        obtain ⟨q0, g1⟩ := Prod.mk.inj g0
        subst q0
        subst g1
        exact r_zret hX (Or.inl rfl) hQ dX6_trialShowsAllSeen_34
  unfold f_X6_trialShowsAllSeen at h
  refine r_aload_n hX rfl 0 rfl dX6_trialShowsAllSeen_0 ?_
  refine gf_6_3 (o := 0) hX fl_X6_27 rfl rfl dX6_trialShowsAllSeen_1 ?_
  obtain ⟨x3, hc3, h⟩ := bn_e h
  refine r_callVi hX hR (c_X2_farthestSeen (σ := s) X.2.1 G rfl hc3) m1_i m1_i mf_X2_farthestSeen ml_X6_329 in_X2_farthestSeen se_X2_farthestSeen rfl rfl ⟨rfl, rfl, Nat.le_of_ble_eq_true rfl, Nat.le_of_ble_eq_true rfl⟩ rfl (st := []) rfl (Nat.le_of_ble_eq_true rfl) dX6_trialShowsAllSeen_4 ?_
  refine r_istore_n (L2 := [(1, .int x3), (0, .ref (gA G 0 0))]) hX rfl (by decide) rfl dX6_trialShowsAllSeen_7 ?_
  refine r_iconst (v := 0) hX (by decide) dX6_trialShowsAllSeen_8 ?_
  refine r_istore_n (L2 := [(2, .int 0), (1, .int x3), (0, .ref (gA G 0 0))]) hX rfl (by decide) rfl dX6_trialShowsAllSeen_9 ?_
  exact WW.sub [2, 1, 0] rfl (K10 s x3 0 trivial h)
abbrev rm_X6_wanted : Room := { frames := 10, cells := 0, slots := 0, locals := 442 }
def f_X6_wanted_J70 (s : Mm) (v2 : Int32) (v3 : Int32) (v4 : Int32) : Option (Int32 × Mm) :=
  (if v2 = 0 then some (v3, s) else some (v4, s))
def f_X6_wanted_J64 (s : Mm) (v1 : Int32) (v2 : Int32) (v3 : Int32) (v4 : Int32) (v5 : Int32) : Option ((Int32 × Int32 × Int32 × Mm) ⊕ (Int32 × Int32 × Mm)) :=
  some (.inl (v3, v4, (v5 + (-1)), s))
def f_X6_wanted_B29 (v1 : Int32) (v2 : Int32) (v3 : Int32) (v4 : Int32) (v5 : Int32) (s : Mm) : Option ((Int32 × Int32 × Int32 × Mm) ⊕ (Int32 × Int32 × Mm)) :=
  (if v5 < 1 then some (.inr (v3, v4, s)) else Option.bind (f_X6_startTrial s) (fun s1 => (if inb v1 6 = true then nb (setO s1 2 (up2 (s1 2) 7 (ix v1) v5)) (fun s3 => bn2 (f_X6_trialShowsAllSeen s3) (fun x4 s5 => (if x4 = 0 then f_X6_wanted_J64 s5 v1 v2 v3 v4 v5 else f_X6_wanted_J64 s5 v1 v2 (v3 + 1) v5 v5))) else none)))
def f_X6_wanted_H29 (s : Mm) (v1 : Int32) (v2 : Int32) (v3 : Int32) (v4 : Int32) (v5 : Int32) : Option (Int32 × Mm) :=
  bn3 (iter (fun t => f_X6_wanted_B29 v1 v2 t.1 t.2.1 t.2.2.1 t.2.2.2) 200 (v3, v4, v5, s)) (fun v3 v4 s => f_X6_wanted_J70 s v2 v3 v4)
def f_X6_wanted (s : Mm) (a1 : Int32) (a2 : Int32) : Option (Int32 × Mm) :=
  Option.bind (f_X6_known s a1) (fun x6 => (if x6 = 0 then some ((-1), s) else Option.bind (f_X6_within a2 0 1) (fun x7 => (if x7 = 0 then some ((-1), s) else f_X6_wanted_H29 s a1 a2 0 (-5) 99))))
set_option maxHeartbeats 4000000 in
set_option maxRecDepth 100000 in
theorem c_X6_wanted (l : Launch) (G : GE) {lm : Ml}  {s : Mm} {a1 : Int32} {a2 : Int32} {rz : Int32} {sz : Mm} (h : f_X6_wanted s a1 a2 = some (rz, sz)) : CM l G yX6_wanted bX6_wanted 6 (Option.some Jvm.ClassFile.FieldType.int) rm_X6_wanted [.ref (gA G 0 0), .int a1, .int a2] s lm (some (.int rz)) sz lm := by
  refine CM.of (own := zR6) (L0 := [(0, .ref (gA G 0 0)), (1, .int a1), (2, .int a2)]) (by decide +kernel) rfl (Nat.le_of_ble_eq_true rfl) rfl (fun X hl hX hR hQ => ?_)
  have K70 : ∀ (s : Mm) (v2 : Int32) (v3 : Int32) (v4 : Int32) (_ : True), f_X6_wanted_J70 s v2 v3 v4 = some (rz, sz) → WW X G 6 s lm 70 [(2, .int v2), (3, .int v3), (4, .int v4)] [] := by
    intro s v2 v3 v4 _ h
    unfold f_X6_wanted_J70 at h
    refine r_iload_n hX rfl 0 rfl dX6_wanted_70 ?_
    refine r_if_ne hX dX6_wanted_71 (fun hc => ?_) (fun hc => ?_)
    · replace h := in_e hc h
      refine r_iload hX 2 rfl dX6_wanted_78 ?_
      have g0 := Option.some.inj h
      obtain ⟨q0, g1⟩ := Prod.mk.inj g0
      subst q0
      subst g1
      exact r_iret hX hQ dX6_wanted_80
    · replace h := ip_e hc h
      refine r_iload_n hX rfl 1 rfl dX6_wanted_74 ?_
      refine r_goto hX dX6_wanted_75 ?_
      have g0 := Option.some.inj h
      obtain ⟨q0, g1⟩ := Prod.mk.inj g0
      subst q0
      subst g1
      exact r_iret hX hQ dX6_wanted_80
  have K29 : ∀ (s : Mm) (v1 : Int32) (v2 : Int32) (v3 : Int32) (v4 : Int32) (v5 : Int32) (_ : True), f_X6_wanted_H29 s v1 v2 v3 v4 v5 = some (rz, sz) → WW X G 6 s lm 29 [(0, .ref (gA G 0 0)), (1, .int v1), (2, .int v2), (3, .int v3), (4, .int v4), (5, .int v5)] [] := by
    intro s v1 v2 v3 v4 v5 _ h
    unfold f_X6_wanted_H29 at h
    obtain ⟨e_v3, e_v4, e_s, hit, hO⟩ := bn3_e h
    refine iter_w (P := fun t : Int32 × Int32 × Int32 × Mm => WW X G 6 t.2.2.2 lm 29 [(0, .ref (gA G 0 0)), (1, .int v1), (2, .int v2), (3, .int t.1), (4, .int t.2.1), (5, .int t.2.2.1)] []) (x := (e_v3, e_v4, e_s)) ?_ 200 (v3, v4, v5, s) hit
    clear hit
    intro t z1 hb hin1 hex1
    obtain ⟨v3, v4, v5, s⟩ := t
    have h : f_X6_wanted_B29 v1 v2 v3 v4 v5 s = some z1 := hb
    clear hb
    have K64 : ∀ (s : Mm) (v3 : Int32) (v4 : Int32) (v5 : Int32) (_ : True), f_X6_wanted_J64 s v1 v2 v3 v4 v5 = some z1 → WW X G 6 s lm 64 [(0, .ref (gA G 0 0)), (1, .int v1), (2, .int v2), (3, .int v3), (4, .int v4), (5, .int v5)] [] := by
      intro s v3 v4 v5 _ h
      unfold f_X6_wanted_J64 at h
      refine r_iinc (v := v5 + (-1)) (L2 := [(5, .int (v5 + (-1))), (0, .ref (gA G 0 0)), (1, .int v1), (2, .int v2), (3, .int v3), (4, .int v4)]) hX 5 rfl (congrArg (fun z : Int32 => v5 + z) (by decide : Int32.ofInt (-1) = (-1))) (by decide) rfl dX6_wanted_64 ?_
      refine r_goto hX dX6_wanted_67 ?_
      exact WW.sub [1, 2, 3, 4, 5, 0] rfl (hin1 _ (Option.some.inj h).symm)
    unfold f_X6_wanted_B29 at h
    refine r_iload hX 5 rfl dX6_wanted_29 ?_
    refine r_iconst (v := 1) hX (by decide) dX6_wanted_31 ?_
    refine r_icmp_lt hX dX6_wanted_32 (fun hc => ?_) (fun hc => ?_)
    · replace h := ip_e hc h
      have g0 := hex1 _ (Option.some.inj h).symm
      obtain ⟨q0, g1⟩ := Prod.mk.inj g0
      obtain ⟨q1, g2⟩ := Prod.mk.inj g1
      subst q0
      subst q1
      subst g2
      exact WW.sub [2, 3, 4] rfl (K70 s v2 v3 v4 trivial hO)
    · replace h := in_e hc h
      refine r_aload_n hX rfl 0 rfl dX6_wanted_35 ?_
      obtain ⟨s1, hc1, h⟩ := bn_e h
      refine r_callVv hX hR (c_X6_startTrial X.2.1 G hc1) rfl rfl mf_X6_startTrial ml_X6_192 in_X6_startTrial se_X6_startTrial rfl rfl ⟨rfl, rfl, Nat.le_of_ble_eq_true rfl, Nat.le_of_ble_eq_true rfl⟩ rfl (st := []) rfl (Nat.le_of_ble_eq_true rfl) dX6_wanted_36 ?_
      refine r_aload_n hX rfl 0 rfl dX6_wanted_39 ?_
      refine gf_6_1 (o := 0) hX fl_X6_18 rfl rfl dX6_wanted_40 ?_
      refine gf_5_6 (o := 2) hX fl_X6_102 rfl rfl dX6_wanted_43 ?_
      refine r_iload_n hX rfl 1 rfl dX6_wanted_46 ?_
      refine r_iload hX 5 rfl dX6_wanted_47 ?_
      obtain ⟨hk2, h⟩ := kc_e h
      obtain ⟨s3, hs3, h⟩ := nb_e h
      refine pa_5_7 (o := 2) hX rfl rfl hk2 hs3.symm dX6_wanted_49 ?_
      refine r_aload_n hX rfl 0 rfl dX6_wanted_50 ?_
      obtain ⟨x4, s5, hc5, h⟩ := bn2_e h
      refine r_callVi hX hR (c_X6_trialShowsAllSeen X.2.1 G hc5) rfl rfl mf_X6_trialShowsAllSeen ml_X6_229 in_X6_trialShowsAllSeen se_X6_trialShowsAllSeen rfl rfl ⟨rfl, rfl, Nat.le_of_ble_eq_true rfl, Nat.le_of_ble_eq_true rfl⟩ rfl (st := []) rfl (Nat.le_of_ble_eq_true rfl) dX6_wanted_51 ?_
      refine r_if_eq hX dX6_wanted_54 (fun hc => ?_) (fun hc => ?_)
      · replace h := ip_e hc h
        exact WW.sub [0, 1, 2, 3, 4, 5] rfl (K64 s5 v3 v4 v5 trivial h)
      · replace h := in_e hc h
        refine r_iinc (v := v3 + 1) (L2 := [(3, .int (v3 + 1)), (0, .ref (gA G 0 0)), (1, .int v1), (2, .int v2), (4, .int v4), (5, .int v5)]) hX 3 rfl rfl (by decide) rfl dX6_wanted_57 ?_
        refine r_iload hX 5 rfl dX6_wanted_60 ?_
        refine r_istore (L2 := [(4, .int v5), (3, .int (v3 + 1)), (0, .ref (gA G 0 0)), (1, .int v1), (2, .int v2), (5, .int v5)]) hX (by decide) rfl dX6_wanted_62 ?_
        exact WW.sub [2, 3, 4, 1, 0, 5] rfl (K64 s5 (v3 + 1) v5 v5 trivial h)
  unfold f_X6_wanted at h
  refine r_aload_n hX rfl 0 rfl dX6_wanted_0 ?_
  refine r_iload_n hX rfl 1 rfl dX6_wanted_1 ?_
  obtain ⟨x6, hc6, h⟩ := bn_e h
  refine r_callVi hX hR (c_X6_known X.2.1 G hc6) rfl rfl mf_X6_known ml_X6_91 in_X6_known se_X6_known rfl rfl ⟨rfl, rfl, Nat.le_of_ble_eq_true rfl, Nat.le_of_ble_eq_true rfl⟩ rfl (st := []) rfl (Nat.le_of_ble_eq_true rfl) dX6_wanted_2 ?_
  refine r_if_eq hX dX6_wanted_5 (fun hc => ?_) (fun hc => ?_)
  · replace h := ip_e hc h
    refine r_iconst (v := (-1)) hX (by decide) dX6_wanted_17 ?_
    have g0 := Option.some.inj h
    obtain ⟨q0, g1⟩ := Prod.mk.inj g0
    subst q0
    subst g1
    exact r_iret hX hQ dX6_wanted_18
  · replace h := in_e hc h
    refine r_iload_n hX rfl 2 rfl dX6_wanted_8 ?_
    refine r_iconst (v := 0) hX (by decide) dX6_wanted_9 ?_
    refine r_iconst (v := 1) hX (by decide) dX6_wanted_10 ?_
    obtain ⟨x7, hc7, h⟩ := bn_e h
    refine r_callSi hX hR (c_X6_within (σ := s) X.2.1 G hc7) rfl rfl mf_X6_within ml_X6_80 st_X6_within ⟨rfl, rfl, Nat.le_of_ble_eq_true rfl, Nat.le_of_ble_eq_true rfl⟩ rfl (st := []) rfl (Nat.le_of_ble_eq_true rfl) dX6_wanted_11 ?_
    refine r_if_ne hX dX6_wanted_14 (fun hc => ?_) (fun hc => ?_)
    · replace h := in_e hc h
      refine r_iconst (v := 0) hX (by decide) dX6_wanted_19 ?_
      refine r_istore_n (L2 := [(3, .int 0), (0, .ref (gA G 0 0)), (1, .int a1), (2, .int a2)]) hX rfl (by decide) rfl dX6_wanted_20 ?_
      refine r_bipush (v := (-5)) hX (by decide) dX6_wanted_21 ?_
      refine r_istore (L2 := [(4, .int (-5)), (3, .int 0), (0, .ref (gA G 0 0)), (1, .int a1), (2, .int a2)]) hX (by decide) rfl dX6_wanted_23 ?_
      refine r_bipush (v := 99) hX (by decide) dX6_wanted_25 ?_
      refine r_istore (L2 := [(5, .int 99), (4, .int (-5)), (3, .int 0), (0, .ref (gA G 0 0)), (1, .int a1), (2, .int a2)]) hX (by decide) rfl dX6_wanted_27 ?_
      exact WW.sub [3, 4, 5, 2, 1, 0] rfl (K29 s a1 a2 0 (-5) 99 trivial h)
    · replace h := ip_e hc h
      refine r_iconst (v := (-1)) hX (by decide) dX6_wanted_17 ?_
      have g0 := Option.some.inj h
      obtain ⟨q0, g1⟩ := Prod.mk.inj g0
      subst q0
      subst g1
      exact r_iret hX hQ dX6_wanted_18
abbrev rm_X6_can : Room := { frames := 10, cells := 0, slots := 0, locals := 442 }
def f_X6_can_J69 (s : Mm) (v2 : Int32) (v3 : Int32) (v4 : Int32) : Option (Int32 × Mm) :=
  (if v2 = 0 then some (v3, s) else some (v4, s))
def f_X6_can_J63 (s : Mm) (v1 : Int32) (v2 : Int32) (v3 : Int32) (v4 : Int32) (v5 : Int32) : Option ((Int32 × Int32 × Int32 × Mm) ⊕ (Int32 × Int32 × Mm)) :=
  some (.inl (v3, v4, (v5 + (-1)), s))
def f_X6_can_B29 (v1 : Int32) (v2 : Int32) (v3 : Int32) (v4 : Int32) (v5 : Int32) (s : Mm) : Option ((Int32 × Int32 × Int32 × Mm) ⊕ (Int32 × Int32 × Mm)) :=
  (if v5 < 0 then some (.inr (v3, v4, s)) else Option.bind (f_X6_startTrial s) (fun s1 => (if inb v1 6 = true then nb (setO s1 2 (up2 (s1 2) 6 (ix v1) v5)) (fun s3 => bn2 (f_X6_trialShowsAllSeen s3) (fun x4 s5 => (if x4 = 0 then f_X6_can_J63 s5 v1 v2 v3 v4 v5 else f_X6_can_J63 s5 v1 v2 (v3 + 1) v5 v5))) else none)))
def f_X6_can_H29 (s : Mm) (v1 : Int32) (v2 : Int32) (v3 : Int32) (v4 : Int32) (v5 : Int32) : Option (Int32 × Mm) :=
  bn3 (iter (fun t => f_X6_can_B29 v1 v2 t.1 t.2.1 t.2.2.1 t.2.2.2) 200 (v3, v4, v5, s)) (fun v3 v4 s => f_X6_can_J69 s v2 v3 v4)
def f_X6_can (s : Mm) (a1 : Int32) (a2 : Int32) : Option (Int32 × Mm) :=
  Option.bind (f_X6_known s a1) (fun x6 => (if x6 = 0 then some ((-1), s) else Option.bind (f_X6_within a2 0 1) (fun x7 => (if x7 = 0 then some ((-1), s) else f_X6_can_H29 s a1 a2 0 (-5) 9))))
set_option maxHeartbeats 4000000 in
set_option maxRecDepth 100000 in
theorem c_X6_can (l : Launch) (G : GE) {lm : Ml}  {s : Mm} {a1 : Int32} {a2 : Int32} {rz : Int32} {sz : Mm} (h : f_X6_can s a1 a2 = some (rz, sz)) : CM l G yX6_can bX6_can 6 (Option.some Jvm.ClassFile.FieldType.int) rm_X6_can [.ref (gA G 0 0), .int a1, .int a2] s lm (some (.int rz)) sz lm := by
  refine CM.of (own := zR6) (L0 := [(0, .ref (gA G 0 0)), (1, .int a1), (2, .int a2)]) (by decide +kernel) rfl (Nat.le_of_ble_eq_true rfl) rfl (fun X hl hX hR hQ => ?_)
  have K69 : ∀ (s : Mm) (v2 : Int32) (v3 : Int32) (v4 : Int32) (_ : True), f_X6_can_J69 s v2 v3 v4 = some (rz, sz) → WW X G 6 s lm 69 [(2, .int v2), (3, .int v3), (4, .int v4)] [] := by
    intro s v2 v3 v4 _ h
    unfold f_X6_can_J69 at h
    refine r_iload_n hX rfl 0 rfl dX6_can_69 ?_
    refine r_if_ne hX dX6_can_70 (fun hc => ?_) (fun hc => ?_)
    · replace h := in_e hc h
      refine r_iload hX 2 rfl dX6_can_77 ?_
      have g0 := Option.some.inj h
      obtain ⟨q0, g1⟩ := Prod.mk.inj g0
      subst q0
      subst g1
      exact r_iret hX hQ dX6_can_79
    · replace h := ip_e hc h
      refine r_iload_n hX rfl 1 rfl dX6_can_73 ?_
      refine r_goto hX dX6_can_74 ?_
      have g0 := Option.some.inj h
      obtain ⟨q0, g1⟩ := Prod.mk.inj g0
      subst q0
      subst g1
      exact r_iret hX hQ dX6_can_79
  have K29 : ∀ (s : Mm) (v1 : Int32) (v2 : Int32) (v3 : Int32) (v4 : Int32) (v5 : Int32) (_ : True), f_X6_can_H29 s v1 v2 v3 v4 v5 = some (rz, sz) → WW X G 6 s lm 29 [(0, .ref (gA G 0 0)), (1, .int v1), (2, .int v2), (3, .int v3), (4, .int v4), (5, .int v5)] [] := by
    intro s v1 v2 v3 v4 v5 _ h
    unfold f_X6_can_H29 at h
    obtain ⟨e_v3, e_v4, e_s, hit, hO⟩ := bn3_e h
    refine iter_w (P := fun t : Int32 × Int32 × Int32 × Mm => WW X G 6 t.2.2.2 lm 29 [(0, .ref (gA G 0 0)), (1, .int v1), (2, .int v2), (3, .int t.1), (4, .int t.2.1), (5, .int t.2.2.1)] []) (x := (e_v3, e_v4, e_s)) ?_ 200 (v3, v4, v5, s) hit
    clear hit
    intro t z1 hb hin1 hex1
    obtain ⟨v3, v4, v5, s⟩ := t
    have h : f_X6_can_B29 v1 v2 v3 v4 v5 s = some z1 := hb
    clear hb
    have K63 : ∀ (s : Mm) (v3 : Int32) (v4 : Int32) (v5 : Int32) (_ : True), f_X6_can_J63 s v1 v2 v3 v4 v5 = some z1 → WW X G 6 s lm 63 [(0, .ref (gA G 0 0)), (1, .int v1), (2, .int v2), (3, .int v3), (4, .int v4), (5, .int v5)] [] := by
      intro s v3 v4 v5 _ h
      unfold f_X6_can_J63 at h
      refine r_iinc (v := v5 + (-1)) (L2 := [(5, .int (v5 + (-1))), (0, .ref (gA G 0 0)), (1, .int v1), (2, .int v2), (3, .int v3), (4, .int v4)]) hX 5 rfl (congrArg (fun z : Int32 => v5 + z) (by decide : Int32.ofInt (-1) = (-1))) (by decide) rfl dX6_can_63 ?_
      refine r_goto hX dX6_can_66 ?_
      exact WW.sub [1, 2, 3, 4, 5, 0] rfl (hin1 _ (Option.some.inj h).symm)
    unfold f_X6_can_B29 at h
    refine r_iload hX 5 rfl dX6_can_29 ?_
    refine r_if_lt hX dX6_can_31 (fun hc => ?_) (fun hc => ?_)
    · replace h := ip_e hc h
      have g0 := hex1 _ (Option.some.inj h).symm
      obtain ⟨q0, g1⟩ := Prod.mk.inj g0
      obtain ⟨q1, g2⟩ := Prod.mk.inj g1
      subst q0
      subst q1
      subst g2
      exact WW.sub [2, 3, 4] rfl (K69 s v2 v3 v4 trivial hO)
    · replace h := in_e hc h
      refine r_aload_n hX rfl 0 rfl dX6_can_34 ?_
      obtain ⟨s1, hc1, h⟩ := bn_e h
      refine r_callVv hX hR (c_X6_startTrial X.2.1 G hc1) rfl rfl mf_X6_startTrial ml_X6_192 in_X6_startTrial se_X6_startTrial rfl rfl ⟨rfl, rfl, Nat.le_of_ble_eq_true rfl, Nat.le_of_ble_eq_true rfl⟩ rfl (st := []) rfl (Nat.le_of_ble_eq_true rfl) dX6_can_35 ?_
      refine r_aload_n hX rfl 0 rfl dX6_can_38 ?_
      refine gf_6_1 (o := 0) hX fl_X6_18 rfl rfl dX6_can_39 ?_
      refine gf_5_5 (o := 2) hX fl_X6_99 rfl rfl dX6_can_42 ?_
      refine r_iload_n hX rfl 1 rfl dX6_can_45 ?_
      refine r_iload hX 5 rfl dX6_can_46 ?_
      obtain ⟨hk2, h⟩ := kc_e h
      obtain ⟨s3, hs3, h⟩ := nb_e h
      refine pa_5_6 (o := 2) hX rfl rfl hk2 hs3.symm dX6_can_48 ?_
      refine r_aload_n hX rfl 0 rfl dX6_can_49 ?_
      obtain ⟨x4, s5, hc5, h⟩ := bn2_e h
      refine r_callVi hX hR (c_X6_trialShowsAllSeen X.2.1 G hc5) rfl rfl mf_X6_trialShowsAllSeen ml_X6_229 in_X6_trialShowsAllSeen se_X6_trialShowsAllSeen rfl rfl ⟨rfl, rfl, Nat.le_of_ble_eq_true rfl, Nat.le_of_ble_eq_true rfl⟩ rfl (st := []) rfl (Nat.le_of_ble_eq_true rfl) dX6_can_50 ?_
      refine r_if_eq hX dX6_can_53 (fun hc => ?_) (fun hc => ?_)
      · replace h := ip_e hc h
        exact WW.sub [0, 1, 2, 3, 4, 5] rfl (K63 s5 v3 v4 v5 trivial h)
      · replace h := in_e hc h
        refine r_iinc (v := v3 + 1) (L2 := [(3, .int (v3 + 1)), (0, .ref (gA G 0 0)), (1, .int v1), (2, .int v2), (4, .int v4), (5, .int v5)]) hX 3 rfl rfl (by decide) rfl dX6_can_56 ?_
        refine r_iload hX 5 rfl dX6_can_59 ?_
        refine r_istore (L2 := [(4, .int v5), (3, .int (v3 + 1)), (0, .ref (gA G 0 0)), (1, .int v1), (2, .int v2), (5, .int v5)]) hX (by decide) rfl dX6_can_61 ?_
        exact WW.sub [2, 3, 4, 1, 0, 5] rfl (K63 s5 (v3 + 1) v5 v5 trivial h)
  unfold f_X6_can at h
  refine r_aload_n hX rfl 0 rfl dX6_can_0 ?_
  refine r_iload_n hX rfl 1 rfl dX6_can_1 ?_
  obtain ⟨x6, hc6, h⟩ := bn_e h
  refine r_callVi hX hR (c_X6_known X.2.1 G hc6) rfl rfl mf_X6_known ml_X6_91 in_X6_known se_X6_known rfl rfl ⟨rfl, rfl, Nat.le_of_ble_eq_true rfl, Nat.le_of_ble_eq_true rfl⟩ rfl (st := []) rfl (Nat.le_of_ble_eq_true rfl) dX6_can_2 ?_
  refine r_if_eq hX dX6_can_5 (fun hc => ?_) (fun hc => ?_)
  · replace h := ip_e hc h
    refine r_iconst (v := (-1)) hX (by decide) dX6_can_17 ?_
    have g0 := Option.some.inj h
    obtain ⟨q0, g1⟩ := Prod.mk.inj g0
    subst q0
    subst g1
    exact r_iret hX hQ dX6_can_18
  · replace h := in_e hc h
    refine r_iload_n hX rfl 2 rfl dX6_can_8 ?_
    refine r_iconst (v := 0) hX (by decide) dX6_can_9 ?_
    refine r_iconst (v := 1) hX (by decide) dX6_can_10 ?_
    obtain ⟨x7, hc7, h⟩ := bn_e h
    refine r_callSi hX hR (c_X6_within (σ := s) X.2.1 G hc7) rfl rfl mf_X6_within ml_X6_80 st_X6_within ⟨rfl, rfl, Nat.le_of_ble_eq_true rfl, Nat.le_of_ble_eq_true rfl⟩ rfl (st := []) rfl (Nat.le_of_ble_eq_true rfl) dX6_can_11 ?_
    refine r_if_ne hX dX6_can_14 (fun hc => ?_) (fun hc => ?_)
    · replace h := in_e hc h
      refine r_iconst (v := 0) hX (by decide) dX6_can_19 ?_
      refine r_istore_n (L2 := [(3, .int 0), (0, .ref (gA G 0 0)), (1, .int a1), (2, .int a2)]) hX rfl (by decide) rfl dX6_can_20 ?_
      refine r_bipush (v := (-5)) hX (by decide) dX6_can_21 ?_
      refine r_istore (L2 := [(4, .int (-5)), (3, .int 0), (0, .ref (gA G 0 0)), (1, .int a1), (2, .int a2)]) hX (by decide) rfl dX6_can_23 ?_
      refine r_bipush (v := 9) hX (by decide) dX6_can_25 ?_
      refine r_istore (L2 := [(5, .int 9), (4, .int (-5)), (3, .int 0), (0, .ref (gA G 0 0)), (1, .int a1), (2, .int a2)]) hX (by decide) rfl dX6_can_27 ?_
      exact WW.sub [3, 4, 5, 2, 1, 0] rfl (K29 s a1 a2 0 (-5) 9 trivial h)
    · replace h := ip_e hc h
      refine r_iconst (v := (-1)) hX (by decide) dX6_can_17 ?_
      have g0 := Option.some.inj h
      obtain ⟨q0, g1⟩ := Prod.mk.inj g0
      subst q0
      subst g1
      exact r_iret hX hQ dX6_can_18
abbrev rm_X6_commonDivisor : Room := { frames := 0, cells := 0, slots := 0, locals := 60 }
def f_X6_commonDivisor_J44 (v4 : Int64) : Option (Int64) :=
  some v4
def f_X6_commonDivisor_B9 (v4 : Int64) (v6 : Int64) (v8 : Int32) : Option ((Int64 × Int64 × Int32) ⊕ (Int64)) :=
  (if 100 ≤ v8 then some (.inr v4) else (if (lg_cmp v6 0) = 0 then some (.inr v4) else (if v6 = 0 then none else some (.inl (v6, (v4 - v4 / v6 * v6), (v8 + 1))))))
def f_X6_commonDivisor_H9 (v4 : Int64) (v6 : Int64) (v8 : Int32) : Option (Int64) :=
  Option.bind (iter (fun t => f_X6_commonDivisor_B9 t.1 t.2.1 t.2.2) 200 (v4, v6, v8)) (fun v4 => f_X6_commonDivisor_J44 v4)
def f_X6_commonDivisor (a0 : Int64) (a2 : Int64) : Option (Int64) :=
  f_X6_commonDivisor_H9 a0 a2 0
set_option maxHeartbeats 4000000 in
set_option maxRecDepth 100000 in
theorem c_X6_commonDivisor (l : Launch) (G : GE) {σ : Mm} {lm : Ml}  {a0 : Int64} {a2 : Int64} {rz : Int64} (h : f_X6_commonDivisor a0 a2 = some rz) : CM l G yX6_commonDivisor bX6_commonDivisor 11 (Option.some Jvm.ClassFile.FieldType.long) rm_X6_commonDivisor [.long a0, .long a2] σ lm (some (.long rz)) σ lm := by
  refine CM.of (own := zR6) (L0 := [(0, .long a0), (2, .long a2)]) (by decide +kernel) rfl (Nat.le_of_ble_eq_true rfl) rfl (fun X hl hX hR hQ => ?_)
  have K44 : ∀ (v4 : Int64) (_ : True), f_X6_commonDivisor_J44 v4 = some rz → WW X G 11 σ lm 44 [(4, .long v4)] [] := by
    intro v4 _ h
    unfold f_X6_commonDivisor_J44 at h
    refine r_lload hX 0 rfl dX6_commonDivisor_44 ?_
    have g0 := Option.some.inj h
    subst g0
    exact r_lret hX hQ dX6_commonDivisor_46
  have K9 : ∀ (v4 : Int64) (v6 : Int64) (v8 : Int32) (_ : True), f_X6_commonDivisor_H9 v4 v6 v8 = some rz → WW X G 11 σ lm 9 [(4, .long v4), (6, .long v6), (8, .int v8)] [] := by
    intro v4 v6 v8 _ h
    unfold f_X6_commonDivisor_H9 at h
    obtain ⟨e_v4, hit, hO⟩ := bn_e h
    refine iter_w (P := fun t : Int64 × Int64 × Int32 => WW X G 11 σ lm 9 [(4, .long t.1), (6, .long t.2.1), (8, .int t.2.2)] []) (x := e_v4) ?_ 200 (v4, v6, v8) hit
    clear hit
    intro t z1 hb hin1 hex1
    obtain ⟨v4, v6, v8⟩ := t
    have h : f_X6_commonDivisor_B9 v4 v6 v8 = some z1 := hb
    clear hb
    unfold f_X6_commonDivisor_B9 at h
    refine r_iload hX 2 rfl dX6_commonDivisor_9 ?_
    refine r_bipush (v := 100) hX (by decide) dX6_commonDivisor_11 ?_
    refine r_icmp_ge hX dX6_commonDivisor_13 (fun hc => ?_) (fun hc => ?_)
    · replace h := ip_e hc h
      have g0 := hex1 _ (Option.some.inj h).symm
      subst g0
      exact WW.sub [0] rfl (K44 v4 trivial hO)
    · replace h := in_e hc h
      refine r_lload hX 1 rfl dX6_commonDivisor_16 ?_
      refine r_lconst (v := 0) hX (by decide) dX6_commonDivisor_18 ?_
      refine r_lcmp hX dX6_commonDivisor_19 ?_
      refine r_if_eq hX dX6_commonDivisor_20 (fun hc => ?_) (fun hc => ?_)
      · replace h := ip_e hc h
        have g0 := hex1 _ (Option.some.inj h).symm
        subst g0
        exact WW.sub [0] rfl (K44 v4 trivial hO)
      · replace h := in_e hc h
        refine r_lload hX 0 rfl dX6_commonDivisor_23 ?_
        refine r_lload hX 1 rfl dX6_commonDivisor_25 ?_
        obtain ⟨hk1, h⟩ := cz_e h
        refine r_lrem hX hk1 dX6_commonDivisor_27 ?_
        refine r_lstore (L2 := [(9, .long (v4 - v4 / v6 * v6)), (4, .long v4), (6, .long v6), (8, .int v8)]) hX (by decide) rfl dX6_commonDivisor_28 ?_
        refine r_lload hX 2 rfl dX6_commonDivisor_30 ?_
        refine r_lstore (L2 := [(4, .long v6), (9, .long (v4 - v4 / v6 * v6)), (6, .long v6), (8, .int v8)]) hX (by decide) rfl dX6_commonDivisor_32 ?_
        refine r_lload hX 1 rfl dX6_commonDivisor_34 ?_
        refine r_lstore (L2 := [(6, .long (v4 - v4 / v6 * v6)), (4, .long v6), (9, .long (v4 - v4 / v6 * v6)), (8, .int v8)]) hX (by decide) rfl dX6_commonDivisor_36 ?_
        refine r_iinc (v := v8 + 1) (L2 := [(8, .int (v8 + 1)), (6, .long (v4 - v4 / v6 * v6)), (4, .long v6), (9, .long (v4 - v4 / v6 * v6))]) hX 3 rfl rfl (by decide) rfl dX6_commonDivisor_38 ?_
        refine r_goto hX dX6_commonDivisor_41 ?_
        exact WW.sub [2, 1, 0] rfl (hin1 _ (Option.some.inj h).symm)
  unfold f_X6_commonDivisor at h
  refine r_lload_n hX rfl 0 rfl dX6_commonDivisor_0 ?_
  refine r_lstore (L2 := [(4, .long a0), (0, .long a0), (2, .long a2)]) hX (by decide) rfl dX6_commonDivisor_1 ?_
  refine r_lload_n hX rfl 2 rfl dX6_commonDivisor_3 ?_
  refine r_lstore (L2 := [(6, .long a2), (4, .long a0), (0, .long a0), (2, .long a2)]) hX (by decide) rfl dX6_commonDivisor_4 ?_
  refine r_iconst (v := 0) hX (by decide) dX6_commonDivisor_6 ?_
  refine r_istore (L2 := [(8, .int 0), (6, .long a2), (4, .long a0), (0, .long a0), (2, .long a2)]) hX (by decide) rfl dX6_commonDivisor_7 ?_
  exact WW.sub [2, 1, 0] rfl (K9 a0 a2 0 trivial h)
abbrev rm_X6_lowestTerms : Room := { frames := 1, cells := 0, slots := 0, locals := 90 }
def f_X6_lowestTerms (a0 : Int64) (a2 : Int64) (a4 : Int32) : Option (Int64) :=
  Option.bind (f_X6_commonDivisor a0 a2) (fun x1 => (if (lg_cmp x1 0) = 0 then some (-9223372036854775808) else (if a4 = 0 then (if x1 = 0 then none else some (a0 / x1)) else (if x1 = 0 then none else some (a2 / x1)))))
set_option maxHeartbeats 4000000 in
set_option maxRecDepth 100000 in
theorem c_X6_lowestTerms (l : Launch) (G : GE) {σ : Mm} {lm : Ml}  {a0 : Int64} {a2 : Int64} {a4 : Int32} {rz : Int64} (h : f_X6_lowestTerms a0 a2 a4 = some rz) : CM l G yX6_lowestTerms bX6_lowestTerms 7 (Option.some Jvm.ClassFile.FieldType.long) rm_X6_lowestTerms [.long a0, .long a2, .int a4] σ lm (some (.long rz)) σ lm := by
  refine CM.of (own := zR6) (L0 := [(0, .long a0), (2, .long a2), (4, .int a4)]) (by decide +kernel) rfl (Nat.le_of_ble_eq_true rfl) rfl (fun X hl hX hR hQ => ?_)
  unfold f_X6_lowestTerms at h
  refine r_lload_n hX rfl 0 rfl dX6_lowestTerms_0 ?_
  refine r_lload_n hX rfl 1 rfl dX6_lowestTerms_1 ?_
  obtain ⟨x1, hc1, h⟩ := bn_e h
  refine r_callSi hX hR (c_X6_commonDivisor (σ := σ) X.2.1 G hc1) rfl rfl mf_X6_commonDivisor ml_X6_325 st_X6_commonDivisor ⟨rfl, rfl, Nat.le_of_ble_eq_true rfl, Nat.le_of_ble_eq_true rfl⟩ rfl (st := []) rfl (Nat.le_of_ble_eq_true rfl) dX6_lowestTerms_2 ?_
  refine r_lstore (L2 := [(5, .long x1), (0, .long a0), (2, .long a2), (4, .int a4)]) hX (by decide) rfl dX6_lowestTerms_5 ?_
  refine r_lload hX 0 rfl dX6_lowestTerms_7 ?_
  refine r_lconst (v := 0) hX (by decide) dX6_lowestTerms_9 ?_
  refine r_lcmp hX dX6_lowestTerms_10 ?_
  refine r_if_ne hX dX6_lowestTerms_11 (fun hc => ?_) (fun hc => ?_)
  · replace h := in_e hc h
    refine r_iload hX 3 rfl dX6_lowestTerms_18 ?_
    refine r_if_ne hX dX6_lowestTerms_20 (fun hc => ?_) (fun hc => ?_)
    · replace h := in_e hc h
      refine r_lload_n hX rfl 2 rfl dX6_lowestTerms_30 ?_
      refine r_lload hX 0 rfl dX6_lowestTerms_31 ?_
      obtain ⟨hk2, h⟩ := cz_e h
      refine r_ldiv hX hk2 dX6_lowestTerms_33 ?_
      have g0 := Option.some.inj h
      subst g0
      exact r_lret hX hQ dX6_lowestTerms_34
    · replace h := ip_e hc h
      refine r_lload_n hX rfl 1 rfl dX6_lowestTerms_23 ?_
      refine r_lload hX 0 rfl dX6_lowestTerms_24 ?_
      obtain ⟨hk3, h⟩ := cz_e h
      refine r_ldiv hX hk3 dX6_lowestTerms_26 ?_
      refine r_goto hX dX6_lowestTerms_27 ?_
      have g0 := Option.some.inj h
      subst g0
      exact r_lret hX hQ dX6_lowestTerms_34
  · replace h := ip_e hc h
    refine r_ldc2 hX cl_X6_233 dX6_lowestTerms_14 ?_
    have g0 := Option.some.inj h
    subst g0
    exact r_lret hX hQ dX6_lowestTerms_17
abbrev rm_X6_odds : Room := { frames := 10, cells := 0, slots := 0, locals := 442 }
def f_X6_odds_J70 (s : Mm) (v2 : Int32) (v3 : Int32) : Option (Int64 × Mm) :=
  Option.bind (f_X6_lowestTerms v3.toInt64 (((s 1) 0 2).toInt64) v2) (fun x1 => some (x1, s))
def f_X6_odds_J64 (s : Mm) (v1 : Int32) (v2 : Int32) (v3 : Int32) (v4 : Int32) : Option ((Int32 × Int32 × Mm) ⊕ (Int32 × Mm)) :=
  some (.inl (v3, (v4 + 1), s))
def f_X6_odds_B35 (v1 : Int32) (v2 : Int32) (v3 : Int32) (v4 : Int32) (s : Mm) : Option ((Int32 × Int32 × Mm) ⊕ (Int32 × Mm)) :=
  (if ((s 1) 0 2) ≤ v4 then some (.inr (v3, s)) else Option.bind (f_X6_startTrial s) (fun s2 => bn2 (f_X6_nobodySentIn s2 v1 v4) (fun x3 s4 => (if x3 = 0 then f_X6_odds_J64 s4 v1 v2 v3 v4 else f_X6_odds_J64 s4 v1 v2 (v3 + 1) v4))))
def f_X6_odds_H35 (s : Mm) (v1 : Int32) (v2 : Int32) (v3 : Int32) (v4 : Int32) : Option (Int64 × Mm) :=
  bn2 (iter (fun t => f_X6_odds_B35 v1 v2 t.1 t.2.1 t.2.2) 200 (v3, v4, s)) (fun v3 s => f_X6_odds_J70 s v2 v3)
def f_X6_odds_J26 (s : Mm) : Option (Int64 × Mm) :=
  some ((-9223372036854775808), s)
def f_X6_odds (s : Mm) (a1 : Int32) (a2 : Int32) : Option (Int64 × Mm) :=
  (if ((s 1) 0 2) = 0 then f_X6_odds_J26 s else Option.bind (f_X6_askedDays a1) (fun x5 => (if x5 = 0 then f_X6_odds_J26 s else Option.bind (f_X6_within a2 0 1) (fun x6 => (if x6 = 0 then f_X6_odds_J26 s else f_X6_odds_H35 s a1 a2 0 0)))))
set_option maxHeartbeats 4000000 in
set_option maxRecDepth 100000 in
theorem c_X6_odds (l : Launch) (G : GE) {lm : Ml}  {s : Mm} {a1 : Int32} {a2 : Int32} {rz : Int64} {sz : Mm} (h : f_X6_odds s a1 a2 = some (rz, sz)) : CM l G yX6_odds bX6_odds 5 (Option.some Jvm.ClassFile.FieldType.long) rm_X6_odds [.ref (gA G 0 0), .int a1, .int a2] s lm (some (.long rz)) sz lm := by
  refine CM.of (own := zR6) (L0 := [(0, .ref (gA G 0 0)), (1, .int a1), (2, .int a2)]) (by decide +kernel) rfl (Nat.le_of_ble_eq_true rfl) rfl (fun X hl hX hR hQ => ?_)
  have K70 : ∀ (s : Mm) (v2 : Int32) (v3 : Int32) (_ : True), f_X6_odds_J70 s v2 v3 = some (rz, sz) → WW X G 5 s lm 70 [(0, .ref (gA G 0 0)), (2, .int v2), (3, .int v3)] [] := by
    intro s v2 v3 _ h
    unfold f_X6_odds_J70 at h
    refine r_iload_n hX rfl 2 rfl dX6_odds_70 ?_
    refine r_i2l hX dX6_odds_71 ?_
    refine r_aload_n hX rfl 0 rfl dX6_odds_72 ?_
    refine gf_6_0 (o := 0) hX fl_X6_12 rfl rfl dX6_odds_73 ?_
    refine gf_5_2 (o := 1) hX fl_X6_84 rfl rfl dX6_odds_76 ?_
    refine r_i2l hX dX6_odds_79 ?_
    refine r_iload_n hX rfl 1 rfl dX6_odds_80 ?_
    obtain ⟨x1, hc1, h⟩ := bn_e h
    refine r_callSi hX hR (c_X6_lowestTerms (σ := s) X.2.1 G hc1) rfl rfl mf_X6_lowestTerms ml_X6_235 st_X6_lowestTerms ⟨rfl, rfl, Nat.le_of_ble_eq_true rfl, Nat.le_of_ble_eq_true rfl⟩ rfl (st := []) rfl (Nat.le_of_ble_eq_true rfl) dX6_odds_81 ?_
    have g0 := Option.some.inj h
    obtain ⟨q0, g1⟩ := Prod.mk.inj g0
    subst q0
    subst g1
    exact r_lret hX hQ dX6_odds_84
  have K35 : ∀ (s : Mm) (v1 : Int32) (v2 : Int32) (v3 : Int32) (v4 : Int32) (_ : True), f_X6_odds_H35 s v1 v2 v3 v4 = some (rz, sz) → WW X G 5 s lm 35 [(0, .ref (gA G 0 0)), (1, .int v1), (2, .int v2), (3, .int v3), (4, .int v4)] [] := by
    intro s v1 v2 v3 v4 _ h
    unfold f_X6_odds_H35 at h
    obtain ⟨e_v3, e_s, hit, hO⟩ := bn2_e h
    refine iter_w (P := fun t : Int32 × Int32 × Mm => WW X G 5 t.2.2 lm 35 [(0, .ref (gA G 0 0)), (1, .int v1), (2, .int v2), (3, .int t.1), (4, .int t.2.1)] []) (x := (e_v3, e_s)) ?_ 200 (v3, v4, s) hit
    clear hit
    intro t z1 hb hin1 hex1
    obtain ⟨v3, v4, s⟩ := t
    have h : f_X6_odds_B35 v1 v2 v3 v4 s = some z1 := hb
    clear hb
    have K64 : ∀ (s : Mm) (v3 : Int32) (v4 : Int32) (_ : True), f_X6_odds_J64 s v1 v2 v3 v4 = some z1 → WW X G 5 s lm 64 [(0, .ref (gA G 0 0)), (1, .int v1), (2, .int v2), (3, .int v3), (4, .int v4)] [] := by
      intro s v3 v4 _ h
      unfold f_X6_odds_J64 at h
      refine r_iinc (v := v4 + 1) (L2 := [(4, .int (v4 + 1)), (0, .ref (gA G 0 0)), (1, .int v1), (2, .int v2), (3, .int v3)]) hX 4 rfl rfl (by decide) rfl dX6_odds_64 ?_
      refine r_goto hX dX6_odds_67 ?_
      exact WW.sub [1, 2, 3, 4, 0] rfl (hin1 _ (Option.some.inj h).symm)
    unfold f_X6_odds_B35 at h
    refine r_iload hX 4 rfl dX6_odds_35 ?_
    refine r_aload_n hX rfl 0 rfl dX6_odds_37 ?_
    refine gf_6_0 (o := 0) hX fl_X6_12 rfl rfl dX6_odds_38 ?_
    refine gf_5_2 (o := 1) hX fl_X6_84 rfl rfl dX6_odds_41 ?_
    refine r_icmp_ge hX dX6_odds_44 (fun hc => ?_) (fun hc => ?_)
    · replace h := ip_e hc h
      have g0 := hex1 _ (Option.some.inj h).symm
      obtain ⟨q0, g1⟩ := Prod.mk.inj g0
      subst q0
      subst g1
      exact WW.sub [0, 2, 3] rfl (K70 s v2 v3 trivial hO)
    · replace h := in_e hc h
      refine r_aload_n hX rfl 0 rfl dX6_odds_47 ?_
      obtain ⟨s2, hc2, h⟩ := bn_e h
      refine r_callVv hX hR (c_X6_startTrial X.2.1 G hc2) rfl rfl mf_X6_startTrial ml_X6_192 in_X6_startTrial se_X6_startTrial rfl rfl ⟨rfl, rfl, Nat.le_of_ble_eq_true rfl, Nat.le_of_ble_eq_true rfl⟩ rfl (st := []) rfl (Nat.le_of_ble_eq_true rfl) dX6_odds_48 ?_
      refine r_aload_n hX rfl 0 rfl dX6_odds_51 ?_
      refine r_iload_n hX rfl 1 rfl dX6_odds_52 ?_
      refine r_iload hX 4 rfl dX6_odds_53 ?_
      obtain ⟨x3, s4, hc4, h⟩ := bn2_e h
      refine r_callVi hX hR (c_X6_nobodySentIn X.2.1 G hc4) rfl rfl mf_X6_nobodySentIn ml_X6_219 in_X6_nobodySentIn se_X6_nobodySentIn rfl rfl ⟨rfl, rfl, Nat.le_of_ble_eq_true rfl, Nat.le_of_ble_eq_true rfl⟩ rfl (st := []) rfl (Nat.le_of_ble_eq_true rfl) dX6_odds_55 ?_
      refine r_if_eq hX dX6_odds_58 (fun hc => ?_) (fun hc => ?_)
      · replace h := ip_e hc h
        exact WW.sub [0, 1, 2, 3, 4] rfl (K64 s4 v3 v4 trivial h)
      · replace h := in_e hc h
        refine r_iinc (v := v3 + 1) (L2 := [(3, .int (v3 + 1)), (0, .ref (gA G 0 0)), (1, .int v1), (2, .int v2), (4, .int v4)]) hX 3 rfl rfl (by decide) rfl dX6_odds_61 ?_
        exact WW.sub [1, 2, 3, 0, 4] rfl (K64 s4 (v3 + 1) v4 trivial h)
  have K26 : ∀ (s : Mm) (_ : True), f_X6_odds_J26 s = some (rz, sz) → WW X G 5 s lm 26 [] [] := by
    intro s _ h
    unfold f_X6_odds_J26 at h
    refine r_ldc2 hX cl_X6_233 dX6_odds_26 ?_
    have g0 := Option.some.inj h
    obtain ⟨q0, g1⟩ := Prod.mk.inj g0
    subst q0
    subst g1
    exact r_lret hX hQ dX6_odds_29
  unfold f_X6_odds at h
  refine r_aload_n hX rfl 0 rfl dX6_odds_0 ?_
  refine gf_6_0 (o := 0) hX fl_X6_12 rfl rfl dX6_odds_1 ?_
  refine gf_5_2 (o := 1) hX fl_X6_84 rfl rfl dX6_odds_4 ?_
  refine r_if_eq hX dX6_odds_7 (fun hc => ?_) (fun hc => ?_)
  · replace h := ip_e hc h
    exact WW.sub [] rfl (K26 s trivial h)
  · replace h := in_e hc h
    refine r_iload_n hX rfl 1 rfl dX6_odds_10 ?_
    obtain ⟨x5, hc5, h⟩ := bn_e h
    refine r_callSi hX hR (c_X6_askedDays (σ := s) X.2.1 G hc5) rfl rfl mf_X6_askedDays ml_X6_185 st_X6_askedDays ⟨rfl, rfl, Nat.le_of_ble_eq_true rfl, Nat.le_of_ble_eq_true rfl⟩ rfl (st := []) rfl (Nat.le_of_ble_eq_true rfl) dX6_odds_11 ?_
    refine r_if_eq hX dX6_odds_14 (fun hc => ?_) (fun hc => ?_)
    · replace h := ip_e hc h
      exact WW.sub [] rfl (K26 s trivial h)
    · replace h := in_e hc h
      refine r_iload_n hX rfl 2 rfl dX6_odds_17 ?_
      refine r_iconst (v := 0) hX (by decide) dX6_odds_18 ?_
      refine r_iconst (v := 1) hX (by decide) dX6_odds_19 ?_
      obtain ⟨x6, hc6, h⟩ := bn_e h
      refine r_callSi hX hR (c_X6_within (σ := s) X.2.1 G hc6) rfl rfl mf_X6_within ml_X6_80 st_X6_within ⟨rfl, rfl, Nat.le_of_ble_eq_true rfl, Nat.le_of_ble_eq_true rfl⟩ rfl (st := []) rfl (Nat.le_of_ble_eq_true rfl) dX6_odds_20 ?_
      refine r_if_ne hX dX6_odds_23 (fun hc => ?_) (fun hc => ?_)
      · replace h := in_e hc h
        refine r_iconst (v := 0) hX (by decide) dX6_odds_30 ?_
        refine r_istore_n (L2 := [(3, .int 0), (0, .ref (gA G 0 0)), (1, .int a1), (2, .int a2)]) hX rfl (by decide) rfl dX6_odds_31 ?_
        refine r_iconst (v := 0) hX (by decide) dX6_odds_32 ?_
        refine r_istore (L2 := [(4, .int 0), (3, .int 0), (0, .ref (gA G 0 0)), (1, .int a1), (2, .int a2)]) hX (by decide) rfl dX6_odds_33 ?_
        exact WW.sub [2, 3, 4, 1, 0] rfl (K35 s a1 a2 0 0 trivial h)
      · replace h := ip_e hc h
        exact WW.sub [] rfl (K26 s trivial h)
abbrev rm_X6_mean : Room := { frames := 10, cells := 0, slots := 0, locals := 442 }
def f_X6_mean_J26 (s : Mm) : Option (Int64 × Mm) :=
  some ((-9223372036854775808), s)
def f_X6_mean (s : Mm) (a1 : Int32) (a2 : Int32) : Option (Int64 × Mm) :=
  (if ((s 1) 0 2) = 0 then f_X6_mean_J26 s else Option.bind (f_X6_askedDays a1) (fun x1 => (if x1 = 0 then f_X6_mean_J26 s else Option.bind (f_X6_within a2 0 1) (fun x2 => (if x2 = 0 then f_X6_mean_J26 s else Option.bind (f_X6_startTrial s) (fun s3 => Option.bind (f_X6_goTrial s3 a1) (fun s4 => Option.bind (f_X5_owesOfAll (s4 2)) (fun x5 => Option.bind (f_X6_lowestTerms x5.toInt64 (((s4 1) 0 2).toInt64) a2) (fun x6 => some (x6, s4))))))))))
set_option maxHeartbeats 4000000 in
set_option maxRecDepth 100000 in
theorem c_X6_mean (l : Launch) (G : GE) {lm : Ml}  {s : Mm} {a1 : Int32} {a2 : Int32} {rz : Int64} {sz : Mm} (h : f_X6_mean s a1 a2 = some (rz, sz)) : CM l G yX6_mean bX6_mean 3 (Option.some Jvm.ClassFile.FieldType.long) rm_X6_mean [.ref (gA G 0 0), .int a1, .int a2] s lm (some (.long rz)) sz lm := by
  refine CM.of (own := zR6) (L0 := [(0, .ref (gA G 0 0)), (1, .int a1), (2, .int a2)]) (by decide +kernel) rfl (Nat.le_of_ble_eq_true rfl) rfl (fun X hl hX hR hQ => ?_)
  have K26 : ∀ (s : Mm) (_ : True), f_X6_mean_J26 s = some (rz, sz) → WW X G 3 s lm 26 [] [] := by
    intro s _ h
    unfold f_X6_mean_J26 at h
    refine r_ldc2 hX cl_X6_233 dX6_mean_26 ?_
    have g0 := Option.some.inj h
    obtain ⟨q0, g1⟩ := Prod.mk.inj g0
    subst q0
    subst g1
    exact r_lret hX hQ dX6_mean_29
  unfold f_X6_mean at h
  refine r_aload_n hX rfl 0 rfl dX6_mean_0 ?_
  refine gf_6_0 (o := 0) hX fl_X6_12 rfl rfl dX6_mean_1 ?_
  refine gf_5_2 (o := 1) hX fl_X6_84 rfl rfl dX6_mean_4 ?_
  refine r_if_eq hX dX6_mean_7 (fun hc => ?_) (fun hc => ?_)
  · replace h := ip_e hc h
    exact WW.sub [] rfl (K26 s trivial h)
  · replace h := in_e hc h
    refine r_iload_n hX rfl 1 rfl dX6_mean_10 ?_
    obtain ⟨x1, hc1, h⟩ := bn_e h
    refine r_callSi hX hR (c_X6_askedDays (σ := s) X.2.1 G hc1) rfl rfl mf_X6_askedDays ml_X6_185 st_X6_askedDays ⟨rfl, rfl, Nat.le_of_ble_eq_true rfl, Nat.le_of_ble_eq_true rfl⟩ rfl (st := []) rfl (Nat.le_of_ble_eq_true rfl) dX6_mean_11 ?_
    refine r_if_eq hX dX6_mean_14 (fun hc => ?_) (fun hc => ?_)
    · replace h := ip_e hc h
      exact WW.sub [] rfl (K26 s trivial h)
    · replace h := in_e hc h
      refine r_iload_n hX rfl 2 rfl dX6_mean_17 ?_
      refine r_iconst (v := 0) hX (by decide) dX6_mean_18 ?_
      refine r_iconst (v := 1) hX (by decide) dX6_mean_19 ?_
      obtain ⟨x2, hc2, h⟩ := bn_e h
      refine r_callSi hX hR (c_X6_within (σ := s) X.2.1 G hc2) rfl rfl mf_X6_within ml_X6_80 st_X6_within ⟨rfl, rfl, Nat.le_of_ble_eq_true rfl, Nat.le_of_ble_eq_true rfl⟩ rfl (st := []) rfl (Nat.le_of_ble_eq_true rfl) dX6_mean_20 ?_
      refine r_if_ne hX dX6_mean_23 (fun hc => ?_) (fun hc => ?_)
      · replace h := in_e hc h
        refine r_aload_n hX rfl 0 rfl dX6_mean_30 ?_
        obtain ⟨s3, hc3, h⟩ := bn_e h
        refine r_callVv hX hR (c_X6_startTrial X.2.1 G hc3) rfl rfl mf_X6_startTrial ml_X6_192 in_X6_startTrial se_X6_startTrial rfl rfl ⟨rfl, rfl, Nat.le_of_ble_eq_true rfl, Nat.le_of_ble_eq_true rfl⟩ rfl (st := []) rfl (Nat.le_of_ble_eq_true rfl) dX6_mean_31 ?_
        refine r_aload_n hX rfl 0 rfl dX6_mean_34 ?_
        refine r_iload_n hX rfl 1 rfl dX6_mean_35 ?_
        obtain ⟨s4, hc4, h⟩ := bn_e h
        refine r_callVv hX hR (c_X6_goTrial X.2.1 G hc4) rfl rfl mf_X6_goTrial ml_X6_195 in_X6_goTrial se_X6_goTrial rfl rfl ⟨rfl, rfl, Nat.le_of_ble_eq_true rfl, Nat.le_of_ble_eq_true rfl⟩ rfl (st := []) rfl (Nat.le_of_ble_eq_true rfl) dX6_mean_36 ?_
        refine r_aload_n hX rfl 0 rfl dX6_mean_39 ?_
        refine gf_6_1 (o := 0) hX fl_X6_18 rfl rfl dX6_mean_40 ?_
        obtain ⟨x5, hc5, h⟩ := bn_e h
        refine r_callVi hX hR (c_X5_owesOfAll (σ := s4) X.2.1 G rfl hc5) m1_i m1_i mf_X5_owesOfAll ml_X6_181 in_X5_owesOfAll se_X5_owesOfAll rfl rfl ⟨rfl, rfl, Nat.le_of_ble_eq_true rfl, Nat.le_of_ble_eq_true rfl⟩ rfl (st := []) rfl (Nat.le_of_ble_eq_true rfl) dX6_mean_43 ?_
        refine r_i2l hX dX6_mean_46 ?_
        refine r_aload_n hX rfl 0 rfl dX6_mean_47 ?_
        refine gf_6_0 (o := 0) hX fl_X6_12 rfl rfl dX6_mean_48 ?_
        refine gf_5_2 (o := 1) hX fl_X6_84 rfl rfl dX6_mean_51 ?_
        refine r_i2l hX dX6_mean_54 ?_
        refine r_iload_n hX rfl 2 rfl dX6_mean_55 ?_
        obtain ⟨x6, hc6, h⟩ := bn_e h
        refine r_callSi hX hR (c_X6_lowestTerms (σ := s4) X.2.1 G hc6) rfl rfl mf_X6_lowestTerms ml_X6_235 st_X6_lowestTerms ⟨rfl, rfl, Nat.le_of_ble_eq_true rfl, Nat.le_of_ble_eq_true rfl⟩ rfl (st := []) rfl (Nat.le_of_ble_eq_true rfl) dX6_mean_56 ?_
        have g0 := Option.some.inj h
        obtain ⟨q0, g1⟩ := Prod.mk.inj g0
        subst q0
        subst g1
        exact r_lret hX hQ dX6_mean_59
      · replace h := ip_e hc h
        exact WW.sub [] rfl (K26 s trivial h)
abbrev rm_X6_year : Room := { frames := 2, cells := 0, slots := 0, locals := 103 }
def f_X6_year_J39 (s : Mm) (v1 : Int32) (v2 : Int32) : Option (Int32 × Mm) :=
  (if ((s 4) 0 1) < 10 then bn2 (f_X2_addYear (s 4) v1 v2) (fun x1 p2 => nb (setO s 4 p2) (fun s3 => some (x1, s3))) else some ((-4), s))
def f_X6_year (s : Mm) (a1 : Int32) (a2 : Int32) : Option (Int32 × Mm) :=
  (if a1 = (-1) then nb (setO s 4 (up2 (s 4) 0 1 0)) (fun s6 => some (0, s6)) else Option.bind (f_X6_within a1 0 2) (fun x4 => (if x4 = 0 then some ((-1), s) else (if a1 = 1 then Option.bind (f_X6_known s a2) (fun x5 => (if x5 = 0 then some ((-1), s) else f_X6_year_J39 s a1 a2)) else f_X6_year_J39 s a1 a2))))
set_option maxHeartbeats 4000000 in
set_option maxRecDepth 100000 in
theorem c_X6_year (l : Launch) (G : GE) {lm : Ml}  {s : Mm} {a1 : Int32} {a2 : Int32} {rz : Int32} {sz : Mm} (h : f_X6_year s a1 a2 = some (rz, sz)) : CM l G yX6_year bX6_year 3 (Option.some Jvm.ClassFile.FieldType.int) rm_X6_year [.ref (gA G 0 0), .int a1, .int a2] s lm (some (.int rz)) sz lm := by
  refine CM.of (own := zR6) (L0 := [(0, .ref (gA G 0 0)), (1, .int a1), (2, .int a2)]) (by decide +kernel) rfl (Nat.le_of_ble_eq_true rfl) rfl (fun X hl hX hR hQ => ?_)
  have K39 : ∀ (s : Mm) (v1 : Int32) (v2 : Int32) (_ : True), f_X6_year_J39 s v1 v2 = some (rz, sz) → WW X G 3 s lm 39 [(0, .ref (gA G 0 0)), (1, .int v1), (2, .int v2)] [] := by
    intro s v1 v2 _ h
    unfold f_X6_year_J39 at h
    refine r_aload_n hX rfl 0 rfl dX6_year_39 ?_
    refine gf_6_3 (o := 0) hX fl_X6_27 rfl rfl dX6_year_40 ?_
    refine gf_2_1 (o := 4) hX fl_X6_239 rfl rfl dX6_year_43 ?_
    refine r_bipush (v := 10) hX (by decide) dX6_year_46 ?_
    refine r_icmp_lt hX dX6_year_48 (fun hc => ?_) (fun hc => ?_)
    · replace h := ip_e hc h
      refine r_aload_n hX rfl 0 rfl dX6_year_56 ?_
      refine gf_6_3 (o := 0) hX fl_X6_27 rfl rfl dX6_year_57 ?_
      refine r_iload_n hX rfl 1 rfl dX6_year_60 ?_
      refine r_iload_n hX rfl 2 rfl dX6_year_61 ?_
      obtain ⟨x1, p2, hc2, h⟩ := bn2_e h
      obtain ⟨s3, hs3, h⟩ := nb_e h
      refine r_callVi hX hR (c_X2_addYear (σ := s) X.2.1 G rfl hc2) m1_i hs3.symm mf_X2_addYear ml_X6_242 in_X2_addYear se_X2_addYear rfl rfl ⟨rfl, rfl, Nat.le_of_ble_eq_true rfl, Nat.le_of_ble_eq_true rfl⟩ rfl (st := []) rfl (Nat.le_of_ble_eq_true rfl) dX6_year_62 ?_
      have g0 := Option.some.inj h
      obtain ⟨q0, g1⟩ := Prod.mk.inj g0
      subst q0
      subst g1
      exact r_iret hX hQ dX6_year_65
    · replace h := in_e hc h
      refine r_bipush (v := (-4)) hX (by decide) dX6_year_51 ?_
      refine r_goto hX dX6_year_53 ?_
      have g0 := Option.some.inj h
      obtain ⟨q0, g1⟩ := Prod.mk.inj g0
      subst q0
      subst g1
      exact r_iret hX hQ dX6_year_65
  unfold f_X6_year at h
  refine r_iload_n hX rfl 1 rfl dX6_year_0 ?_
  refine r_iconst (v := (-1)) hX (by decide) dX6_year_1 ?_
  refine r_icmp_ne hX dX6_year_2 (fun hc => ?_) (fun hc => ?_)
  · replace h := in_e hc h
    refine r_iload_n hX rfl 1 rfl dX6_year_15 ?_
    refine r_iconst (v := 0) hX (by decide) dX6_year_16 ?_
    refine r_iconst (v := 2) hX (by decide) dX6_year_17 ?_
    obtain ⟨x4, hc4, h⟩ := bn_e h
    refine r_callSi hX hR (c_X6_within (σ := s) X.2.1 G hc4) rfl rfl mf_X6_within ml_X6_80 st_X6_within ⟨rfl, rfl, Nat.le_of_ble_eq_true rfl, Nat.le_of_ble_eq_true rfl⟩ rfl (st := []) rfl (Nat.le_of_ble_eq_true rfl) dX6_year_18 ?_
    refine r_if_eq hX dX6_year_21 (fun hc => ?_) (fun hc => ?_)
    · replace h := ip_e hc h
      refine r_iconst (v := (-1)) hX (by decide) dX6_year_37 ?_
      have g0 := Option.some.inj h
      obtain ⟨q0, g1⟩ := Prod.mk.inj g0
      subst q0
      subst g1
      exact r_iret hX hQ dX6_year_38
    · replace h := in_e hc h
      refine r_iload_n hX rfl 1 rfl dX6_year_24 ?_
      refine r_iconst (v := 1) hX (by decide) dX6_year_25 ?_
      refine r_icmp_ne hX dX6_year_26 (fun hc => ?_) (fun hc => ?_)
      · replace h := in_e hc h
        exact WW.sub [0, 1, 2] rfl (K39 s a1 a2 trivial h)
      · replace h := ip_e hc h
        refine r_aload_n hX rfl 0 rfl dX6_year_29 ?_
        refine r_iload_n hX rfl 2 rfl dX6_year_30 ?_
        obtain ⟨x5, hc5, h⟩ := bn_e h
        refine r_callVi hX hR (c_X6_known X.2.1 G hc5) rfl rfl mf_X6_known ml_X6_91 in_X6_known se_X6_known rfl rfl ⟨rfl, rfl, Nat.le_of_ble_eq_true rfl, Nat.le_of_ble_eq_true rfl⟩ rfl (st := []) rfl (Nat.le_of_ble_eq_true rfl) dX6_year_31 ?_
        refine r_if_ne hX dX6_year_34 (fun hc => ?_) (fun hc => ?_)
        · replace h := in_e hc h
          exact WW.sub [0, 1, 2] rfl (K39 s a1 a2 trivial h)
        · replace h := ip_e hc h
          refine r_iconst (v := (-1)) hX (by decide) dX6_year_37 ?_
          have g0 := Option.some.inj h
          obtain ⟨q0, g1⟩ := Prod.mk.inj g0
          subst q0
          subst g1
          exact r_iret hX hQ dX6_year_38
  · replace h := ip_e hc h
    refine r_aload_n hX rfl 0 rfl dX6_year_5 ?_
    refine gf_6_3 (o := 0) hX fl_X6_27 rfl rfl dX6_year_6 ?_
    refine r_iconst (v := 0) hX (by decide) dX6_year_9 ?_
    obtain ⟨s6, hs6, h⟩ := nb_e h
    refine pf_2_1 (o := 4) hX fl_X6_239 rfl rfl dX6_year_10 hs6.symm ?_
    refine r_iconst (v := 0) hX (by decide) dX6_year_13 ?_
    have g0 := Option.some.inj h
    obtain ⟨q0, g1⟩ := Prod.mk.inj g0
    subst q0
    subst g1
    exact r_iret hX hQ dX6_year_14
abbrev rm_X6_goYearRow : Room := { frames := 5, cells := 0, slots := 0, locals := 180 }
def f_X6_goYearRow_J36 (s : Mm) (v1 : Int32) : Option (Mm) :=
  (if v1 = 2 then Option.bind (f_X5_rise (s 2) 10) (fun p1 => nb (setO s 2 p1) (fun s2 => some s2)) else some s)
def f_X6_goYearRow (s : Mm) (a1 : Int32) (a2 : Int32) : Option (Mm) :=
  (if a1 = 0 then Option.bind (f_X6_goTrial s 1) (fun s6 => some s6) else (if a1 = 1 then Option.bind (f_X6_known s a2) (fun x3 => (if x3 = 0 then f_X6_goYearRow_J36 s a1 else Option.bind (f_X5_callIn (s 2) a2) (fun p4 => nb (setO s 2 p4) (fun s5 => some s5)))) else f_X6_goYearRow_J36 s a1))
set_option maxHeartbeats 4000000 in
set_option maxRecDepth 100000 in
theorem c_X6_goYearRow (l : Launch) (G : GE) {lm : Ml}  {s : Mm} {a1 : Int32} {a2 : Int32} {sz : Mm} (h : f_X6_goYearRow s a1 a2 = some sz) : CM l G yX6_goYearRow bX6_goYearRow 3 (Option.none : Option Jvm.ClassFile.FieldType) rm_X6_goYearRow [.ref (gA G 0 0), .int a1, .int a2] s lm (none) sz lm := by
  refine CM.of (own := zR6) (L0 := [(0, .ref (gA G 0 0)), (1, .int a1), (2, .int a2)]) (by decide +kernel) rfl (Nat.le_of_ble_eq_true rfl) rfl (fun X hl hX hR hQ => ?_)
  have K36 : ∀ (s : Mm) (v1 : Int32) (_ : True), f_X6_goYearRow_J36 s v1 = some sz → WW X G 3 s lm 36 [(0, .ref (gA G 0 0)), (1, .int v1)] [] := by
    intro s v1 _ h
    unfold f_X6_goYearRow_J36 at h
    refine r_iload_n hX rfl 1 rfl dX6_goYearRow_36 ?_
    refine r_iconst (v := 2) hX (by decide) dX6_goYearRow_37 ?_
    refine r_icmp_ne hX dX6_goYearRow_38 (fun hc => ?_) (fun hc => ?_)
    · replace h := in_e hc h
      have g0 := Option.some.inj h
      subst g0
      exact r_vret hX hQ dX6_goYearRow_50
    · replace h := ip_e hc h
      refine r_aload_n hX rfl 0 rfl dX6_goYearRow_41 ?_
      refine gf_6_1 (o := 0) hX fl_X6_18 rfl rfl dX6_goYearRow_42 ?_
      refine r_bipush (v := 10) hX (by decide) dX6_goYearRow_45 ?_
      obtain ⟨p1, hc1, h⟩ := bn_e h
      obtain ⟨s2, hs2, h⟩ := nb_e h
      refine r_callVv hX hR (c_X5_rise (σ := s) X.2.1 G rfl hc1) m1_i hs2.symm mf_X5_rise ml_X6_216 in_X5_rise se_X5_rise rfl rfl ⟨rfl, rfl, Nat.le_of_ble_eq_true rfl, Nat.le_of_ble_eq_true rfl⟩ rfl (st := []) rfl (Nat.le_of_ble_eq_true rfl) dX6_goYearRow_47 ?_
      have g0 := Option.some.inj h
      subst g0
      exact r_vret hX hQ dX6_goYearRow_50
  unfold f_X6_goYearRow at h
  refine r_iload_n hX rfl 1 rfl dX6_goYearRow_0 ?_
  refine r_if_ne hX dX6_goYearRow_1 (fun hc => ?_) (fun hc => ?_)
  · replace h := in_e hc h
    refine r_iload_n hX rfl 1 rfl dX6_goYearRow_12 ?_
    refine r_iconst (v := 1) hX (by decide) dX6_goYearRow_13 ?_
    refine r_icmp_ne hX dX6_goYearRow_14 (fun hc => ?_) (fun hc => ?_)
    · replace h := in_e hc h
      exact WW.sub [0, 1] rfl (K36 s a1 trivial h)
    · replace h := ip_e hc h
      refine r_aload_n hX rfl 0 rfl dX6_goYearRow_17 ?_
      refine r_iload_n hX rfl 2 rfl dX6_goYearRow_18 ?_
      obtain ⟨x3, hc3, h⟩ := bn_e h
      refine r_callVi hX hR (c_X6_known X.2.1 G hc3) rfl rfl mf_X6_known ml_X6_91 in_X6_known se_X6_known rfl rfl ⟨rfl, rfl, Nat.le_of_ble_eq_true rfl, Nat.le_of_ble_eq_true rfl⟩ rfl (st := []) rfl (Nat.le_of_ble_eq_true rfl) dX6_goYearRow_19 ?_
      refine r_if_eq hX dX6_goYearRow_22 (fun hc => ?_) (fun hc => ?_)
      · replace h := ip_e hc h
        exact WW.sub [0, 1] rfl (K36 s a1 trivial h)
      · replace h := in_e hc h
        refine r_aload_n hX rfl 0 rfl dX6_goYearRow_25 ?_
        refine gf_6_1 (o := 0) hX fl_X6_18 rfl rfl dX6_goYearRow_26 ?_
        refine r_iload_n hX rfl 2 rfl dX6_goYearRow_29 ?_
        obtain ⟨p4, hc4, h⟩ := bn_e h
        obtain ⟨s5, hs5, h⟩ := nb_e h
        refine r_callVv hX hR (c_X5_callIn (σ := s) X.2.1 G rfl hc4) m1_i hs5.symm mf_X5_callIn ml_X6_158 in_X5_callIn se_X5_callIn rfl rfl ⟨rfl, rfl, Nat.le_of_ble_eq_true rfl, Nat.le_of_ble_eq_true rfl⟩ rfl (st := []) rfl (Nat.le_of_ble_eq_true rfl) dX6_goYearRow_30 ?_
        refine r_goto hX dX6_goYearRow_33 ?_
        have g0 := Option.some.inj h
        subst g0
        exact r_vret hX hQ dX6_goYearRow_50
  · replace h := ip_e hc h
    refine r_aload_n hX rfl 0 rfl dX6_goYearRow_4 ?_
    refine r_iconst (v := 1) hX (by decide) dX6_goYearRow_5 ?_
    obtain ⟨s6, hc6, h⟩ := bn_e h
    refine r_callVv hX hR (c_X6_goTrial X.2.1 G hc6) rfl rfl mf_X6_goTrial ml_X6_195 in_X6_goTrial se_X6_goTrial rfl rfl ⟨rfl, rfl, Nat.le_of_ble_eq_true rfl, Nat.le_of_ble_eq_true rfl⟩ rfl (st := []) rfl (Nat.le_of_ble_eq_true rfl) dX6_goYearRow_6 ?_
    refine r_goto hX dX6_goYearRow_9 ?_
    have g0 := Option.some.inj h
    subst g0
    exact r_vret hX hQ dX6_goYearRow_50
abbrev rm_X6_gone : Room := { frames := 10, cells := 0, slots := 0, locals := 442 }
def f_X6_gone_J56 (s : Mm) (v1 : Int32) : Option (Int32 × Mm) :=
  (if v1 = 0 then some (((s 2) 0 0), s) else some (((s 2) 0 3), s))
def f_X6_gone_B17 (v1 : Int32) (v2 : Int32) (s : Mm) : Option ((Int32 × Mm) ⊕ (Mm)) :=
  (if ((s 4) 0 1) ≤ v2 then some (.inr s) else (if inb v2 10 = true then (if inb v2 10 = true then Option.bind (f_X6_goYearRow s ((s 4) 6 (ix v2)) ((s 4) 7 (ix v2))) (fun s3 => some (.inl ((v2 + 1), s3))) else none) else none))
def f_X6_gone_H17 (s : Mm) (v1 : Int32) (v2 : Int32) : Option (Int32 × Mm) :=
  Option.bind (iter (fun t => f_X6_gone_B17 v1 t.1 t.2) 200 (v2, s)) (fun s => f_X6_gone_J56 s v1)
def f_X6_gone (s : Mm) (a1 : Int32) : Option (Int32 × Mm) :=
  Option.bind (f_X6_within a1 0 1) (fun x4 => (if x4 = 0 then some ((-1), s) else Option.bind (f_X6_startTrial s) (fun s5 => f_X6_gone_H17 s5 a1 0)))
set_option maxHeartbeats 4000000 in
set_option maxRecDepth 100000 in
theorem c_X6_gone (l : Launch) (G : GE) {lm : Ml}  {s : Mm} {a1 : Int32} {rz : Int32} {sz : Mm} (h : f_X6_gone s a1 = some (rz, sz)) : CM l G yX6_gone bX6_gone 3 (Option.some Jvm.ClassFile.FieldType.int) rm_X6_gone [.ref (gA G 0 0), .int a1] s lm (some (.int rz)) sz lm := by
  refine CM.of (own := zR6) (L0 := [(0, .ref (gA G 0 0)), (1, .int a1)]) (by decide +kernel) rfl (Nat.le_of_ble_eq_true rfl) rfl (fun X hl hX hR hQ => ?_)
  have K56 : ∀ (s : Mm) (v1 : Int32) (_ : True), f_X6_gone_J56 s v1 = some (rz, sz) → WW X G 3 s lm 56 [(0, .ref (gA G 0 0)), (1, .int v1)] [] := by
    intro s v1 _ h
    unfold f_X6_gone_J56 at h
    refine r_iload_n hX rfl 1 rfl dX6_gone_56 ?_
    refine r_if_ne hX dX6_gone_57 (fun hc => ?_) (fun hc => ?_)
    · replace h := in_e hc h
      refine r_aload_n hX rfl 0 rfl dX6_gone_70 ?_
      refine gf_6_1 (o := 0) hX fl_X6_18 rfl rfl dX6_gone_71 ?_
      refine gf_5_3 (o := 2) hX fl_X6_198 rfl rfl dX6_gone_74 ?_
      have g0 := Option.some.inj h
      obtain ⟨q0, g1⟩ := Prod.mk.inj g0
      subst q0
      subst g1
      exact r_iret hX hQ dX6_gone_77
    · replace h := ip_e hc h
      refine r_aload_n hX rfl 0 rfl dX6_gone_60 ?_
      refine gf_6_1 (o := 0) hX fl_X6_18 rfl rfl dX6_gone_61 ?_
      refine gf_5_0 (o := 2) hX fl_X6_148 rfl rfl dX6_gone_64 ?_
      refine r_goto hX dX6_gone_67 ?_
      have g0 := Option.some.inj h
      obtain ⟨q0, g1⟩ := Prod.mk.inj g0
      subst q0
      subst g1
      exact r_iret hX hQ dX6_gone_77
  have K17 : ∀ (s : Mm) (v1 : Int32) (v2 : Int32) (_ : True), f_X6_gone_H17 s v1 v2 = some (rz, sz) → WW X G 3 s lm 17 [(0, .ref (gA G 0 0)), (1, .int v1), (2, .int v2)] [] := by
    intro s v1 v2 _ h
    unfold f_X6_gone_H17 at h
    obtain ⟨e_s, hit, hO⟩ := bn_e h
    refine iter_w (P := fun t : Int32 × Mm => WW X G 3 t.2 lm 17 [(0, .ref (gA G 0 0)), (1, .int v1), (2, .int t.1)] []) (x := e_s) ?_ 200 (v2, s) hit
    clear hit
    intro t z1 hb hin1 hex1
    obtain ⟨v2, s⟩ := t
    have h : f_X6_gone_B17 v1 v2 s = some z1 := hb
    clear hb
    unfold f_X6_gone_B17 at h
    refine r_iload_n hX rfl 2 rfl dX6_gone_17 ?_
    refine r_aload_n hX rfl 0 rfl dX6_gone_18 ?_
    refine gf_6_3 (o := 0) hX fl_X6_27 rfl rfl dX6_gone_19 ?_
    refine gf_2_1 (o := 4) hX fl_X6_239 rfl rfl dX6_gone_22 ?_
    refine r_icmp_ge hX dX6_gone_25 (fun hc => ?_) (fun hc => ?_)
    · replace h := ip_e hc h
      have g0 := hex1 _ (Option.some.inj h).symm
      subst g0
      exact WW.sub [0, 1] rfl (K56 s v1 trivial hO)
    · replace h := in_e hc h
      refine r_aload_n hX rfl 0 rfl dX6_gone_28 ?_
      refine r_aload_n hX rfl 0 rfl dX6_gone_29 ?_
      refine gf_6_3 (o := 0) hX fl_X6_27 rfl rfl dX6_gone_30 ?_
      refine gf_2_5 (o := 4) hX fl_X6_245 rfl rfl dX6_gone_33 ?_
      refine r_iload_n hX rfl 2 rfl dX6_gone_36 ?_
      obtain ⟨hk1, h⟩ := kc_e h
      refine ga_2_6 (o := 4) hX rfl rfl hk1 dX6_gone_37 ?_
      refine r_aload_n hX rfl 0 rfl dX6_gone_38 ?_
      refine gf_6_3 (o := 0) hX fl_X6_27 rfl rfl dX6_gone_39 ?_
      refine gf_2_6 (o := 4) hX fl_X6_248 rfl rfl dX6_gone_42 ?_
      refine r_iload_n hX rfl 2 rfl dX6_gone_45 ?_
      obtain ⟨hk2, h⟩ := kc_e h
      refine ga_2_7 (o := 4) hX rfl rfl hk2 dX6_gone_46 ?_
      obtain ⟨s3, hc3, h⟩ := bn_e h
      refine r_callVv hX hR (c_X6_goYearRow X.2.1 G hc3) rfl rfl mf_X6_goYearRow ml_X6_251 in_X6_goYearRow se_X6_goYearRow rfl rfl ⟨rfl, rfl, Nat.le_of_ble_eq_true rfl, Nat.le_of_ble_eq_true rfl⟩ rfl (st := []) rfl (Nat.le_of_ble_eq_true rfl) dX6_gone_47 ?_
      refine r_iinc (v := v2 + 1) (L2 := [(2, .int (v2 + 1)), (0, .ref (gA G 0 0)), (1, .int v1)]) hX 2 rfl rfl (by decide) rfl dX6_gone_50 ?_
      refine r_goto hX dX6_gone_53 ?_
      exact WW.sub [1, 2, 0] rfl (hin1 _ (Option.some.inj h).symm)
  unfold f_X6_gone at h
  refine r_iload_n hX rfl 1 rfl dX6_gone_0 ?_
  refine r_iconst (v := 0) hX (by decide) dX6_gone_1 ?_
  refine r_iconst (v := 1) hX (by decide) dX6_gone_2 ?_
  obtain ⟨x4, hc4, h⟩ := bn_e h
  refine r_callSi hX hR (c_X6_within (σ := s) X.2.1 G hc4) rfl rfl mf_X6_within ml_X6_80 st_X6_within ⟨rfl, rfl, Nat.le_of_ble_eq_true rfl, Nat.le_of_ble_eq_true rfl⟩ rfl (st := []) rfl (Nat.le_of_ble_eq_true rfl) dX6_gone_3 ?_
  refine r_if_ne hX dX6_gone_6 (fun hc => ?_) (fun hc => ?_)
  · replace h := in_e hc h
    refine r_aload_n hX rfl 0 rfl dX6_gone_11 ?_
    obtain ⟨s5, hc5, h⟩ := bn_e h
    refine r_callVv hX hR (c_X6_startTrial X.2.1 G hc5) rfl rfl mf_X6_startTrial ml_X6_192 in_X6_startTrial se_X6_startTrial rfl rfl ⟨rfl, rfl, Nat.le_of_ble_eq_true rfl, Nat.le_of_ble_eq_true rfl⟩ rfl (st := []) rfl (Nat.le_of_ble_eq_true rfl) dX6_gone_12 ?_
    refine r_iconst (v := 0) hX (by decide) dX6_gone_15 ?_
    refine r_istore_n (L2 := [(2, .int 0), (0, .ref (gA G 0 0)), (1, .int a1)]) hX rfl (by decide) rfl dX6_gone_16 ?_
    exact WW.sub [1, 2, 0] rfl (K17 s5 a1 0 trivial h)
  · replace h := ip_e hc h
    refine r_iconst (v := (-1)) hX (by decide) dX6_gone_9 ?_
    have g0 := Option.some.inj h
    obtain ⟨q0, g1⟩ := Prod.mk.inj g0
    subst q0
    subst g1
    exact r_iret hX hQ dX6_gone_10
abbrev rm_X6_book : Room := { frames := 2, cells := 0, slots := 0, locals := 103 }
def f_X6_book (s : Mm) (a1 : Int32) (a2 : Int32) : Option (Int32 × Mm) :=
  (if a1 = (-1) then nb (setO s 4 (up2 (s 4) 0 2 0)) (fun s6 => some (0, s6)) else Option.bind (f_X6_known s a1) (fun x1 => (if x1 = 0 then some ((-1), s) else Option.bind (f_X6_within a2 0 99999) (fun x2 => (if x2 = 0 then some ((-2), s) else (if ((s 4) 0 2) < 8 then bn2 (f_X2_addBook (s 4) a1 a2) (fun x3 p4 => nb (setO s 4 p4) (fun s5 => some (x3, s5))) else some ((-4), s)))))))
set_option maxHeartbeats 4000000 in
set_option maxRecDepth 100000 in
theorem c_X6_book (l : Launch) (G : GE) {lm : Ml}  {s : Mm} {a1 : Int32} {a2 : Int32} {rz : Int32} {sz : Mm} (h : f_X6_book s a1 a2 = some (rz, sz)) : CM l G yX6_book bX6_book 3 (Option.some Jvm.ClassFile.FieldType.int) rm_X6_book [.ref (gA G 0 0), .int a1, .int a2] s lm (some (.int rz)) sz lm := by
  refine CM.of (own := zR6) (L0 := [(0, .ref (gA G 0 0)), (1, .int a1), (2, .int a2)]) (by decide +kernel) rfl (Nat.le_of_ble_eq_true rfl) rfl (fun X hl hX hR hQ => ?_)
  unfold f_X6_book at h
  refine r_iload_n hX rfl 1 rfl dX6_book_0 ?_
  refine r_iconst (v := (-1)) hX (by decide) dX6_book_1 ?_
  refine r_icmp_ne hX dX6_book_2 (fun hc => ?_) (fun hc => ?_)
  · replace h := in_e hc h
    refine r_aload_n hX rfl 0 rfl dX6_book_15 ?_
    refine r_iload_n hX rfl 1 rfl dX6_book_16 ?_
    obtain ⟨x1, hc1, h⟩ := bn_e h
    refine r_callVi hX hR (c_X6_known X.2.1 G hc1) rfl rfl mf_X6_known ml_X6_91 in_X6_known se_X6_known rfl rfl ⟨rfl, rfl, Nat.le_of_ble_eq_true rfl, Nat.le_of_ble_eq_true rfl⟩ rfl (st := []) rfl (Nat.le_of_ble_eq_true rfl) dX6_book_17 ?_
    refine r_if_ne hX dX6_book_20 (fun hc => ?_) (fun hc => ?_)
    · replace h := in_e hc h
      refine r_iload_n hX rfl 2 rfl dX6_book_25 ?_
      refine r_iconst (v := 0) hX (by decide) dX6_book_26 ?_
      refine r_ldcw hX co_X6_257 dX6_book_27 ?_
      obtain ⟨x2, hc2, h⟩ := bn_e h
      refine r_callSi hX hR (c_X6_within (σ := s) X.2.1 G hc2) rfl rfl mf_X6_within ml_X6_80 st_X6_within ⟨rfl, rfl, Nat.le_of_ble_eq_true rfl, Nat.le_of_ble_eq_true rfl⟩ rfl (st := []) rfl (Nat.le_of_ble_eq_true rfl) dX6_book_30 ?_
      refine r_if_ne hX dX6_book_33 (fun hc => ?_) (fun hc => ?_)
      · replace h := in_e hc h
        refine r_aload_n hX rfl 0 rfl dX6_book_39 ?_
        refine gf_6_3 (o := 0) hX fl_X6_27 rfl rfl dX6_book_40 ?_
        refine gf_2_2 (o := 4) hX fl_X6_254 rfl rfl dX6_book_43 ?_
        refine r_bipush (v := 8) hX (by decide) dX6_book_46 ?_
        refine r_icmp_lt hX dX6_book_48 (fun hc => ?_) (fun hc => ?_)
        · replace h := ip_e hc h
          refine r_aload_n hX rfl 0 rfl dX6_book_56 ?_
          refine gf_6_3 (o := 0) hX fl_X6_27 rfl rfl dX6_book_57 ?_
          refine r_iload_n hX rfl 1 rfl dX6_book_60 ?_
          refine r_iload_n hX rfl 2 rfl dX6_book_61 ?_
          obtain ⟨x3, p4, hc4, h⟩ := bn2_e h
          obtain ⟨s5, hs5, h⟩ := nb_e h
          refine r_callVi hX hR (c_X2_addBook (σ := s) X.2.1 G rfl hc4) m1_i hs5.symm mf_X2_addBook ml_X6_258 in_X2_addBook se_X2_addBook rfl rfl ⟨rfl, rfl, Nat.le_of_ble_eq_true rfl, Nat.le_of_ble_eq_true rfl⟩ rfl (st := []) rfl (Nat.le_of_ble_eq_true rfl) dX6_book_62 ?_
          have g0 := Option.some.inj h
          obtain ⟨q0, g1⟩ := Prod.mk.inj g0
          subst q0
          subst g1
          exact r_iret hX hQ dX6_book_65
        · replace h := in_e hc h
          refine r_bipush (v := (-4)) hX (by decide) dX6_book_51 ?_
          refine r_goto hX dX6_book_53 ?_
          have g0 := Option.some.inj h
          obtain ⟨q0, g1⟩ := Prod.mk.inj g0
          subst q0
          subst g1
          exact r_iret hX hQ dX6_book_65
      · replace h := ip_e hc h
        refine r_bipush (v := (-2)) hX (by decide) dX6_book_36 ?_
        have g0 := Option.some.inj h
        obtain ⟨q0, g1⟩ := Prod.mk.inj g0
        subst q0
        subst g1
        exact r_iret hX hQ dX6_book_38
    · replace h := ip_e hc h
      refine r_iconst (v := (-1)) hX (by decide) dX6_book_23 ?_
      have g0 := Option.some.inj h
      obtain ⟨q0, g1⟩ := Prod.mk.inj g0
      subst q0
      subst g1
      exact r_iret hX hQ dX6_book_24
  · replace h := ip_e hc h
    refine r_aload_n hX rfl 0 rfl dX6_book_5 ?_
    refine gf_6_3 (o := 0) hX fl_X6_27 rfl rfl dX6_book_6 ?_
    refine r_iconst (v := 0) hX (by decide) dX6_book_9 ?_
    obtain ⟨s6, hs6, h⟩ := nb_e h
    refine pf_2_2 (o := 4) hX fl_X6_254 rfl rfl dX6_book_10 hs6.symm ?_
    refine r_iconst (v := 0) hX (by decide) dX6_book_13 ?_
    have g0 := Option.some.inj h
    obtain ⟨q0, g1⟩ := Prod.mk.inj g0
    subst q0
    subst g1
    exact r_iret hX hQ dX6_book_14
abbrev rm_X6_looked : Room := { frames := 2, cells := 0, slots := 0, locals := 103 }
def f_X6_looked_J54 (s : Mm) (v1 : Int32) : Option ((Int32) ⊕ (Int32)) :=
  some (.inl (v1 + 1))
def f_X6_looked_B2 (s : Mm) (v1 : Int32) : Option ((Int32) ⊕ (Int32)) :=
  (if ((s 4) 0 2) ≤ v1 then wr (some (-5)) else (if inb v1 8 = true then Option.bind (f_X6_known s ((s 4) 8 (ix v1))) (fun x2 => (if x2 = 0 then f_X6_looked_J54 s v1 else (if inb ((s 4) 8 (ix v1)) 6 = true then (if inb v1 8 = true then (if ((s 1) 11 (ix ((s 4) 8 (ix v1)))) = ((s 4) 9 (ix v1)) then f_X6_looked_J54 s v1 else wr (some v1)) else none) else none))) else none))
def f_X6_looked_H2 (s : Mm) (v1 : Int32) : Option (Int32) :=
  iter (fun t => f_X6_looked_B2 s t) 200 v1
def f_X6_looked (s : Mm) : Option (Int32) :=
  f_X6_looked_H2 s 0
set_option maxHeartbeats 4000000 in
set_option maxRecDepth 100000 in
theorem c_X6_looked (l : Launch) (G : GE) {lm : Ml}  {s : Mm} {rz : Int32} (h : f_X6_looked s = some rz) : CM l G yX6_looked bX6_looked 3 (Option.some Jvm.ClassFile.FieldType.int) rm_X6_looked [.ref (gA G 0 0)] s lm (some (.int rz)) s lm := by
  refine CM.of (own := zR6) (L0 := [(0, .ref (gA G 0 0))]) (by decide +kernel) rfl (Nat.le_of_ble_eq_true rfl) rfl (fun X hl hX hR hQ => ?_)
  have K2 : ∀ (v1 : Int32) (_ : True), f_X6_looked_H2 s v1 = some rz → WW X G 3 s lm 2 [(0, .ref (gA G 0 0)), (1, .int v1)] [] := by
    intro v1 _ h
    unfold f_X6_looked_H2 at h
    have hit := h
    refine iter_w (P := fun t : Int32 => WW X G 3 s lm 2 [(0, .ref (gA G 0 0)), (1, .int t)] []) (x := rz) ?_ 200 v1 hit
    clear hit
    clear h
    intro v1 z1 hb hin1 hex1
    have h : f_X6_looked_B2 s v1 = some z1 := hb
    clear hb
    have K54 : ∀ (v1 : Int32) (_ : True), f_X6_looked_J54 s v1 = some z1 → WW X G 3 s lm 54 [(0, .ref (gA G 0 0)), (1, .int v1)] [] := by
      intro v1 _ h
      unfold f_X6_looked_J54 at h
      refine r_iinc (v := v1 + 1) (L2 := [(1, .int (v1 + 1)), (0, .ref (gA G 0 0))]) hX 1 rfl rfl (by decide) rfl dX6_looked_54 ?_
      refine r_goto hX dX6_looked_57 ?_
      exact WW.sub [1, 0] rfl (hin1 _ (Option.some.inj h).symm)
    unfold f_X6_looked_B2 at h
    refine r_iload_n hX rfl 1 rfl dX6_looked_2 ?_
    refine r_aload_n hX rfl 0 rfl dX6_looked_3 ?_
    refine gf_6_3 (o := 0) hX fl_X6_27 rfl rfl dX6_looked_4 ?_
    refine gf_2_2 (o := 4) hX fl_X6_254 rfl rfl dX6_looked_7 ?_
    refine r_icmp_ge hX dX6_looked_10 (fun hc => ?_) (fun hc => ?_)
    · replace h := ip_e hc h
      refine r_bipush (v := (-5)) hX (by decide) dX6_looked_60 ?_
      obtain ⟨y1, h, e1⟩ := wr_e h
      rw [hex1 _ e1] at h
      have g0 := Option.some.inj h
      subst g0
      exact r_iret hX hQ dX6_looked_62
    · replace h := in_e hc h
      refine r_aload_n hX rfl 0 rfl dX6_looked_13 ?_
      refine gf_6_3 (o := 0) hX fl_X6_27 rfl rfl dX6_looked_14 ?_
      refine gf_2_7 (o := 4) hX fl_X6_261 rfl rfl dX6_looked_17 ?_
      refine r_iload_n hX rfl 1 rfl dX6_looked_20 ?_
      obtain ⟨hk1, h⟩ := kc_e h
      refine ga_2_8 (o := 4) hX rfl rfl hk1 dX6_looked_21 ?_
      refine r_istore_n (L2 := [(2, .int ((s 4) 8 (ix v1))), (0, .ref (gA G 0 0)), (1, .int v1)]) hX rfl (by decide) rfl dX6_looked_22 ?_
      refine r_aload_n hX rfl 1 rfl dX6_looked_23 ?_
      refine r_iload_n hX rfl 0 rfl dX6_looked_24 ?_
      obtain ⟨x2, hc2, h⟩ := bn_e h
      refine r_callVi hX hR (c_X6_known X.2.1 G hc2) rfl rfl mf_X6_known ml_X6_91 in_X6_known se_X6_known rfl rfl ⟨rfl, rfl, Nat.le_of_ble_eq_true rfl, Nat.le_of_ble_eq_true rfl⟩ rfl (st := []) rfl (Nat.le_of_ble_eq_true rfl) dX6_looked_25 ?_
      refine r_if_eq hX dX6_looked_28 (fun hc => ?_) (fun hc => ?_)
      · replace h := ip_e hc h
        exact WW.sub [1, 2] rfl (K54 v1 trivial h)
      · replace h := in_e hc h
        refine r_aload_n hX rfl 1 rfl dX6_looked_31 ?_
        refine gf_6_0 (o := 0) hX fl_X6_12 rfl rfl dX6_looked_32 ?_
        refine gf_5_10 (o := 1) hX fl_X6_114 rfl rfl dX6_looked_35 ?_
        refine r_iload_n hX rfl 0 rfl dX6_looked_38 ?_
        obtain ⟨hk3, h⟩ := kc_e h
        refine ga_5_11 (o := 1) hX rfl rfl hk3 dX6_looked_39 ?_
        refine r_aload_n hX rfl 1 rfl dX6_looked_40 ?_
        refine gf_6_3 (o := 0) hX fl_X6_27 rfl rfl dX6_looked_41 ?_
        refine gf_2_8 (o := 4) hX fl_X6_264 rfl rfl dX6_looked_44 ?_
        refine r_iload_n hX rfl 2 rfl dX6_looked_47 ?_
        obtain ⟨hk4, h⟩ := kc_e h
        refine ga_2_9 (o := 4) hX rfl rfl hk4 dX6_looked_48 ?_
        refine r_icmp_eq hX dX6_looked_49 (fun hc => ?_) (fun hc => ?_)
        · replace h := ip_e hc h
          exact WW.sub [1, 2] rfl (K54 v1 trivial h)
        · replace h := in_e hc h
          refine r_iload_n hX rfl 2 rfl dX6_looked_52 ?_
          obtain ⟨y1, h, e1⟩ := wr_e h
          rw [hex1 _ e1] at h
          have g0 := Option.some.inj h
          subst g0
          exact r_iret hX hQ dX6_looked_53
  unfold f_X6_looked at h
  refine r_iconst (v := 0) hX (by decide) dX6_looked_0 ?_
  refine r_istore_n (L2 := [(1, .int 0), (0, .ref (gA G 0 0))]) hX rfl (by decide) rfl dX6_looked_1 ?_
  exact WW.sub [1, 0] rfl (K2 0 trivial h)
abbrev rm_X6_judge : Room := { frames := 2, cells := 0, slots := 0, locals := 104 }
def f_X6_judge_J69 (s : Mm) (lm : Ml) (v3 : Int32) : Option (Int32) :=
  some (100 + v3)
def f_X6_judge_B42 (s : Mm) (lm : Ml) (v1 : Int32) (v2 : Int32) (v3 : Int32) : Option ((Int32) ⊕ (Int32)) :=
  (if ((s 1) 0 2) ≤ v3 then wr (some (-5)) else Option.bind (f_X4_hasPlace (s 16) v1 (v2.toInt64 + v3.toInt64)) (fun x1 => (if x1 = 0 then wr (f_X6_judge_J69 s lm v3) else (if inb v1 6 = true then (if inb (v2 + v3) 60 = true then (if inb v3 6 = true then (if (lg_cmp (lm 16 (4 + ix v1) (ix (v2 + v3))) (((s 1) 9 (ix v3)).toInt64)) = 0 then some (.inl (v3 + 1)) else wr (some v3)) else none) else none) else none))))
def f_X6_judge_H42 (s : Mm) (lm : Ml) (v1 : Int32) (v2 : Int32) (v3 : Int32) : Option (Int32) :=
  iter (fun t => f_X6_judge_B42 s lm v1 v2 t) 200 v3
def f_X6_judge_J40 (s : Mm) (lm : Ml) (v1 : Int32) (v2 : Int32) : Option (Int32) :=
  f_X6_judge_H42 s lm v1 v2 0
def f_X6_judge (s : Mm) (lm : Ml) (a1 : Int32) (a2 : Int32) : Option (Int32) :=
  Option.bind (f_X4_known (s 16) a1) (fun x5 => (if x5 = 0 then some (-1) else Option.bind (f_X4_holds (s 16) a1) (fun x6 => (if x6 = 0 then f_X6_judge_J40 s lm a1 a2 else (if inb a1 6 = true then (if ((s 16) 1 (ix a1)) = 2 then f_X6_judge_J40 s lm a1 a2 else some (-12)) else none)))))
set_option maxHeartbeats 4000000 in
set_option maxRecDepth 100000 in
theorem c_X6_judge (l : Launch) (G : GE)  {s : Mm} {lm : Ml} {a1 : Int32} {a2 : Int32} {rz : Int32} (h : f_X6_judge s lm a1 a2 = some rz) : CM l G yX6_judge bX6_judge 4 (Option.some Jvm.ClassFile.FieldType.int) rm_X6_judge [.ref (gA G 0 0), .int a1, .int a2] s lm (some (.int rz)) s lm := by
  refine CM.of (own := zR6) (L0 := [(0, .ref (gA G 0 0)), (1, .int a1), (2, .int a2)]) (by decide +kernel) rfl (Nat.le_of_ble_eq_true rfl) rfl (fun X hl hX hR hQ => ?_)
  have K69 : ∀ (v3 : Int32) (_ : True), f_X6_judge_J69 s lm v3 = some rz → WW X G 4 s lm 69 [(3, .int v3)] [] := by
    intro v3 _ h
    unfold f_X6_judge_J69 at h
    refine r_bipush (v := 100) hX (by decide) dX6_judge_69 ?_
    refine r_iload_n hX rfl 0 rfl dX6_judge_71 ?_
    refine r_iadd hX dX6_judge_72 ?_
    have g0 := Option.some.inj h
    subst g0
    exact r_iret hX hQ dX6_judge_73
  have K42 : ∀ (v1 : Int32) (v2 : Int32) (v3 : Int32) (_ : True), f_X6_judge_H42 s lm v1 v2 v3 = some rz → WW X G 4 s lm 42 [(0, .ref (gA G 0 0)), (1, .int v1), (2, .int v2), (3, .int v3)] [] := by
    intro v1 v2 v3 _ h
    unfold f_X6_judge_H42 at h
    have hit := h
    refine iter_w (P := fun t : Int32 => WW X G 4 s lm 42 [(0, .ref (gA G 0 0)), (1, .int v1), (2, .int v2), (3, .int t)] []) (x := rz) ?_ 200 v3 hit
    clear hit
    clear h
    intro v3 z1 hb hin1 hex1
    have h : f_X6_judge_B42 s lm v1 v2 v3 = some z1 := hb
    clear hb
    unfold f_X6_judge_B42 at h
    refine r_iload_n hX rfl 3 rfl dX6_judge_42 ?_
    refine r_aload_n hX rfl 0 rfl dX6_judge_43 ?_
    refine gf_6_0 (o := 0) hX fl_X6_12 rfl rfl dX6_judge_44 ?_
    refine gf_5_2 (o := 1) hX fl_X6_84 rfl rfl dX6_judge_47 ?_
    refine r_icmp_ge hX dX6_judge_50 (fun hc => ?_) (fun hc => ?_)
    · replace h := ip_e hc h
      refine r_bipush (v := (-5)) hX (by decide) dX6_judge_109 ?_
      obtain ⟨y1, h, e1⟩ := wr_e h
      rw [hex1 _ e1] at h
      have g0 := Option.some.inj h
      subst g0
      exact r_iret hX hQ dX6_judge_111
    · replace h := in_e hc h
      refine r_aload_n hX rfl 0 rfl dX6_judge_53 ?_
      refine gf_6_9 (o := 0) hX fl_X6_62 rfl rfl dX6_judge_54 ?_
      refine r_iload_n hX rfl 1 rfl dX6_judge_57 ?_
      refine r_iload_n hX rfl 2 rfl dX6_judge_58 ?_
      refine r_i2l hX dX6_judge_59 ?_
      refine r_iload_n hX rfl 3 rfl dX6_judge_60 ?_
      refine r_i2l hX dX6_judge_61 ?_
      refine r_ladd hX dX6_judge_62 ?_
      obtain ⟨x1, hc1, h⟩ := bn_e h
      refine r_callVi hX hR (c_X4_hasPlace (σ := s) X.2.1 G hc1) m1_i m1_i mf_X4_hasPlace ml_X6_274 in_X4_hasPlace se_X4_hasPlace rfl rfl ⟨rfl, rfl, Nat.le_of_ble_eq_true rfl, Nat.le_of_ble_eq_true rfl⟩ rfl (st := []) rfl (Nat.le_of_ble_eq_true rfl) dX6_judge_63 ?_
      refine r_if_ne hX dX6_judge_66 (fun hc => ?_) (fun hc => ?_)
      · replace h := in_e hc h
        refine r_aload_n hX rfl 0 rfl dX6_judge_74 ?_
        refine gf_6_9 (o := 0) hX fl_X6_62 rfl rfl dX6_judge_75 ?_
        refine gf_4_2 (o := 16) hX fl_X6_278 rfl rfl dX6_judge_78 ?_
        refine r_iload_n hX rfl 1 rfl dX6_judge_81 ?_
        obtain ⟨hk2, h⟩ := kc_e h
        refine r_aaldT hX hk2 dX6_judge_82 ?_
        refine r_iload_n hX rfl 2 rfl dX6_judge_83 ?_
        refine r_iload_n hX rfl 3 rfl dX6_judge_84 ?_
        refine r_iadd hX dX6_judge_85 ?_
        obtain ⟨hk3, h⟩ := kc_e h
        refine r_rowld (inb_lt hk2) hX hk3 dX6_judge_86 ?_
        refine r_aload_n hX rfl 0 rfl dX6_judge_87 ?_
        refine gf_6_0 (o := 0) hX fl_X6_12 rfl rfl dX6_judge_88 ?_
        refine gf_5_8 (o := 1) hX fl_X6_108 rfl rfl dX6_judge_91 ?_
        refine r_iload_n hX rfl 3 rfl dX6_judge_94 ?_
        obtain ⟨hk4, h⟩ := kc_e h
        refine ga_5_9 (o := 1) hX rfl rfl hk4 dX6_judge_95 ?_
        refine r_i2l hX dX6_judge_96 ?_
        refine r_lcmp hX dX6_judge_97 ?_
        refine r_if_eq hX dX6_judge_98 (fun hc => ?_) (fun hc => ?_)
        · replace h := ip_e hc h
          refine r_iinc (v := v3 + 1) (L2 := [(3, .int (v3 + 1)), (0, .ref (gA G 0 0)), (1, .int v1), (2, .int v2)]) hX 3 rfl rfl (by decide) rfl dX6_judge_103 ?_
          refine r_goto hX dX6_judge_106 ?_
          exact WW.sub [1, 2, 3, 0] rfl (hin1 _ (Option.some.inj h).symm)
        · replace h := in_e hc h
          refine r_iload_n hX rfl 3 rfl dX6_judge_101 ?_
          obtain ⟨y1, h, e1⟩ := wr_e h
          rw [hex1 _ e1] at h
          have g0 := Option.some.inj h
          subst g0
          exact r_iret hX hQ dX6_judge_102
      · replace h := ip_e hc h
        obtain ⟨y1, h, e1⟩ := wr_e h
        rw [hex1 _ e1] at h
        exact WW.sub [3] rfl (K69 v3 trivial h)
  have K40 : ∀ (v1 : Int32) (v2 : Int32) (_ : True), f_X6_judge_J40 s lm v1 v2 = some rz → WW X G 4 s lm 40 [(0, .ref (gA G 0 0)), (1, .int v1), (2, .int v2)] [] := by
    intro v1 v2 _ h
    unfold f_X6_judge_J40 at h
    refine r_iconst (v := 0) hX (by decide) dX6_judge_40 ?_
    refine r_istore_n (L2 := [(3, .int 0), (0, .ref (gA G 0 0)), (1, .int v1), (2, .int v2)]) hX rfl (by decide) rfl dX6_judge_41 ?_
    exact WW.sub [1, 2, 3, 0] rfl (K42 v1 v2 0 trivial h)
  unfold f_X6_judge at h
  refine r_aload_n hX rfl 0 rfl dX6_judge_0 ?_
  refine gf_6_9 (o := 0) hX fl_X6_62 rfl rfl dX6_judge_1 ?_
  refine r_iload_n hX rfl 1 rfl dX6_judge_4 ?_
  obtain ⟨x5, hc5, h⟩ := bn_e h
  refine r_callVi hX hR (c_X4_known (σ := s) X.2.1 G hc5) m1_i m1_i mf_X4_known ml_X6_267 in_X4_known se_X4_known rfl rfl ⟨rfl, rfl, Nat.le_of_ble_eq_true rfl, Nat.le_of_ble_eq_true rfl⟩ rfl (st := []) rfl (Nat.le_of_ble_eq_true rfl) dX6_judge_5 ?_
  refine r_if_ne hX dX6_judge_8 (fun hc => ?_) (fun hc => ?_)
  · replace h := in_e hc h
    refine r_aload_n hX rfl 0 rfl dX6_judge_13 ?_
    refine gf_6_9 (o := 0) hX fl_X6_62 rfl rfl dX6_judge_14 ?_
    refine r_iload_n hX rfl 1 rfl dX6_judge_17 ?_
    obtain ⟨x6, hc6, h⟩ := bn_e h
    refine r_callVi hX hR (c_X4_holds (σ := s) X.2.1 G hc6) m1_i m1_i mf_X4_holds ml_X6_268 in_X4_holds se_X4_holds rfl rfl ⟨rfl, rfl, Nat.le_of_ble_eq_true rfl, Nat.le_of_ble_eq_true rfl⟩ rfl (st := []) rfl (Nat.le_of_ble_eq_true rfl) dX6_judge_18 ?_
    refine r_if_eq hX dX6_judge_21 (fun hc => ?_) (fun hc => ?_)
    · replace h := ip_e hc h
      exact WW.sub [0, 1, 2] rfl (K40 a1 a2 trivial h)
    · replace h := in_e hc h
      refine r_aload_n hX rfl 0 rfl dX6_judge_24 ?_
      refine gf_6_9 (o := 0) hX fl_X6_62 rfl rfl dX6_judge_25 ?_
      refine gf_4_0 (o := 16) hX fl_X6_271 rfl rfl dX6_judge_28 ?_
      refine r_iload_n hX rfl 1 rfl dX6_judge_31 ?_
      obtain ⟨hk7, h⟩ := kc_e h
      refine ga_4_1 (o := 16) hX rfl rfl hk7 dX6_judge_32 ?_
      refine r_iconst (v := 2) hX (by decide) dX6_judge_33 ?_
      refine r_icmp_eq hX dX6_judge_34 (fun hc => ?_) (fun hc => ?_)
      · replace h := ip_e hc h
        exact WW.sub [0, 1, 2] rfl (K40 a1 a2 trivial h)
      · replace h := in_e hc h
        refine r_bipush (v := (-12)) hX (by decide) dX6_judge_37 ?_
        have g0 := Option.some.inj h
        subst g0
        exact r_iret hX hQ dX6_judge_39
  · replace h := ip_e hc h
    refine r_iconst (v := (-1)) hX (by decide) dX6_judge_11 ?_
    have g0 := Option.some.inj h
    subst g0
    exact r_iret hX hQ dX6_judge_12
abbrev rm_X6_image : Room := { frames := 9, cells := 0, slots := 0, locals := 422 }
def f_X6_image (s : Mm) : Option (Int32 × Mm) :=
  Option.bind (f_X5_copyFrom (s 3) (s 1)) (fun p1 => nb (setO s 3 p1) (fun s2 => Option.bind (f_X2_copyFrom (s2 5) (s2 4)) (fun p3 => nb (setO s2 5 p3) (fun s4 => nb (setO s4 0 (up2 (s4 0) 0 12 ((s4 0) 0 11))) (fun s5 => nb (setO s5 0 (up2 (s5 0) 0 13 1)) (fun s6 => some (((s6 1) 0 2), s6)))))))
set_option maxHeartbeats 4000000 in
set_option maxRecDepth 100000 in
theorem c_X6_image (l : Launch) (G : GE) {lm : Ml}  {s : Mm} {rz : Int32} {sz : Mm} (h : f_X6_image s = some (rz, sz)) : CM l G yX6_image bX6_image 1 (Option.some Jvm.ClassFile.FieldType.int) rm_X6_image [.ref (gA G 0 0)] s lm (some (.int rz)) sz lm := by
  refine CM.of (own := zR6) (L0 := [(0, .ref (gA G 0 0))]) (by decide +kernel) rfl (Nat.le_of_ble_eq_true rfl) rfl (fun X hl hX hR hQ => ?_)
  unfold f_X6_image at h
  refine r_aload_n hX rfl 0 rfl dX6_image_0 ?_
  refine gf_6_2 (o := 0) hX fl_X6_21 rfl rfl dX6_image_1 ?_
  refine r_aload_n hX rfl 0 rfl dX6_image_4 ?_
  refine gf_6_0 (o := 0) hX fl_X6_12 rfl rfl dX6_image_5 ?_
  obtain ⟨p1, hc1, h⟩ := bn_e h
  obtain ⟨s2, hs2, h⟩ := nb_e h
  refine r_callVv hX hR (c_X5_copyFrom (σ := s) X.2.1 G rfl rfl (by decide) hc1) (m2_i (by decide)) ((m2_b1 (by decide)).trans hs2.symm) mf_X5_copyFrom ml_X6_282 in_X5_copyFrom se_X5_copyFrom rfl rfl ⟨rfl, rfl, Nat.le_of_ble_eq_true rfl, Nat.le_of_ble_eq_true rfl⟩ rfl (st := []) rfl (Nat.le_of_ble_eq_true rfl) dX6_image_8 ?_
  refine r_aload_n hX rfl 0 rfl dX6_image_11 ?_
  refine gf_6_4 (o := 0) hX fl_X6_31 rfl rfl dX6_image_12 ?_
  refine r_aload_n hX rfl 0 rfl dX6_image_15 ?_
  refine gf_6_3 (o := 0) hX fl_X6_27 rfl rfl dX6_image_16 ?_
  obtain ⟨p3, hc3, h⟩ := bn_e h
  obtain ⟨s4, hs4, h⟩ := nb_e h
  refine r_callVv hX hR (c_X2_copyFrom (σ := s2) X.2.1 G rfl rfl (by decide) hc3) (m2_i (by decide)) ((m2_b1 (by decide)).trans hs4.symm) mf_X2_copyFrom ml_X6_286 in_X2_copyFrom se_X2_copyFrom rfl rfl ⟨rfl, rfl, Nat.le_of_ble_eq_true rfl, Nat.le_of_ble_eq_true rfl⟩ rfl (st := []) rfl (Nat.le_of_ble_eq_true rfl) dX6_image_19 ?_
  refine r_aload_n hX rfl 0 rfl dX6_image_22 ?_
  refine r_aload_n hX rfl 0 rfl dX6_image_23 ?_
  refine gf_6_11 (o := 0) hX fl_X6_70 rfl rfl dX6_image_24 ?_
  obtain ⟨s5, hs5, h⟩ := nb_e h
  refine pf_6_12 (o := 0) hX fl_X6_73 rfl rfl dX6_image_27 hs5.symm ?_
  refine r_aload_n hX rfl 0 rfl dX6_image_30 ?_
  refine r_iconst (v := 1) hX (by decide) dX6_image_31 ?_
  obtain ⟨s6, hs6, h⟩ := nb_e h
  refine pf_6_13 (o := 0) (Or.inr rfl) hX fl_X6_76 rfl rfl dX6_image_32 hs6.symm ?_
  refine r_aload_n hX rfl 0 rfl dX6_image_35 ?_
  refine gf_6_0 (o := 0) hX fl_X6_12 rfl rfl dX6_image_36 ?_
  refine gf_5_2 (o := 1) hX fl_X6_84 rfl rfl dX6_image_39 ?_
  have g0 := Option.some.inj h
  obtain ⟨q0, g1⟩ := Prod.mk.inj g0
  subst q0
  subst g1
  exact r_iret hX hQ dX6_image_42
abbrev rm_X6_undo : Room := { frames := 9, cells := 0, slots := 0, locals := 422 }
def f_X6_undo (s : Mm) : Option (Int32 × Mm) :=
  (if ((s 0) 0 13) = 0 then some ((-3), s) else Option.bind (f_X5_copyFrom (s 1) (s 3)) (fun p1 => nb (setO s 1 p1) (fun s2 => Option.bind (f_X2_copyFrom (s2 4) (s2 5)) (fun p3 => nb (setO s2 4 p3) (fun s4 => nb (setO s4 0 (up2 (s4 0) 0 11 ((s4 0) 0 12))) (fun s5 => some (((s5 1) 0 2), s5)))))))
set_option maxHeartbeats 4000000 in
set_option maxRecDepth 100000 in
theorem c_X6_undo (l : Launch) (G : GE) {lm : Ml}  {s : Mm} {rz : Int32} {sz : Mm} (h : f_X6_undo s = some (rz, sz)) : CM l G yX6_undo bX6_undo 1 (Option.some Jvm.ClassFile.FieldType.int) rm_X6_undo [.ref (gA G 0 0)] s lm (some (.int rz)) sz lm := by
  refine CM.of (own := zR6) (L0 := [(0, .ref (gA G 0 0))]) (by decide +kernel) rfl (Nat.le_of_ble_eq_true rfl) rfl (fun X hl hX hR hQ => ?_)
  unfold f_X6_undo at h
  refine r_aload_n hX rfl 0 rfl dX6_undo_0 ?_
  refine gf_6_13 (o := 0) hX fl_X6_76 rfl rfl dX6_undo_1 ?_
  refine r_if_ne hX dX6_undo_4 (fun hc => ?_) (fun hc => ?_)
  · replace h := in_e hc h
    refine r_aload_n hX rfl 0 rfl dX6_undo_10 ?_
    refine gf_6_0 (o := 0) hX fl_X6_12 rfl rfl dX6_undo_11 ?_
    refine r_aload_n hX rfl 0 rfl dX6_undo_14 ?_
    refine gf_6_2 (o := 0) hX fl_X6_21 rfl rfl dX6_undo_15 ?_
    obtain ⟨p1, hc1, h⟩ := bn_e h
    obtain ⟨s2, hs2, h⟩ := nb_e h
    refine r_callVv hX hR (c_X5_copyFrom (σ := s) X.2.1 G rfl rfl (by decide) hc1) (m2_i (by decide)) ((m2_b1 (by decide)).trans hs2.symm) mf_X5_copyFrom ml_X6_282 in_X5_copyFrom se_X5_copyFrom rfl rfl ⟨rfl, rfl, Nat.le_of_ble_eq_true rfl, Nat.le_of_ble_eq_true rfl⟩ rfl (st := []) rfl (Nat.le_of_ble_eq_true rfl) dX6_undo_18 ?_
    refine r_aload_n hX rfl 0 rfl dX6_undo_21 ?_
    refine gf_6_3 (o := 0) hX fl_X6_27 rfl rfl dX6_undo_22 ?_
    refine r_aload_n hX rfl 0 rfl dX6_undo_25 ?_
    refine gf_6_4 (o := 0) hX fl_X6_31 rfl rfl dX6_undo_26 ?_
    obtain ⟨p3, hc3, h⟩ := bn_e h
    obtain ⟨s4, hs4, h⟩ := nb_e h
    refine r_callVv hX hR (c_X2_copyFrom (σ := s2) X.2.1 G rfl rfl (by decide) hc3) (m2_i (by decide)) ((m2_b1 (by decide)).trans hs4.symm) mf_X2_copyFrom ml_X6_286 in_X2_copyFrom se_X2_copyFrom rfl rfl ⟨rfl, rfl, Nat.le_of_ble_eq_true rfl, Nat.le_of_ble_eq_true rfl⟩ rfl (st := []) rfl (Nat.le_of_ble_eq_true rfl) dX6_undo_29 ?_
    refine r_aload_n hX rfl 0 rfl dX6_undo_32 ?_
    refine r_aload_n hX rfl 0 rfl dX6_undo_33 ?_
    refine gf_6_12 (o := 0) hX fl_X6_73 rfl rfl dX6_undo_34 ?_
    obtain ⟨s5, hs5, h⟩ := nb_e h
    refine pf_6_11 (o := 0) hX fl_X6_70 rfl rfl dX6_undo_37 hs5.symm ?_
    refine r_aload_n hX rfl 0 rfl dX6_undo_40 ?_
    refine gf_6_0 (o := 0) hX fl_X6_12 rfl rfl dX6_undo_41 ?_
    refine gf_5_2 (o := 1) hX fl_X6_84 rfl rfl dX6_undo_44 ?_
    have g0 := Option.some.inj h
    obtain ⟨q0, g1⟩ := Prod.mk.inj g0
    subst q0
    subst g1
    exact r_iret hX hQ dX6_undo_47
  · replace h := ip_e hc h
    refine r_bipush (v := (-3)) hX (by decide) dX6_undo_7 ?_
    have g0 := Option.some.inj h
    obtain ⟨q0, g1⟩ := Prod.mk.inj g0
    subst q0
    subst g1
    exact r_iret hX hQ dX6_undo_9
abbrev rm_X6_act : Room := { frames := 98, cells := 0, slots := 0, locals := 3890 }
def f_X6_act (s : Mm) (a1 : Int32) (a2 : Int32) (a3 : Int32) : Option (Int32 × Mm) :=
  Option.bind (f_X0_forget (s 15)) (fun p1 => nb (setO s 15 p1) (fun s2 => Option.bind (f_X6_known s2 a1) (fun x3 => (if x3 = 0 then some (0, s2) else Option.bind (f_X6_within a2 0 2) (fun x4 => (if x4 = 0 then some (0, s2) else bn2 (f_X0_perform (s2 15) (s2 1) a1 a2 a3) (fun x5 p6 => nb (setO s2 15 p6) (fun s7 => some (x5, s7)))))))))
set_option maxHeartbeats 4000000 in
set_option maxRecDepth 100000 in
theorem c_X6_act (l : Launch) (G : GE) {lm : Ml}  {s : Mm} {a1 : Int32} {a2 : Int32} {a3 : Int32} {rz : Int32} {sz : Mm} (h : f_X6_act s a1 a2 a3 = some (rz, sz)) : CM l G yX6_act bX6_act 4 (Option.some Jvm.ClassFile.FieldType.int) rm_X6_act [.ref (gA G 0 0), .int a1, .int a2, .int a3] s lm (some (.int rz)) sz lm := by
  refine CM.of (own := zR6) (L0 := [(0, .ref (gA G 0 0)), (1, .int a1), (2, .int a2), (3, .int a3)]) (by decide +kernel) rfl (Nat.le_of_ble_eq_true rfl) rfl (fun X hl hX hR hQ => ?_)
  unfold f_X6_act at h
  refine r_aload_n hX rfl 0 rfl dX6_act_0 ?_
  refine gf_6_8 (o := 0) hX fl_X6_55 rfl rfl dX6_act_1 ?_
  obtain ⟨p1, hc1, h⟩ := bn_e h
  obtain ⟨s2, hs2, h⟩ := nb_e h
  refine r_callVv hX hR (c_X0_forget (σ := s) X.2.1 G hc1) m1_i hs2.symm mf_X0_forget ml_X6_289 in_X0_forget se_X0_forget rfl rfl ⟨rfl, rfl, Nat.le_of_ble_eq_true rfl, Nat.le_of_ble_eq_true rfl⟩ rfl (st := []) rfl (Nat.le_of_ble_eq_true rfl) dX6_act_4 ?_
  refine r_aload_n hX rfl 0 rfl dX6_act_7 ?_
  refine r_iload_n hX rfl 1 rfl dX6_act_8 ?_
  obtain ⟨x3, hc3, h⟩ := bn_e h
  refine r_callVi hX hR (c_X6_known X.2.1 G hc3) rfl rfl mf_X6_known ml_X6_91 in_X6_known se_X6_known rfl rfl ⟨rfl, rfl, Nat.le_of_ble_eq_true rfl, Nat.le_of_ble_eq_true rfl⟩ rfl (st := []) rfl (Nat.le_of_ble_eq_true rfl) dX6_act_9 ?_
  refine r_if_eq hX dX6_act_12 (fun hc => ?_) (fun hc => ?_)
  · replace h := ip_e hc h
    refine r_iconst (v := 0) hX (by decide) dX6_act_24 ?_
    have g0 := Option.some.inj h
    obtain ⟨q0, g1⟩ := Prod.mk.inj g0
    subst q0
    subst g1
    exact r_iret hX hQ dX6_act_25
  · replace h := in_e hc h
    refine r_iload_n hX rfl 2 rfl dX6_act_15 ?_
    refine r_iconst (v := 0) hX (by decide) dX6_act_16 ?_
    refine r_iconst (v := 2) hX (by decide) dX6_act_17 ?_
    obtain ⟨x4, hc4, h⟩ := bn_e h
    refine r_callSi hX hR (c_X6_within (σ := s2) X.2.1 G hc4) rfl rfl mf_X6_within ml_X6_80 st_X6_within ⟨rfl, rfl, Nat.le_of_ble_eq_true rfl, Nat.le_of_ble_eq_true rfl⟩ rfl (st := []) rfl (Nat.le_of_ble_eq_true rfl) dX6_act_18 ?_
    refine r_if_ne hX dX6_act_21 (fun hc => ?_) (fun hc => ?_)
    · replace h := in_e hc h
      refine r_aload_n hX rfl 0 rfl dX6_act_26 ?_
      refine gf_6_8 (o := 0) hX fl_X6_55 rfl rfl dX6_act_27 ?_
      refine r_aload_n hX rfl 0 rfl dX6_act_30 ?_
      refine gf_6_0 (o := 0) hX fl_X6_12 rfl rfl dX6_act_31 ?_
      refine r_iload_n hX rfl 1 rfl dX6_act_34 ?_
      refine r_iload_n hX rfl 2 rfl dX6_act_35 ?_
      refine r_iload_n hX rfl 3 rfl dX6_act_36 ?_
      obtain ⟨x5, p6, hc6, h⟩ := bn2_e h
      obtain ⟨s7, hs7, h⟩ := nb_e h
      refine r_callVi hX hR (c_X0_perform (σ := s2) X.2.1 G rfl (by decide) hc6) (m2_i (by decide)) ((m2_b1 (by decide)).trans hs7.symm) mf_X0_perform ml_X6_292 in_X0_perform se_X0_perform rfl rfl ⟨rfl, rfl, Nat.le_of_ble_eq_true rfl, Nat.le_of_ble_eq_true rfl⟩ rfl (st := []) rfl (Nat.le_of_ble_eq_true rfl) dX6_act_37 ?_
      have g0 := Option.some.inj h
      obtain ⟨q0, g1⟩ := Prod.mk.inj g0
      subst q0
      subst g1
      exact r_iret hX hQ dX6_act_40
    · replace h := ip_e hc h
      refine r_iconst (v := 0) hX (by decide) dX6_act_24 ?_
      have g0 := Option.some.inj h
      obtain ⟨q0, g1⟩ := Prod.mk.inj g0
      subst q0
      subst g1
      exact r_iret hX hQ dX6_act_25
abbrev rm_X6_trace : Room := { frames := 1, cells := 0, slots := 0, locals := 81 }
def f_X6_trace (s : Mm) (a1 : Int32) : Option (Int32) :=
  Option.bind (f_X0_traced (s 15) a1) (fun x1 => some x1)
set_option maxHeartbeats 4000000 in
set_option maxRecDepth 100000 in
theorem c_X6_trace (l : Launch) (G : GE) {lm : Ml}  {s : Mm} {a1 : Int32} {rz : Int32} (h : f_X6_trace s a1 = some rz) : CM l G yX6_trace bX6_trace 2 (Option.some Jvm.ClassFile.FieldType.int) rm_X6_trace [.ref (gA G 0 0), .int a1] s lm (some (.int rz)) s lm := by
  refine CM.of (own := zR6) (L0 := [(0, .ref (gA G 0 0)), (1, .int a1)]) (by decide +kernel) rfl (Nat.le_of_ble_eq_true rfl) rfl (fun X hl hX hR hQ => ?_)
  unfold f_X6_trace at h
  refine r_aload_n hX rfl 0 rfl dX6_trace_0 ?_
  refine gf_6_8 (o := 0) hX fl_X6_55 rfl rfl dX6_trace_1 ?_
  refine r_iload_n hX rfl 1 rfl dX6_trace_4 ?_
  obtain ⟨x1, hc1, h⟩ := bn_e h
  refine r_callVi hX hR (c_X0_traced (σ := s) X.2.1 G hc1) m1_i m1_i mf_X0_traced ml_X6_296 in_X0_traced se_X0_traced rfl rfl ⟨rfl, rfl, Nat.le_of_ble_eq_true rfl, Nat.le_of_ble_eq_true rfl⟩ rfl (st := []) rfl (Nat.le_of_ble_eq_true rfl) dX6_trace_5 ?_
  have g0 := Option.some.inj h
  subst g0
  exact r_iret hX hQ dX6_trace_8
abbrev rm_X6_isUnder : Room := { frames := 0, cells := 0, slots := 0, locals := 60 }
def f_X6_isUnder_B4 (v1 : Int32) (v2 : Int32) (v3 : Int32) : Option ((Int32 × Int32) ⊕ (Int32)) :=
  (if 7 ≤ v3 then wr (some 0) else (if v2 < 0 then wr (some 0) else (if v2 = v1 then wr (some 1) else (if inb v2 7 = true then some (.inl ((tAb (ix v2)), (v3 + 1))) else none))))
def f_X6_isUnder_H4 (v1 : Int32) (v2 : Int32) (v3 : Int32) : Option (Int32) :=
  iter (fun t => f_X6_isUnder_B4 v1 t.1 t.2) 200 (v2, v3)
def f_X6_isUnder (a0 : Int32) (a1 : Int32) : Option (Int32) :=
  f_X6_isUnder_H4 a1 a0 0
set_option maxHeartbeats 4000000 in
set_option maxRecDepth 100000 in
theorem c_X6_isUnder (l : Launch) (G : GE) {σ : Mm} {lm : Ml}  {a0 : Int32} {a1 : Int32} {rz : Int32} (h : f_X6_isUnder a0 a1 = some rz) : CM l G yX6_isUnder bX6_isUnder 4 (Option.some Jvm.ClassFile.FieldType.boolean) rm_X6_isUnder [.int a0, .int a1] σ lm (some (.int rz)) σ lm := by
  refine CM.of (own := zR6) (L0 := [(0, .int a0), (1, .int a1)]) (by decide +kernel) rfl (Nat.le_of_ble_eq_true rfl) rfl (fun X hl hX hR hQ => ?_)
  have K4 : ∀ (v1 : Int32) (v2 : Int32) (v3 : Int32) (_ : True), f_X6_isUnder_H4 v1 v2 v3 = some rz → WW X G 4 σ lm 4 [(1, .int v1), (2, .int v2), (3, .int v3)] [] := by
    intro v1 v2 v3 _ h
    unfold f_X6_isUnder_H4 at h
    have hit := h
    refine iter_w (P := fun t : Int32 × Int32 => WW X G 4 σ lm 4 [(1, .int v1), (2, .int t.1), (3, .int t.2)] []) (x := rz) ?_ 200 (v2, v3) hit
    clear hit
    clear h
    intro t z1 hb hin1 hex1
    obtain ⟨v2, v3⟩ := t
    have h : f_X6_isUnder_B4 v1 v2 v3 = some z1 := hb
    clear hb
    unfold f_X6_isUnder_B4 at h
    refine r_iload_n hX rfl 2 rfl dX6_isUnder_4 ?_
    refine r_bipush (v := 7) hX (by decide) dX6_isUnder_5 ?_
    refine r_icmp_ge hX dX6_isUnder_7 (fun hc => ?_) (fun hc => ?_)
    · replace h := ip_e hc h
      refine r_iconst (v := 0) hX (by decide) dX6_isUnder_33 ?_
      obtain ⟨y1, h, e1⟩ := wr_e h
      rw [hex1 _ e1] at h
      have g0 := Option.some.inj h
      subst g0
      exact r_zret hX (Or.inl rfl) hQ dX6_isUnder_34
    · replace h := in_e hc h
      refine r_iload_n hX rfl 1 rfl dX6_isUnder_10 ?_
      refine r_if_lt hX dX6_isUnder_11 (fun hc => ?_) (fun hc => ?_)
      · replace h := ip_e hc h
        refine r_iconst (v := 0) hX (by decide) dX6_isUnder_33 ?_
        obtain ⟨y1, h, e1⟩ := wr_e h
        rw [hex1 _ e1] at h
        have g0 := Option.some.inj h
        subst g0
        exact r_zret hX (Or.inl rfl) hQ dX6_isUnder_34
      · replace h := in_e hc h
        refine r_iload_n hX rfl 1 rfl dX6_isUnder_14 ?_
        refine r_iload_n hX rfl 0 rfl dX6_isUnder_15 ?_
        refine r_icmp_ne hX dX6_isUnder_16 (fun hc => ?_) (fun hc => ?_)
        · replace h := in_e hc h
          refine r_gst0 hX fl_X6_322 dX6_isUnder_21 ?_
          refine r_iload_n hX rfl 1 rfl dX6_isUnder_24 ?_
          obtain ⟨hk1, h⟩ := kc_e h
          refine r_sald0 hX hk1 dX6_isUnder_25 ?_
          refine r_istore_n (L2 := [(2, .int (tAb (ix v2))), (1, .int v1), (3, .int v3)]) hX rfl (by decide) rfl dX6_isUnder_26 ?_
          refine r_iinc (v := v3 + 1) (L2 := [(3, .int (v3 + 1)), (2, .int (tAb (ix v2))), (1, .int v1)]) hX 2 rfl rfl (by decide) rfl dX6_isUnder_27 ?_
          refine r_goto hX dX6_isUnder_30 ?_
          exact WW.sub [2, 1, 0] rfl (hin1 _ (Option.some.inj h).symm)
        · replace h := ip_e hc h
          refine r_iconst (v := 1) hX (by decide) dX6_isUnder_19 ?_
          obtain ⟨y1, h, e1⟩ := wr_e h
          rw [hex1 _ e1] at h
          have g0 := Option.some.inj h
          subst g0
          exact r_zret hX (Or.inr rfl) hQ dX6_isUnder_20
  unfold f_X6_isUnder at h
  refine r_iload_n hX rfl 0 rfl dX6_isUnder_0 ?_
  refine r_istore_n (L2 := [(2, .int a0), (0, .int a0), (1, .int a1)]) hX rfl (by decide) rfl dX6_isUnder_1 ?_
  refine r_iconst (v := 0) hX (by decide) dX6_isUnder_2 ?_
  refine r_istore_n (L2 := [(3, .int 0), (2, .int a0), (0, .int a0), (1, .int a1)]) hX rfl (by decide) rfl dX6_isUnder_3 ?_
  exact WW.sub [3, 1, 0] rfl (K4 a1 a0 0 trivial h)
abbrev rm_X6_taken : Room := { frames := 2, cells := 0, slots := 0, locals := 103 }
def f_X6_taken (s : Mm) (a1 : Int32) (a2 : Int32) : Option (Int32) :=
  Option.bind (f_X6_within a2 0 6) (fun x1 => (if x1 = 0 then some (-2) else Option.bind (f_X6_known s a1) (fun x2 => (if x2 = 0 then some (-11) else (if inb a1 6 = true then Option.bind (f_X6_isUnder ((s 1) 5 (ix a1)) a2) (fun x4 => (if x4 = 0 then some (-12) else some ((s 1) 5 (ix a1)))) else none)))))
set_option maxHeartbeats 4000000 in
set_option maxRecDepth 100000 in
theorem c_X6_taken (l : Launch) (G : GE) {lm : Ml}  {s : Mm} {a1 : Int32} {a2 : Int32} {rz : Int32} (h : f_X6_taken s a1 a2 = some rz) : CM l G yX6_taken bX6_taken 4 (Option.some Jvm.ClassFile.FieldType.int) rm_X6_taken [.ref (gA G 0 0), .int a1, .int a2] s lm (some (.int rz)) s lm := by
  refine CM.of (own := zR6) (L0 := [(0, .ref (gA G 0 0)), (1, .int a1), (2, .int a2)]) (by decide +kernel) rfl (Nat.le_of_ble_eq_true rfl) rfl (fun X hl hX hR hQ => ?_)
  unfold f_X6_taken at h
  refine r_iload_n hX rfl 2 rfl dX6_taken_0 ?_
  refine r_iconst (v := 0) hX (by decide) dX6_taken_1 ?_
  refine r_bipush (v := 6) hX (by decide) dX6_taken_2 ?_
  obtain ⟨x1, hc1, h⟩ := bn_e h
  refine r_callSi hX hR (c_X6_within (σ := s) X.2.1 G hc1) rfl rfl mf_X6_within ml_X6_80 st_X6_within ⟨rfl, rfl, Nat.le_of_ble_eq_true rfl, Nat.le_of_ble_eq_true rfl⟩ rfl (st := []) rfl (Nat.le_of_ble_eq_true rfl) dX6_taken_4 ?_
  refine r_if_ne hX dX6_taken_7 (fun hc => ?_) (fun hc => ?_)
  · replace h := in_e hc h
    refine r_aload_n hX rfl 0 rfl dX6_taken_13 ?_
    refine r_iload_n hX rfl 1 rfl dX6_taken_14 ?_
    obtain ⟨x2, hc2, h⟩ := bn_e h
    refine r_callVi hX hR (c_X6_known X.2.1 G hc2) rfl rfl mf_X6_known ml_X6_91 in_X6_known se_X6_known rfl rfl ⟨rfl, rfl, Nat.le_of_ble_eq_true rfl, Nat.le_of_ble_eq_true rfl⟩ rfl (st := []) rfl (Nat.le_of_ble_eq_true rfl) dX6_taken_15 ?_
    refine r_if_ne hX dX6_taken_18 (fun hc => ?_) (fun hc => ?_)
    · replace h := in_e hc h
      refine r_aload_n hX rfl 0 rfl dX6_taken_24 ?_
      refine gf_6_0 (o := 0) hX fl_X6_12 rfl rfl dX6_taken_25 ?_
      refine gf_5_4 (o := 1) hX fl_X6_95 rfl rfl dX6_taken_28 ?_
      refine r_iload_n hX rfl 1 rfl dX6_taken_31 ?_
      obtain ⟨hk3, h⟩ := kc_e h
      refine ga_5_5 (o := 1) hX rfl rfl hk3 dX6_taken_32 ?_
      refine r_istore_n (L2 := [(3, .int ((s 1) 5 (ix a1))), (0, .ref (gA G 0 0)), (1, .int a1), (2, .int a2)]) hX rfl (by decide) rfl dX6_taken_33 ?_
      refine r_iload_n hX rfl 0 rfl dX6_taken_34 ?_
      refine r_iload_n hX rfl 3 rfl dX6_taken_35 ?_
      obtain ⟨x4, hc4, h⟩ := bn_e h
      refine r_callSi hX hR (c_X6_isUnder (σ := s) X.2.1 G hc4) rfl rfl mf_X6_isUnder ml_X6_299 st_X6_isUnder ⟨rfl, rfl, Nat.le_of_ble_eq_true rfl, Nat.le_of_ble_eq_true rfl⟩ rfl (st := []) rfl (Nat.le_of_ble_eq_true rfl) dX6_taken_36 ?_
      refine r_if_eq hX dX6_taken_39 (fun hc => ?_) (fun hc => ?_)
      · replace h := ip_e hc h
        refine r_bipush (v := (-12)) hX (by decide) dX6_taken_46 ?_
        have g0 := Option.some.inj h
        subst g0
        exact r_iret hX hQ dX6_taken_48
      · replace h := in_e hc h
        refine r_iload_n hX rfl 0 rfl dX6_taken_42 ?_
        refine r_goto hX dX6_taken_43 ?_
        have g0 := Option.some.inj h
        subst g0
        exact r_iret hX hQ dX6_taken_48
    · replace h := ip_e hc h
      refine r_bipush (v := (-11)) hX (by decide) dX6_taken_21 ?_
      have g0 := Option.some.inj h
      subst g0
      exact r_iret hX hQ dX6_taken_23
  · replace h := ip_e hc h
    refine r_bipush (v := (-2)) hX (by decide) dX6_taken_10 ?_
    have g0 := Option.some.inj h
    subst g0
    exact r_iret hX hQ dX6_taken_12
abbrev rm_X6_count : Room := { frames := 0, cells := 0, slots := 0, locals := 60 }
def f_X6_count (s : Mm) (a1 : Int32) : Option (Int32) :=
  (if a1 = 0 then some ((s 1) 0 2) else (if a1 = 1 then some ((s 0) 0 10) else (if a1 = 2 then some ((s 4) 0 0) else (if a1 = 3 then some ((s 4) 0 1) else (if a1 = 4 then some ((s 4) 0 2) else (if a1 = 5 then some ((s 6) 0 0) else (if a1 = 6 then some ((s 15) 0 0) else some (-2))))))))
set_option maxHeartbeats 4000000 in
set_option maxRecDepth 100000 in
theorem c_X6_count (l : Launch) (G : GE) {lm : Ml}  {s : Mm} {a1 : Int32} {rz : Int32} (h : f_X6_count s a1 = some rz) : CM l G yX6_count bX6_count 2 (Option.some Jvm.ClassFile.FieldType.int) rm_X6_count [.ref (gA G 0 0), .int a1] s lm (some (.int rz)) s lm := by
  refine CM.of (own := zR6) (L0 := [(0, .ref (gA G 0 0)), (1, .int a1)]) (by decide +kernel) rfl (Nat.le_of_ble_eq_true rfl) rfl (fun X hl hX hR hQ => ?_)
  unfold f_X6_count at h
  refine r_iload_n hX rfl 1 rfl dX6_count_0 ?_
  by_cases hc0 : a1 = 0
  · replace h := ip_e hc0 h
    refine r_tswI (k := 0) (off := 43) (tgt := 44) hX hc0 (by decide) (by decide) (by decide) dX6_count_1 ?_
    refine r_aload_n hX rfl 0 rfl dX6_count_44 ?_
    refine gf_6_0 (o := 0) hX fl_X6_12 rfl rfl dX6_count_45 ?_
    refine gf_5_2 (o := 1) hX fl_X6_84 rfl rfl dX6_count_48 ?_
    have g0 := Option.some.inj h
    subst g0
    exact r_iret hX hQ dX6_count_51
  · replace h := in_e hc0 h
    by_cases hc1 : a1 = 1
    · replace h := ip_e hc1 h
      refine r_tswI (k := 1) (off := 51) (tgt := 52) hX hc1 (by decide) (by decide) (by decide) dX6_count_1 ?_
      refine r_aload_n hX rfl 0 rfl dX6_count_52 ?_
      refine gf_6_10 (o := 0) hX fl_X6_66 rfl rfl dX6_count_53 ?_
      have g0 := Option.some.inj h
      subst g0
      exact r_iret hX hQ dX6_count_56
    · replace h := in_e hc1 h
      by_cases hc2 : a1 = 2
      · replace h := ip_e hc2 h
        refine r_tswI (k := 2) (off := 56) (tgt := 57) hX hc2 (by decide) (by decide) (by decide) dX6_count_1 ?_
        refine r_aload_n hX rfl 0 rfl dX6_count_57 ?_
        refine gf_6_3 (o := 0) hX fl_X6_27 rfl rfl dX6_count_58 ?_
        refine gf_2_0 (o := 4) hX fl_X6_223 rfl rfl dX6_count_61 ?_
        have g0 := Option.some.inj h
        subst g0
        exact r_iret hX hQ dX6_count_64
      · replace h := in_e hc2 h
        by_cases hc3 : a1 = 3
        · replace h := ip_e hc3 h
          refine r_tswI (k := 3) (off := 64) (tgt := 65) hX hc3 (by decide) (by decide) (by decide) dX6_count_1 ?_
          refine r_aload_n hX rfl 0 rfl dX6_count_65 ?_
          refine gf_6_3 (o := 0) hX fl_X6_27 rfl rfl dX6_count_66 ?_
          refine gf_2_1 (o := 4) hX fl_X6_239 rfl rfl dX6_count_69 ?_
          have g0 := Option.some.inj h
          subst g0
          exact r_iret hX hQ dX6_count_72
        · replace h := in_e hc3 h
          by_cases hc4 : a1 = 4
          · replace h := ip_e hc4 h
            refine r_tswI (k := 4) (off := 72) (tgt := 73) hX hc4 (by decide) (by decide) (by decide) dX6_count_1 ?_
            refine r_aload_n hX rfl 0 rfl dX6_count_73 ?_
            refine gf_6_3 (o := 0) hX fl_X6_27 rfl rfl dX6_count_74 ?_
            refine gf_2_2 (o := 4) hX fl_X6_254 rfl rfl dX6_count_77 ?_
            have g0 := Option.some.inj h
            subst g0
            exact r_iret hX hQ dX6_count_80
          · replace h := in_e hc4 h
            by_cases hc5 : a1 = 5
            · replace h := ip_e hc5 h
              refine r_tswI (k := 5) (off := 80) (tgt := 81) hX hc5 (by decide) (by decide) (by decide) dX6_count_1 ?_
              refine r_aload_n hX rfl 0 rfl dX6_count_81 ?_
              refine gf_6_5 (o := 0) hX fl_X6_37 rfl rfl dX6_count_82 ?_
              refine gf_3_0 (o := 6) hX fl_X6_162 rfl rfl dX6_count_85 ?_
              have g0 := Option.some.inj h
              subst g0
              exact r_iret hX hQ dX6_count_88
            · replace h := in_e hc5 h
              by_cases hc6 : a1 = 6
              · replace h := ip_e hc6 h
                refine r_tswI (k := 6) (off := 88) (tgt := 89) hX hc6 (by decide) (by decide) (by decide) dX6_count_1 ?_
                refine r_aload_n hX rfl 0 rfl dX6_count_89 ?_
                refine gf_6_8 (o := 0) hX fl_X6_55 rfl rfl dX6_count_90 ?_
                refine gf_0_0 (o := 15) hX fl_X6_302 rfl rfl dX6_count_93 ?_
                have g0 := Option.some.inj h
                subst g0
                exact r_iret hX hQ dX6_count_96
              · replace h := in_e hc6 h
                have hD : WW X G 2 s lm 97 [(0, .ref (gA G 0 0)), (1, .int a1)] [] := by
                  refine r_bipush (v := (-2)) hX (by decide) dX6_count_97 ?_
                  have g0 := Option.some.inj h
                  subst g0
                  exact r_iret hX hQ dX6_count_99
                refine r_tswD (tgt := 97) hX ?_ (by decide) dX6_count_1 hD
                have j0 := i32n (n := 0) hc0 rfl
                have j1 := i32n (n := 1) hc1 rfl
                have j2 := i32n (n := 2) hc2 rfl
                have j3 := i32n (n := 3) hc3 rfl
                have j4 := i32n (n := 4) hc4 rfl
                have j5 := i32n (n := 5) hc5 rfl
                have j6 := i32n (n := 6) hc6 rfl
                omega
abbrev rm_X6_tape : Room := { frames := 1, cells := 0, slots := 0, locals := 84 }
def f_X6_tape (s : Mm) (lm : Ml) (a1 : Int32) (a2 : Int32) (a3 : Int32) : Option (Int32 × Mm × Ml) :=
  Option.bind (f_X4_known (s 16) a1) (fun x1 => (if x1 = 0 then some ((-1), s, lm) else (if a2 = (-1) then (if inb a1 6 = true then nb (setO s 16 (up2 (s 16) 1 (ix a1) (-1))) (fun s7 => some (1, s7, lm)) else none) else Option.bind (f_X6_within a2 0 4) (fun x2 => (if x2 = 0 then some ((-2), s, lm) else (if a3 ≤ 60 then (if 0 ≤ a3 then bn2 (f_X4_make (s 16) lm a1 a2 a3) (fun p3 lm4 => nb (setO s 16 p3) (fun s5 => some (1, s5, lm4))) else some ((-14), s, lm)) else some ((-2), s, lm)))))))
set_option maxHeartbeats 4000000 in
set_option maxRecDepth 100000 in
theorem c_X6_tape (l : Launch) (G : GE)  {s : Mm} {lm : Ml} {a1 : Int32} {a2 : Int32} {a3 : Int32} {rz : Int32} {sz : Mm} {lmz : Ml} (h : f_X6_tape s lm a1 a2 a3 = some (rz, sz, lmz)) : CM l G yX6_tape bX6_tape 4 (Option.some Jvm.ClassFile.FieldType.int) rm_X6_tape [.ref (gA G 0 0), .int a1, .int a2, .int a3] s lm (some (.int rz)) sz lmz := by
  refine CM.of (own := zR6) (L0 := [(0, .ref (gA G 0 0)), (1, .int a1), (2, .int a2), (3, .int a3)]) (by decide +kernel) rfl (Nat.le_of_ble_eq_true rfl) rfl (fun X hl hX hR hQ => ?_)
  unfold f_X6_tape at h
  refine r_aload_n hX rfl 0 rfl dX6_tape_0 ?_
  refine gf_6_9 (o := 0) hX fl_X6_62 rfl rfl dX6_tape_1 ?_
  refine r_iload_n hX rfl 1 rfl dX6_tape_4 ?_
  obtain ⟨x1, hc1, h⟩ := bn_e h
  refine r_callVi hX hR (c_X4_known (σ := s) X.2.1 G hc1) m1_i m1_i mf_X4_known ml_X6_267 in_X4_known se_X4_known rfl rfl ⟨rfl, rfl, Nat.le_of_ble_eq_true rfl, Nat.le_of_ble_eq_true rfl⟩ rfl (st := []) rfl (Nat.le_of_ble_eq_true rfl) dX6_tape_5 ?_
  refine r_if_ne hX dX6_tape_8 (fun hc => ?_) (fun hc => ?_)
  · replace h := in_e hc h
    refine r_iload_n hX rfl 2 rfl dX6_tape_13 ?_
    refine r_iconst (v := (-1)) hX (by decide) dX6_tape_14 ?_
    refine r_icmp_ne hX dX6_tape_15 (fun hc => ?_) (fun hc => ?_)
    · replace h := in_e hc h
      refine r_iload_n hX rfl 2 rfl dX6_tape_30 ?_
      refine r_iconst (v := 0) hX (by decide) dX6_tape_31 ?_
      refine r_iconst (v := 4) hX (by decide) dX6_tape_32 ?_
      obtain ⟨x2, hc2, h⟩ := bn_e h
      refine r_callSi hX hR (c_X6_within (σ := s) X.2.1 G hc2) rfl rfl mf_X6_within ml_X6_80 st_X6_within ⟨rfl, rfl, Nat.le_of_ble_eq_true rfl, Nat.le_of_ble_eq_true rfl⟩ rfl (st := []) rfl (Nat.le_of_ble_eq_true rfl) dX6_tape_33 ?_
      refine r_if_eq hX dX6_tape_36 (fun hc => ?_) (fun hc => ?_)
      · replace h := ip_e hc h
        refine r_bipush (v := (-2)) hX (by decide) dX6_tape_45 ?_
        have g0 := Option.some.inj h
        obtain ⟨q0, g1⟩ := Prod.mk.inj g0
        obtain ⟨q1, g2⟩ := Prod.mk.inj g1
        subst q0
        subst q1
        subst g2
        exact r_iret hX hQ dX6_tape_47
      · replace h := in_e hc h
        refine r_iload_n hX rfl 3 rfl dX6_tape_39 ?_
        refine r_bipush (v := 60) hX (by decide) dX6_tape_40 ?_
        refine r_icmp_le hX dX6_tape_42 (fun hc => ?_) (fun hc => ?_)
        · replace h := ip_e hc h
          refine r_iload_n hX rfl 3 rfl dX6_tape_48 ?_
          refine r_if_ge hX dX6_tape_49 (fun hc => ?_) (fun hc => ?_)
          · replace h := ip_e hc h
            refine r_aload_n hX rfl 0 rfl dX6_tape_55 ?_
            refine gf_6_9 (o := 0) hX fl_X6_62 rfl rfl dX6_tape_56 ?_
            refine r_iload_n hX rfl 1 rfl dX6_tape_59 ?_
            refine r_iload_n hX rfl 2 rfl dX6_tape_60 ?_
            refine r_iload_n hX rfl 3 rfl dX6_tape_61 ?_
            obtain ⟨p3, lm4, hc4, h⟩ := bn2_e h
            obtain ⟨s5, hs5, h⟩ := nb_e h
            refine r_callVv hX hR (c_X4_make (σ := s) X.2.1 G hc4) m1_i hs5.symm mf_X4_make ml_X6_305 in_X4_make se_X4_make rfl rfl ⟨rfl, rfl, Nat.le_of_ble_eq_true rfl, Nat.le_of_ble_eq_true rfl⟩ rfl (st := []) rfl (Nat.le_of_ble_eq_true rfl) dX6_tape_62 ?_
            refine r_iconst (v := 1) hX (by decide) dX6_tape_65 ?_
            have g0 := Option.some.inj h
            obtain ⟨q0, g1⟩ := Prod.mk.inj g0
            obtain ⟨q1, g2⟩ := Prod.mk.inj g1
            subst q0
            subst q1
            subst g2
            exact r_iret hX hQ dX6_tape_66
          · replace h := in_e hc h
            refine r_bipush (v := (-14)) hX (by decide) dX6_tape_52 ?_
            have g0 := Option.some.inj h
            obtain ⟨q0, g1⟩ := Prod.mk.inj g0
            obtain ⟨q1, g2⟩ := Prod.mk.inj g1
            subst q0
            subst q1
            subst g2
            exact r_iret hX hQ dX6_tape_54
        · replace h := in_e hc h
          refine r_bipush (v := (-2)) hX (by decide) dX6_tape_45 ?_
          have g0 := Option.some.inj h
          obtain ⟨q0, g1⟩ := Prod.mk.inj g0
          obtain ⟨q1, g2⟩ := Prod.mk.inj g1
          subst q0
          subst q1
          subst g2
          exact r_iret hX hQ dX6_tape_47
    · replace h := ip_e hc h
      refine r_aload_n hX rfl 0 rfl dX6_tape_18 ?_
      refine gf_6_9 (o := 0) hX fl_X6_62 rfl rfl dX6_tape_19 ?_
      refine gf_4_0 (o := 16) hX fl_X6_271 rfl rfl dX6_tape_22 ?_
      refine r_iload_n hX rfl 1 rfl dX6_tape_25 ?_
      refine r_iconst (v := (-1)) hX (by decide) dX6_tape_26 ?_
      obtain ⟨hk6, h⟩ := kc_e h
      obtain ⟨s7, hs7, h⟩ := nb_e h
      refine pa_4_1 (o := 16) hX rfl rfl hk6 hs7.symm dX6_tape_27 ?_
      refine r_iconst (v := 1) hX (by decide) dX6_tape_28 ?_
      have g0 := Option.some.inj h
      obtain ⟨q0, g1⟩ := Prod.mk.inj g0
      obtain ⟨q1, g2⟩ := Prod.mk.inj g1
      subst q0
      subst q1
      subst g2
      exact r_iret hX hQ dX6_tape_29
  · replace h := ip_e hc h
    refine r_iconst (v := (-1)) hX (by decide) dX6_tape_11 ?_
    have g0 := Option.some.inj h
    obtain ⟨q0, g1⟩ := Prod.mk.inj g0
    obtain ⟨q1, g2⟩ := Prod.mk.inj g1
    subst q0
    subst q1
    subst g2
    exact r_iret hX hQ dX6_tape_12
abbrev rm_X6_item : Room := { frames := 2, cells := 0, slots := 0, locals := 104 }
def f_X6_item (s : Mm) (lm : Ml) (a1 : Int32) (a2 : Int32) (a3 : Int64) : Option (Int32 × Ml) :=
  Option.bind (f_X4_known (s 16) a1) (fun x1 => (if x1 = 0 then some ((-1), lm) else Option.bind (f_X4_holds (s 16) a1) (fun x2 => (if x2 = 0 then some ((-11), lm) else Option.bind (f_X4_hasPlace (s 16) a1 a2.toInt64) (fun x3 => (if x3 = 0 then some ((-13), lm) else (if inb a1 6 = true then (if inb a1 6 = true then Option.bind (f_X4_cut ((s 16) 1 (ix a1)) a3) (fun x6 => (if inb a2 60 = true then nb (setO lm 16 (up2L (lm 16) (4 + ix a1) (ix a2) x6)) (fun lm7 => some (1, lm7)) else none)) else none) else none)))))))
set_option maxHeartbeats 4000000 in
set_option maxRecDepth 100000 in
theorem c_X6_item (l : Launch) (G : GE)  {s : Mm} {lm : Ml} {a1 : Int32} {a2 : Int32} {a3 : Int64} {rz : Int32} {lmz : Ml} (h : f_X6_item s lm a1 a2 a3 = some (rz, lmz)) : CM l G yX6_item bX6_item 5 (Option.some Jvm.ClassFile.FieldType.int) rm_X6_item [.ref (gA G 0 0), .int a1, .int a2, .long a3] s lm (some (.int rz)) s lmz := by
  refine CM.of (own := zR6) (L0 := [(0, .ref (gA G 0 0)), (1, .int a1), (2, .int a2), (3, .long a3)]) (by decide +kernel) rfl (Nat.le_of_ble_eq_true rfl) rfl (fun X hl hX hR hQ => ?_)
  unfold f_X6_item at h
  refine r_aload_n hX rfl 0 rfl dX6_item_0 ?_
  refine gf_6_9 (o := 0) hX fl_X6_62 rfl rfl dX6_item_1 ?_
  refine r_iload_n hX rfl 1 rfl dX6_item_4 ?_
  obtain ⟨x1, hc1, h⟩ := bn_e h
  refine r_callVi hX hR (c_X4_known (σ := s) X.2.1 G hc1) m1_i m1_i mf_X4_known ml_X6_267 in_X4_known se_X4_known rfl rfl ⟨rfl, rfl, Nat.le_of_ble_eq_true rfl, Nat.le_of_ble_eq_true rfl⟩ rfl (st := []) rfl (Nat.le_of_ble_eq_true rfl) dX6_item_5 ?_
  refine r_if_ne hX dX6_item_8 (fun hc => ?_) (fun hc => ?_)
  · replace h := in_e hc h
    refine r_aload_n hX rfl 0 rfl dX6_item_13 ?_
    refine gf_6_9 (o := 0) hX fl_X6_62 rfl rfl dX6_item_14 ?_
    refine r_iload_n hX rfl 1 rfl dX6_item_17 ?_
    obtain ⟨x2, hc2, h⟩ := bn_e h
    refine r_callVi hX hR (c_X4_holds (σ := s) X.2.1 G hc2) m1_i m1_i mf_X4_holds ml_X6_268 in_X4_holds se_X4_holds rfl rfl ⟨rfl, rfl, Nat.le_of_ble_eq_true rfl, Nat.le_of_ble_eq_true rfl⟩ rfl (st := []) rfl (Nat.le_of_ble_eq_true rfl) dX6_item_18 ?_
    refine r_if_ne hX dX6_item_21 (fun hc => ?_) (fun hc => ?_)
    · replace h := in_e hc h
      refine r_aload_n hX rfl 0 rfl dX6_item_27 ?_
      refine gf_6_9 (o := 0) hX fl_X6_62 rfl rfl dX6_item_28 ?_
      refine r_iload_n hX rfl 1 rfl dX6_item_31 ?_
      refine r_iload_n hX rfl 2 rfl dX6_item_32 ?_
      refine r_i2l hX dX6_item_33 ?_
      obtain ⟨x3, hc3, h⟩ := bn_e h
      refine r_callVi hX hR (c_X4_hasPlace (σ := s) X.2.1 G hc3) m1_i m1_i mf_X4_hasPlace ml_X6_274 in_X4_hasPlace se_X4_hasPlace rfl rfl ⟨rfl, rfl, Nat.le_of_ble_eq_true rfl, Nat.le_of_ble_eq_true rfl⟩ rfl (st := []) rfl (Nat.le_of_ble_eq_true rfl) dX6_item_34 ?_
      refine r_if_ne hX dX6_item_37 (fun hc => ?_) (fun hc => ?_)
      · replace h := in_e hc h
        refine r_aload_n hX rfl 0 rfl dX6_item_43 ?_
        refine gf_6_9 (o := 0) hX fl_X6_62 rfl rfl dX6_item_44 ?_
        refine gf_4_2 (o := 16) hX fl_X6_278 rfl rfl dX6_item_47 ?_
        refine r_iload_n hX rfl 1 rfl dX6_item_50 ?_
        obtain ⟨hk4, h⟩ := kc_e h
        refine r_aaldT hX hk4 dX6_item_51 ?_
        refine r_iload_n hX rfl 2 rfl dX6_item_52 ?_
        refine r_aload_n hX rfl 0 rfl dX6_item_53 ?_
        refine gf_6_9 (o := 0) hX fl_X6_62 rfl rfl dX6_item_54 ?_
        refine gf_4_0 (o := 16) hX fl_X6_271 rfl rfl dX6_item_57 ?_
        refine r_iload_n hX rfl 1 rfl dX6_item_60 ?_
        obtain ⟨hk5, h⟩ := kc_e h
        refine ga_4_1 (o := 16) hX rfl rfl hk5 dX6_item_61 ?_
        refine r_lload_n hX rfl 3 rfl dX6_item_62 ?_
        obtain ⟨x6, hc6, h⟩ := bn_e h
        refine r_callSi hX hR (c_X4_cut (σ := s) X.2.1 G hc6) rfl rfl mf_X4_cut ml_X6_309 st_X4_cut ⟨rfl, rfl, Nat.le_of_ble_eq_true rfl, Nat.le_of_ble_eq_true rfl⟩ rfl (st := [.int a2, .ref (gA G 16 (4 + ix a1))]) rfl (Nat.le_of_ble_eq_true rfl) dX6_item_63 ?_
        obtain ⟨hk8, h⟩ := kc_e h
        obtain ⟨lm7, hlm7, h⟩ := nb_e h
        refine r_rowst (inb_lt hk4) hX hk8 hlm7.symm dX6_item_66 ?_
        refine r_iconst (v := 1) hX (by decide) dX6_item_67 ?_
        have g0 := Option.some.inj h
        obtain ⟨q0, g1⟩ := Prod.mk.inj g0
        subst q0
        subst g1
        exact r_iret hX hQ dX6_item_68
      · replace h := ip_e hc h
        refine r_bipush (v := (-13)) hX (by decide) dX6_item_40 ?_
        have g0 := Option.some.inj h
        obtain ⟨q0, g1⟩ := Prod.mk.inj g0
        subst q0
        subst g1
        exact r_iret hX hQ dX6_item_42
    · replace h := ip_e hc h
      refine r_bipush (v := (-11)) hX (by decide) dX6_item_24 ?_
      have g0 := Option.some.inj h
      obtain ⟨q0, g1⟩ := Prod.mk.inj g0
      subst q0
      subst g1
      exact r_iret hX hQ dX6_item_26
  · replace h := ip_e hc h
    refine r_iconst (v := (-1)) hX (by decide) dX6_item_11 ?_
    have g0 := Option.some.inj h
    obtain ⟨q0, g1⟩ := Prod.mk.inj g0
    subst q0
    subst g1
    exact r_iret hX hQ dX6_item_12
abbrev rm_X6_read : Room := { frames := 2, cells := 0, slots := 0, locals := 104 }
def f_X6_read_J24 (s : Mm) (lm : Ml) : Option (Int64) :=
  some (-9223372036854775808)
def f_X6_read (s : Mm) (lm : Ml) (a1 : Int32) (a2 : Int32) : Option (Int64) :=
  Option.bind (f_X4_known (s 16) a1) (fun x1 => (if x1 = 0 then f_X6_read_J24 s lm else Option.bind (f_X4_hasPlace (s 16) a1 a2.toInt64) (fun x2 => (if x2 = 0 then f_X6_read_J24 s lm else (if inb a1 6 = true then (if inb a2 60 = true then some (lm 16 (4 + ix a1) (ix a2)) else none) else none)))))
set_option maxHeartbeats 4000000 in
set_option maxRecDepth 100000 in
theorem c_X6_read (l : Launch) (G : GE)  {s : Mm} {lm : Ml} {a1 : Int32} {a2 : Int32} {rz : Int64} (h : f_X6_read s lm a1 a2 = some rz) : CM l G yX6_read bX6_read 3 (Option.some Jvm.ClassFile.FieldType.long) rm_X6_read [.ref (gA G 0 0), .int a1, .int a2] s lm (some (.long rz)) s lm := by
  refine CM.of (own := zR6) (L0 := [(0, .ref (gA G 0 0)), (1, .int a1), (2, .int a2)]) (by decide +kernel) rfl (Nat.le_of_ble_eq_true rfl) rfl (fun X hl hX hR hQ => ?_)
  have K24 : ∀ (_ : True), f_X6_read_J24 s lm = some rz → WW X G 3 s lm 24 [] [] := by
    intro _ h
    unfold f_X6_read_J24 at h
    refine r_ldc2 hX cl_X6_233 dX6_read_24 ?_
    have g0 := Option.some.inj h
    subst g0
    exact r_lret hX hQ dX6_read_27
  unfold f_X6_read at h
  refine r_aload_n hX rfl 0 rfl dX6_read_0 ?_
  refine gf_6_9 (o := 0) hX fl_X6_62 rfl rfl dX6_read_1 ?_
  refine r_iload_n hX rfl 1 rfl dX6_read_4 ?_
  obtain ⟨x1, hc1, h⟩ := bn_e h
  refine r_callVi hX hR (c_X4_known (σ := s) X.2.1 G hc1) m1_i m1_i mf_X4_known ml_X6_267 in_X4_known se_X4_known rfl rfl ⟨rfl, rfl, Nat.le_of_ble_eq_true rfl, Nat.le_of_ble_eq_true rfl⟩ rfl (st := []) rfl (Nat.le_of_ble_eq_true rfl) dX6_read_5 ?_
  refine r_if_eq hX dX6_read_8 (fun hc => ?_) (fun hc => ?_)
  · replace h := ip_e hc h
    exact WW.sub [] rfl (K24 trivial h)
  · replace h := in_e hc h
    refine r_aload_n hX rfl 0 rfl dX6_read_11 ?_
    refine gf_6_9 (o := 0) hX fl_X6_62 rfl rfl dX6_read_12 ?_
    refine r_iload_n hX rfl 1 rfl dX6_read_15 ?_
    refine r_iload_n hX rfl 2 rfl dX6_read_16 ?_
    refine r_i2l hX dX6_read_17 ?_
    obtain ⟨x2, hc2, h⟩ := bn_e h
    refine r_callVi hX hR (c_X4_hasPlace (σ := s) X.2.1 G hc2) m1_i m1_i mf_X4_hasPlace ml_X6_274 in_X4_hasPlace se_X4_hasPlace rfl rfl ⟨rfl, rfl, Nat.le_of_ble_eq_true rfl, Nat.le_of_ble_eq_true rfl⟩ rfl (st := []) rfl (Nat.le_of_ble_eq_true rfl) dX6_read_18 ?_
    refine r_if_ne hX dX6_read_21 (fun hc => ?_) (fun hc => ?_)
    · replace h := in_e hc h
      refine r_aload_n hX rfl 0 rfl dX6_read_28 ?_
      refine gf_6_9 (o := 0) hX fl_X6_62 rfl rfl dX6_read_29 ?_
      refine gf_4_2 (o := 16) hX fl_X6_278 rfl rfl dX6_read_32 ?_
      refine r_iload_n hX rfl 1 rfl dX6_read_35 ?_
      obtain ⟨hk3, h⟩ := kc_e h
      refine r_aaldT hX hk3 dX6_read_36 ?_
      refine r_iload_n hX rfl 2 rfl dX6_read_37 ?_
      obtain ⟨hk4, h⟩ := kc_e h
      refine r_rowld (inb_lt hk3) hX hk4 dX6_read_38 ?_
      have g0 := Option.some.inj h
      subst g0
      exact r_lret hX hQ dX6_read_39
    · replace h := ip_e hc h
      exact WW.sub [] rfl (K24 trivial h)
abbrev rm_X6_shift : Room := { frames := 8, cells := 0, slots := 0, locals := 400 }
def f_X6_shift (s : Mm) (lm : Ml) (a1 : Int32) (a2 : Int32) (a3 : Int32) (a4 : Int32) (a5 : Int32) : Option (Int32 × Ml) :=
  Option.bind (f_X4_known (s 16) a1) (fun x1 => (if x1 = 0 then some ((-1), lm) else Option.bind (f_X4_known (s 16) a3) (fun x2 => (if x2 = 0 then some ((-1), lm) else Option.bind (f_X4_holds (s 16) a1) (fun x3 => (if x3 = 0 then some ((-11), lm) else Option.bind (f_X4_holds (s 16) a3) (fun x4 => (if x4 = 0 then some ((-11), lm) else (if inb a1 6 = true then (if inb a3 6 = true then (if ((s 16) 1 (ix a1)) = ((s 16) 1 (ix a3)) then Option.bind (f_X4_hasRoom (s 16) a1 a2 a5) (fun x7 => (if x7 = 0 then some ((-13), lm) else Option.bind (f_X4_hasRoom (s 16) a3 a4 a5) (fun x8 => (if x8 = 0 then some ((-13), lm) else (if inb a1 6 = true then (if inb a3 6 = true then (if cpok a2 a4 a5 60 60 = true then nb (setO lm 16 (setO (lm 16) (4 + ix a3) (va_cpy (lm 16 (4 + ix a1)) (lm 16 (4 + ix a3)) (ix a2) (ix a4) (ix a5)))) (fun lm12 => some (a5, lm12)) else none) else none) else none))))) else some ((-12), lm)) else none) else none)))))))))
set_option maxHeartbeats 4000000 in
set_option maxRecDepth 100000 in
theorem c_X6_shift (l : Launch) (G : GE)  {s : Mm} {lm : Ml} {a1 : Int32} {a2 : Int32} {a3 : Int32} {a4 : Int32} {a5 : Int32} {rz : Int32} {lmz : Ml} (h : f_X6_shift s lm a1 a2 a3 a4 a5 = some (rz, lmz)) : CM l G yX6_shift bX6_shift 6 (Option.some Jvm.ClassFile.FieldType.int) rm_X6_shift [.ref (gA G 0 0), .int a1, .int a2, .int a3, .int a4, .int a5] s lm (some (.int rz)) s lmz := by
  refine CM.of (own := zR6) (L0 := [(0, .ref (gA G 0 0)), (1, .int a1), (2, .int a2), (3, .int a3), (4, .int a4), (5, .int a5)]) (by decide +kernel) rfl (Nat.le_of_ble_eq_true rfl) rfl (fun X hl hX hR hQ => ?_)
  unfold f_X6_shift at h
  refine r_aload_n hX rfl 0 rfl dX6_shift_0 ?_
  refine gf_6_9 (o := 0) hX fl_X6_62 rfl rfl dX6_shift_1 ?_
  refine r_iload_n hX rfl 1 rfl dX6_shift_4 ?_
  obtain ⟨x1, hc1, h⟩ := bn_e h
  refine r_callVi hX hR (c_X4_known (σ := s) X.2.1 G hc1) m1_i m1_i mf_X4_known ml_X6_267 in_X4_known se_X4_known rfl rfl ⟨rfl, rfl, Nat.le_of_ble_eq_true rfl, Nat.le_of_ble_eq_true rfl⟩ rfl (st := []) rfl (Nat.le_of_ble_eq_true rfl) dX6_shift_5 ?_
  refine r_if_eq hX dX6_shift_8 (fun hc => ?_) (fun hc => ?_)
  · replace h := ip_e hc h
    refine r_iconst (v := (-1)) hX (by decide) dX6_shift_22 ?_
    have g0 := Option.some.inj h
    obtain ⟨q0, g1⟩ := Prod.mk.inj g0
    subst q0
    subst g1
    exact r_iret hX hQ dX6_shift_23
  · replace h := in_e hc h
    refine r_aload_n hX rfl 0 rfl dX6_shift_11 ?_
    refine gf_6_9 (o := 0) hX fl_X6_62 rfl rfl dX6_shift_12 ?_
    refine r_iload_n hX rfl 3 rfl dX6_shift_15 ?_
    obtain ⟨x2, hc2, h⟩ := bn_e h
    refine r_callVi hX hR (c_X4_known (σ := s) X.2.1 G hc2) m1_i m1_i mf_X4_known ml_X6_267 in_X4_known se_X4_known rfl rfl ⟨rfl, rfl, Nat.le_of_ble_eq_true rfl, Nat.le_of_ble_eq_true rfl⟩ rfl (st := []) rfl (Nat.le_of_ble_eq_true rfl) dX6_shift_16 ?_
    refine r_if_ne hX dX6_shift_19 (fun hc => ?_) (fun hc => ?_)
    · replace h := in_e hc h
      refine r_aload_n hX rfl 0 rfl dX6_shift_24 ?_
      refine gf_6_9 (o := 0) hX fl_X6_62 rfl rfl dX6_shift_25 ?_
      refine r_iload_n hX rfl 1 rfl dX6_shift_28 ?_
      obtain ⟨x3, hc3, h⟩ := bn_e h
      refine r_callVi hX hR (c_X4_holds (σ := s) X.2.1 G hc3) m1_i m1_i mf_X4_holds ml_X6_268 in_X4_holds se_X4_holds rfl rfl ⟨rfl, rfl, Nat.le_of_ble_eq_true rfl, Nat.le_of_ble_eq_true rfl⟩ rfl (st := []) rfl (Nat.le_of_ble_eq_true rfl) dX6_shift_29 ?_
      refine r_if_eq hX dX6_shift_32 (fun hc => ?_) (fun hc => ?_)
      · replace h := ip_e hc h
        refine r_bipush (v := (-11)) hX (by decide) dX6_shift_46 ?_
        have g0 := Option.some.inj h
        obtain ⟨q0, g1⟩ := Prod.mk.inj g0
        subst q0
        subst g1
        exact r_iret hX hQ dX6_shift_48
      · replace h := in_e hc h
        refine r_aload_n hX rfl 0 rfl dX6_shift_35 ?_
        refine gf_6_9 (o := 0) hX fl_X6_62 rfl rfl dX6_shift_36 ?_
        refine r_iload_n hX rfl 3 rfl dX6_shift_39 ?_
        obtain ⟨x4, hc4, h⟩ := bn_e h
        refine r_callVi hX hR (c_X4_holds (σ := s) X.2.1 G hc4) m1_i m1_i mf_X4_holds ml_X6_268 in_X4_holds se_X4_holds rfl rfl ⟨rfl, rfl, Nat.le_of_ble_eq_true rfl, Nat.le_of_ble_eq_true rfl⟩ rfl (st := []) rfl (Nat.le_of_ble_eq_true rfl) dX6_shift_40 ?_
        refine r_if_ne hX dX6_shift_43 (fun hc => ?_) (fun hc => ?_)
        · replace h := in_e hc h
          refine r_aload_n hX rfl 0 rfl dX6_shift_49 ?_
          refine gf_6_9 (o := 0) hX fl_X6_62 rfl rfl dX6_shift_50 ?_
          refine gf_4_0 (o := 16) hX fl_X6_271 rfl rfl dX6_shift_53 ?_
          refine r_iload_n hX rfl 1 rfl dX6_shift_56 ?_
          obtain ⟨hk5, h⟩ := kc_e h
          refine ga_4_1 (o := 16) hX rfl rfl hk5 dX6_shift_57 ?_
          refine r_aload_n hX rfl 0 rfl dX6_shift_58 ?_
          refine gf_6_9 (o := 0) hX fl_X6_62 rfl rfl dX6_shift_59 ?_
          refine gf_4_0 (o := 16) hX fl_X6_271 rfl rfl dX6_shift_62 ?_
          refine r_iload_n hX rfl 3 rfl dX6_shift_65 ?_
          obtain ⟨hk6, h⟩ := kc_e h
          refine ga_4_1 (o := 16) hX rfl rfl hk6 dX6_shift_66 ?_
          refine r_icmp_eq hX dX6_shift_67 (fun hc => ?_) (fun hc => ?_)
          · replace h := ip_e hc h
            refine r_aload_n hX rfl 0 rfl dX6_shift_73 ?_
            refine gf_6_9 (o := 0) hX fl_X6_62 rfl rfl dX6_shift_74 ?_
            refine r_iload_n hX rfl 1 rfl dX6_shift_77 ?_
            refine r_iload_n hX rfl 2 rfl dX6_shift_78 ?_
            refine r_iload hX 5 rfl dX6_shift_79 ?_
            obtain ⟨x7, hc7, h⟩ := bn_e h
            refine r_callVi hX hR (c_X4_hasRoom (σ := s) X.2.1 G hc7) m1_i m1_i mf_X4_hasRoom ml_X6_313 in_X4_hasRoom se_X4_hasRoom rfl rfl ⟨rfl, rfl, Nat.le_of_ble_eq_true rfl, Nat.le_of_ble_eq_true rfl⟩ rfl (st := []) rfl (Nat.le_of_ble_eq_true rfl) dX6_shift_81 ?_
            refine r_if_eq hX dX6_shift_84 (fun hc => ?_) (fun hc => ?_)
            · replace h := ip_e hc h
              refine r_bipush (v := (-13)) hX (by decide) dX6_shift_102 ?_
              have g0 := Option.some.inj h
              obtain ⟨q0, g1⟩ := Prod.mk.inj g0
              subst q0
              subst g1
              exact r_iret hX hQ dX6_shift_104
            · replace h := in_e hc h
              refine r_aload_n hX rfl 0 rfl dX6_shift_87 ?_
              refine gf_6_9 (o := 0) hX fl_X6_62 rfl rfl dX6_shift_88 ?_
              refine r_iload_n hX rfl 3 rfl dX6_shift_91 ?_
              refine r_iload hX 4 rfl dX6_shift_92 ?_
              refine r_iload hX 5 rfl dX6_shift_94 ?_
              obtain ⟨x8, hc8, h⟩ := bn_e h
              refine r_callVi hX hR (c_X4_hasRoom (σ := s) X.2.1 G hc8) m1_i m1_i mf_X4_hasRoom ml_X6_313 in_X4_hasRoom se_X4_hasRoom rfl rfl ⟨rfl, rfl, Nat.le_of_ble_eq_true rfl, Nat.le_of_ble_eq_true rfl⟩ rfl (st := []) rfl (Nat.le_of_ble_eq_true rfl) dX6_shift_96 ?_
              refine r_if_ne hX dX6_shift_99 (fun hc => ?_) (fun hc => ?_)
              · replace h := in_e hc h
                refine r_aload_n hX rfl 0 rfl dX6_shift_105 ?_
                refine gf_6_9 (o := 0) hX fl_X6_62 rfl rfl dX6_shift_106 ?_
                refine gf_4_2 (o := 16) hX fl_X6_278 rfl rfl dX6_shift_109 ?_
                refine r_iload_n hX rfl 1 rfl dX6_shift_112 ?_
                obtain ⟨hk9, h⟩ := kc_e h
                refine r_aaldT hX hk9 dX6_shift_113 ?_
                refine r_iload_n hX rfl 2 rfl dX6_shift_114 ?_
                refine r_aload_n hX rfl 0 rfl dX6_shift_115 ?_
                refine gf_6_9 (o := 0) hX fl_X6_62 rfl rfl dX6_shift_116 ?_
                refine gf_4_2 (o := 16) hX fl_X6_278 rfl rfl dX6_shift_119 ?_
                refine r_iload_n hX rfl 3 rfl dX6_shift_122 ?_
                obtain ⟨hk10, h⟩ := kc_e h
                refine r_aaldT hX hk10 dX6_shift_123 ?_
                refine r_iload hX 4 rfl dX6_shift_124 ?_
                refine r_iload hX 5 rfl dX6_shift_126 ?_
                obtain ⟨hk11, h⟩ := kc_e h
                obtain ⟨lm12, hlm12, h⟩ := nb_e h
                refine r_acpyL (inb_lt hk9) (inb_lt hk10) hX hR ml_acpy_X6_316 rfl hk11 hlm12.symm (st := []) (Nat.le_of_ble_eq_true rfl) dX6_shift_128 ?_
                refine r_iload hX 5 rfl dX6_shift_131 ?_
                have g0 := Option.some.inj h
                obtain ⟨q0, g1⟩ := Prod.mk.inj g0
                subst q0
                subst g1
                exact r_iret hX hQ dX6_shift_133
              · replace h := ip_e hc h
                refine r_bipush (v := (-13)) hX (by decide) dX6_shift_102 ?_
                have g0 := Option.some.inj h
                obtain ⟨q0, g1⟩ := Prod.mk.inj g0
                subst q0
                subst g1
                exact r_iret hX hQ dX6_shift_104
          · replace h := in_e hc h
            refine r_bipush (v := (-12)) hX (by decide) dX6_shift_70 ?_
            have g0 := Option.some.inj h
            obtain ⟨q0, g1⟩ := Prod.mk.inj g0
            subst q0
            subst g1
            exact r_iret hX hQ dX6_shift_72
        · replace h := ip_e hc h
          refine r_bipush (v := (-11)) hX (by decide) dX6_shift_46 ?_
          have g0 := Option.some.inj h
          obtain ⟨q0, g1⟩ := Prod.mk.inj g0
          subst q0
          subst g1
          exact r_iret hX hQ dX6_shift_48
    · replace h := ip_e hc h
      refine r_iconst (v := (-1)) hX (by decide) dX6_shift_22 ?_
      have g0 := Option.some.inj h
      obtain ⟨q0, g1⟩ := Prod.mk.inj g0
      subst q0
      subst g1
      exact r_iret hX hQ dX6_shift_23
