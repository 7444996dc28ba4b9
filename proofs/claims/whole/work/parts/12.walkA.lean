/-! the pure functions and the walks; written by wip/whole/gen_walk.py -/
abbrev rm_J9_min_7cf53 : Room := { frames := 0, cells := 0, slots := 0, locals := 60 }
def f_J9_min_7cf53 (a0 : Int32) (a1 : Int32) : Option (Int32) :=
  (if a1 < a0 then some a1 else some a0)
set_option maxHeartbeats 4000000 in
set_option maxRecDepth 100000 in
theorem c_J9_min_7cf53 (l : Launch) (G : GE) {σ : Mm} {lm : Ml}  {a0 : Int32} {a1 : Int32} {rz : Int32} (h : f_J9_min_7cf53 a0 a1 = some rz) : CM l G yJ9_min_7cf53 bJ9_min_7cf53 2 (Option.some Jvm.ClassFile.FieldType.int) rm_J9_min_7cf53 [.int a0, .int a1] σ lm (some (.int rz)) σ lm := by
  refine CM.of (own := zRJ9) (L0 := [(0, .int a0), (1, .int a1)]) (by decide +kernel) rfl (Nat.le_of_ble_eq_true rfl) rfl (fun X hl hX hR hQ => ?_)
  unfold f_J9_min_7cf53 at h
  refine r_iload_n hX rfl 0 rfl dJ9_min_7cf53_0 ?_
  refine r_iload_n hX rfl 1 rfl dJ9_min_7cf53_1 ?_
  refine r_icmp_gt hX dJ9_min_7cf53_2 (fun hc => ?_) (fun hc => ?_)
  · replace h := ip_e hc h
    refine r_iload_n hX rfl 1 rfl dJ9_min_7cf53_9 ?_
    have g0 := Option.some.inj h
    subst g0
    exact r_iret hX hQ dJ9_min_7cf53_10
  · replace h := in_e hc h
    refine r_iload_n hX rfl 0 rfl dJ9_min_7cf53_5 ?_
    refine r_goto hX dJ9_min_7cf53_6 ?_
    have g0 := Option.some.inj h
    subst g0
    exact r_iret hX hQ dJ9_min_7cf53_10
abbrev rm_X5_rise : Room := { frames := 1, cells := 0, slots := 0, locals := 81 }
def f_X5_rise (P : Pm) (a1 : Int32) : Option (Pm) :=
  Option.bind (f_J9_min_7cf53 9999 ((P 0 0) + a1)) (fun x1 => nb (up2 P 0 0 x1) (fun P2 => some P2))
set_option maxHeartbeats 4000000 in
set_option maxRecDepth 100000 in
theorem c_X5_rise (l : Launch) (G : GE) {σ : Mm} {lm : Ml} {o : Nat} (ho : kdo o = 5)  {P : Pm} {a1 : Int32} {Pz : Pm} (h : f_X5_rise P a1 = some Pz) : CM l G yX5_rise bX5_rise 2 (Option.none : Option Jvm.ClassFile.FieldType) rm_X5_rise [.ref (gA G o 0), .int a1] (m1 σ o P) lm (none) (m1 σ o Pz) lm := by
  refine CM.of (own := zR5) (L0 := [(0, .ref (gA G o 0)), (1, .int a1)]) (by decide +kernel) rfl (Nat.le_of_ble_eq_true rfl) rfl (fun X hl hX hR hQ => ?_)
  unfold f_X5_rise at h
  refine r_aload_n hX rfl 0 rfl dX5_rise_0 ?_
  refine r_sipush (v := 9999) hX (by decide) dX5_rise_1 ?_
  refine r_aload_n hX rfl 0 rfl dX5_rise_4 ?_
  refine gf_5_0 hX fl_X5_9 ho m1_g dX5_rise_5 ?_
  refine r_iload_n hX rfl 1 rfl dX5_rise_8 ?_
  refine r_iadd hX dX5_rise_9 ?_
  obtain ⟨x1, hc1, h⟩ := bn_e h
  refine r_callSi hX hR (c_J9_min_7cf53 (σ := (m1 σ o P)) X.2.1 G hc1) rfl rfl mf_J9_min_7cf53 ml_X5_61 st_J9_min_7cf53 ⟨rfl, rfl, Nat.le_of_ble_eq_true rfl, Nat.le_of_ble_eq_true rfl⟩ rfl (st := [.ref (gA G o 0)]) rfl (Nat.le_of_ble_eq_true rfl) dX5_rise_10 ?_
  obtain ⟨P2, hP2, h⟩ := nb_e h
  refine pf_5_0 hX fl_X5_9 ho m1_g dX5_rise_13 (m1_w hP2) ?_
  have g0 := Option.some.inj h
  subst g0
  exact r_vret hX hQ dX5_rise_16
abbrev rm_X1_conditionHolds : Room := { frames := 0, cells := 0, slots := 0, locals := 60 }
def f_X1_conditionHolds_J176 (P : Pm) (v3 : Int32) : Option (Int32) :=
  (if (v3 &&& 1) = 1 then some 1 else some 0)
def f_X1_conditionHolds_J170 (P : Pm) (v2 : Int32) (v3 : Int32) (v4 : Int32) : Option ((Int32 × Int32) ⊕ (Int32)) :=
  some (.inl (v3, (v4 + 1)))
def f_X1_conditionHolds_J138 (P : Pm) (v2 : Int32) (v4 : Int32) (w0 : Int32) (w1 : Int32) : Option ((Int32 × Int32) ⊕ (Int32)) :=
  f_X1_conditionHolds_J170 P v2 (w1 ||| w0) v4
def f_X1_conditionHolds_J113 (P : Pm) (v2 : Int32) (v4 : Int32) (w0 : Int32) (w1 : Int32) : Option ((Int32 × Int32) ⊕ (Int32)) :=
  f_X1_conditionHolds_J170 P v2 (w1 ||| w0) v4
def f_X1_conditionHolds_J88 (P : Pm) (v2 : Int32) (v4 : Int32) (w0 : Int32) (w1 : Int32) : Option ((Int32 × Int32) ⊕ (Int32)) :=
  f_X1_conditionHolds_J170 P v2 (w1 ||| w0) v4
def f_X1_conditionHolds_B5 (P : Pm) (v2 : Int32) (v3 : Int32) (v4 : Int32) : Option ((Int32 × Int32) ⊕ (Int32)) :=
  (if v2 ≤ v4 then some (.inr v3) else (if inb v4 100 = true then (if inb (P 9 (ix v4)) 6 = true then (if inb v4 100 = true then (if (P 8 (ix v4)) = 0 then (if inb v4 100 = true then (if (P 10 (ix v4)) ≤ (P 11 (ix (P 9 (ix v4)))) then f_X1_conditionHolds_J88 P v2 v4 0 (v3 <<< (1 &&& 31)) else f_X1_conditionHolds_J88 P v2 v4 1 (v3 <<< (1 &&& 31))) else none) else (if (P 8 (ix v4)) = 1 then (if inb v4 100 = true then (if (P 11 (ix (P 9 (ix v4)))) = (P 10 (ix v4)) then f_X1_conditionHolds_J113 P v2 v4 1 (v3 <<< (1 &&& 31)) else f_X1_conditionHolds_J113 P v2 v4 0 (v3 <<< (1 &&& 31))) else none) else (if (P 8 (ix v4)) = 2 then (if inb v4 100 = true then (if (P 11 (ix (P 9 (ix v4)))) ≤ (P 10 (ix v4)) then f_X1_conditionHolds_J138 P v2 v4 0 (v3 <<< (1 &&& 31)) else f_X1_conditionHolds_J138 P v2 v4 1 (v3 <<< (1 &&& 31))) else none) else (if (P 8 (ix v4)) = 3 then f_X1_conditionHolds_J170 P v2 (v3 ^^^ 1) v4 else (if (P 8 (ix v4)) = 4 then f_X1_conditionHolds_J170 P v2 ((v3 >>> (1 &&& 31)) &&& (v3 ||| (-2))) v4 else f_X1_conditionHolds_J170 P v2 ((v3 >>> (1 &&& 31)) ||| (v3 &&& 1)) v4))))) else none) else none) else none))
def f_X1_conditionHolds_H5 (P : Pm) (v2 : Int32) (v3 : Int32) (v4 : Int32) : Option (Int32) :=
  Option.bind (iter (fun t => f_X1_conditionHolds_B5 P v2 t.1 t.2) 200 (v3, v4)) (fun v3 => f_X1_conditionHolds_J176 P v3)
def f_X1_conditionHolds (P : Pm) (a1 : Int32) (a2 : Int32) : Option (Int32) :=
  f_X1_conditionHolds_H5 P a2 0 a1
set_option maxHeartbeats 4000000 in
set_option maxRecDepth 100000 in
theorem c_X1_conditionHolds (l : Launch) (G : GE) {σ : Mm} {lm : Ml} {o : Nat} (ho : kdo o = 1)  {P : Pm} {a1 : Int32} {a2 : Int32} {rz : Int32} (h : f_X1_conditionHolds P a1 a2 = some rz) : CM l G yX1_conditionHolds bX1_conditionHolds 6 (Option.some Jvm.ClassFile.FieldType.boolean) rm_X1_conditionHolds [.ref (gA G o 0), .int a1, .int a2] (m1 σ o P) lm (some (.int rz)) (m1 σ o P) lm := by
  refine CM.of (own := zR1) (L0 := [(0, .ref (gA G o 0)), (1, .int a1), (2, .int a2)]) (by decide +kernel) rfl (Nat.le_of_ble_eq_true rfl) rfl (fun X hl hX hR hQ => ?_)
  have K176 : ∀ (v3 : Int32) (_ : True), f_X1_conditionHolds_J176 P v3 = some rz → WW X G 6 (m1 σ o P) lm 176 [(3, .int v3)] [] := by
    intro v3 _ h
    unfold f_X1_conditionHolds_J176 at h
    refine r_iload_n hX rfl 0 rfl dX1_conditionHolds_176 ?_
    refine r_iconst (v := 1) hX (by decide) dX1_conditionHolds_177 ?_
    refine r_iand hX dX1_conditionHolds_178 ?_
    refine r_iconst (v := 1) hX (by decide) dX1_conditionHolds_179 ?_
    refine r_icmp_ne hX dX1_conditionHolds_180 (fun hc => ?_) (fun hc => ?_)
    · replace h := in_e hc h
      refine r_iconst (v := 0) hX (by decide) dX1_conditionHolds_187 ?_
      have g0 := Option.some.inj h
      subst g0
      exact r_zret hX (Or.inl rfl) hQ dX1_conditionHolds_188
    · replace h := ip_e hc h
      refine r_iconst (v := 1) hX (by decide) dX1_conditionHolds_183 ?_
      refine r_goto hX dX1_conditionHolds_184 ?_
      have g0 := Option.some.inj h
      subst g0
      exact r_zret hX (Or.inr rfl) hQ dX1_conditionHolds_188
  have K5 : ∀ (v2 : Int32) (v3 : Int32) (v4 : Int32) (_ : True), f_X1_conditionHolds_H5 P v2 v3 v4 = some rz → WW X G 6 (m1 σ o P) lm 5 [(0, .ref (gA G o 0)), (2, .int v2), (3, .int v3), (4, .int v4)] [] := by
    intro v2 v3 v4 _ h
    unfold f_X1_conditionHolds_H5 at h
    obtain ⟨e_v3, hit, hO⟩ := bn_e h
    refine iter_w (P := fun t : Int32 × Int32 => WW X G 6 (m1 σ o P) lm 5 [(0, .ref (gA G o 0)), (2, .int v2), (3, .int t.1), (4, .int t.2)] []) (x := e_v3) ?_ 200 (v3, v4) hit
    clear hit
    intro t z1 hb hin1 hex1
    obtain ⟨v3, v4⟩ := t
    have h : f_X1_conditionHolds_B5 P v2 v3 v4 = some z1 := hb
    clear hb
    have K170 : ∀ (v3 : Int32) (v4 : Int32) (_ : True), f_X1_conditionHolds_J170 P v2 v3 v4 = some z1 → WW X G 6 (m1 σ o P) lm 170 [(0, .ref (gA G o 0)), (2, .int v2), (3, .int v3), (4, .int v4)] [] := by
      intro v3 v4 _ h
      unfold f_X1_conditionHolds_J170 at h
      refine r_iinc (v := v4 + 1) (L2 := [(4, .int (v4 + 1)), (0, .ref (gA G o 0)), (2, .int v2), (3, .int v3)]) hX 3 rfl rfl (by decide) rfl dX1_conditionHolds_170 ?_
      refine r_goto hX dX1_conditionHolds_173 ?_
      exact WW.sub [1, 2, 3, 0] rfl (hin1 _ (Option.some.inj h).symm)
    have K138 : ∀ (v4 : Int32) (w0 : Int32) (w1 : Int32) (_ : True), f_X1_conditionHolds_J138 P v2 v4 w0 w1 = some z1 → WW X G 6 (m1 σ o P) lm 138 [(0, .ref (gA G o 0)), (2, .int v2), (4, .int v4)] [.int w0, .int w1] := by
      intro v4 w0 w1 _ h
      unfold f_X1_conditionHolds_J138 at h
      refine r_ior hX dX1_conditionHolds_138 ?_
      refine r_istore_n (L2 := [(3, .int (w1 ||| w0)), (0, .ref (gA G o 0)), (2, .int v2), (4, .int v4)]) hX rfl (by decide) rfl dX1_conditionHolds_139 ?_
      refine r_goto hX dX1_conditionHolds_140 ?_
      exact WW.sub [1, 2, 0, 3] rfl (K170 (w1 ||| w0) v4 trivial h)
    have K113 : ∀ (v4 : Int32) (w0 : Int32) (w1 : Int32) (_ : True), f_X1_conditionHolds_J113 P v2 v4 w0 w1 = some z1 → WW X G 6 (m1 σ o P) lm 113 [(0, .ref (gA G o 0)), (2, .int v2), (4, .int v4)] [.int w0, .int w1] := by
      intro v4 w0 w1 _ h
      unfold f_X1_conditionHolds_J113 at h
      refine r_ior hX dX1_conditionHolds_113 ?_
      refine r_istore_n (L2 := [(3, .int (w1 ||| w0)), (0, .ref (gA G o 0)), (2, .int v2), (4, .int v4)]) hX rfl (by decide) rfl dX1_conditionHolds_114 ?_
      refine r_goto hX dX1_conditionHolds_115 ?_
      exact WW.sub [1, 2, 0, 3] rfl (K170 (w1 ||| w0) v4 trivial h)
    have K88 : ∀ (v4 : Int32) (w0 : Int32) (w1 : Int32) (_ : True), f_X1_conditionHolds_J88 P v2 v4 w0 w1 = some z1 → WW X G 6 (m1 σ o P) lm 88 [(0, .ref (gA G o 0)), (2, .int v2), (4, .int v4)] [.int w0, .int w1] := by
      intro v4 w0 w1 _ h
      unfold f_X1_conditionHolds_J88 at h
      refine r_ior hX dX1_conditionHolds_88 ?_
      refine r_istore_n (L2 := [(3, .int (w1 ||| w0)), (0, .ref (gA G o 0)), (2, .int v2), (4, .int v4)]) hX rfl (by decide) rfl dX1_conditionHolds_89 ?_
      refine r_goto hX dX1_conditionHolds_90 ?_
      exact WW.sub [1, 2, 0, 3] rfl (K170 (w1 ||| w0) v4 trivial h)
    unfold f_X1_conditionHolds_B5 at h
    refine r_iload hX 3 rfl dX1_conditionHolds_5 ?_
    refine r_iload_n hX rfl 1 rfl dX1_conditionHolds_7 ?_
    refine r_icmp_ge hX dX1_conditionHolds_8 (fun hc => ?_) (fun hc => ?_)
    · replace h := ip_e hc h
      have g0 := hex1 _ (Option.some.inj h).symm
      subst g0
      exact WW.sub [2] rfl (K176 v3 trivial hO)
    · replace h := in_e hc h
      refine r_aload_n hX rfl 0 rfl dX1_conditionHolds_11 ?_
      refine gf_1_10 hX fl_X1_43 ho m1_g dX1_conditionHolds_12 ?_
      refine r_aload_n hX rfl 0 rfl dX1_conditionHolds_15 ?_
      refine gf_1_8 hX fl_X1_37 ho m1_g dX1_conditionHolds_16 ?_
      refine r_iload hX 3 rfl dX1_conditionHolds_19 ?_
      obtain ⟨hk1, h⟩ := kc_e h
      refine ga_1_9 hX ho m1_g hk1 dX1_conditionHolds_21 ?_
      obtain ⟨hk2, h⟩ := kc_e h
      refine ga_1_11 hX ho m1_g hk2 dX1_conditionHolds_22 ?_
      refine r_istore (L2 := [(5, .int (P 11 (ix (P 9 (ix v4))))), (0, .ref (gA G o 0)), (2, .int v2), (3, .int v3), (4, .int v4)]) hX (by decide) rfl dX1_conditionHolds_23 ?_
      refine r_aload_n hX rfl 1 rfl dX1_conditionHolds_25 ?_
      refine gf_1_7 hX fl_X1_34 ho m1_g dX1_conditionHolds_26 ?_
      refine r_iload hX 4 rfl dX1_conditionHolds_29 ?_
      obtain ⟨hk3, h⟩ := kc_e h
      refine ga_1_8 hX ho m1_g hk3 dX1_conditionHolds_31 ?_
      by_cases hc0 : (P 8 (ix v4)) = 0
      · replace h := ip_e hc0 h
        refine r_tswI (k := 0) (off := 36) (tgt := 68) hX hc0 (by decide) (by decide) (by decide) dX1_conditionHolds_32 ?_
        refine r_iload_n hX rfl 3 rfl dX1_conditionHolds_68 ?_
        refine r_iconst (v := 1) hX (by decide) dX1_conditionHolds_69 ?_
        refine r_ishl hX dX1_conditionHolds_70 ?_
        refine r_iload hX 0 rfl dX1_conditionHolds_71 ?_
        refine r_aload_n hX rfl 1 rfl dX1_conditionHolds_73 ?_
        refine gf_1_9 hX fl_X1_40 ho m1_g dX1_conditionHolds_74 ?_
        refine r_iload hX 4 rfl dX1_conditionHolds_77 ?_
        obtain ⟨hk4, h⟩ := kc_e h
        refine ga_1_10 hX ho m1_g hk4 dX1_conditionHolds_79 ?_
        refine r_icmp_ge hX dX1_conditionHolds_80 (fun hc => ?_) (fun hc => ?_)
        · replace h := ip_e hc h
          refine r_iconst (v := 0) hX (by decide) dX1_conditionHolds_87 ?_
          exact WW.sub [1, 2, 4] rfl (K88 v4 0 (v3 <<< (1 &&& 31)) trivial h)
        · replace h := in_e hc h
          refine r_iconst (v := 1) hX (by decide) dX1_conditionHolds_83 ?_
          refine r_goto hX dX1_conditionHolds_84 ?_
          exact WW.sub [1, 2, 4] rfl (K88 v4 1 (v3 <<< (1 &&& 31)) trivial h)
      · replace h := in_e hc0 h
        by_cases hc1 : (P 8 (ix v4)) = 1
        · replace h := ip_e hc1 h
          refine r_tswI (k := 1) (off := 61) (tgt := 93) hX hc1 (by decide) (by decide) (by decide) dX1_conditionHolds_32 ?_
          refine r_iload_n hX rfl 3 rfl dX1_conditionHolds_93 ?_
          refine r_iconst (v := 1) hX (by decide) dX1_conditionHolds_94 ?_
          refine r_ishl hX dX1_conditionHolds_95 ?_
          refine r_iload hX 0 rfl dX1_conditionHolds_96 ?_
          refine r_aload_n hX rfl 1 rfl dX1_conditionHolds_98 ?_
          refine gf_1_9 hX fl_X1_40 ho m1_g dX1_conditionHolds_99 ?_
          refine r_iload hX 4 rfl dX1_conditionHolds_102 ?_
          obtain ⟨hk5, h⟩ := kc_e h
          refine ga_1_10 hX ho m1_g hk5 dX1_conditionHolds_104 ?_
          refine r_icmp_ne hX dX1_conditionHolds_105 (fun hc => ?_) (fun hc => ?_)
          · replace h := in_e hc h
            refine r_iconst (v := 0) hX (by decide) dX1_conditionHolds_112 ?_
            exact WW.sub [1, 2, 4] rfl (K113 v4 0 (v3 <<< (1 &&& 31)) trivial h)
          · replace h := ip_e hc h
            refine r_iconst (v := 1) hX (by decide) dX1_conditionHolds_108 ?_
            refine r_goto hX dX1_conditionHolds_109 ?_
            exact WW.sub [1, 2, 4] rfl (K113 v4 1 (v3 <<< (1 &&& 31)) trivial h)
        · replace h := in_e hc1 h
          by_cases hc2 : (P 8 (ix v4)) = 2
          · replace h := ip_e hc2 h
            refine r_tswI (k := 2) (off := 86) (tgt := 118) hX hc2 (by decide) (by decide) (by decide) dX1_conditionHolds_32 ?_
            refine r_iload_n hX rfl 3 rfl dX1_conditionHolds_118 ?_
            refine r_iconst (v := 1) hX (by decide) dX1_conditionHolds_119 ?_
            refine r_ishl hX dX1_conditionHolds_120 ?_
            refine r_iload hX 0 rfl dX1_conditionHolds_121 ?_
            refine r_aload_n hX rfl 1 rfl dX1_conditionHolds_123 ?_
            refine gf_1_9 hX fl_X1_40 ho m1_g dX1_conditionHolds_124 ?_
            refine r_iload hX 4 rfl dX1_conditionHolds_127 ?_
            obtain ⟨hk6, h⟩ := kc_e h
            refine ga_1_10 hX ho m1_g hk6 dX1_conditionHolds_129 ?_
            refine r_icmp_le hX dX1_conditionHolds_130 (fun hc => ?_) (fun hc => ?_)
            · replace h := ip_e hc h
              refine r_iconst (v := 0) hX (by decide) dX1_conditionHolds_137 ?_
              exact WW.sub [1, 2, 4] rfl (K138 v4 0 (v3 <<< (1 &&& 31)) trivial h)
            · replace h := in_e hc h
              refine r_iconst (v := 1) hX (by decide) dX1_conditionHolds_133 ?_
              refine r_goto hX dX1_conditionHolds_134 ?_
              exact WW.sub [1, 2, 4] rfl (K138 v4 1 (v3 <<< (1 &&& 31)) trivial h)
          · replace h := in_e hc2 h
            by_cases hc3 : (P 8 (ix v4)) = 3
            · replace h := ip_e hc3 h
              refine r_tswI (k := 3) (off := 111) (tgt := 143) hX hc3 (by decide) (by decide) (by decide) dX1_conditionHolds_32 ?_
              refine r_iload_n hX rfl 3 rfl dX1_conditionHolds_143 ?_
              refine r_iconst (v := 1) hX (by decide) dX1_conditionHolds_144 ?_
              refine r_ixor hX dX1_conditionHolds_145 ?_
              refine r_istore_n (L2 := [(3, .int (v3 ^^^ 1)), (5, .int (P 11 (ix (P 9 (ix v4))))), (0, .ref (gA G o 0)), (2, .int v2), (4, .int v4)]) hX rfl (by decide) rfl dX1_conditionHolds_146 ?_
              refine r_goto hX dX1_conditionHolds_147 ?_
              exact WW.sub [2, 3, 0, 4] rfl (K170 (v3 ^^^ 1) v4 trivial h)
            · replace h := in_e hc3 h
              by_cases hc4 : (P 8 (ix v4)) = 4
              · replace h := ip_e hc4 h
                refine r_tswI (k := 4) (off := 118) (tgt := 150) hX hc4 (by decide) (by decide) (by decide) dX1_conditionHolds_32 ?_
                refine r_iload_n hX rfl 3 rfl dX1_conditionHolds_150 ?_
                refine r_iconst (v := 1) hX (by decide) dX1_conditionHolds_151 ?_
                refine r_ishr hX dX1_conditionHolds_152 ?_
                refine r_iload_n hX rfl 3 rfl dX1_conditionHolds_153 ?_
                refine r_bipush (v := (-2)) hX (by decide) dX1_conditionHolds_154 ?_
                refine r_ior hX dX1_conditionHolds_156 ?_
                refine r_iand hX dX1_conditionHolds_157 ?_
                refine r_istore_n (L2 := [(3, .int ((v3 >>> (1 &&& 31)) &&& (v3 ||| (-2)))), (5, .int (P 11 (ix (P 9 (ix v4))))), (0, .ref (gA G o 0)), (2, .int v2), (4, .int v4)]) hX rfl (by decide) rfl dX1_conditionHolds_158 ?_
                refine r_goto hX dX1_conditionHolds_159 ?_
                exact WW.sub [2, 3, 0, 4] rfl (K170 ((v3 >>> (1 &&& 31)) &&& (v3 ||| (-2))) v4 trivial h)
              · replace h := in_e hc4 h
                have hD : WW X G 6 (m1 σ o P) lm 162 [(5, .int (P 11 (ix (P 9 (ix v4))))), (0, .ref (gA G o 0)), (2, .int v2), (3, .int v3), (4, .int v4)] [] := by
                  refine r_iload_n hX rfl 3 rfl dX1_conditionHolds_162 ?_
                  refine r_iconst (v := 1) hX (by decide) dX1_conditionHolds_163 ?_
                  refine r_ishr hX dX1_conditionHolds_164 ?_
                  refine r_iload_n hX rfl 3 rfl dX1_conditionHolds_165 ?_
                  refine r_iconst (v := 1) hX (by decide) dX1_conditionHolds_166 ?_
                  refine r_iand hX dX1_conditionHolds_167 ?_
                  refine r_ior hX dX1_conditionHolds_168 ?_
                  refine r_istore_n (L2 := [(3, .int ((v3 >>> (1 &&& 31)) ||| (v3 &&& 1))), (5, .int (P 11 (ix (P 9 (ix v4))))), (0, .ref (gA G o 0)), (2, .int v2), (4, .int v4)]) hX rfl (by decide) rfl dX1_conditionHolds_169 ?_
                  exact WW.sub [2, 3, 0, 4] rfl (K170 ((v3 >>> (1 &&& 31)) ||| (v3 &&& 1)) v4 trivial h)
                refine r_tswD (tgt := 162) hX ?_ (by decide) dX1_conditionHolds_32 hD
                have j0 := i32n (n := 0) hc0 rfl
                have j1 := i32n (n := 1) hc1 rfl
                have j2 := i32n (n := 2) hc2 rfl
                have j3 := i32n (n := 3) hc3 rfl
                have j4 := i32n (n := 4) hc4 rfl
                omega
  unfold f_X1_conditionHolds at h
  refine r_iconst (v := 0) hX (by decide) dX1_conditionHolds_0 ?_
  refine r_istore_n (L2 := [(3, .int 0), (0, .ref (gA G o 0)), (1, .int a1), (2, .int a2)]) hX rfl (by decide) rfl dX1_conditionHolds_1 ?_
  refine r_iload_n hX rfl 2 rfl dX1_conditionHolds_2 ?_
  refine r_istore (L2 := [(4, .int a1), (3, .int 0), (0, .ref (gA G o 0)), (1, .int a1), (2, .int a2)]) hX (by decide) rfl dX1_conditionHolds_3 ?_
  exact WW.sub [2, 4, 1, 0] rfl (K5 a2 0 a1 trivial h)
abbrev rm_J9_max_7cf53 : Room := { frames := 0, cells := 0, slots := 0, locals := 60 }
def f_J9_max_7cf53 (a0 : Int32) (a1 : Int32) : Option (Int32) :=
  (if a0 < a1 then some a1 else some a0)
set_option maxHeartbeats 4000000 in
set_option maxRecDepth 100000 in
theorem c_J9_max_7cf53 (l : Launch) (G : GE) {σ : Mm} {lm : Ml}  {a0 : Int32} {a1 : Int32} {rz : Int32} (h : f_J9_max_7cf53 a0 a1 = some rz) : CM l G yJ9_max_7cf53 bJ9_max_7cf53 2 (Option.some Jvm.ClassFile.FieldType.int) rm_J9_max_7cf53 [.int a0, .int a1] σ lm (some (.int rz)) σ lm := by
  refine CM.of (own := zRJ9) (L0 := [(0, .int a0), (1, .int a1)]) (by decide +kernel) rfl (Nat.le_of_ble_eq_true rfl) rfl (fun X hl hX hR hQ => ?_)
  unfold f_J9_max_7cf53 at h
  refine r_iload_n hX rfl 0 rfl dJ9_max_7cf53_0 ?_
  refine r_iload_n hX rfl 1 rfl dJ9_max_7cf53_1 ?_
  refine r_icmp_lt hX dJ9_max_7cf53_2 (fun hc => ?_) (fun hc => ?_)
  · replace h := ip_e hc h
    refine r_iload_n hX rfl 1 rfl dJ9_max_7cf53_9 ?_
    have g0 := Option.some.inj h
    subst g0
    exact r_iret hX hQ dJ9_max_7cf53_10
  · replace h := in_e hc h
    refine r_iload_n hX rfl 0 rfl dJ9_max_7cf53_5 ?_
    refine r_goto hX dJ9_max_7cf53_6 ?_
    have g0 := Option.some.inj h
    subst g0
    exact r_iret hX hQ dJ9_max_7cf53_10
abbrev rm_X1_rate : Room := { frames := 1, cells := 0, slots := 0, locals := 85 }
def f_X1_rate_J129 (P : Pm) (Q : Pm) (v3 : Int32) : Option (Int32 × Pm) :=
  Option.bind (f_J9_max_7cf53 0 v3) (fun x1 => some (x1, P))
def f_X1_rate_J114 (P : Pm) (Q : Pm) (v3 : Int32) (v5 : Int32) : Option ((Int32 × Int32 × Int32) ⊕ (Int32)) :=
  (if inb v5 10 = true then some (.inl (v3, (P 7 (ix v5)), (v5 + 1))) else none)
def f_X1_rate_B79 (P : Pm) (Q : Pm) (v3 : Int32) (v4 : Int32) (v5 : Int32) : Option ((Int32 × Int32 × Int32) ⊕ (Int32)) :=
  (if (P 0 3) ≤ v5 then some (.inr v3) else (if inb v5 10 = true then Option.bind (f_X1_conditionHolds P v4 (P 7 (ix v5))) (fun x4 => (if x4 = 0 then f_X1_rate_J114 P Q v3 v5 else (if inb v5 10 = true then f_X1_rate_J114 P Q (v3 + (P 6 (ix v5))) v5 else none))) else none))
def f_X1_rate_H79 (P : Pm) (Q : Pm) (v3 : Int32) (v4 : Int32) (v5 : Int32) : Option (Int32 × Pm) :=
  Option.bind (iter (fun t => f_X1_rate_B79 P Q t.1 t.2.1 t.2.2) 200 (v3, v4, v5)) (fun v3 => f_X1_rate_J129 P Q v3)
def f_X1_rate (P : Pm) (Q : Pm) (a2 : Int32) : Option (Int32 × Pm) :=
  (if inb 0 6 = true then nb (up2 P 11 (ix 0) a2) (fun P7 => (if inb a2 6 = true then (if inb 1 6 = true then nb (up2 P7 11 (ix 1) (Q 5 (ix a2))) (fun P10 => (if inb a2 6 = true then (if inb 2 6 = true then nb (up2 P10 11 (ix 2) (Q 6 (ix a2))) (fun P13 => (if inb a2 6 = true then (if inb 3 6 = true then nb (up2 P13 11 (ix 3) ((Q 9 (ix a2)) / 10)) (fun P16 => (if inb a2 6 = true then (if inb 4 6 = true then nb (up2 P16 11 (ix 4) (Q 10 (ix a2))) (fun P19 => (if inb 5 6 = true then nb (up2 P19 11 (ix 5) ((Q 0 1) - (Q 0 1) / 10 * 10)) (fun P21 => f_X1_rate_H79 P21 Q 1 0 0) else none)) else none) else none)) else none) else none)) else none) else none)) else none) else none)) else none)
set_option maxHeartbeats 4000000 in
set_option maxRecDepth 100000 in
theorem c_X1_rate (l : Launch) (G : GE) {σ : Mm} {lm : Ml} {o : Nat} (ho : kdo o = 1) {o2 : Nat} (ho2 : kdo o2 = 5) (h12 : o ≠ o2)  {P : Pm} {Q : Pm} {a2 : Int32} {rz : Int32} {Pz : Pm} (h : f_X1_rate P Q a2 = some (rz, Pz)) : CM l G yX1_rate bX1_rate 6 (Option.some Jvm.ClassFile.FieldType.int) rm_X1_rate [.ref (gA G o 0), .ref (gA G o2 0), .int a2] (m2 σ o P o2 Q) lm (some (.int rz)) (m2 σ o Pz o2 Q) lm := by
  refine CM.of (own := zR1) (L0 := [(0, .ref (gA G o 0)), (1, .ref (gA G o2 0)), (2, .int a2)]) (by decide +kernel) rfl (Nat.le_of_ble_eq_true rfl) rfl (fun X hl hX hR hQ => ?_)
  have K129 : ∀ (P : Pm) (v3 : Int32) (_ : True), f_X1_rate_J129 P Q v3 = some (rz, Pz) → WW X G 6 (m2 σ o P o2 Q) lm 129 [(3, .int v3)] [] := by
    intro P v3 _ h
    unfold f_X1_rate_J129 at h
    refine r_iconst (v := 0) hX (by decide) dX1_rate_129 ?_
    refine r_iload_n hX rfl 0 rfl dX1_rate_130 ?_
    obtain ⟨x1, hc1, h⟩ := bn_e h
    refine r_callSi hX hR (c_J9_max_7cf53 (σ := (m2 σ o P o2 Q)) X.2.1 G hc1) rfl rfl mf_J9_max_7cf53 ml_X1_67 st_J9_max_7cf53 ⟨rfl, rfl, Nat.le_of_ble_eq_true rfl, Nat.le_of_ble_eq_true rfl⟩ rfl (st := []) rfl (Nat.le_of_ble_eq_true rfl) dX1_rate_131 ?_
    have g0 := Option.some.inj h
    obtain ⟨q0, g1⟩ := Prod.mk.inj g0
    subst q0
    subst g1
    exact r_iret hX hQ dX1_rate_134
  have K79 : ∀ (P : Pm) (v3 : Int32) (v4 : Int32) (v5 : Int32) (_ : True), f_X1_rate_H79 P Q v3 v4 v5 = some (rz, Pz) → WW X G 6 (m2 σ o P o2 Q) lm 79 [(0, .ref (gA G o 0)), (3, .int v3), (4, .int v4), (5, .int v5)] [] := by
    intro P v3 v4 v5 _ h
    unfold f_X1_rate_H79 at h
    obtain ⟨e_v3, hit, hO⟩ := bn_e h
    refine iter_w (P := fun t : Int32 × Int32 × Int32 => WW X G 6 (m2 σ o P o2 Q) lm 79 [(0, .ref (gA G o 0)), (3, .int t.1), (4, .int t.2.1), (5, .int t.2.2)] []) (x := e_v3) ?_ 200 (v3, v4, v5) hit
    clear hit
    intro t z1 hb hin1 hex1
    obtain ⟨v3, v4, v5⟩ := t
    have h : f_X1_rate_B79 P Q v3 v4 v5 = some z1 := hb
    clear hb
    have K114 : ∀ (v3 : Int32) (v5 : Int32) (_ : True), f_X1_rate_J114 P Q v3 v5 = some z1 → WW X G 6 (m2 σ o P o2 Q) lm 114 [(0, .ref (gA G o 0)), (3, .int v3), (5, .int v5)] [] := by
      intro v3 v5 _ h
      unfold f_X1_rate_J114 at h
      refine r_aload_n hX rfl 0 rfl dX1_rate_114 ?_
      refine gf_1_6 hX fl_X1_29 ho (m2_g1 h12) dX1_rate_115 ?_
      refine r_iload hX 2 rfl dX1_rate_118 ?_
      obtain ⟨hk2, h⟩ := kc_e h
      refine ga_1_7 hX ho (m2_g1 h12) hk2 dX1_rate_120 ?_
      refine r_istore (L2 := [(4, .int (P 7 (ix v5))), (0, .ref (gA G o 0)), (3, .int v3), (5, .int v5)]) hX (by decide) rfl dX1_rate_121 ?_
      refine r_iinc (v := v5 + 1) (L2 := [(5, .int (v5 + 1)), (4, .int (P 7 (ix v5))), (0, .ref (gA G o 0)), (3, .int v3)]) hX 3 rfl rfl (by decide) rfl dX1_rate_123 ?_
      refine r_goto hX dX1_rate_126 ?_
      exact WW.sub [2, 3, 1, 0] rfl (hin1 _ (Option.some.inj h).symm)
    unfold f_X1_rate_B79 at h
    refine r_iload hX 3 rfl dX1_rate_79 ?_
    refine r_aload_n hX rfl 0 rfl dX1_rate_81 ?_
    refine gf_1_3 hX fl_X1_19 ho (m2_g1 h12) dX1_rate_82 ?_
    refine r_icmp_ge hX dX1_rate_85 (fun hc => ?_) (fun hc => ?_)
    · replace h := ip_e hc h
      have g0 := hex1 _ (Option.some.inj h).symm
      subst g0
      exact WW.sub [1] rfl (K129 P v3 trivial hO)
    · replace h := in_e hc h
      refine r_aload_n hX rfl 0 rfl dX1_rate_88 ?_
      refine r_iload hX 2 rfl dX1_rate_89 ?_
      refine r_aload_n hX rfl 0 rfl dX1_rate_91 ?_
      refine gf_1_6 hX fl_X1_29 ho (m2_g1 h12) dX1_rate_92 ?_
      refine r_iload hX 3 rfl dX1_rate_95 ?_
      obtain ⟨hk3, h⟩ := kc_e h
      refine ga_1_7 hX ho (m2_g1 h12) hk3 dX1_rate_97 ?_
      obtain ⟨x4, hc4, h⟩ := bn_e h
      refine r_callVi hX hR (c_X1_conditionHolds (σ := (m2 σ o P o2 Q)) X.2.1 G ho hc4) (m2_1 h12) (m2_1 h12) mf_X1_conditionHolds ml_X1_63 in_X1_conditionHolds se_X1_conditionHolds ho rfl ⟨rfl, rfl, Nat.le_of_ble_eq_true rfl, Nat.le_of_ble_eq_true rfl⟩ rfl (st := []) rfl (Nat.le_of_ble_eq_true rfl) dX1_rate_98 ?_
      refine r_if_eq hX dX1_rate_101 (fun hc => ?_) (fun hc => ?_)
      · replace h := ip_e hc h
        exact WW.sub [0, 1, 3] rfl (K114 v3 v5 trivial h)
      · replace h := in_e hc h
        refine r_iload_n hX rfl 1 rfl dX1_rate_104 ?_
        refine r_aload_n hX rfl 0 rfl dX1_rate_105 ?_
        refine gf_1_5 hX fl_X1_25 ho (m2_g1 h12) dX1_rate_106 ?_
        refine r_iload hX 3 rfl dX1_rate_109 ?_
        obtain ⟨hk5, h⟩ := kc_e h
        refine ga_1_6 hX ho (m2_g1 h12) hk5 dX1_rate_111 ?_
        refine r_iadd hX dX1_rate_112 ?_
        refine r_istore_n (L2 := [(3, .int (v3 + (P 6 (ix v5)))), (0, .ref (gA G o 0)), (4, .int v4), (5, .int v5)]) hX rfl (by decide) rfl dX1_rate_113 ?_
        exact WW.sub [1, 0, 3] rfl (K114 (v3 + (P 6 (ix v5))) v5 trivial h)
  unfold f_X1_rate at h
  refine r_aload_n hX rfl 0 rfl dX1_rate_0 ?_
  refine gf_1_10 hX fl_X1_43 ho (m2_g1 h12) dX1_rate_1 ?_
  refine r_iconst (v := 0) hX (by decide) dX1_rate_4 ?_
  refine r_iload_n hX rfl 2 rfl dX1_rate_5 ?_
  obtain ⟨hk6, h⟩ := kc_e h
  obtain ⟨P7, hP7, h⟩ := nb_e h
  refine pa_1_11 hX ho (m2_g1 h12) hk6 (m2_w1 h12 hP7) dX1_rate_6 ?_
  refine r_aload_n hX rfl 0 rfl dX1_rate_7 ?_
  refine gf_1_10 hX fl_X1_43 ho (m2_g1 h12) dX1_rate_8 ?_
  refine r_iconst (v := 1) hX (by decide) dX1_rate_11 ?_
  refine r_aload_n hX rfl 1 rfl dX1_rate_12 ?_
  refine gf_5_4 hX fl_X1_46 ho2 m2_g2 dX1_rate_13 ?_
  refine r_iload_n hX rfl 2 rfl dX1_rate_16 ?_
  obtain ⟨hk8, h⟩ := kc_e h
  refine ga_5_5 hX ho2 m2_g2 hk8 dX1_rate_17 ?_
  obtain ⟨hk9, h⟩ := kc_e h
  obtain ⟨P10, hP10, h⟩ := nb_e h
  refine pa_1_11 hX ho (m2_g1 h12) hk9 (m2_w1 h12 hP10) dX1_rate_18 ?_
  refine r_aload_n hX rfl 0 rfl dX1_rate_19 ?_
  refine gf_1_10 hX fl_X1_43 ho (m2_g1 h12) dX1_rate_20 ?_
  refine r_iconst (v := 2) hX (by decide) dX1_rate_23 ?_
  refine r_aload_n hX rfl 1 rfl dX1_rate_24 ?_
  refine gf_5_5 hX fl_X1_51 ho2 m2_g2 dX1_rate_25 ?_
  refine r_iload_n hX rfl 2 rfl dX1_rate_28 ?_
  obtain ⟨hk11, h⟩ := kc_e h
  refine ga_5_6 hX ho2 m2_g2 hk11 dX1_rate_29 ?_
  obtain ⟨hk12, h⟩ := kc_e h
  obtain ⟨P13, hP13, h⟩ := nb_e h
  refine pa_1_11 hX ho (m2_g1 h12) hk12 (m2_w1 h12 hP13) dX1_rate_30 ?_
  refine r_aload_n hX rfl 0 rfl dX1_rate_31 ?_
  refine gf_1_10 hX fl_X1_43 ho (m2_g1 h12) dX1_rate_32 ?_
  refine r_iconst (v := 3) hX (by decide) dX1_rate_35 ?_
  refine r_aload_n hX rfl 1 rfl dX1_rate_36 ?_
  refine gf_5_8 hX fl_X1_54 ho2 m2_g2 dX1_rate_37 ?_
  refine r_iload_n hX rfl 2 rfl dX1_rate_40 ?_
  obtain ⟨hk14, h⟩ := kc_e h
  refine ga_5_9 hX ho2 m2_g2 hk14 dX1_rate_41 ?_
  refine r_bipush (v := 10) hX (by decide) dX1_rate_42 ?_
  refine r_idiv hX (by decide) dX1_rate_44 ?_
  obtain ⟨hk15, h⟩ := kc_e h
  obtain ⟨P16, hP16, h⟩ := nb_e h
  refine pa_1_11 hX ho (m2_g1 h12) hk15 (m2_w1 h12 hP16) dX1_rate_45 ?_
  refine r_aload_n hX rfl 0 rfl dX1_rate_46 ?_
  refine gf_1_10 hX fl_X1_43 ho (m2_g1 h12) dX1_rate_47 ?_
  refine r_iconst (v := 4) hX (by decide) dX1_rate_50 ?_
  refine r_aload_n hX rfl 1 rfl dX1_rate_51 ?_
  refine gf_5_9 hX fl_X1_57 ho2 m2_g2 dX1_rate_52 ?_
  refine r_iload_n hX rfl 2 rfl dX1_rate_55 ?_
  obtain ⟨hk17, h⟩ := kc_e h
  refine ga_5_10 hX ho2 m2_g2 hk17 dX1_rate_56 ?_
  obtain ⟨hk18, h⟩ := kc_e h
  obtain ⟨P19, hP19, h⟩ := nb_e h
  refine pa_1_11 hX ho (m2_g1 h12) hk18 (m2_w1 h12 hP19) dX1_rate_57 ?_
  refine r_aload_n hX rfl 0 rfl dX1_rate_58 ?_
  refine gf_1_10 hX fl_X1_43 ho (m2_g1 h12) dX1_rate_59 ?_
  refine r_iconst (v := 5) hX (by decide) dX1_rate_62 ?_
  refine r_aload_n hX rfl 1 rfl dX1_rate_63 ?_
  refine gf_5_1 hX fl_X1_60 ho2 m2_g2 dX1_rate_64 ?_
  refine r_bipush (v := 10) hX (by decide) dX1_rate_67 ?_
  refine r_irem hX (by decide) dX1_rate_69 ?_
  obtain ⟨hk20, h⟩ := kc_e h
  obtain ⟨P21, hP21, h⟩ := nb_e h
  refine pa_1_11 hX ho (m2_g1 h12) hk20 (m2_w1 h12 hP21) dX1_rate_70 ?_
  refine r_iconst (v := 1) hX (by decide) dX1_rate_71 ?_
  refine r_istore_n (L2 := [(3, .int 1), (0, .ref (gA G o 0)), (1, .ref (gA G o2 0)), (2, .int a2)]) hX rfl (by decide) rfl dX1_rate_72 ?_
  refine r_iconst (v := 0) hX (by decide) dX1_rate_73 ?_
  refine r_istore (L2 := [(4, .int 0), (3, .int 1), (0, .ref (gA G o 0)), (1, .ref (gA G o2 0)), (2, .int a2)]) hX (by decide) rfl dX1_rate_74 ?_
  refine r_iconst (v := 0) hX (by decide) dX1_rate_76 ?_
  refine r_istore (L2 := [(5, .int 0), (4, .int 0), (3, .int 1), (0, .ref (gA G o 0)), (1, .ref (gA G o2 0)), (2, .int a2)]) hX (by decide) rfl dX1_rate_77 ?_
  exact WW.sub [3, 2, 1, 0] rfl (K79 P21 1 0 0 trivial h)
abbrev rm_X5_staysAway : Room := { frames := 0, cells := 0, slots := 0, locals := 60 }
def f_X5_staysAway (P : Pm) (a1 : Int32) : Option (Int32) :=
  (if inb a1 6 = true then (if (P 5 (ix a1)) = 4 then (if inb a1 6 = true then (if (P 11 (ix a1)) ≤ 30 then some 0 else some 1) else none) else some 0) else none)
set_option maxHeartbeats 4000000 in
set_option maxRecDepth 100000 in
theorem c_X5_staysAway (l : Launch) (G : GE) {σ : Mm} {lm : Ml} {o : Nat} (ho : kdo o = 5)  {P : Pm} {a1 : Int32} {rz : Int32} (h : f_X5_staysAway P a1 = some rz) : CM l G yX5_staysAway bX5_staysAway 2 (Option.some Jvm.ClassFile.FieldType.boolean) rm_X5_staysAway [.ref (gA G o 0), .int a1] (m1 σ o P) lm (some (.int rz)) (m1 σ o P) lm := by
  refine CM.of (own := zR5) (L0 := [(0, .ref (gA G o 0)), (1, .int a1)]) (by decide +kernel) rfl (Nat.le_of_ble_eq_true rfl) rfl (fun X hl hX hR hQ => ?_)
  unfold f_X5_staysAway at h
  refine r_aload_n hX rfl 0 rfl dX5_staysAway_0 ?_
  refine gf_5_4 hX fl_X5_24 ho m1_g dX5_staysAway_1 ?_
  refine r_iload_n hX rfl 1 rfl dX5_staysAway_4 ?_
  obtain ⟨hk1, h⟩ := kc_e h
  refine ga_5_5 hX ho m1_g hk1 dX5_staysAway_5 ?_
  refine r_iconst (v := 4) hX (by decide) dX5_staysAway_6 ?_
  refine r_icmp_ne hX dX5_staysAway_7 (fun hc => ?_) (fun hc => ?_)
  · replace h := in_e hc h
    refine r_iconst (v := 0) hX (by decide) dX5_staysAway_25 ?_
    have g0 := Option.some.inj h
    subst g0
    exact r_zret hX (Or.inl rfl) hQ dX5_staysAway_26
  · replace h := ip_e hc h
    refine r_aload_n hX rfl 0 rfl dX5_staysAway_10 ?_
    refine gf_5_10 hX fl_X5_43 ho m1_g dX5_staysAway_11 ?_
    refine r_iload_n hX rfl 1 rfl dX5_staysAway_14 ?_
    obtain ⟨hk2, h⟩ := kc_e h
    refine ga_5_11 hX ho m1_g hk2 dX5_staysAway_15 ?_
    refine r_bipush (v := 30) hX (by decide) dX5_staysAway_16 ?_
    refine r_icmp_le hX dX5_staysAway_18 (fun hc => ?_) (fun hc => ?_)
    · replace h := ip_e hc h
      refine r_iconst (v := 0) hX (by decide) dX5_staysAway_25 ?_
      have g0 := Option.some.inj h
      subst g0
      exact r_zret hX (Or.inl rfl) hQ dX5_staysAway_26
    · replace h := in_e hc h
      refine r_iconst (v := 1) hX (by decide) dX5_staysAway_21 ?_
      refine r_goto hX dX5_staysAway_22 ?_
      have g0 := Option.some.inj h
      subst g0
      exact r_zret hX (Or.inr rfl) hQ dX5_staysAway_26
abbrev rm_X5_keeps : Room := { frames := 0, cells := 0, slots := 0, locals := 60 }
def f_X5_keeps_J20 (P : Pm) (v1 : Int32) : Option (Int32) :=
  (if inb v1 6 = true then some (3 + (P 6 (ix v1))) else none)
def f_X5_keeps (P : Pm) (a1 : Int32) : Option (Int32) :=
  (if inb a1 6 = true then (if (P 5 (ix a1)) = 1 then f_X5_keeps_J20 P a1 else (if inb a1 6 = true then (if (P 5 (ix a1)) = 4 then f_X5_keeps_J20 P a1 else some 3) else none)) else none)
set_option maxHeartbeats 4000000 in
set_option maxRecDepth 100000 in
theorem c_X5_keeps (l : Launch) (G : GE) {σ : Mm} {lm : Ml} {o : Nat} (ho : kdo o = 5)  {P : Pm} {a1 : Int32} {rz : Int32} (h : f_X5_keeps P a1 = some rz) : CM l G yX5_keeps bX5_keeps 2 (Option.some Jvm.ClassFile.FieldType.int) rm_X5_keeps [.ref (gA G o 0), .int a1] (m1 σ o P) lm (some (.int rz)) (m1 σ o P) lm := by
  refine CM.of (own := zR5) (L0 := [(0, .ref (gA G o 0)), (1, .int a1)]) (by decide +kernel) rfl (Nat.le_of_ble_eq_true rfl) rfl (fun X hl hX hR hQ => ?_)
  have K20 : ∀ (v1 : Int32) (_ : True), f_X5_keeps_J20 P v1 = some rz → WW X G 2 (m1 σ o P) lm 20 [(0, .ref (gA G o 0)), (1, .int v1)] [] := by
    intro v1 _ h
    unfold f_X5_keeps_J20 at h
    refine r_iconst (v := 3) hX (by decide) dX5_keeps_20 ?_
    refine r_aload_n hX rfl 0 rfl dX5_keeps_21 ?_
    refine gf_5_5 hX fl_X5_28 ho m1_g dX5_keeps_22 ?_
    refine r_iload_n hX rfl 1 rfl dX5_keeps_25 ?_
    obtain ⟨hk1, h⟩ := kc_e h
    refine ga_5_6 hX ho m1_g hk1 dX5_keeps_26 ?_
    refine r_iadd hX dX5_keeps_27 ?_
    refine r_goto hX dX5_keeps_28 ?_
    have g0 := Option.some.inj h
    subst g0
    exact r_iret hX hQ dX5_keeps_32
  unfold f_X5_keeps at h
  refine r_aload_n hX rfl 0 rfl dX5_keeps_0 ?_
  refine gf_5_4 hX fl_X5_24 ho m1_g dX5_keeps_1 ?_
  refine r_iload_n hX rfl 1 rfl dX5_keeps_4 ?_
  obtain ⟨hk2, h⟩ := kc_e h
  refine ga_5_5 hX ho m1_g hk2 dX5_keeps_5 ?_
  refine r_iconst (v := 1) hX (by decide) dX5_keeps_6 ?_
  refine r_icmp_eq hX dX5_keeps_7 (fun hc => ?_) (fun hc => ?_)
  · replace h := ip_e hc h
    exact WW.sub [0, 1] rfl (K20 a1 trivial h)
  · replace h := in_e hc h
    refine r_aload_n hX rfl 0 rfl dX5_keeps_10 ?_
    refine gf_5_4 hX fl_X5_24 ho m1_g dX5_keeps_11 ?_
    refine r_iload_n hX rfl 1 rfl dX5_keeps_14 ?_
    obtain ⟨hk3, h⟩ := kc_e h
    refine ga_5_5 hX ho m1_g hk3 dX5_keeps_15 ?_
    refine r_iconst (v := 4) hX (by decide) dX5_keeps_16 ?_
    refine r_icmp_ne hX dX5_keeps_17 (fun hc => ?_) (fun hc => ?_)
    · replace h := in_e hc h
      refine r_iconst (v := 3) hX (by decide) dX5_keeps_31 ?_
      have g0 := Option.some.inj h
      subst g0
      exact r_iret hX hQ dX5_keeps_32
    · replace h := ip_e hc h
      exact WW.sub [0, 1] rfl (K20 a1 trivial h)
abbrev rm_X5_bringsBack : Room := { frames := 0, cells := 0, slots := 0, locals := 60 }
def f_X5_bringsBack_J21 (P : Pm) (v1 : Int32) : Option (Int32) :=
  (if inb v1 6 = true then (if inb v1 6 = true then some ((P 9 (ix v1)) - ((P 9 (ix v1)) / 10)) else none) else none)
def f_X5_bringsBack (P : Pm) (a1 : Int32) : Option (Int32) :=
  (if inb a1 6 = true then (if (P 5 (ix a1)) = 3 then f_X5_bringsBack_J21 P a1 else (if inb a1 6 = true then (if (P 5 (ix a1)) = 6 then f_X5_bringsBack_J21 P a1 else (if inb a1 6 = true then some (P 9 (ix a1)) else none)) else none)) else none)
set_option maxHeartbeats 4000000 in
set_option maxRecDepth 100000 in
theorem c_X5_bringsBack (l : Launch) (G : GE) {σ : Mm} {lm : Ml} {o : Nat} (ho : kdo o = 5)  {P : Pm} {a1 : Int32} {rz : Int32} (h : f_X5_bringsBack P a1 = some rz) : CM l G yX5_bringsBack bX5_bringsBack 2 (Option.some Jvm.ClassFile.FieldType.int) rm_X5_bringsBack [.ref (gA G o 0), .int a1] (m1 σ o P) lm (some (.int rz)) (m1 σ o P) lm := by
  refine CM.of (own := zR5) (L0 := [(0, .ref (gA G o 0)), (1, .int a1)]) (by decide +kernel) rfl (Nat.le_of_ble_eq_true rfl) rfl (fun X hl hX hR hQ => ?_)
  have K21 : ∀ (v1 : Int32) (_ : True), f_X5_bringsBack_J21 P v1 = some rz → WW X G 2 (m1 σ o P) lm 21 [(0, .ref (gA G o 0)), (1, .int v1)] [] := by
    intro v1 _ h
    unfold f_X5_bringsBack_J21 at h
    refine r_aload_n hX rfl 0 rfl dX5_bringsBack_21 ?_
    refine gf_5_8 hX fl_X5_37 ho m1_g dX5_bringsBack_22 ?_
    refine r_iload_n hX rfl 1 rfl dX5_bringsBack_25 ?_
    obtain ⟨hk1, h⟩ := kc_e h
    refine ga_5_9 hX ho m1_g hk1 dX5_bringsBack_26 ?_
    refine r_aload_n hX rfl 0 rfl dX5_bringsBack_27 ?_
    refine gf_5_8 hX fl_X5_37 ho m1_g dX5_bringsBack_28 ?_
    refine r_iload_n hX rfl 1 rfl dX5_bringsBack_31 ?_
    obtain ⟨hk2, h⟩ := kc_e h
    refine ga_5_9 hX ho m1_g hk2 dX5_bringsBack_32 ?_
    refine r_bipush (v := 10) hX (by decide) dX5_bringsBack_33 ?_
    refine r_idiv hX (by decide) dX5_bringsBack_35 ?_
    refine r_isub hX dX5_bringsBack_36 ?_
    refine r_goto hX dX5_bringsBack_37 ?_
    have g0 := Option.some.inj h
    subst g0
    exact r_iret hX hQ dX5_bringsBack_46
  unfold f_X5_bringsBack at h
  refine r_aload_n hX rfl 0 rfl dX5_bringsBack_0 ?_
  refine gf_5_4 hX fl_X5_24 ho m1_g dX5_bringsBack_1 ?_
  refine r_iload_n hX rfl 1 rfl dX5_bringsBack_4 ?_
  obtain ⟨hk3, h⟩ := kc_e h
  refine ga_5_5 hX ho m1_g hk3 dX5_bringsBack_5 ?_
  refine r_iconst (v := 3) hX (by decide) dX5_bringsBack_6 ?_
  refine r_icmp_eq hX dX5_bringsBack_7 (fun hc => ?_) (fun hc => ?_)
  · replace h := ip_e hc h
    exact WW.sub [0, 1] rfl (K21 a1 trivial h)
  · replace h := in_e hc h
    refine r_aload_n hX rfl 0 rfl dX5_bringsBack_10 ?_
    refine gf_5_4 hX fl_X5_24 ho m1_g dX5_bringsBack_11 ?_
    refine r_iload_n hX rfl 1 rfl dX5_bringsBack_14 ?_
    obtain ⟨hk4, h⟩ := kc_e h
    refine ga_5_5 hX ho m1_g hk4 dX5_bringsBack_15 ?_
    refine r_bipush (v := 6) hX (by decide) dX5_bringsBack_16 ?_
    refine r_icmp_ne hX dX5_bringsBack_18 (fun hc => ?_) (fun hc => ?_)
    · replace h := in_e hc h
      refine r_aload_n hX rfl 0 rfl dX5_bringsBack_40 ?_
      refine gf_5_8 hX fl_X5_37 ho m1_g dX5_bringsBack_41 ?_
      refine r_iload_n hX rfl 1 rfl dX5_bringsBack_44 ?_
      obtain ⟨hk5, h⟩ := kc_e h
      refine ga_5_9 hX ho m1_g hk5 dX5_bringsBack_45 ?_
      have g0 := Option.some.inj h
      subst g0
      exact r_iret hX hQ dX5_bringsBack_46
    · replace h := ip_e hc h
      exact WW.sub [0, 1] rfl (K21 a1 trivial h)
abbrev rm_X5_keepOn : Room := { frames := 2, cells := 0, slots := 0, locals := 110 }
def f_X5_keepOn (P : Pm) (Q : Pm) (a1 : Int32) : Option (Pm × Pm) :=
  (if inb a1 6 = true then bn2 (f_X1_rate Q P a1) (fun x2 Q3 => (if inb a1 6 = true then Option.bind (f_J9_min_7cf53 99999 ((P 11 (ix a1)) + ((x2 * (P 9 (ix a1))) / 10))) (fun x5 => (if inb a1 6 = true then nb (up2 P 11 (ix a1) x5) (fun P7 => (if inb a1 6 = true then Option.bind (f_J9_max_7cf53 0 ((P7 10 (ix a1)) - 1)) (fun x9 => (if inb a1 6 = true then nb (up2 P7 10 (ix a1) x9) (fun P11 => (if inb a1 6 = true then (if (P11 10 (ix a1)) ≤ 0 then Option.bind (f_X5_staysAway P11 a1) (fun x13 => (if x13 = 0 then Option.bind (f_X5_bringsBack P11 a1) (fun x14 => Option.bind (f_X5_rise P11 x14) (fun P15 => (if inb a1 6 = true then nb (up2 P15 9 (ix a1) 0) (fun P17 => some (P17, Q3)) else none))) else Option.bind (f_X5_keeps P11 a1) (fun x18 => (if inb a1 6 = true then nb (up2 P11 10 (ix a1) x18) (fun P20 => some (P20, Q3)) else none)))) else some (P11, Q3)) else none)) else none)) else none)) else none)) else none)) else none)
set_option maxHeartbeats 4000000 in
set_option maxRecDepth 100000 in
theorem c_X5_keepOn (l : Launch) (G : GE) {σ : Mm} {lm : Ml} {o : Nat} (ho : kdo o = 5) {o2 : Nat} (ho2 : kdo o2 = 1) (h12 : o ≠ o2)  {P : Pm} {Q : Pm} {a1 : Int32} {Pz : Pm} {Qz : Pm} (h : f_X5_keepOn P Q a1 = some (Pz, Qz)) : CM l G yX5_keepOn bX5_keepOn 3 (Option.none : Option Jvm.ClassFile.FieldType) rm_X5_keepOn [.ref (gA G o 0), .int a1, .ref (gA G o2 0)] (m2 σ o P o2 Q) lm (none) (m2 σ o Pz o2 Qz) lm := by
  refine CM.of (own := zR5) (L0 := [(0, .ref (gA G o 0)), (1, .int a1), (2, .ref (gA G o2 0))]) (by decide +kernel) rfl (Nat.le_of_ble_eq_true rfl) rfl (fun X hl hX hR hQ => ?_)
  unfold f_X5_keepOn at h
  refine r_aload_n hX rfl 0 rfl dX5_keepOn_0 ?_
  refine gf_5_10 hX fl_X5_43 ho (m2_g1 h12) dX5_keepOn_1 ?_
  refine r_iload_n hX rfl 1 rfl dX5_keepOn_4 ?_
  refine r_ldc hX co_X5_93 dX5_keepOn_5 ?_
  refine r_aload_n hX rfl 0 rfl dX5_keepOn_7 ?_
  refine gf_5_10 hX fl_X5_43 ho (m2_g1 h12) dX5_keepOn_8 ?_
  refine r_iload_n hX rfl 1 rfl dX5_keepOn_11 ?_
  obtain ⟨hk1, h⟩ := kc_e h
  refine ga_5_11 hX ho (m2_g1 h12) hk1 dX5_keepOn_12 ?_
  refine r_aload_n hX rfl 2 rfl dX5_keepOn_13 ?_
  refine r_aload_n hX rfl 0 rfl dX5_keepOn_14 ?_
  refine r_iload_n hX rfl 1 rfl dX5_keepOn_15 ?_
  obtain ⟨x2, Q3, hc3, h⟩ := bn2_e h
  refine r_callVi hX hR (c_X1_rate (σ := σ) X.2.1 G ho2 ho (Ne.symm h12) hc3) (m2_x h12).symm (m2_x h12).symm mf_X1_rate ml_X5_94 in_X1_rate se_X1_rate ho2 rfl ⟨rfl, rfl, Nat.le_of_ble_eq_true rfl, Nat.le_of_ble_eq_true rfl⟩ rfl (st := [.int (P 11 (ix a1)), .int 99999, .int a1, .ref (gA G o 11)]) rfl (Nat.le_of_ble_eq_true rfl) dX5_keepOn_16 ?_
  refine r_aload_n hX rfl 0 rfl dX5_keepOn_19 ?_
  refine gf_5_8 hX fl_X5_37 ho (m2_g1 h12) dX5_keepOn_20 ?_
  refine r_iload_n hX rfl 1 rfl dX5_keepOn_23 ?_
  obtain ⟨hk4, h⟩ := kc_e h
  refine ga_5_9 hX ho (m2_g1 h12) hk4 dX5_keepOn_24 ?_
  refine r_imul hX dX5_keepOn_25 ?_
  refine r_bipush (v := 10) hX (by decide) dX5_keepOn_26 ?_
  refine r_idiv hX (by decide) dX5_keepOn_28 ?_
  refine r_iadd hX dX5_keepOn_29 ?_
  obtain ⟨x5, hc5, h⟩ := bn_e h
  refine r_callSi hX hR (c_J9_min_7cf53 (σ := (m2 σ o P o2 Q3)) X.2.1 G hc5) rfl rfl mf_J9_min_7cf53 ml_X5_61 st_J9_min_7cf53 ⟨rfl, rfl, Nat.le_of_ble_eq_true rfl, Nat.le_of_ble_eq_true rfl⟩ rfl (st := [.int a1, .ref (gA G o 11)]) rfl (Nat.le_of_ble_eq_true rfl) dX5_keepOn_30 ?_
  obtain ⟨hk6, h⟩ := kc_e h
  obtain ⟨P7, hP7, h⟩ := nb_e h
  refine pa_5_11 hX ho (m2_g1 h12) hk6 (m2_w1 h12 hP7) dX5_keepOn_33 ?_
  refine r_aload_n hX rfl 0 rfl dX5_keepOn_34 ?_
  refine gf_5_9 hX fl_X5_40 ho (m2_g1 h12) dX5_keepOn_35 ?_
  refine r_iload_n hX rfl 1 rfl dX5_keepOn_38 ?_
  refine r_iconst (v := 0) hX (by decide) dX5_keepOn_39 ?_
  refine r_aload_n hX rfl 0 rfl dX5_keepOn_40 ?_
  refine gf_5_9 hX fl_X5_40 ho (m2_g1 h12) dX5_keepOn_41 ?_
  refine r_iload_n hX rfl 1 rfl dX5_keepOn_44 ?_
  obtain ⟨hk8, h⟩ := kc_e h
  refine ga_5_10 hX ho (m2_g1 h12) hk8 dX5_keepOn_45 ?_
  refine r_iconst (v := 1) hX (by decide) dX5_keepOn_46 ?_
  refine r_isub hX dX5_keepOn_47 ?_
  obtain ⟨x9, hc9, h⟩ := bn_e h
  refine r_callSi hX hR (c_J9_max_7cf53 (σ := (m2 σ o P7 o2 Q3)) X.2.1 G hc9) rfl rfl mf_J9_max_7cf53 ml_X5_71 st_J9_max_7cf53 ⟨rfl, rfl, Nat.le_of_ble_eq_true rfl, Nat.le_of_ble_eq_true rfl⟩ rfl (st := [.int a1, .ref (gA G o 10)]) rfl (Nat.le_of_ble_eq_true rfl) dX5_keepOn_48 ?_
  obtain ⟨hk10, h⟩ := kc_e h
  obtain ⟨P11, hP11, h⟩ := nb_e h
  refine pa_5_10 hX ho (m2_g1 h12) hk10 (m2_w1 h12 hP11) dX5_keepOn_51 ?_
  refine r_aload_n hX rfl 0 rfl dX5_keepOn_52 ?_
  refine gf_5_9 hX fl_X5_40 ho (m2_g1 h12) dX5_keepOn_53 ?_
  refine r_iload_n hX rfl 1 rfl dX5_keepOn_56 ?_
  obtain ⟨hk12, h⟩ := kc_e h
  refine ga_5_10 hX ho (m2_g1 h12) hk12 dX5_keepOn_57 ?_
  refine r_if_le hX dX5_keepOn_58 (fun hc => ?_) (fun hc => ?_)
  · replace h := ip_e hc h
    refine r_aload_n hX rfl 0 rfl dX5_keepOn_62 ?_
    refine r_iload_n hX rfl 1 rfl dX5_keepOn_63 ?_
    obtain ⟨x13, hc13, h⟩ := bn_e h
    refine r_callVi hX hR (c_X5_staysAway (σ := (m2 σ o P11 o2 Q3)) X.2.1 G ho hc13) (m2_1 h12) (m2_1 h12) mf_X5_staysAway ml_X5_98 in_X5_staysAway se_X5_staysAway ho rfl ⟨rfl, rfl, Nat.le_of_ble_eq_true rfl, Nat.le_of_ble_eq_true rfl⟩ rfl (st := []) rfl (Nat.le_of_ble_eq_true rfl) dX5_keepOn_64 ?_
    refine r_if_eq hX dX5_keepOn_67 (fun hc => ?_) (fun hc => ?_)
    · replace h := ip_e hc h
      refine r_aload_n hX rfl 0 rfl dX5_keepOn_84 ?_
      refine r_aload_n hX rfl 0 rfl dX5_keepOn_85 ?_
      refine r_iload_n hX rfl 1 rfl dX5_keepOn_86 ?_
      obtain ⟨x14, hc14, h⟩ := bn_e h
      refine r_callVi hX hR (c_X5_bringsBack (σ := (m2 σ o P11 o2 Q3)) X.2.1 G ho hc14) (m2_1 h12) (m2_1 h12) mf_X5_bringsBack ml_X5_106 in_X5_bringsBack se_X5_bringsBack ho rfl ⟨rfl, rfl, Nat.le_of_ble_eq_true rfl, Nat.le_of_ble_eq_true rfl⟩ rfl (st := [.ref (gA G o 0)]) rfl (Nat.le_of_ble_eq_true rfl) dX5_keepOn_87 ?_
      obtain ⟨P15, hc15, h⟩ := bn_e h
      refine r_callVv hX hR (c_X5_rise (σ := (m2 σ o P11 o2 Q3)) X.2.1 G ho hc15) (m2_1 h12) (m2_1 h12) mf_X5_rise ml_X5_67 in_X5_rise se_X5_rise ho rfl ⟨rfl, rfl, Nat.le_of_ble_eq_true rfl, Nat.le_of_ble_eq_true rfl⟩ rfl (st := []) rfl (Nat.le_of_ble_eq_true rfl) dX5_keepOn_90 ?_
      refine r_aload_n hX rfl 0 rfl dX5_keepOn_93 ?_
      refine gf_5_8 hX fl_X5_37 ho (m2_g1 h12) dX5_keepOn_94 ?_
      refine r_iload_n hX rfl 1 rfl dX5_keepOn_97 ?_
      refine r_iconst (v := 0) hX (by decide) dX5_keepOn_98 ?_
      obtain ⟨hk16, h⟩ := kc_e h
      obtain ⟨P17, hP17, h⟩ := nb_e h
      refine pa_5_9 hX ho (m2_g1 h12) hk16 (m2_w1 h12 hP17) dX5_keepOn_99 ?_
      have g0 := Option.some.inj h
      obtain ⟨q0, g1⟩ := Prod.mk.inj g0
      subst q0
      subst g1
      exact r_vret hX hQ dX5_keepOn_100
    · replace h := in_e hc h
      refine r_aload_n hX rfl 0 rfl dX5_keepOn_70 ?_
      refine gf_5_9 hX fl_X5_40 ho (m2_g1 h12) dX5_keepOn_71 ?_
      refine r_iload_n hX rfl 1 rfl dX5_keepOn_74 ?_
      refine r_aload_n hX rfl 0 rfl dX5_keepOn_75 ?_
      refine r_iload_n hX rfl 1 rfl dX5_keepOn_76 ?_
      obtain ⟨x18, hc18, h⟩ := bn_e h
      refine r_callVi hX hR (c_X5_keeps (σ := (m2 σ o P11 o2 Q3)) X.2.1 G ho hc18) (m2_1 h12) (m2_1 h12) mf_X5_keeps ml_X5_102 in_X5_keeps se_X5_keeps ho rfl ⟨rfl, rfl, Nat.le_of_ble_eq_true rfl, Nat.le_of_ble_eq_true rfl⟩ rfl (st := [.int a1, .ref (gA G o 10)]) rfl (Nat.le_of_ble_eq_true rfl) dX5_keepOn_77 ?_
      obtain ⟨hk19, h⟩ := kc_e h
      obtain ⟨P20, hP20, h⟩ := nb_e h
      refine pa_5_10 hX ho (m2_g1 h12) hk19 (m2_w1 h12 hP20) dX5_keepOn_80 ?_
      refine r_goto hX dX5_keepOn_81 ?_
      have g0 := Option.some.inj h
      obtain ⟨q0, g1⟩ := Prod.mk.inj g0
      subst q0
      subst g1
      exact r_vret hX hQ dX5_keepOn_100
  · replace h := in_e hc h
    have g0 := Option.some.inj h
    obtain ⟨q0, g1⟩ := Prod.mk.inj g0
    subst q0
    subst g1
    exact r_vret hX hQ dX5_keepOn_61
abbrev rm_J9_floorMod_7cf53 : Room := { frames := 0, cells := 0, slots := 0, locals := 60 }
def f_J9_floorMod_7cf53 (a0 : Int32) (a1 : Int32) : Option (Int32) :=
  (if a1 = 0 then none else (if 0 ≤ (a0 ^^^ a1) then some (a0 - a0 / a1 * a1) else (if (a0 - a0 / a1 * a1) = 0 then some (a0 - a0 / a1 * a1) else some ((a0 - a0 / a1 * a1) + a1))))
set_option maxHeartbeats 4000000 in
set_option maxRecDepth 100000 in
theorem c_J9_floorMod_7cf53 (l : Launch) (G : GE) {σ : Mm} {lm : Ml}  {a0 : Int32} {a1 : Int32} {rz : Int32} (h : f_J9_floorMod_7cf53 a0 a1 = some rz) : CM l G yJ9_floorMod_7cf53 bJ9_floorMod_7cf53 3 (Option.some Jvm.ClassFile.FieldType.int) rm_J9_floorMod_7cf53 [.int a0, .int a1] σ lm (some (.int rz)) σ lm := by
  refine CM.of (own := zRJ9) (L0 := [(0, .int a0), (1, .int a1)]) (by decide +kernel) rfl (Nat.le_of_ble_eq_true rfl) rfl (fun X hl hX hR hQ => ?_)
  unfold f_J9_floorMod_7cf53 at h
  refine r_iload_n hX rfl 0 rfl dJ9_floorMod_7cf53_0 ?_
  refine r_iload_n hX rfl 1 rfl dJ9_floorMod_7cf53_1 ?_
  obtain ⟨hk1, h⟩ := cz_e h
  refine r_irem hX hk1 dJ9_floorMod_7cf53_2 ?_
  refine r_istore_n (L2 := [(2, .int (a0 - a0 / a1 * a1)), (0, .int a0), (1, .int a1)]) hX rfl (by decide) rfl dJ9_floorMod_7cf53_3 ?_
  refine r_iload_n hX rfl 1 rfl dJ9_floorMod_7cf53_4 ?_
  refine r_iload_n hX rfl 2 rfl dJ9_floorMod_7cf53_5 ?_
  refine r_ixor hX dJ9_floorMod_7cf53_6 ?_
  refine r_if_ge hX dJ9_floorMod_7cf53_7 (fun hc => ?_) (fun hc => ?_)
  · replace h := ip_e hc h
    refine r_iload_n hX rfl 0 rfl dJ9_floorMod_7cf53_18 ?_
    have g0 := Option.some.inj h
    subst g0
    exact r_iret hX hQ dJ9_floorMod_7cf53_19
  · replace h := in_e hc h
    refine r_iload_n hX rfl 0 rfl dJ9_floorMod_7cf53_10 ?_
    refine r_if_eq hX dJ9_floorMod_7cf53_11 (fun hc => ?_) (fun hc => ?_)
    · replace h := ip_e hc h
      refine r_iload_n hX rfl 0 rfl dJ9_floorMod_7cf53_18 ?_
      have g0 := Option.some.inj h
      subst g0
      exact r_iret hX hQ dJ9_floorMod_7cf53_19
    · replace h := in_e hc h
      refine r_iload_n hX rfl 0 rfl dJ9_floorMod_7cf53_14 ?_
      refine r_iload_n hX rfl 2 rfl dJ9_floorMod_7cf53_15 ?_
      refine r_iadd hX dJ9_floorMod_7cf53_16 ?_
      have g0 := Option.some.inj h
      subst g0
      exact r_iret hX hQ dJ9_floorMod_7cf53_17
abbrev rm_X5_asks : Room := { frames := 1, cells := 0, slots := 0, locals := 82 }
def f_X5_asks_J96 (P : Pm) (v1 : Int32) : Option (Int32) :=
  (if inb v1 6 = true then some (P 7 (ix v1)) else none)
def f_X5_asks (P : Pm) (a1 : Int32) (a2 : Int32) : Option (Int32) :=
  (if inb a1 6 = true then (if (P 5 (ix a1)) = 2 then (if inb a1 6 = true then some (2 * (P 7 (ix a1))) else none) else (if (P 5 (ix a1)) = 5 then (if inb a1 6 = true then Option.bind (f_J9_max_7cf53 0 ((P 0 0) - a2)) (fun x5 => Option.bind (f_J9_min_7cf53 (2 * (P 7 (ix a1))) x5) (fun x6 => some x6)) else none) else (if (P 5 (ix a1)) = 6 then (if inb a1 6 = true then Option.bind (f_J9_floorMod_7cf53 (P 0 1) 4) (fun x8 => (if inb ((a1 * 4) + x8) 24 = true then some ((P 7 (ix a1)) + (P 14 (ix ((a1 * 4) + x8)))) else none)) else none) else f_X5_asks_J96 P a1))) else none)
set_option maxHeartbeats 4000000 in
set_option maxRecDepth 100000 in
theorem c_X5_asks (l : Launch) (G : GE) {σ : Mm} {lm : Ml} {o : Nat} (ho : kdo o = 5)  {P : Pm} {a1 : Int32} {a2 : Int32} {rz : Int32} (h : f_X5_asks P a1 a2 = some rz) : CM l G yX5_asks bX5_asks 3 (Option.some Jvm.ClassFile.FieldType.int) rm_X5_asks [.ref (gA G o 0), .int a1, .int a2] (m1 σ o P) lm (some (.int rz)) (m1 σ o P) lm := by
  refine CM.of (own := zR5) (L0 := [(0, .ref (gA G o 0)), (1, .int a1), (2, .int a2)]) (by decide +kernel) rfl (Nat.le_of_ble_eq_true rfl) rfl (fun X hl hX hR hQ => ?_)
  have K96 : ∀ (v1 : Int32) (_ : True), f_X5_asks_J96 P v1 = some rz → WW X G 3 (m1 σ o P) lm 96 [(0, .ref (gA G o 0)), (1, .int v1)] [] := by
    intro v1 _ h
    unfold f_X5_asks_J96 at h
    refine r_aload_n hX rfl 0 rfl dX5_asks_96 ?_
    refine gf_5_6 hX fl_X5_31 ho m1_g dX5_asks_97 ?_
    refine r_iload_n hX rfl 1 rfl dX5_asks_100 ?_
    obtain ⟨hk1, h⟩ := kc_e h
    refine ga_5_7 hX ho m1_g hk1 dX5_asks_101 ?_
    have g0 := Option.some.inj h
    subst g0
    exact r_iret hX hQ dX5_asks_102
  unfold f_X5_asks at h
  refine r_aload_n hX rfl 0 rfl dX5_asks_0 ?_
  refine gf_5_4 hX fl_X5_24 ho m1_g dX5_asks_1 ?_
  refine r_iload_n hX rfl 1 rfl dX5_asks_4 ?_
  obtain ⟨hk2, h⟩ := kc_e h
  refine ga_5_5 hX ho m1_g hk2 dX5_asks_5 ?_
  by_cases hc0 : (P 5 (ix a1)) = 2
  · replace h := ip_e hc0 h
    refine r_tswI (k := 2) (off := 34) (tgt := 40) hX hc0 (by decide) (by decide) (by decide) dX5_asks_6 ?_
    refine r_iconst (v := 2) hX (by decide) dX5_asks_40 ?_
    refine r_aload_n hX rfl 0 rfl dX5_asks_41 ?_
    refine gf_5_6 hX fl_X5_31 ho m1_g dX5_asks_42 ?_
    refine r_iload_n hX rfl 1 rfl dX5_asks_45 ?_
    obtain ⟨hk3, h⟩ := kc_e h
    refine ga_5_7 hX ho m1_g hk3 dX5_asks_46 ?_
    refine r_imul hX dX5_asks_47 ?_
    have g0 := Option.some.inj h
    subst g0
    exact r_iret hX hQ dX5_asks_48
  · replace h := in_e hc0 h
    by_cases hc1 : (P 5 (ix a1)) = 5
    · replace h := ip_e hc1 h
      refine r_tswI (k := 5) (off := 43) (tgt := 49) hX hc1 (by decide) (by decide) (by decide) dX5_asks_6 ?_
      refine r_iconst (v := 2) hX (by decide) dX5_asks_49 ?_
      refine r_aload_n hX rfl 0 rfl dX5_asks_50 ?_
      refine gf_5_6 hX fl_X5_31 ho m1_g dX5_asks_51 ?_
      refine r_iload_n hX rfl 1 rfl dX5_asks_54 ?_
      obtain ⟨hk4, h⟩ := kc_e h
      refine ga_5_7 hX ho m1_g hk4 dX5_asks_55 ?_
      refine r_imul hX dX5_asks_56 ?_
      refine r_iconst (v := 0) hX (by decide) dX5_asks_57 ?_
      refine r_aload_n hX rfl 0 rfl dX5_asks_58 ?_
      refine gf_5_0 hX fl_X5_9 ho m1_g dX5_asks_59 ?_
      refine r_iload_n hX rfl 2 rfl dX5_asks_62 ?_
      refine r_isub hX dX5_asks_63 ?_
      obtain ⟨x5, hc5, h⟩ := bn_e h
      refine r_callSi hX hR (c_J9_max_7cf53 (σ := (m1 σ o P)) X.2.1 G hc5) rfl rfl mf_J9_max_7cf53 ml_X5_71 st_J9_max_7cf53 ⟨rfl, rfl, Nat.le_of_ble_eq_true rfl, Nat.le_of_ble_eq_true rfl⟩ rfl (st := [.int (2 * (P 7 (ix a1)))]) rfl (Nat.le_of_ble_eq_true rfl) dX5_asks_64 ?_
      obtain ⟨x6, hc6, h⟩ := bn_e h
      refine r_callSi hX hR (c_J9_min_7cf53 (σ := (m1 σ o P)) X.2.1 G hc6) rfl rfl mf_J9_min_7cf53 ml_X5_61 st_J9_min_7cf53 ⟨rfl, rfl, Nat.le_of_ble_eq_true rfl, Nat.le_of_ble_eq_true rfl⟩ rfl (st := []) rfl (Nat.le_of_ble_eq_true rfl) dX5_asks_67 ?_
      have g0 := Option.some.inj h
      subst g0
      exact r_iret hX hQ dX5_asks_70
    · replace h := in_e hc1 h
      by_cases hc2 : (P 5 (ix a1)) = 6
      · replace h := ip_e hc2 h
        refine r_tswI (k := 6) (off := 65) (tgt := 71) hX hc2 (by decide) (by decide) (by decide) dX5_asks_6 ?_
        refine r_aload_n hX rfl 0 rfl dX5_asks_71 ?_
        refine gf_5_6 hX fl_X5_31 ho m1_g dX5_asks_72 ?_
        refine r_iload_n hX rfl 1 rfl dX5_asks_75 ?_
        obtain ⟨hk7, h⟩ := kc_e h
        refine ga_5_7 hX ho m1_g hk7 dX5_asks_76 ?_
        refine r_aload_n hX rfl 0 rfl dX5_asks_77 ?_
        refine gf_5_13 hX fl_X5_52 ho m1_g dX5_asks_78 ?_
        refine r_iload_n hX rfl 1 rfl dX5_asks_81 ?_
        refine r_iconst (v := 4) hX (by decide) dX5_asks_82 ?_
        refine r_imul hX dX5_asks_83 ?_
        refine r_aload_n hX rfl 0 rfl dX5_asks_84 ?_
        refine gf_5_1 hX fl_X5_15 ho m1_g dX5_asks_85 ?_
        refine r_iconst (v := 4) hX (by decide) dX5_asks_88 ?_
        obtain ⟨x8, hc8, h⟩ := bn_e h
        refine r_callSi hX hR (c_J9_floorMod_7cf53 (σ := (m1 σ o P)) X.2.1 G hc8) rfl rfl mf_J9_floorMod_7cf53 ml_X5_74 st_J9_floorMod_7cf53 ⟨rfl, rfl, Nat.le_of_ble_eq_true rfl, Nat.le_of_ble_eq_true rfl⟩ rfl (st := [.int (a1 * 4), .ref (gA G o 14), .int (P 7 (ix a1))]) rfl (Nat.le_of_ble_eq_true rfl) dX5_asks_89 ?_
        refine r_iadd hX dX5_asks_92 ?_
        obtain ⟨hk9, h⟩ := kc_e h
        refine ga_5_14 hX ho m1_g hk9 dX5_asks_93 ?_
        refine r_iadd hX dX5_asks_94 ?_
        have g0 := Option.some.inj h
        subst g0
        exact r_iret hX hQ dX5_asks_95
      · replace h := in_e hc2 h
        have hD : WW X G 3 (m1 σ o P) lm 96 [(0, .ref (gA G o 0)), (1, .int a1), (2, .int a2)] [] := by
          exact WW.sub [0, 1] rfl (K96 a1 trivial h)
        by_cases hg0 : (P 5 (ix a1)) = 3
        · exact r_tswI (k := 3) (off := 90) (tgt := 96) hX hg0 (by decide) (by decide) (by decide) dX5_asks_6 hD
        by_cases hg1 : (P 5 (ix a1)) = 4
        · exact r_tswI (k := 4) (off := 90) (tgt := 96) hX hg1 (by decide) (by decide) (by decide) dX5_asks_6 hD
        refine r_tswD (tgt := 96) hX ?_ (by decide) dX5_asks_6 hD
        have j0 := i32n (n := 2) hc0 rfl
        have j1 := i32n (n := 5) hc1 rfl
        have j2 := i32n (n := 6) hc2 rfl
        have j3 := i32n (n := 3) hg0 rfl
        have j4 := i32n (n := 4) hg1 rfl
        omega
abbrev rm_X5_comeAsking : Room := { frames := 2, cells := 0, slots := 0, locals := 104 }
def f_X5_comeAsking_J57 (P : Pm) (v1 : Int32) (v3 : Int32) : Option (Pm) :=
  (if inb v1 6 = true then (if inb v1 6 = true then nb (up2 P 12 (ix v1) ((P 12 (ix v1)) + 1)) (fun P3 => nb (up2 P3 0 3 ((P3 0 3) + 1)) (fun P4 => (if inb v1 6 = true then Option.bind (f_J9_max_7cf53 0 ((P4 11 (ix v1)) - v3)) (fun x6 => (if inb v1 6 = true then nb (up2 P4 11 (ix v1) x6) (fun P8 => some P8) else none)) else none))) else none) else none)
def f_X5_comeAsking (P : Pm) (a1 : Int32) (a2 : Int32) (a3 : Int32) : Option (Pm) :=
  Option.bind (f_X5_asks P a1 a2) (fun x9 => (if x9 ≤ 0 then f_X5_comeAsking_J57 P a1 a3 else (if ((P 0 0) - x9) < a2 then f_X5_comeAsking_J57 P a1 a3 else (if inb a1 6 = true then nb (up2 P 9 (ix a1) x9) (fun P11 => nb (up2 P11 0 0 ((P11 0 0) - x9)) (fun P12 => Option.bind (f_X5_keeps P12 a1) (fun x13 => (if inb a1 6 = true then nb (up2 P12 10 (ix a1) x13) (fun P15 => some P15) else none)))) else none))))
set_option maxHeartbeats 4000000 in
set_option maxRecDepth 100000 in
theorem c_X5_comeAsking (l : Launch) (G : GE) {σ : Mm} {lm : Ml} {o : Nat} (ho : kdo o = 5)  {P : Pm} {a1 : Int32} {a2 : Int32} {a3 : Int32} {Pz : Pm} (h : f_X5_comeAsking P a1 a2 a3 = some Pz) : CM l G yX5_comeAsking bX5_comeAsking 5 (Option.none : Option Jvm.ClassFile.FieldType) rm_X5_comeAsking [.ref (gA G o 0), .int a1, .int a2, .int a3] (m1 σ o P) lm (none) (m1 σ o Pz) lm := by
  refine CM.of (own := zR5) (L0 := [(0, .ref (gA G o 0)), (1, .int a1), (2, .int a2), (3, .int a3)]) (by decide +kernel) rfl (Nat.le_of_ble_eq_true rfl) rfl (fun X hl hX hR hQ => ?_)
  have K57 : ∀ (P : Pm) (v1 : Int32) (v3 : Int32) (_ : True), f_X5_comeAsking_J57 P v1 v3 = some Pz → WW X G 5 (m1 σ o P) lm 57 [(0, .ref (gA G o 0)), (1, .int v1), (3, .int v3)] [] := by
    intro P v1 v3 _ h
    unfold f_X5_comeAsking_J57 at h
    refine r_aload_n hX rfl 0 rfl dX5_comeAsking_57 ?_
    refine gf_5_11 hX fl_X5_46 ho m1_g dX5_comeAsking_58 ?_
    refine r_iload_n hX rfl 1 rfl dX5_comeAsking_61 ?_
    refine r_dup2 hX rfl rfl dX5_comeAsking_62 ?_
    obtain ⟨hk1, h⟩ := kc_e h
    refine ga_5_12 hX ho m1_g hk1 dX5_comeAsking_63 ?_
    refine r_iconst (v := 1) hX (by decide) dX5_comeAsking_64 ?_
    refine r_iadd hX dX5_comeAsking_65 ?_
    obtain ⟨hk2, h⟩ := kc_e h
    obtain ⟨P3, hP3, h⟩ := nb_e h
    refine pa_5_12 hX ho m1_g hk2 (m1_w hP3) dX5_comeAsking_66 ?_
    refine r_aload_n hX rfl 0 rfl dX5_comeAsking_67 ?_
    refine r_dup hX rfl dX5_comeAsking_68 ?_
    refine gf_5_3 hX fl_X5_21 ho m1_g dX5_comeAsking_69 ?_
    refine r_iconst (v := 1) hX (by decide) dX5_comeAsking_72 ?_
    refine r_iadd hX dX5_comeAsking_73 ?_
    obtain ⟨P4, hP4, h⟩ := nb_e h
    refine pf_5_3 hX fl_X5_21 ho m1_g dX5_comeAsking_74 (m1_w hP4) ?_
    refine r_aload_n hX rfl 0 rfl dX5_comeAsking_77 ?_
    refine gf_5_10 hX fl_X5_43 ho m1_g dX5_comeAsking_78 ?_
    refine r_iload_n hX rfl 1 rfl dX5_comeAsking_81 ?_
    refine r_iconst (v := 0) hX (by decide) dX5_comeAsking_82 ?_
    refine r_aload_n hX rfl 0 rfl dX5_comeAsking_83 ?_
    refine gf_5_10 hX fl_X5_43 ho m1_g dX5_comeAsking_84 ?_
    refine r_iload_n hX rfl 1 rfl dX5_comeAsking_87 ?_
    obtain ⟨hk5, h⟩ := kc_e h
    refine ga_5_11 hX ho m1_g hk5 dX5_comeAsking_88 ?_
    refine r_iload_n hX rfl 2 rfl dX5_comeAsking_89 ?_
    refine r_isub hX dX5_comeAsking_90 ?_
    obtain ⟨x6, hc6, h⟩ := bn_e h
    refine r_callSi hX hR (c_J9_max_7cf53 (σ := (m1 σ o P4)) X.2.1 G hc6) rfl rfl mf_J9_max_7cf53 ml_X5_71 st_J9_max_7cf53 ⟨rfl, rfl, Nat.le_of_ble_eq_true rfl, Nat.le_of_ble_eq_true rfl⟩ rfl (st := [.int v1, .ref (gA G o 11)]) rfl (Nat.le_of_ble_eq_true rfl) dX5_comeAsking_91 ?_
    obtain ⟨hk7, h⟩ := kc_e h
    obtain ⟨P8, hP8, h⟩ := nb_e h
    refine pa_5_11 hX ho m1_g hk7 (m1_w hP8) dX5_comeAsking_94 ?_
    have g0 := Option.some.inj h
    subst g0
    exact r_vret hX hQ dX5_comeAsking_95
  unfold f_X5_comeAsking at h
  refine r_aload_n hX rfl 0 rfl dX5_comeAsking_0 ?_
  refine r_iload_n hX rfl 1 rfl dX5_comeAsking_1 ?_
  refine r_iload_n hX rfl 2 rfl dX5_comeAsking_2 ?_
  obtain ⟨x9, hc9, h⟩ := bn_e h
  refine r_callVi hX hR (c_X5_asks (σ := σ) X.2.1 G ho hc9) rfl rfl mf_X5_asks ml_X5_109 in_X5_asks se_X5_asks ho rfl ⟨rfl, rfl, Nat.le_of_ble_eq_true rfl, Nat.le_of_ble_eq_true rfl⟩ rfl (st := []) rfl (Nat.le_of_ble_eq_true rfl) dX5_comeAsking_3 ?_
  refine r_istore (L2 := [(4, .int x9), (0, .ref (gA G o 0)), (1, .int a1), (2, .int a2), (3, .int a3)]) hX (by decide) rfl dX5_comeAsking_6 ?_
  refine r_iload hX 0 rfl dX5_comeAsking_8 ?_
  refine r_if_le hX dX5_comeAsking_10 (fun hc => ?_) (fun hc => ?_)
  · replace h := ip_e hc h
    exact WW.sub [1, 2, 4] rfl (K57 P a1 a3 trivial h)
  · replace h := in_e hc h
    refine r_aload_n hX rfl 1 rfl dX5_comeAsking_13 ?_
    refine gf_5_0 hX fl_X5_9 ho m1_g dX5_comeAsking_14 ?_
    refine r_iload hX 0 rfl dX5_comeAsking_17 ?_
    refine r_isub hX dX5_comeAsking_19 ?_
    refine r_iload_n hX rfl 3 rfl dX5_comeAsking_20 ?_
    refine r_icmp_lt hX dX5_comeAsking_21 (fun hc => ?_) (fun hc => ?_)
    · replace h := ip_e hc h
      exact WW.sub [1, 2, 4] rfl (K57 P a1 a3 trivial h)
    · replace h := in_e hc h
      refine r_aload_n hX rfl 1 rfl dX5_comeAsking_24 ?_
      refine gf_5_8 hX fl_X5_37 ho m1_g dX5_comeAsking_25 ?_
      refine r_iload_n hX rfl 2 rfl dX5_comeAsking_28 ?_
      refine r_iload hX 0 rfl dX5_comeAsking_29 ?_
      obtain ⟨hk10, h⟩ := kc_e h
      obtain ⟨P11, hP11, h⟩ := nb_e h
      refine pa_5_9 hX ho m1_g hk10 (m1_w hP11) dX5_comeAsking_31 ?_
      refine r_aload_n hX rfl 1 rfl dX5_comeAsking_32 ?_
      refine r_dup hX rfl dX5_comeAsking_33 ?_
      refine gf_5_0 hX fl_X5_9 ho m1_g dX5_comeAsking_34 ?_
      refine r_iload hX 0 rfl dX5_comeAsking_37 ?_
      refine r_isub hX dX5_comeAsking_39 ?_
      obtain ⟨P12, hP12, h⟩ := nb_e h
      refine pf_5_0 hX fl_X5_9 ho m1_g dX5_comeAsking_40 (m1_w hP12) ?_
      refine r_aload_n hX rfl 1 rfl dX5_comeAsking_43 ?_
      refine gf_5_9 hX fl_X5_40 ho m1_g dX5_comeAsking_44 ?_
      refine r_iload_n hX rfl 2 rfl dX5_comeAsking_47 ?_
      refine r_aload_n hX rfl 1 rfl dX5_comeAsking_48 ?_
      refine r_iload_n hX rfl 2 rfl dX5_comeAsking_49 ?_
      obtain ⟨x13, hc13, h⟩ := bn_e h
      refine r_callVi hX hR (c_X5_keeps (σ := σ) X.2.1 G ho hc13) rfl rfl mf_X5_keeps ml_X5_102 in_X5_keeps se_X5_keeps ho rfl ⟨rfl, rfl, Nat.le_of_ble_eq_true rfl, Nat.le_of_ble_eq_true rfl⟩ rfl (st := [.int a1, .ref (gA G o 10)]) rfl (Nat.le_of_ble_eq_true rfl) dX5_comeAsking_50 ?_
      obtain ⟨hk14, h⟩ := kc_e h
      obtain ⟨P15, hP15, h⟩ := nb_e h
      refine pa_5_10 hX ho m1_g hk14 (m1_w hP15) dX5_comeAsking_53 ?_
      refine r_goto hX dX5_comeAsking_54 ?_
      have g0 := Option.some.inj h
      subst g0
      exact r_vret hX hQ dX5_comeAsking_95
abbrev rm_X5_goDay : Room := { frames := 3, cells := 0, slots := 0, locals := 132 }
def f_X5_goDay_J89 (P : Pm) (Q : Pm) : Option (Pm × Pm) :=
  Option.bind (f_X5_rise P (Q 0 1)) (fun P1 => nb (up2 P1 0 1 ((P1 0 1) + 1)) (fun P2 => some (P2, Q)))
def f_X5_goDay_J83 (P : Pm) (Q : Pm) (v2 : Int32) (v3 : Int32) (v4 : Int32) : Option ((Int32 × Pm × Pm) ⊕ (Pm × Pm)) :=
  some (.inl ((v4 + 1), P, Q))
def f_X5_goDay_B3 (v2 : Int32) (v3 : Int32) (v4 : Int32) (P : Pm) (Q : Pm) : Option ((Int32 × Pm × Pm) ⊕ (Pm × Pm)) :=
  (if (P 0 2) ≤ v4 then some (.inr (P, Q)) else (if inb v4 6 = true then (if inb (P 13 (ix v4)) 6 = true then (if (P 9 (ix (P 13 (ix v4)))) ≤ 0 then (if (P 13 (ix v4)) = v3 then f_X5_goDay_J83 P Q v2 v3 v4 else (if inb (P 13 (ix v4)) 6 = true then (if (P 8 (ix (P 13 (ix v4)))) ≤ 0 then f_X5_goDay_J83 P Q v2 v3 v4 else (if inb (P 13 (ix v4)) 6 = true then (if (P 8 (ix (P 13 (ix v4)))) = 0 then none else (if ((P 0 1) - (P 0 1) / (P 8 (ix (P 13 (ix v4)))) * (P 8 (ix (P 13 (ix v4))))) = 0 then Option.bind (f_X5_comeAsking P (P 13 (ix v4)) v2 (Q 0 2)) (fun P8 => f_X5_goDay_J83 P8 Q v2 v3 v4) else f_X5_goDay_J83 P Q v2 v3 v4)) else none)) else none)) else bn2 (f_X5_keepOn P Q (P 13 (ix v4))) (fun P9 Q10 => f_X5_goDay_J83 P9 Q10 v2 v3 v4)) else none) else none))
def f_X5_goDay_H3 (P : Pm) (Q : Pm) (v2 : Int32) (v3 : Int32) (v4 : Int32) : Option (Pm × Pm) :=
  bn2 (iter (fun t => f_X5_goDay_B3 v2 v3 t.1 t.2.1 t.2.2) 200 (v4, P, Q)) (fun P Q => f_X5_goDay_J89 P Q)
def f_X5_goDay (P : Pm) (Q : Pm) (a2 : Int32) (a3 : Int32) : Option (Pm × Pm) :=
  f_X5_goDay_H3 P Q a2 a3 0
set_option maxHeartbeats 4000000 in
set_option maxRecDepth 100000 in
theorem c_X5_goDay (l : Launch) (G : GE) {σ : Mm} {lm : Ml} {o : Nat} (ho : kdo o = 5) {o2 : Nat} (ho2 : kdo o2 = 1) (h12 : o ≠ o2)  {P : Pm} {Q : Pm} {a2 : Int32} {a3 : Int32} {Pz : Pm} {Qz : Pm} (h : f_X5_goDay P Q a2 a3 = some (Pz, Qz)) : CM l G yX5_goDay bX5_goDay 6 (Option.none : Option Jvm.ClassFile.FieldType) rm_X5_goDay [.ref (gA G o 0), .ref (gA G o2 0), .int a2, .int a3] (m2 σ o P o2 Q) lm (none) (m2 σ o Pz o2 Qz) lm := by
  refine CM.of (own := zR5) (L0 := [(0, .ref (gA G o 0)), (1, .ref (gA G o2 0)), (2, .int a2), (3, .int a3)]) (by decide +kernel) rfl (Nat.le_of_ble_eq_true rfl) rfl (fun X hl hX hR hQ => ?_)
  have K89 : ∀ (P : Pm) (Q : Pm) (_ : True), f_X5_goDay_J89 P Q = some (Pz, Qz) → WW X G 6 (m2 σ o P o2 Q) lm 89 [(0, .ref (gA G o 0)), (1, .ref (gA G o2 0))] [] := by
    intro P Q _ h
    unfold f_X5_goDay_J89 at h
    refine r_aload_n hX rfl 0 rfl dX5_goDay_89 ?_
    refine r_aload_n hX rfl 1 rfl dX5_goDay_90 ?_
    refine gf_1_1 hX fl_X5_90 ho2 m2_g2 dX5_goDay_91 ?_
    obtain ⟨P1, hc1, h⟩ := bn_e h
    refine r_callVv hX hR (c_X5_rise (σ := (m2 σ o P o2 Q)) X.2.1 G ho hc1) (m2_1 h12) (m2_1 h12) mf_X5_rise ml_X5_67 in_X5_rise se_X5_rise ho rfl ⟨rfl, rfl, Nat.le_of_ble_eq_true rfl, Nat.le_of_ble_eq_true rfl⟩ rfl (st := []) rfl (Nat.le_of_ble_eq_true rfl) dX5_goDay_94 ?_
    refine r_aload_n hX rfl 0 rfl dX5_goDay_97 ?_
    refine r_dup hX rfl dX5_goDay_98 ?_
    refine gf_5_1 hX fl_X5_15 ho (m2_g1 h12) dX5_goDay_99 ?_
    refine r_iconst (v := 1) hX (by decide) dX5_goDay_102 ?_
    refine r_iadd hX dX5_goDay_103 ?_
    obtain ⟨P2, hP2, h⟩ := nb_e h
    refine pf_5_1 hX fl_X5_15 ho (m2_g1 h12) dX5_goDay_104 (m2_w1 h12 hP2) ?_
    have g0 := Option.some.inj h
    obtain ⟨q0, g1⟩ := Prod.mk.inj g0
    subst q0
    subst g1
    exact r_vret hX hQ dX5_goDay_107
  have K3 : ∀ (P : Pm) (Q : Pm) (v2 : Int32) (v3 : Int32) (v4 : Int32) (_ : True), f_X5_goDay_H3 P Q v2 v3 v4 = some (Pz, Qz) → WW X G 6 (m2 σ o P o2 Q) lm 3 [(0, .ref (gA G o 0)), (1, .ref (gA G o2 0)), (2, .int v2), (3, .int v3), (4, .int v4)] [] := by
    intro P Q v2 v3 v4 _ h
    unfold f_X5_goDay_H3 at h
    obtain ⟨e_P, e_Q, hit, hO⟩ := bn2_e h
    refine iter_w (P := fun t : Int32 × Pm × Pm => WW X G 6 (m2 σ o t.2.1 o2 t.2.2) lm 3 [(0, .ref (gA G o 0)), (1, .ref (gA G o2 0)), (2, .int v2), (3, .int v3), (4, .int t.1)] []) (x := (e_P, e_Q)) ?_ 200 (v4, P, Q) hit
    clear hit
    intro t z1 hb hin1 hex1
    obtain ⟨v4, P, Q⟩ := t
    have h : f_X5_goDay_B3 v2 v3 v4 P Q = some z1 := hb
    clear hb
    have K83 : ∀ (P : Pm) (Q : Pm) (v4 : Int32) (_ : True), f_X5_goDay_J83 P Q v2 v3 v4 = some z1 → WW X G 6 (m2 σ o P o2 Q) lm 83 [(0, .ref (gA G o 0)), (1, .ref (gA G o2 0)), (2, .int v2), (3, .int v3), (4, .int v4)] [] := by
      intro P Q v4 _ h
      unfold f_X5_goDay_J83 at h
      refine r_iinc (v := v4 + 1) (L2 := [(4, .int (v4 + 1)), (0, .ref (gA G o 0)), (1, .ref (gA G o2 0)), (2, .int v2), (3, .int v3)]) hX 4 rfl rfl (by decide) rfl dX5_goDay_83 ?_
      refine r_goto hX dX5_goDay_86 ?_
      exact WW.sub [1, 2, 3, 4, 0] rfl (hin1 _ (Option.some.inj h).symm)
    unfold f_X5_goDay_B3 at h
    refine r_iload hX 4 rfl dX5_goDay_3 ?_
    refine r_aload_n hX rfl 0 rfl dX5_goDay_5 ?_
    refine gf_5_2 hX fl_X5_18 ho (m2_g1 h12) dX5_goDay_6 ?_
    refine r_icmp_ge hX dX5_goDay_9 (fun hc => ?_) (fun hc => ?_)
    · replace h := ip_e hc h
      have g0 := hex1 _ (Option.some.inj h).symm
      obtain ⟨q0, g1⟩ := Prod.mk.inj g0
      subst q0
      subst g1
      exact WW.sub [0, 1] rfl (K89 P Q trivial hO)
    · replace h := in_e hc h
      refine r_aload_n hX rfl 0 rfl dX5_goDay_12 ?_
      refine gf_5_12 hX fl_X5_49 ho (m2_g1 h12) dX5_goDay_13 ?_
      refine r_iload hX 4 rfl dX5_goDay_16 ?_
      obtain ⟨hk3, h⟩ := kc_e h
      refine ga_5_13 hX ho (m2_g1 h12) hk3 dX5_goDay_18 ?_
      refine r_istore (L2 := [(5, .int (P 13 (ix v4))), (0, .ref (gA G o 0)), (1, .ref (gA G o2 0)), (2, .int v2), (3, .int v3), (4, .int v4)]) hX (by decide) rfl dX5_goDay_19 ?_
      refine r_aload_n hX rfl 1 rfl dX5_goDay_21 ?_
      refine gf_5_8 hX fl_X5_37 ho (m2_g1 h12) dX5_goDay_22 ?_
      refine r_iload hX 0 rfl dX5_goDay_25 ?_
      obtain ⟨hk4, h⟩ := kc_e h
      refine ga_5_9 hX ho (m2_g1 h12) hk4 dX5_goDay_27 ?_
      refine r_if_le hX dX5_goDay_28 (fun hc => ?_) (fun hc => ?_)
      · replace h := ip_e hc h
        refine r_iload hX 0 rfl dX5_goDay_41 ?_
        refine r_iload_n hX rfl 4 rfl dX5_goDay_43 ?_
        refine r_icmp_eq hX dX5_goDay_44 (fun hc => ?_) (fun hc => ?_)
        · replace h := ip_e hc h
          exact WW.sub [1, 2, 3, 4, 5] rfl (K83 P Q v4 trivial h)
        · replace h := in_e hc h
          refine r_aload_n hX rfl 1 rfl dX5_goDay_47 ?_
          refine gf_5_7 hX fl_X5_34 ho (m2_g1 h12) dX5_goDay_48 ?_
          refine r_iload hX 0 rfl dX5_goDay_51 ?_
          obtain ⟨hk5, h⟩ := kc_e h
          refine ga_5_8 hX ho (m2_g1 h12) hk5 dX5_goDay_53 ?_
          refine r_if_le hX dX5_goDay_54 (fun hc => ?_) (fun hc => ?_)
          · replace h := ip_e hc h
            exact WW.sub [1, 2, 3, 4, 5] rfl (K83 P Q v4 trivial h)
          · replace h := in_e hc h
            refine r_aload_n hX rfl 1 rfl dX5_goDay_57 ?_
            refine gf_5_1 hX fl_X5_15 ho (m2_g1 h12) dX5_goDay_58 ?_
            refine r_aload_n hX rfl 1 rfl dX5_goDay_61 ?_
            refine gf_5_7 hX fl_X5_34 ho (m2_g1 h12) dX5_goDay_62 ?_
            refine r_iload hX 0 rfl dX5_goDay_65 ?_
            obtain ⟨hk6, h⟩ := kc_e h
            refine ga_5_8 hX ho (m2_g1 h12) hk6 dX5_goDay_67 ?_
            obtain ⟨hk7, h⟩ := cz_e h
            refine r_irem hX hk7 dX5_goDay_68 ?_
            refine r_if_ne hX dX5_goDay_69 (fun hc => ?_) (fun hc => ?_)
            · replace h := in_e hc h
              exact WW.sub [1, 2, 3, 4, 5] rfl (K83 P Q v4 trivial h)
            · replace h := ip_e hc h
              refine r_aload_n hX rfl 1 rfl dX5_goDay_72 ?_
              refine r_iload hX 0 rfl dX5_goDay_73 ?_
              refine r_iload_n hX rfl 3 rfl dX5_goDay_75 ?_
              refine r_aload_n hX rfl 2 rfl dX5_goDay_76 ?_
              refine gf_1_2 hX fl_X5_81 ho2 m2_g2 dX5_goDay_77 ?_
              obtain ⟨P8, hc8, h⟩ := bn_e h
              refine r_callVv hX hR (c_X5_comeAsking (σ := (m2 σ o P o2 Q)) X.2.1 G ho hc8) (m2_1 h12) (m2_1 h12) mf_X5_comeAsking ml_X5_86 in_X5_comeAsking se_X5_comeAsking ho rfl ⟨rfl, rfl, Nat.le_of_ble_eq_true rfl, Nat.le_of_ble_eq_true rfl⟩ rfl (st := []) rfl (Nat.le_of_ble_eq_true rfl) dX5_goDay_80 ?_
              exact WW.sub [1, 2, 3, 4, 5] rfl (K83 P8 Q v4 trivial h)
      · replace h := in_e hc h
        refine r_aload_n hX rfl 1 rfl dX5_goDay_31 ?_
        refine r_iload hX 0 rfl dX5_goDay_32 ?_
        refine r_aload_n hX rfl 2 rfl dX5_goDay_34 ?_
        obtain ⟨P9, Q10, hc10, h⟩ := bn2_e h
        refine r_callVv hX hR (c_X5_keepOn (σ := σ) X.2.1 G ho ho2 h12 hc10) rfl rfl mf_X5_keepOn ml_X5_77 in_X5_keepOn se_X5_keepOn ho rfl ⟨rfl, rfl, Nat.le_of_ble_eq_true rfl, Nat.le_of_ble_eq_true rfl⟩ rfl (st := []) rfl (Nat.le_of_ble_eq_true rfl) dX5_goDay_35 ?_
        refine r_goto hX dX5_goDay_38 ?_
        exact WW.sub [1, 2, 3, 4, 5] rfl (K83 P9 Q10 v4 trivial h)
  unfold f_X5_goDay at h
  refine r_iconst (v := 0) hX (by decide) dX5_goDay_0 ?_
  refine r_istore (L2 := [(4, .int 0), (0, .ref (gA G o 0)), (1, .ref (gA G o2 0)), (2, .int a2), (3, .int a3)]) hX (by decide) rfl dX5_goDay_1 ?_
  exact WW.sub [1, 2, 3, 4, 0] rfl (K3 P Q a2 a3 0 trivial h)
abbrev rm_X5_join : Room := { frames := 0, cells := 0, slots := 0, locals := 60 }
def f_X5_join_J118 (P : Pm) (v5 : Int32) : Option (Int32 × Pm) :=
  nb (up2 P 0 2 ((P 0 2) + 1)) (fun P1 => some (v5, P1))
def f_X5_join_B93 (v5 : Int32) (v6 : Int32) (P : Pm) : Option ((Int32 × Pm) ⊕ (Pm)) :=
  (if 4 ≤ v6 then some (.inr P) else (if inb ((v5 * 4) + v6) 24 = true then nb (up2 P 14 (ix ((v5 * 4) + v6)) 0) (fun P3 => some (.inl ((v6 + 1), P3))) else none))
def f_X5_join_H93 (P : Pm) (v5 : Int32) (v6 : Int32) : Option (Int32 × Pm) :=
  Option.bind (iter (fun t => f_X5_join_B93 v5 t.1 t.2) 200 (v6, P)) (fun P => f_X5_join_J118 P v5)
def f_X5_join (P : Pm) (a1 : Int32) (a2 : Int32) (a3 : Int32) (a4 : Int32) : Option (Int32 × Pm) :=
  (if (P 0 2) < 6 then (if inb (P 0 2) 6 = true then nb (up2 P 5 (ix (P 0 2)) a1) (fun P5 => (if inb (P 0 2) 6 = true then nb (up2 P5 6 (ix (P 0 2)) a2) (fun P7 => (if inb (P 0 2) 6 = true then nb (up2 P7 7 (ix (P 0 2)) a3) (fun P9 => (if inb (P 0 2) 6 = true then nb (up2 P9 8 (ix (P 0 2)) a4) (fun P11 => (if inb (P 0 2) 6 = true then nb (up2 P11 9 (ix (P 0 2)) 0) (fun P13 => (if inb (P 0 2) 6 = true then nb (up2 P13 10 (ix (P 0 2)) 0) (fun P15 => (if inb (P 0 2) 6 = true then nb (up2 P15 11 (ix (P 0 2)) 0) (fun P17 => (if inb (P 0 2) 6 = true then nb (up2 P17 12 (ix (P 0 2)) 0) (fun P19 => (if inb (P 0 2) 6 = true then nb (up2 P19 13 (ix (P 0 2)) (P 0 2)) (fun P21 => f_X5_join_H93 P21 (P 0 2) 0) else none)) else none)) else none)) else none)) else none)) else none)) else none)) else none)) else none) else some ((-4), P))
set_option maxHeartbeats 4000000 in
set_option maxRecDepth 100000 in
theorem c_X5_join (l : Launch) (G : GE) {σ : Mm} {lm : Ml} {o : Nat} (ho : kdo o = 5)  {P : Pm} {a1 : Int32} {a2 : Int32} {a3 : Int32} {a4 : Int32} {rz : Int32} {Pz : Pm} (h : f_X5_join P a1 a2 a3 a4 = some (rz, Pz)) : CM l G yX5_join bX5_join 7 (Option.some Jvm.ClassFile.FieldType.int) rm_X5_join [.ref (gA G o 0), .int a1, .int a2, .int a3, .int a4] (m1 σ o P) lm (some (.int rz)) (m1 σ o Pz) lm := by
  refine CM.of (own := zR5) (L0 := [(0, .ref (gA G o 0)), (1, .int a1), (2, .int a2), (3, .int a3), (4, .int a4)]) (by decide +kernel) rfl (Nat.le_of_ble_eq_true rfl) rfl (fun X hl hX hR hQ => ?_)
  have K118 : ∀ (P : Pm) (v5 : Int32) (_ : True), f_X5_join_J118 P v5 = some (rz, Pz) → WW X G 7 (m1 σ o P) lm 118 [(0, .ref (gA G o 0)), (5, .int v5)] [] := by
    intro P v5 _ h
    unfold f_X5_join_J118 at h
    refine r_aload_n hX rfl 0 rfl dX5_join_118 ?_
    refine r_dup hX rfl dX5_join_119 ?_
    refine gf_5_2 hX fl_X5_18 ho m1_g dX5_join_120 ?_
    refine r_iconst (v := 1) hX (by decide) dX5_join_123 ?_
    refine r_iadd hX dX5_join_124 ?_
    obtain ⟨P1, hP1, h⟩ := nb_e h
    refine pf_5_2 hX fl_X5_18 ho m1_g dX5_join_125 (m1_w hP1) ?_
    refine r_iload hX 1 rfl dX5_join_128 ?_
    have g0 := Option.some.inj h
    obtain ⟨q0, g1⟩ := Prod.mk.inj g0
    subst q0
    subst g1
    exact r_iret hX hQ dX5_join_130
  have K93 : ∀ (P : Pm) (v5 : Int32) (v6 : Int32) (_ : True), f_X5_join_H93 P v5 v6 = some (rz, Pz) → WW X G 7 (m1 σ o P) lm 93 [(0, .ref (gA G o 0)), (5, .int v5), (6, .int v6)] [] := by
    intro P v5 v6 _ h
    unfold f_X5_join_H93 at h
    obtain ⟨e_P, hit, hO⟩ := bn_e h
    refine iter_w (P := fun t : Int32 × Pm => WW X G 7 (m1 σ o t.2) lm 93 [(0, .ref (gA G o 0)), (5, .int v5), (6, .int t.1)] []) (x := e_P) ?_ 200 (v6, P) hit
    clear hit
    intro t z1 hb hin1 hex1
    obtain ⟨v6, P⟩ := t
    have h : f_X5_join_B93 v5 v6 P = some z1 := hb
    clear hb
    unfold f_X5_join_B93 at h
    refine r_iload hX 2 rfl dX5_join_93 ?_
    refine r_iconst (v := 4) hX (by decide) dX5_join_95 ?_
    refine r_icmp_ge hX dX5_join_96 (fun hc => ?_) (fun hc => ?_)
    · replace h := ip_e hc h
      have g0 := hex1 _ (Option.some.inj h).symm
      subst g0
      exact WW.sub [0, 1] rfl (K118 P v5 trivial hO)
    · replace h := in_e hc h
      refine r_aload_n hX rfl 0 rfl dX5_join_99 ?_
      refine gf_5_13 hX fl_X5_52 ho m1_g dX5_join_100 ?_
      refine r_iload hX 1 rfl dX5_join_103 ?_
      refine r_iconst (v := 4) hX (by decide) dX5_join_105 ?_
      refine r_imul hX dX5_join_106 ?_
      refine r_iload hX 2 rfl dX5_join_107 ?_
      refine r_iadd hX dX5_join_109 ?_
      refine r_iconst (v := 0) hX (by decide) dX5_join_110 ?_
      obtain ⟨hk2, h⟩ := kc_e h
      obtain ⟨P3, hP3, h⟩ := nb_e h
      refine pa_5_14 hX ho m1_g hk2 (m1_w hP3) dX5_join_111 ?_
      refine r_iinc (v := v6 + 1) (L2 := [(6, .int (v6 + 1)), (0, .ref (gA G o 0)), (5, .int v5)]) hX 2 rfl rfl (by decide) rfl dX5_join_112 ?_
      refine r_goto hX dX5_join_115 ?_
      exact WW.sub [1, 2, 0] rfl (hin1 _ (Option.some.inj h).symm)
  unfold f_X5_join at h
  refine r_aload_n hX rfl 0 rfl dX5_join_0 ?_
  refine gf_5_2 hX fl_X5_18 ho m1_g dX5_join_1 ?_
  refine r_istore (L2 := [(5, .int (P 0 2)), (0, .ref (gA G o 0)), (1, .int a1), (2, .int a2), (3, .int a3), (4, .int a4)]) hX (by decide) rfl dX5_join_4 ?_
  refine r_iload hX 0 rfl dX5_join_6 ?_
  refine r_bipush (v := 6) hX (by decide) dX5_join_8 ?_
  refine r_icmp_lt hX dX5_join_10 (fun hc => ?_) (fun hc => ?_)
  · replace h := ip_e hc h
    refine r_aload_n hX rfl 1 rfl dX5_join_16 ?_
    refine gf_5_4 hX fl_X5_24 ho m1_g dX5_join_17 ?_
    refine r_iload hX 0 rfl dX5_join_20 ?_
    refine r_iload_n hX rfl 2 rfl dX5_join_22 ?_
    obtain ⟨hk4, h⟩ := kc_e h
    obtain ⟨P5, hP5, h⟩ := nb_e h
    refine pa_5_5 hX ho m1_g hk4 (m1_w hP5) dX5_join_23 ?_
    refine r_aload_n hX rfl 1 rfl dX5_join_24 ?_
    refine gf_5_5 hX fl_X5_28 ho m1_g dX5_join_25 ?_
    refine r_iload hX 0 rfl dX5_join_28 ?_
    refine r_iload_n hX rfl 3 rfl dX5_join_30 ?_
    obtain ⟨hk6, h⟩ := kc_e h
    obtain ⟨P7, hP7, h⟩ := nb_e h
    refine pa_5_6 hX ho m1_g hk6 (m1_w hP7) dX5_join_31 ?_
    refine r_aload_n hX rfl 1 rfl dX5_join_32 ?_
    refine gf_5_6 hX fl_X5_31 ho m1_g dX5_join_33 ?_
    refine r_iload hX 0 rfl dX5_join_36 ?_
    refine r_iload_n hX rfl 4 rfl dX5_join_38 ?_
    obtain ⟨hk8, h⟩ := kc_e h
    obtain ⟨P9, hP9, h⟩ := nb_e h
    refine pa_5_7 hX ho m1_g hk8 (m1_w hP9) dX5_join_39 ?_
    refine r_aload_n hX rfl 1 rfl dX5_join_40 ?_
    refine gf_5_7 hX fl_X5_34 ho m1_g dX5_join_41 ?_
    refine r_iload hX 0 rfl dX5_join_44 ?_
    refine r_iload hX 5 rfl dX5_join_46 ?_
    obtain ⟨hk10, h⟩ := kc_e h
    obtain ⟨P11, hP11, h⟩ := nb_e h
    refine pa_5_8 hX ho m1_g hk10 (m1_w hP11) dX5_join_48 ?_
    refine r_aload_n hX rfl 1 rfl dX5_join_49 ?_
    refine gf_5_8 hX fl_X5_37 ho m1_g dX5_join_50 ?_
    refine r_iload hX 0 rfl dX5_join_53 ?_
    refine r_iconst (v := 0) hX (by decide) dX5_join_55 ?_
    obtain ⟨hk12, h⟩ := kc_e h
    obtain ⟨P13, hP13, h⟩ := nb_e h
    refine pa_5_9 hX ho m1_g hk12 (m1_w hP13) dX5_join_56 ?_
    refine r_aload_n hX rfl 1 rfl dX5_join_57 ?_
    refine gf_5_9 hX fl_X5_40 ho m1_g dX5_join_58 ?_
    refine r_iload hX 0 rfl dX5_join_61 ?_
    refine r_iconst (v := 0) hX (by decide) dX5_join_63 ?_
    obtain ⟨hk14, h⟩ := kc_e h
    obtain ⟨P15, hP15, h⟩ := nb_e h
    refine pa_5_10 hX ho m1_g hk14 (m1_w hP15) dX5_join_64 ?_
    refine r_aload_n hX rfl 1 rfl dX5_join_65 ?_
    refine gf_5_10 hX fl_X5_43 ho m1_g dX5_join_66 ?_
    refine r_iload hX 0 rfl dX5_join_69 ?_
    refine r_iconst (v := 0) hX (by decide) dX5_join_71 ?_
    obtain ⟨hk16, h⟩ := kc_e h
    obtain ⟨P17, hP17, h⟩ := nb_e h
    refine pa_5_11 hX ho m1_g hk16 (m1_w hP17) dX5_join_72 ?_
    refine r_aload_n hX rfl 1 rfl dX5_join_73 ?_
    refine gf_5_11 hX fl_X5_46 ho m1_g dX5_join_74 ?_
    refine r_iload hX 0 rfl dX5_join_77 ?_
    refine r_iconst (v := 0) hX (by decide) dX5_join_79 ?_
    obtain ⟨hk18, h⟩ := kc_e h
    obtain ⟨P19, hP19, h⟩ := nb_e h
    refine pa_5_12 hX ho m1_g hk18 (m1_w hP19) dX5_join_80 ?_
    refine r_aload_n hX rfl 1 rfl dX5_join_81 ?_
    refine gf_5_12 hX fl_X5_49 ho m1_g dX5_join_82 ?_
    refine r_iload hX 0 rfl dX5_join_85 ?_
    refine r_iload hX 0 rfl dX5_join_87 ?_
    obtain ⟨hk20, h⟩ := kc_e h
    obtain ⟨P21, hP21, h⟩ := nb_e h
    refine pa_5_13 hX ho m1_g hk20 (m1_w hP21) dX5_join_89 ?_
    refine r_iconst (v := 0) hX (by decide) dX5_join_90 ?_
    refine r_istore (L2 := [(6, .int 0), (5, .int (P 0 2)), (0, .ref (gA G o 0)), (1, .int a1), (2, .int a2), (3, .int a3), (4, .int a4)]) hX (by decide) rfl dX5_join_91 ?_
    exact WW.sub [2, 1, 0] rfl (K93 P21 (P 0 2) 0 trivial h)
  · replace h := in_e hc h
    refine r_bipush (v := (-4)) hX (by decide) dX5_join_13 ?_
    have g0 := Option.some.inj h
    obtain ⟨q0, g1⟩ := Prod.mk.inj g0
    subst q0
    subst g1
    exact r_iret hX hQ dX5_join_15
abbrev rm_X5_trade : Room := { frames := 0, cells := 0, slots := 0, locals := 60 }
def f_X5_trade (P : Pm) (a1 : Int32) (a2 : Int32) : Option (Pm) :=
  (if inb a1 6 = true then (if inb a2 6 = true then (if inb a1 6 = true then nb (up2 P 13 (ix a1) (P 13 (ix a2))) (fun P4 => (if inb a2 6 = true then nb (up2 P4 13 (ix a2) (P 13 (ix a1))) (fun P6 => some P6) else none)) else none) else none) else none)
set_option maxHeartbeats 4000000 in
set_option maxRecDepth 100000 in
theorem c_X5_trade (l : Launch) (G : GE) {σ : Mm} {lm : Ml} {o : Nat} (ho : kdo o = 5)  {P : Pm} {a1 : Int32} {a2 : Int32} {Pz : Pm} (h : f_X5_trade P a1 a2 = some Pz) : CM l G yX5_trade bX5_trade 4 (Option.none : Option Jvm.ClassFile.FieldType) rm_X5_trade [.ref (gA G o 0), .int a1, .int a2] (m1 σ o P) lm (none) (m1 σ o Pz) lm := by
  refine CM.of (own := zR5) (L0 := [(0, .ref (gA G o 0)), (1, .int a1), (2, .int a2)]) (by decide +kernel) rfl (Nat.le_of_ble_eq_true rfl) rfl (fun X hl hX hR hQ => ?_)
  unfold f_X5_trade at h
  refine r_aload_n hX rfl 0 rfl dX5_trade_0 ?_
  refine gf_5_12 hX fl_X5_49 ho m1_g dX5_trade_1 ?_
  refine r_iload_n hX rfl 1 rfl dX5_trade_4 ?_
  obtain ⟨hk1, h⟩ := kc_e h
  refine ga_5_13 hX ho m1_g hk1 dX5_trade_5 ?_
  refine r_istore_n (L2 := [(3, .int (P 13 (ix a1))), (0, .ref (gA G o 0)), (1, .int a1), (2, .int a2)]) hX rfl (by decide) rfl dX5_trade_6 ?_
  refine r_aload_n hX rfl 1 rfl dX5_trade_7 ?_
  refine gf_5_12 hX fl_X5_49 ho m1_g dX5_trade_8 ?_
  refine r_iload_n hX rfl 2 rfl dX5_trade_11 ?_
  refine r_aload_n hX rfl 1 rfl dX5_trade_12 ?_
  refine gf_5_12 hX fl_X5_49 ho m1_g dX5_trade_13 ?_
  refine r_iload_n hX rfl 3 rfl dX5_trade_16 ?_
  obtain ⟨hk2, h⟩ := kc_e h
  refine ga_5_13 hX ho m1_g hk2 dX5_trade_17 ?_
  obtain ⟨hk3, h⟩ := kc_e h
  obtain ⟨P4, hP4, h⟩ := nb_e h
  refine pa_5_13 hX ho m1_g hk3 (m1_w hP4) dX5_trade_18 ?_
  refine r_aload_n hX rfl 1 rfl dX5_trade_19 ?_
  refine gf_5_12 hX fl_X5_49 ho m1_g dX5_trade_20 ?_
  refine r_iload_n hX rfl 3 rfl dX5_trade_23 ?_
  refine r_iload_n hX rfl 0 rfl dX5_trade_24 ?_
  obtain ⟨hk5, h⟩ := kc_e h
  obtain ⟨P6, hP6, h⟩ := nb_e h
  refine pa_5_13 hX ho m1_g hk5 (m1_w hP6) dX5_trade_25 ?_
  have g0 := Option.some.inj h
  subst g0
  exact r_vret hX hQ dX5_trade_26
abbrev rm_X5_callIn : Room := { frames := 2, cells := 0, slots := 0, locals := 102 }
def f_X5_callIn (P : Pm) (a1 : Int32) : Option (Pm) :=
  (if inb a1 6 = true then Option.bind (f_X5_rise P (P 9 (ix a1))) (fun P2 => (if inb a1 6 = true then nb (up2 P2 9 (ix a1) 0) (fun P4 => (if inb a1 6 = true then nb (up2 P4 10 (ix a1) 0) (fun P6 => some P6) else none)) else none)) else none)
set_option maxHeartbeats 4000000 in
set_option maxRecDepth 100000 in
theorem c_X5_callIn (l : Launch) (G : GE) {σ : Mm} {lm : Ml} {o : Nat} (ho : kdo o = 5)  {P : Pm} {a1 : Int32} {Pz : Pm} (h : f_X5_callIn P a1 = some Pz) : CM l G yX5_callIn bX5_callIn 2 (Option.none : Option Jvm.ClassFile.FieldType) rm_X5_callIn [.ref (gA G o 0), .int a1] (m1 σ o P) lm (none) (m1 σ o Pz) lm := by
  refine CM.of (own := zR5) (L0 := [(0, .ref (gA G o 0)), (1, .int a1)]) (by decide +kernel) rfl (Nat.le_of_ble_eq_true rfl) rfl (fun X hl hX hR hQ => ?_)
  unfold f_X5_callIn at h
  refine r_aload_n hX rfl 0 rfl dX5_callIn_0 ?_
  refine r_aload_n hX rfl 0 rfl dX5_callIn_1 ?_
  refine gf_5_8 hX fl_X5_37 ho m1_g dX5_callIn_2 ?_
  refine r_iload_n hX rfl 1 rfl dX5_callIn_5 ?_
  obtain ⟨hk1, h⟩ := kc_e h
  refine ga_5_9 hX ho m1_g hk1 dX5_callIn_6 ?_
  obtain ⟨P2, hc2, h⟩ := bn_e h
  refine r_callVv hX hR (c_X5_rise (σ := σ) X.2.1 G ho hc2) rfl rfl mf_X5_rise ml_X5_67 in_X5_rise se_X5_rise ho rfl ⟨rfl, rfl, Nat.le_of_ble_eq_true rfl, Nat.le_of_ble_eq_true rfl⟩ rfl (st := []) rfl (Nat.le_of_ble_eq_true rfl) dX5_callIn_7 ?_
  refine r_aload_n hX rfl 0 rfl dX5_callIn_10 ?_
  refine gf_5_8 hX fl_X5_37 ho m1_g dX5_callIn_11 ?_
  refine r_iload_n hX rfl 1 rfl dX5_callIn_14 ?_
  refine r_iconst (v := 0) hX (by decide) dX5_callIn_15 ?_
  obtain ⟨hk3, h⟩ := kc_e h
  obtain ⟨P4, hP4, h⟩ := nb_e h
  refine pa_5_9 hX ho m1_g hk3 (m1_w hP4) dX5_callIn_16 ?_
  refine r_aload_n hX rfl 0 rfl dX5_callIn_17 ?_
  refine gf_5_9 hX fl_X5_40 ho m1_g dX5_callIn_18 ?_
  refine r_iload_n hX rfl 1 rfl dX5_callIn_21 ?_
  refine r_iconst (v := 0) hX (by decide) dX5_callIn_22 ?_
  obtain ⟨hk5, h⟩ := kc_e h
  obtain ⟨P6, hP6, h⟩ := nb_e h
  refine pa_5_10 hX ho m1_g hk5 (m1_w hP6) dX5_callIn_23 ?_
  have g0 := Option.some.inj h
  subst g0
  exact r_vret hX hQ dX5_callIn_24
abbrev rm_X5_owesOfAll : Room := { frames := 0, cells := 0, slots := 0, locals := 60 }
def f_X5_owesOfAll_J27 (P : Pm) (v1 : Int32) : Option (Int32) :=
  some v1
def f_X5_owesOfAll_B4 (P : Pm) (v1 : Int32) (v2 : Int32) : Option ((Int32 × Int32) ⊕ (Int32)) :=
  (if (P 0 2) ≤ v2 then some (.inr v1) else (if inb v2 6 = true then some (.inl ((v1 + (P 11 (ix v2))), (v2 + 1))) else none))
def f_X5_owesOfAll_H4 (P : Pm) (v1 : Int32) (v2 : Int32) : Option (Int32) :=
  Option.bind (iter (fun t => f_X5_owesOfAll_B4 P t.1 t.2) 200 (v1, v2)) (fun v1 => f_X5_owesOfAll_J27 P v1)
def f_X5_owesOfAll (P : Pm) : Option (Int32) :=
  f_X5_owesOfAll_H4 P 0 0
set_option maxHeartbeats 4000000 in
set_option maxRecDepth 100000 in
theorem c_X5_owesOfAll (l : Launch) (G : GE) {σ : Mm} {lm : Ml} {o : Nat} (ho : kdo o = 5)  {P : Pm} {rz : Int32} (h : f_X5_owesOfAll P = some rz) : CM l G yX5_owesOfAll bX5_owesOfAll 3 (Option.some Jvm.ClassFile.FieldType.int) rm_X5_owesOfAll [.ref (gA G o 0)] (m1 σ o P) lm (some (.int rz)) (m1 σ o P) lm := by
  refine CM.of (own := zR5) (L0 := [(0, .ref (gA G o 0))]) (by decide +kernel) rfl (Nat.le_of_ble_eq_true rfl) rfl (fun X hl hX hR hQ => ?_)
  have K27 : ∀ (v1 : Int32) (_ : True), f_X5_owesOfAll_J27 P v1 = some rz → WW X G 3 (m1 σ o P) lm 27 [(1, .int v1)] [] := by
    intro v1 _ h
    unfold f_X5_owesOfAll_J27 at h
    refine r_iload_n hX rfl 0 rfl dX5_owesOfAll_27 ?_
    have g0 := Option.some.inj h
    subst g0
    exact r_iret hX hQ dX5_owesOfAll_28
  have K4 : ∀ (v1 : Int32) (v2 : Int32) (_ : True), f_X5_owesOfAll_H4 P v1 v2 = some rz → WW X G 3 (m1 σ o P) lm 4 [(0, .ref (gA G o 0)), (1, .int v1), (2, .int v2)] [] := by
    intro v1 v2 _ h
    unfold f_X5_owesOfAll_H4 at h
    obtain ⟨e_v1, hit, hO⟩ := bn_e h
    refine iter_w (P := fun t : Int32 × Int32 => WW X G 3 (m1 σ o P) lm 4 [(0, .ref (gA G o 0)), (1, .int t.1), (2, .int t.2)] []) (x := e_v1) ?_ 200 (v1, v2) hit
    clear hit
    intro t z1 hb hin1 hex1
    obtain ⟨v1, v2⟩ := t
    have h : f_X5_owesOfAll_B4 P v1 v2 = some z1 := hb
    clear hb
    unfold f_X5_owesOfAll_B4 at h
    refine r_iload_n hX rfl 2 rfl dX5_owesOfAll_4 ?_
    refine r_aload_n hX rfl 0 rfl dX5_owesOfAll_5 ?_
    refine gf_5_2 hX fl_X5_18 ho m1_g dX5_owesOfAll_6 ?_
    refine r_icmp_ge hX dX5_owesOfAll_9 (fun hc => ?_) (fun hc => ?_)
    · replace h := ip_e hc h
      have g0 := hex1 _ (Option.some.inj h).symm
      subst g0
      exact WW.sub [1] rfl (K27 v1 trivial hO)
    · replace h := in_e hc h
      refine r_iload_n hX rfl 1 rfl dX5_owesOfAll_12 ?_
      refine r_aload_n hX rfl 0 rfl dX5_owesOfAll_13 ?_
      refine gf_5_10 hX fl_X5_43 ho m1_g dX5_owesOfAll_14 ?_
      refine r_iload_n hX rfl 2 rfl dX5_owesOfAll_17 ?_
      obtain ⟨hk1, h⟩ := kc_e h
      refine ga_5_11 hX ho m1_g hk1 dX5_owesOfAll_18 ?_
      refine r_iadd hX dX5_owesOfAll_19 ?_
      refine r_istore_n (L2 := [(1, .int (v1 + (P 11 (ix v2)))), (0, .ref (gA G o 0)), (2, .int v2)]) hX rfl (by decide) rfl dX5_owesOfAll_20 ?_
      refine r_iinc (v := v2 + 1) (L2 := [(2, .int (v2 + 1)), (1, .int (v1 + (P 11 (ix v2)))), (0, .ref (gA G o 0))]) hX 2 rfl rfl (by decide) rfl dX5_owesOfAll_21 ?_
      refine r_goto hX dX5_owesOfAll_24 ?_
      exact WW.sub [2, 1, 0] rfl (hin1 _ (Option.some.inj h).symm)
  unfold f_X5_owesOfAll at h
  refine r_iconst (v := 0) hX (by decide) dX5_owesOfAll_0 ?_
  refine r_istore_n (L2 := [(1, .int 0), (0, .ref (gA G o 0))]) hX rfl (by decide) rfl dX5_owesOfAll_1 ?_
  refine r_iconst (v := 0) hX (by decide) dX5_owesOfAll_2 ?_
  refine r_istore_n (L2 := [(2, .int 0), (1, .int 0), (0, .ref (gA G o 0))]) hX rfl (by decide) rfl dX5_owesOfAll_3 ?_
  exact WW.sub [2, 1, 0] rfl (K4 0 0 trivial h)
abbrev rm_X5_copyFrom : Room := { frames := 8, cells := 0, slots := 0, locals := 400 }
def f_X5_copyFrom_J151 (P : Pm) (Q : Pm) : Option (Pm) :=
  (if cpok 0 0 24 24 24 = true then nb (setO P 14 (va_cpy (Q 14) (P 14) (ix 0) (ix 0) (ix 24))) (fun P2 => some P2) else none)
def f_X5_copyFrom_B31 (Q : Pm) (v2 : Int32) (P : Pm) : Option ((Int32 × Pm) ⊕ (Pm)) :=
  (if 6 ≤ v2 then some (.inr P) else (if inb v2 6 = true then (if inb v2 6 = true then nb (up2 P 5 (ix v2) (Q 5 (ix v2))) (fun P5 => (if inb v2 6 = true then (if inb v2 6 = true then nb (up2 P5 6 (ix v2) (Q 6 (ix v2))) (fun P8 => (if inb v2 6 = true then (if inb v2 6 = true then nb (up2 P8 7 (ix v2) (Q 7 (ix v2))) (fun P11 => (if inb v2 6 = true then (if inb v2 6 = true then nb (up2 P11 8 (ix v2) (Q 8 (ix v2))) (fun P14 => (if inb v2 6 = true then (if inb v2 6 = true then nb (up2 P14 9 (ix v2) (Q 9 (ix v2))) (fun P17 => (if inb v2 6 = true then (if inb v2 6 = true then nb (up2 P17 10 (ix v2) (Q 10 (ix v2))) (fun P20 => (if inb v2 6 = true then (if inb v2 6 = true then nb (up2 P20 11 (ix v2) (Q 11 (ix v2))) (fun P23 => (if inb v2 6 = true then (if inb v2 6 = true then nb (up2 P23 12 (ix v2) (Q 12 (ix v2))) (fun P26 => (if inb v2 6 = true then (if inb v2 6 = true then nb (up2 P26 13 (ix v2) (Q 13 (ix v2))) (fun P29 => some (.inl ((v2 + 1), P29))) else none) else none)) else none) else none)) else none) else none)) else none) else none)) else none) else none)) else none) else none)) else none) else none)) else none) else none)) else none) else none))
def f_X5_copyFrom_H31 (P : Pm) (Q : Pm) (v2 : Int32) : Option (Pm) :=
  Option.bind (iter (fun t => f_X5_copyFrom_B31 Q t.1 t.2) 200 (v2, P)) (fun P => f_X5_copyFrom_J151 P Q)
def f_X5_copyFrom (P : Pm) (Q : Pm) : Option (Pm) :=
  nb (up2 P 0 0 (Q 0 0)) (fun P30 => nb (up2 P30 0 1 (Q 0 1)) (fun P31 => nb (up2 P31 0 2 (Q 0 2)) (fun P32 => nb (up2 P32 0 3 0) (fun P33 => f_X5_copyFrom_H31 P33 Q 0))))
set_option maxHeartbeats 4000000 in
set_option maxRecDepth 100000 in
theorem c_X5_copyFrom (l : Launch) (G : GE) {σ : Mm} {lm : Ml} {o : Nat} (ho : kdo o = 5) {o2 : Nat} (ho2 : kdo o2 = 5) (h12 : o ≠ o2)  {P : Pm} {Q : Pm} {Pz : Pm} (h : f_X5_copyFrom P Q = some Pz) : CM l G yX5_copyFrom bX5_copyFrom 3 (Option.none : Option Jvm.ClassFile.FieldType) rm_X5_copyFrom [.ref (gA G o 0), .ref (gA G o2 0)] (m2 σ o P o2 Q) lm (none) (m2 σ o Pz o2 Q) lm := by
  refine CM.of (own := zR5) (L0 := [(0, .ref (gA G o 0)), (1, .ref (gA G o2 0))]) (by decide +kernel) rfl (Nat.le_of_ble_eq_true rfl) rfl (fun X hl hX hR hQ => ?_)
  have K151 : ∀ (P : Pm) (_ : True), f_X5_copyFrom_J151 P Q = some Pz → WW X G 3 (m2 σ o P o2 Q) lm 151 [(0, .ref (gA G o 0)), (1, .ref (gA G o2 0))] [] := by
    intro P _ h
    unfold f_X5_copyFrom_J151 at h
    refine r_aload_n hX rfl 1 rfl dX5_copyFrom_151 ?_
    refine gf_5_13 hX fl_X5_52 ho2 m2_g2 dX5_copyFrom_152 ?_
    refine r_iconst (v := 0) hX (by decide) dX5_copyFrom_155 ?_
    refine r_aload_n hX rfl 0 rfl dX5_copyFrom_156 ?_
    refine gf_5_13 hX fl_X5_52 ho (m2_g1 h12) dX5_copyFrom_157 ?_
    refine r_iconst (v := 0) hX (by decide) dX5_copyFrom_160 ?_
    refine r_bipush (v := 24) hX (by decide) dX5_copyFrom_161 ?_
    obtain ⟨hk1, h⟩ := kc_e h
    obtain ⟨P2, hP2, h⟩ := nb_e h
    refine r_acpyI hX hR ml_acpy_X5_55 rfl ho2 ho (by decide) (by decide) hc_5_14 hc_5_14 (fun _ _ => rfl) (fun _ _ => rfl) m2_g2 (m2_g1 h12) hk1 (m2_w1 h12 hP2) (st := []) (Nat.le_of_ble_eq_true rfl) dX5_copyFrom_163 ?_
    have g0 := Option.some.inj h
    subst g0
    exact r_vret hX hQ dX5_copyFrom_166
  have K31 : ∀ (P : Pm) (v2 : Int32) (_ : True), f_X5_copyFrom_H31 P Q v2 = some Pz → WW X G 3 (m2 σ o P o2 Q) lm 31 [(0, .ref (gA G o 0)), (1, .ref (gA G o2 0)), (2, .int v2)] [] := by
    intro P v2 _ h
    unfold f_X5_copyFrom_H31 at h
    obtain ⟨e_P, hit, hO⟩ := bn_e h
    refine iter_w (P := fun t : Int32 × Pm => WW X G 3 (m2 σ o t.2 o2 Q) lm 31 [(0, .ref (gA G o 0)), (1, .ref (gA G o2 0)), (2, .int t.1)] []) (x := e_P) ?_ 200 (v2, P) hit
    clear hit
    intro t z1 hb hin1 hex1
    obtain ⟨v2, P⟩ := t
    have h : f_X5_copyFrom_B31 Q v2 P = some z1 := hb
    clear hb
    unfold f_X5_copyFrom_B31 at h
    refine r_iload_n hX rfl 2 rfl dX5_copyFrom_31 ?_
    refine r_bipush (v := 6) hX (by decide) dX5_copyFrom_32 ?_
    refine r_icmp_ge hX dX5_copyFrom_34 (fun hc => ?_) (fun hc => ?_)
    · replace h := ip_e hc h
      have g0 := hex1 _ (Option.some.inj h).symm
      subst g0
      exact WW.sub [0, 1] rfl (K151 P trivial hO)
    · replace h := in_e hc h
      refine r_aload_n hX rfl 0 rfl dX5_copyFrom_37 ?_
      refine gf_5_4 hX fl_X5_24 ho (m2_g1 h12) dX5_copyFrom_38 ?_
      refine r_iload_n hX rfl 2 rfl dX5_copyFrom_41 ?_
      refine r_aload_n hX rfl 1 rfl dX5_copyFrom_42 ?_
      refine gf_5_4 hX fl_X5_24 ho2 m2_g2 dX5_copyFrom_43 ?_
      refine r_iload_n hX rfl 2 rfl dX5_copyFrom_46 ?_
      obtain ⟨hk3, h⟩ := kc_e h
      refine ga_5_5 hX ho2 m2_g2 hk3 dX5_copyFrom_47 ?_
      obtain ⟨hk4, h⟩ := kc_e h
      obtain ⟨P5, hP5, h⟩ := nb_e h
      refine pa_5_5 hX ho (m2_g1 h12) hk4 (m2_w1 h12 hP5) dX5_copyFrom_48 ?_
      refine r_aload_n hX rfl 0 rfl dX5_copyFrom_49 ?_
      refine gf_5_5 hX fl_X5_28 ho (m2_g1 h12) dX5_copyFrom_50 ?_
      refine r_iload_n hX rfl 2 rfl dX5_copyFrom_53 ?_
      refine r_aload_n hX rfl 1 rfl dX5_copyFrom_54 ?_
      refine gf_5_5 hX fl_X5_28 ho2 m2_g2 dX5_copyFrom_55 ?_
      refine r_iload_n hX rfl 2 rfl dX5_copyFrom_58 ?_
      obtain ⟨hk6, h⟩ := kc_e h
      refine ga_5_6 hX ho2 m2_g2 hk6 dX5_copyFrom_59 ?_
      obtain ⟨hk7, h⟩ := kc_e h
      obtain ⟨P8, hP8, h⟩ := nb_e h
      refine pa_5_6 hX ho (m2_g1 h12) hk7 (m2_w1 h12 hP8) dX5_copyFrom_60 ?_
      refine r_aload_n hX rfl 0 rfl dX5_copyFrom_61 ?_
      refine gf_5_6 hX fl_X5_31 ho (m2_g1 h12) dX5_copyFrom_62 ?_
      refine r_iload_n hX rfl 2 rfl dX5_copyFrom_65 ?_
      refine r_aload_n hX rfl 1 rfl dX5_copyFrom_66 ?_
      refine gf_5_6 hX fl_X5_31 ho2 m2_g2 dX5_copyFrom_67 ?_
      refine r_iload_n hX rfl 2 rfl dX5_copyFrom_70 ?_
      obtain ⟨hk9, h⟩ := kc_e h
      refine ga_5_7 hX ho2 m2_g2 hk9 dX5_copyFrom_71 ?_
      obtain ⟨hk10, h⟩ := kc_e h
      obtain ⟨P11, hP11, h⟩ := nb_e h
      refine pa_5_7 hX ho (m2_g1 h12) hk10 (m2_w1 h12 hP11) dX5_copyFrom_72 ?_
      refine r_aload_n hX rfl 0 rfl dX5_copyFrom_73 ?_
      refine gf_5_7 hX fl_X5_34 ho (m2_g1 h12) dX5_copyFrom_74 ?_
      refine r_iload_n hX rfl 2 rfl dX5_copyFrom_77 ?_
      refine r_aload_n hX rfl 1 rfl dX5_copyFrom_78 ?_
      refine gf_5_7 hX fl_X5_34 ho2 m2_g2 dX5_copyFrom_79 ?_
      refine r_iload_n hX rfl 2 rfl dX5_copyFrom_82 ?_
      obtain ⟨hk12, h⟩ := kc_e h
      refine ga_5_8 hX ho2 m2_g2 hk12 dX5_copyFrom_83 ?_
      obtain ⟨hk13, h⟩ := kc_e h
      obtain ⟨P14, hP14, h⟩ := nb_e h
      refine pa_5_8 hX ho (m2_g1 h12) hk13 (m2_w1 h12 hP14) dX5_copyFrom_84 ?_
      refine r_aload_n hX rfl 0 rfl dX5_copyFrom_85 ?_
      refine gf_5_8 hX fl_X5_37 ho (m2_g1 h12) dX5_copyFrom_86 ?_
      refine r_iload_n hX rfl 2 rfl dX5_copyFrom_89 ?_
      refine r_aload_n hX rfl 1 rfl dX5_copyFrom_90 ?_
      refine gf_5_8 hX fl_X5_37 ho2 m2_g2 dX5_copyFrom_91 ?_
      refine r_iload_n hX rfl 2 rfl dX5_copyFrom_94 ?_
      obtain ⟨hk15, h⟩ := kc_e h
      refine ga_5_9 hX ho2 m2_g2 hk15 dX5_copyFrom_95 ?_
      obtain ⟨hk16, h⟩ := kc_e h
      obtain ⟨P17, hP17, h⟩ := nb_e h
      refine pa_5_9 hX ho (m2_g1 h12) hk16 (m2_w1 h12 hP17) dX5_copyFrom_96 ?_
      refine r_aload_n hX rfl 0 rfl dX5_copyFrom_97 ?_
      refine gf_5_9 hX fl_X5_40 ho (m2_g1 h12) dX5_copyFrom_98 ?_
      refine r_iload_n hX rfl 2 rfl dX5_copyFrom_101 ?_
      refine r_aload_n hX rfl 1 rfl dX5_copyFrom_102 ?_
      refine gf_5_9 hX fl_X5_40 ho2 m2_g2 dX5_copyFrom_103 ?_
      refine r_iload_n hX rfl 2 rfl dX5_copyFrom_106 ?_
      obtain ⟨hk18, h⟩ := kc_e h
      refine ga_5_10 hX ho2 m2_g2 hk18 dX5_copyFrom_107 ?_
      obtain ⟨hk19, h⟩ := kc_e h
      obtain ⟨P20, hP20, h⟩ := nb_e h
      refine pa_5_10 hX ho (m2_g1 h12) hk19 (m2_w1 h12 hP20) dX5_copyFrom_108 ?_
      refine r_aload_n hX rfl 0 rfl dX5_copyFrom_109 ?_
      refine gf_5_10 hX fl_X5_43 ho (m2_g1 h12) dX5_copyFrom_110 ?_
      refine r_iload_n hX rfl 2 rfl dX5_copyFrom_113 ?_
      refine r_aload_n hX rfl 1 rfl dX5_copyFrom_114 ?_
      refine gf_5_10 hX fl_X5_43 ho2 m2_g2 dX5_copyFrom_115 ?_
      refine r_iload_n hX rfl 2 rfl dX5_copyFrom_118 ?_
      obtain ⟨hk21, h⟩ := kc_e h
      refine ga_5_11 hX ho2 m2_g2 hk21 dX5_copyFrom_119 ?_
      obtain ⟨hk22, h⟩ := kc_e h
      obtain ⟨P23, hP23, h⟩ := nb_e h
      refine pa_5_11 hX ho (m2_g1 h12) hk22 (m2_w1 h12 hP23) dX5_copyFrom_120 ?_
      refine r_aload_n hX rfl 0 rfl dX5_copyFrom_121 ?_
      refine gf_5_11 hX fl_X5_46 ho (m2_g1 h12) dX5_copyFrom_122 ?_
      refine r_iload_n hX rfl 2 rfl dX5_copyFrom_125 ?_
      refine r_aload_n hX rfl 1 rfl dX5_copyFrom_126 ?_
      refine gf_5_11 hX fl_X5_46 ho2 m2_g2 dX5_copyFrom_127 ?_
      refine r_iload_n hX rfl 2 rfl dX5_copyFrom_130 ?_
      obtain ⟨hk24, h⟩ := kc_e h
      refine ga_5_12 hX ho2 m2_g2 hk24 dX5_copyFrom_131 ?_
      obtain ⟨hk25, h⟩ := kc_e h
      obtain ⟨P26, hP26, h⟩ := nb_e h
      refine pa_5_12 hX ho (m2_g1 h12) hk25 (m2_w1 h12 hP26) dX5_copyFrom_132 ?_
      refine r_aload_n hX rfl 0 rfl dX5_copyFrom_133 ?_
      refine gf_5_12 hX fl_X5_49 ho (m2_g1 h12) dX5_copyFrom_134 ?_
      refine r_iload_n hX rfl 2 rfl dX5_copyFrom_137 ?_
      refine r_aload_n hX rfl 1 rfl dX5_copyFrom_138 ?_
      refine gf_5_12 hX fl_X5_49 ho2 m2_g2 dX5_copyFrom_139 ?_
      refine r_iload_n hX rfl 2 rfl dX5_copyFrom_142 ?_
      obtain ⟨hk27, h⟩ := kc_e h
      refine ga_5_13 hX ho2 m2_g2 hk27 dX5_copyFrom_143 ?_
      obtain ⟨hk28, h⟩ := kc_e h
      obtain ⟨P29, hP29, h⟩ := nb_e h
      refine pa_5_13 hX ho (m2_g1 h12) hk28 (m2_w1 h12 hP29) dX5_copyFrom_144 ?_
      refine r_iinc (v := v2 + 1) (L2 := [(2, .int (v2 + 1)), (0, .ref (gA G o 0)), (1, .ref (gA G o2 0))]) hX 2 rfl rfl (by decide) rfl dX5_copyFrom_145 ?_
      refine r_goto hX dX5_copyFrom_148 ?_
      exact WW.sub [1, 2, 0] rfl (hin1 _ (Option.some.inj h).symm)
  unfold f_X5_copyFrom at h
  refine r_aload_n hX rfl 0 rfl dX5_copyFrom_0 ?_
  refine r_aload_n hX rfl 1 rfl dX5_copyFrom_1 ?_
  refine gf_5_0 hX fl_X5_9 ho2 m2_g2 dX5_copyFrom_2 ?_
  obtain ⟨P30, hP30, h⟩ := nb_e h
  refine pf_5_0 hX fl_X5_9 ho (m2_g1 h12) dX5_copyFrom_5 (m2_w1 h12 hP30) ?_
  refine r_aload_n hX rfl 0 rfl dX5_copyFrom_8 ?_
  refine r_aload_n hX rfl 1 rfl dX5_copyFrom_9 ?_
  refine gf_5_1 hX fl_X5_15 ho2 m2_g2 dX5_copyFrom_10 ?_
  obtain ⟨P31, hP31, h⟩ := nb_e h
  refine pf_5_1 hX fl_X5_15 ho (m2_g1 h12) dX5_copyFrom_13 (m2_w1 h12 hP31) ?_
  refine r_aload_n hX rfl 0 rfl dX5_copyFrom_16 ?_
  refine r_aload_n hX rfl 1 rfl dX5_copyFrom_17 ?_
  refine gf_5_2 hX fl_X5_18 ho2 m2_g2 dX5_copyFrom_18 ?_
  obtain ⟨P32, hP32, h⟩ := nb_e h
  refine pf_5_2 hX fl_X5_18 ho (m2_g1 h12) dX5_copyFrom_21 (m2_w1 h12 hP32) ?_
  refine r_aload_n hX rfl 0 rfl dX5_copyFrom_24 ?_
  refine r_iconst (v := 0) hX (by decide) dX5_copyFrom_25 ?_
  obtain ⟨P33, hP33, h⟩ := nb_e h
  refine pf_5_3 hX fl_X5_21 ho (m2_g1 h12) dX5_copyFrom_26 (m2_w1 h12 hP33) ?_
  refine r_iconst (v := 0) hX (by decide) dX5_copyFrom_29 ?_
  refine r_istore_n (L2 := [(2, .int 0), (0, .ref (gA G o 0)), (1, .ref (gA G o2 0))]) hX rfl (by decide) rfl dX5_copyFrom_30 ?_
  exact WW.sub [1, 2, 0] rfl (K31 P33 0 trivial h)
