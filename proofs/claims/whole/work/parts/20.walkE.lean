/-! the pure functions and the walks; written by wip/whole/gen_walk.py -/
abbrev rm_X0_forget : Room := { frames := 0, cells := 0, slots := 0, locals := 60 }
def f_X0_forget (P : Pm) : Option (Pm) :=
  nb (up2 P 0 0 0) (fun P1 => some P1)
set_option maxHeartbeats 4000000 in
set_option maxRecDepth 100000 in
theorem c_X0_forget (l : Launch) (G : GE) {σ : Mm} {lm : Ml}  {P : Pm} {Pz : Pm} (h : f_X0_forget P = some Pz) : CM l G yX0_forget bX0_forget 1 (Option.none : Option Jvm.ClassFile.FieldType) rm_X0_forget [.ref (gA G 15 0)] (m1 σ 15 P) lm (none) (m1 σ 15 Pz) lm := by
  refine CM.of (own := zR0) (L0 := [(0, .ref (gA G 15 0))]) (by decide +kernel) rfl (Nat.le_of_ble_eq_true rfl) rfl (fun X hl hX hR hQ => ?_)
  unfold f_X0_forget at h
  refine r_aload_n hX rfl 0 rfl dX0_forget_0 ?_
  refine r_iconst (v := 0) hX (by decide) dX0_forget_1 ?_
  obtain ⟨P1, hP1, h⟩ := nb_e h
  refine pf_0_0 (o := 15) hX fl_X0_9 rfl m1_g dX0_forget_2 (m1_w hP1) ?_
  have g0 := Option.some.inj h
  subst g0
  exact r_vret hX hQ dX0_forget_5
abbrev rm_X0_traced : Room := { frames := 0, cells := 0, slots := 0, locals := 60 }
def f_X0_traced (P : Pm) (a1 : Int32) : Option (Int32) :=
  (if a1 < 0 then some (-1) else (if (P 0 0) ≤ a1 then some (-1) else (if 20 ≤ a1 then some (-1) else (if inb a1 20 = true then some (P 2 (ix a1)) else none))))
set_option maxHeartbeats 4000000 in
set_option maxRecDepth 100000 in
theorem c_X0_traced (l : Launch) (G : GE) {σ : Mm} {lm : Ml}  {P : Pm} {a1 : Int32} {rz : Int32} (h : f_X0_traced P a1 = some rz) : CM l G yX0_traced bX0_traced 2 (Option.some Jvm.ClassFile.FieldType.int) rm_X0_traced [.ref (gA G 15 0), .int a1] (m1 σ 15 P) lm (some (.int rz)) (m1 σ 15 P) lm := by
  refine CM.of (own := zR0) (L0 := [(0, .ref (gA G 15 0)), (1, .int a1)]) (by decide +kernel) rfl (Nat.le_of_ble_eq_true rfl) rfl (fun X hl hX hR hQ => ?_)
  unfold f_X0_traced at h
  refine r_iload_n hX rfl 1 rfl dX0_traced_0 ?_
  refine r_if_lt hX dX0_traced_1 (fun hc => ?_) (fun hc => ?_)
  · replace h := ip_e hc h
    refine r_iconst (v := (-1)) hX (by decide) dX0_traced_27 ?_
    have g0 := Option.some.inj h
    subst g0
    exact r_iret hX hQ dX0_traced_28
  · replace h := in_e hc h
    refine r_iload_n hX rfl 1 rfl dX0_traced_4 ?_
    refine r_aload_n hX rfl 0 rfl dX0_traced_5 ?_
    refine gf_0_0 (o := 15) hX fl_X0_9 rfl m1_g dX0_traced_6 ?_
    refine r_icmp_ge hX dX0_traced_9 (fun hc => ?_) (fun hc => ?_)
    · replace h := ip_e hc h
      refine r_iconst (v := (-1)) hX (by decide) dX0_traced_27 ?_
      have g0 := Option.some.inj h
      subst g0
      exact r_iret hX hQ dX0_traced_28
    · replace h := in_e hc h
      refine r_iload_n hX rfl 1 rfl dX0_traced_12 ?_
      refine r_bipush (v := 20) hX (by decide) dX0_traced_13 ?_
      refine r_icmp_ge hX dX0_traced_15 (fun hc => ?_) (fun hc => ?_)
      · replace h := ip_e hc h
        refine r_iconst (v := (-1)) hX (by decide) dX0_traced_27 ?_
        have g0 := Option.some.inj h
        subst g0
        exact r_iret hX hQ dX0_traced_28
      · replace h := in_e hc h
        refine r_aload_n hX rfl 0 rfl dX0_traced_18 ?_
        refine gf_0_1 (o := 15) hX fl_X0_15 rfl m1_g dX0_traced_19 ?_
        refine r_iload_n hX rfl 1 rfl dX0_traced_22 ?_
        obtain ⟨hk1, h⟩ := kc_e h
        refine ga_0_2 (o := 15) hX rfl m1_g hk1 dX0_traced_23 ?_
        refine r_goto hX dX0_traced_24 ?_
        have g0 := Option.some.inj h
        subst g0
        exact r_iret hX hQ dX0_traced_28
def f_X0_run (rec : Pm → Int32 → Int32 → Int32 → Int32 → Option (Int32 × Pm)) (P : Pm) (a1 : Int32) (a2 : Int32) (a3 : Int32) (a4 : Int32) : Option (Int32 × Pm) :=
  (if a1 = 10 then some ((a3 + (P 0 2)), P) else (if a1 = 11 then bn2 (rec P (P 0 3) 0 a3 a4) (fun x1 P2 => some ((x1 - (P2 0 4)), P2)) else (if a1 = 12 then bn2 (rec P (P 0 3) 1 a3 a4) (fun x3 P4 => some ((x3 * 2), P4)) else (if a1 = 20 then bn2 (rec P a2 1 a3 a4) (fun x5 P6 => some ((x5 ^^^ 6), P6)) else (if a1 = 30 then bn2 (rec P a2 0 (a3 * 3) a4) (fun x7 P8 => some (x7, P8)) else (if a1 = 40 then bn2 (rec P a2 2 a3 a4) (fun x9 P10 => bn2 (rec P10 (P10 0 3) 1 1 a4) (fun x11 P12 => some ((x9 + x11), P12))) else (if a1 = 50 then bn2 (rec P a2 0 a3 a4) (fun x13 P14 => some ((-x13), P14)) else (if a1 = 51 then bn2 (rec P a2 1 (a3 + 1) a4) (fun x15 P16 => some (x15, P16)) else (if a1 = 60 then bn2 (rec P a2 2 (a3 - (P 0 2)) a4) (fun x17 P18 => some (x17, P18)) else (if a1 = 70 then bn2 (rec P a2 1 a3 a4) (fun x19 P20 => bn2 (rec P20 a2 0 2 a4) (fun x21 P22 => some ((x19 + x21), P22))) else (if a1 = 71 then bn2 (rec P a2 0 a3 a4) (fun x23 P24 => some ((x23 ^^^ (P24 0 4)), P24)) else some (0, P))))))))))))
set_option maxHeartbeats 4000000 in
set_option maxRecDepth 100000 in
theorem c_X0_run (l : Launch) (G : GE) {n : Nat} {rec : Pm → Int32 → Int32 → Int32 → Int32 → Option (Int32 × Pm)} (hrec : ∀ (σ : Mm) (lm : Ml) (P : Pm) (a1 : Int32) (a2 : Int32) (a3 : Int32) (a4 : Int32) (rz : Int32) (Pz : Pm), rec P a1 a2 a3 a4 = some (rz, Pz) → CM l G yX0_from bX0_from 7 (Option.some Jvm.ClassFile.FieldType.int) (rmN (2 * n + 16)) [.ref (gA G 15 0), .int a1, .int a2, .int a3, .int a4] (m1 σ 15 P) lm (some (.int rz)) (m1 σ 15 Pz) lm) {σ : Mm} {lm : Ml} {P : Pm} {a1 : Int32} {a2 : Int32} {a3 : Int32} {a4 : Int32} {rz : Int32} {Pz : Pm} (h : f_X0_run rec P a1 a2 a3 a4 = some (rz, Pz)) : CM l G yX0_run bX0_run 5 (Option.some Jvm.ClassFile.FieldType.int) (rmN (2 * n + 17)) [.ref (gA G 15 0), .int a1, .int a2, .int a3, .int a4] (m1 σ 15 P) lm (some (.int rz)) (m1 σ 15 Pz) lm := by
  refine CM.of (own := zR0) (L0 := [(0, .ref (gA G 15 0)), (1, .int a1), (2, .int a2), (3, .int a3), (4, .int a4)]) (by decide +kernel) rfl (Nat.le_of_ble_eq_true rfl) rfl (fun X hl hX hR hQ => ?_)
  subst hl
  unfold f_X0_run at h
  refine r_iload_n hX rfl 1 rfl dX0_run_0 ?_
  by_cases hc0 : a1 = 10
  · replace h := ip_e hc0 h
    refine r_lsw (off := 99) (tgt := 100) hX (by decide) (by rw [hc0]; rfl) (by decide) dX0_run_1 ?_
    refine r_iload_n hX rfl 3 rfl dX0_run_100 ?_
    refine r_aload_n hX rfl 0 rfl dX0_run_101 ?_
    refine gf_0_2 (o := 15) hX fl_X0_19 rfl m1_g dX0_run_102 ?_
    refine r_iadd hX dX0_run_105 ?_
    have g0 := Option.some.inj h
    obtain ⟨q0, g1⟩ := Prod.mk.inj g0
    subst q0
    subst g1
    exact r_iret hX hQ dX0_run_106
  · replace h := in_e hc0 h
    by_cases hc1 : a1 = 11
    · replace h := ip_e hc1 h
      refine r_lsw (off := 106) (tgt := 107) hX (by decide) (by rw [hc1]; rfl) (by decide) dX0_run_1 ?_
      refine r_aload_n hX rfl 0 rfl dX0_run_107 ?_
      refine r_aload_n hX rfl 0 rfl dX0_run_108 ?_
      refine gf_0_3 (o := 15) hX fl_X0_22 rfl m1_g dX0_run_109 ?_
      refine r_iconst (v := 0) hX (by decide) dX0_run_112 ?_
      refine r_iload_n hX rfl 3 rfl dX0_run_113 ?_
      refine r_iload hX 4 rfl dX0_run_114 ?_
      obtain ⟨x1, P2, hc2, h⟩ := bn2_e h
      refine r_callVi hX hR (hrec σ _ _ _ _ _ _ _ _ hc2) rfl rfl mf_X0_from ml_X0_34 in_X0_from se_X0_from rfl rfl ⟨rfl, rfl, by show 2 * n + 16 + 1 ≤ 2 * n + 17; omega, by show 8 + (7 + 11) + 40 * (2 * n + 16) ≤ 40 * (2 * n + 17); omega⟩ rfl (st := []) rfl (Nat.le_of_ble_eq_true rfl) dX0_run_116 ?_
      refine r_aload_n hX rfl 0 rfl dX0_run_119 ?_
      refine gf_0_4 (o := 15) hX fl_X0_25 rfl m1_g dX0_run_120 ?_
      refine r_isub hX dX0_run_123 ?_
      have g0 := Option.some.inj h
      obtain ⟨q0, g1⟩ := Prod.mk.inj g0
      subst q0
      subst g1
      exact r_iret hX hQ dX0_run_124
    · replace h := in_e hc1 h
      by_cases hc2 : a1 = 12
      · replace h := ip_e hc2 h
        refine r_lsw (off := 124) (tgt := 125) hX (by decide) (by rw [hc2]; rfl) (by decide) dX0_run_1 ?_
        refine r_aload_n hX rfl 0 rfl dX0_run_125 ?_
        refine r_aload_n hX rfl 0 rfl dX0_run_126 ?_
        refine gf_0_3 (o := 15) hX fl_X0_22 rfl m1_g dX0_run_127 ?_
        refine r_iconst (v := 1) hX (by decide) dX0_run_130 ?_
        refine r_iload_n hX rfl 3 rfl dX0_run_131 ?_
        refine r_iload hX 4 rfl dX0_run_132 ?_
        obtain ⟨x3, P4, hc4, h⟩ := bn2_e h
        refine r_callVi hX hR (hrec σ _ _ _ _ _ _ _ _ hc4) rfl rfl mf_X0_from ml_X0_34 in_X0_from se_X0_from rfl rfl ⟨rfl, rfl, by show 2 * n + 16 + 1 ≤ 2 * n + 17; omega, by show 8 + (7 + 11) + 40 * (2 * n + 16) ≤ 40 * (2 * n + 17); omega⟩ rfl (st := []) rfl (Nat.le_of_ble_eq_true rfl) dX0_run_134 ?_
        refine r_iconst (v := 2) hX (by decide) dX0_run_137 ?_
        refine r_imul hX dX0_run_138 ?_
        have g0 := Option.some.inj h
        obtain ⟨q0, g1⟩ := Prod.mk.inj g0
        subst q0
        subst g1
        exact r_iret hX hQ dX0_run_139
      · replace h := in_e hc2 h
        by_cases hc3 : a1 = 20
        · replace h := ip_e hc3 h
          refine r_lsw (off := 139) (tgt := 140) hX (by decide) (by rw [hc3]; rfl) (by decide) dX0_run_1 ?_
          refine r_aload_n hX rfl 0 rfl dX0_run_140 ?_
          refine r_iload_n hX rfl 2 rfl dX0_run_141 ?_
          refine r_iconst (v := 1) hX (by decide) dX0_run_142 ?_
          refine r_iload_n hX rfl 3 rfl dX0_run_143 ?_
          refine r_iload hX 4 rfl dX0_run_144 ?_
          obtain ⟨x5, P6, hc6, h⟩ := bn2_e h
          refine r_callVi hX hR (hrec σ _ _ _ _ _ _ _ _ hc6) rfl rfl mf_X0_from ml_X0_34 in_X0_from se_X0_from rfl rfl ⟨rfl, rfl, by show 2 * n + 16 + 1 ≤ 2 * n + 17; omega, by show 8 + (7 + 11) + 40 * (2 * n + 16) ≤ 40 * (2 * n + 17); omega⟩ rfl (st := []) rfl (Nat.le_of_ble_eq_true rfl) dX0_run_146 ?_
          refine r_bipush (v := 6) hX (by decide) dX0_run_149 ?_
          refine r_ixor hX dX0_run_151 ?_
          have g0 := Option.some.inj h
          obtain ⟨q0, g1⟩ := Prod.mk.inj g0
          subst q0
          subst g1
          exact r_iret hX hQ dX0_run_152
        · replace h := in_e hc3 h
          by_cases hc4 : a1 = 30
          · replace h := ip_e hc4 h
            refine r_lsw (off := 152) (tgt := 153) hX (by decide) (by rw [hc4]; rfl) (by decide) dX0_run_1 ?_
            refine r_aload_n hX rfl 0 rfl dX0_run_153 ?_
            refine r_iload_n hX rfl 2 rfl dX0_run_154 ?_
            refine r_iconst (v := 0) hX (by decide) dX0_run_155 ?_
            refine r_iload_n hX rfl 3 rfl dX0_run_156 ?_
            refine r_iconst (v := 3) hX (by decide) dX0_run_157 ?_
            refine r_imul hX dX0_run_158 ?_
            refine r_iload hX 4 rfl dX0_run_159 ?_
            obtain ⟨x7, P8, hc8, h⟩ := bn2_e h
            refine r_callVi hX hR (hrec σ _ _ _ _ _ _ _ _ hc8) rfl rfl mf_X0_from ml_X0_34 in_X0_from se_X0_from rfl rfl ⟨rfl, rfl, by show 2 * n + 16 + 1 ≤ 2 * n + 17; omega, by show 8 + (7 + 11) + 40 * (2 * n + 16) ≤ 40 * (2 * n + 17); omega⟩ rfl (st := []) rfl (Nat.le_of_ble_eq_true rfl) dX0_run_161 ?_
            have g0 := Option.some.inj h
            obtain ⟨q0, g1⟩ := Prod.mk.inj g0
            subst q0
            subst g1
            exact r_iret hX hQ dX0_run_164
          · replace h := in_e hc4 h
            by_cases hc5 : a1 = 40
            · replace h := ip_e hc5 h
              refine r_lsw (off := 164) (tgt := 165) hX (by decide) (by rw [hc5]; rfl) (by decide) dX0_run_1 ?_
              refine r_aload_n hX rfl 0 rfl dX0_run_165 ?_
              refine r_iload_n hX rfl 2 rfl dX0_run_166 ?_
              refine r_iconst (v := 2) hX (by decide) dX0_run_167 ?_
              refine r_iload_n hX rfl 3 rfl dX0_run_168 ?_
              refine r_iload hX 4 rfl dX0_run_169 ?_
              obtain ⟨x9, P10, hc10, h⟩ := bn2_e h
              refine r_callVi hX hR (hrec σ _ _ _ _ _ _ _ _ hc10) rfl rfl mf_X0_from ml_X0_34 in_X0_from se_X0_from rfl rfl ⟨rfl, rfl, by show 2 * n + 16 + 1 ≤ 2 * n + 17; omega, by show 8 + (7 + 11) + 40 * (2 * n + 16) ≤ 40 * (2 * n + 17); omega⟩ rfl (st := []) rfl (Nat.le_of_ble_eq_true rfl) dX0_run_171 ?_
              refine r_aload_n hX rfl 0 rfl dX0_run_174 ?_
              refine r_aload_n hX rfl 0 rfl dX0_run_175 ?_
              refine gf_0_3 (o := 15) hX fl_X0_22 rfl m1_g dX0_run_176 ?_
              refine r_iconst (v := 1) hX (by decide) dX0_run_179 ?_
              refine r_iconst (v := 1) hX (by decide) dX0_run_180 ?_
              refine r_iload hX 4 rfl dX0_run_181 ?_
              obtain ⟨x11, P12, hc12, h⟩ := bn2_e h
              refine r_callVi hX hR (hrec σ _ _ _ _ _ _ _ _ hc12) rfl rfl mf_X0_from ml_X0_34 in_X0_from se_X0_from rfl rfl ⟨rfl, rfl, by show 2 * n + 16 + 1 ≤ 2 * n + 17; omega, by show 8 + (7 + 11) + 40 * (2 * n + 16) ≤ 40 * (2 * n + 17); omega⟩ rfl (st := [.int x9]) rfl (Nat.le_of_ble_eq_true rfl) dX0_run_183 ?_
              refine r_iadd hX dX0_run_186 ?_
              have g0 := Option.some.inj h
              obtain ⟨q0, g1⟩ := Prod.mk.inj g0
              subst q0
              subst g1
              exact r_iret hX hQ dX0_run_187
            · replace h := in_e hc5 h
              by_cases hc6 : a1 = 50
              · replace h := ip_e hc6 h
                refine r_lsw (off := 187) (tgt := 188) hX (by decide) (by rw [hc6]; rfl) (by decide) dX0_run_1 ?_
                refine r_aload_n hX rfl 0 rfl dX0_run_188 ?_
                refine r_iload_n hX rfl 2 rfl dX0_run_189 ?_
                refine r_iconst (v := 0) hX (by decide) dX0_run_190 ?_
                refine r_iload_n hX rfl 3 rfl dX0_run_191 ?_
                refine r_iload hX 4 rfl dX0_run_192 ?_
                obtain ⟨x13, P14, hc14, h⟩ := bn2_e h
                refine r_callVi hX hR (hrec σ _ _ _ _ _ _ _ _ hc14) rfl rfl mf_X0_from ml_X0_34 in_X0_from se_X0_from rfl rfl ⟨rfl, rfl, by show 2 * n + 16 + 1 ≤ 2 * n + 17; omega, by show 8 + (7 + 11) + 40 * (2 * n + 16) ≤ 40 * (2 * n + 17); omega⟩ rfl (st := []) rfl (Nat.le_of_ble_eq_true rfl) dX0_run_194 ?_
                refine r_ineg hX dX0_run_197 ?_
                have g0 := Option.some.inj h
                obtain ⟨q0, g1⟩ := Prod.mk.inj g0
                subst q0
                subst g1
                exact r_iret hX hQ dX0_run_198
              · replace h := in_e hc6 h
                by_cases hc7 : a1 = 51
                · replace h := ip_e hc7 h
                  refine r_lsw (off := 198) (tgt := 199) hX (by decide) (by rw [hc7]; rfl) (by decide) dX0_run_1 ?_
                  refine r_aload_n hX rfl 0 rfl dX0_run_199 ?_
                  refine r_iload_n hX rfl 2 rfl dX0_run_200 ?_
                  refine r_iconst (v := 1) hX (by decide) dX0_run_201 ?_
                  refine r_iload_n hX rfl 3 rfl dX0_run_202 ?_
                  refine r_iconst (v := 1) hX (by decide) dX0_run_203 ?_
                  refine r_iadd hX dX0_run_204 ?_
                  refine r_iload hX 4 rfl dX0_run_205 ?_
                  obtain ⟨x15, P16, hc16, h⟩ := bn2_e h
                  refine r_callVi hX hR (hrec σ _ _ _ _ _ _ _ _ hc16) rfl rfl mf_X0_from ml_X0_34 in_X0_from se_X0_from rfl rfl ⟨rfl, rfl, by show 2 * n + 16 + 1 ≤ 2 * n + 17; omega, by show 8 + (7 + 11) + 40 * (2 * n + 16) ≤ 40 * (2 * n + 17); omega⟩ rfl (st := []) rfl (Nat.le_of_ble_eq_true rfl) dX0_run_207 ?_
                  have g0 := Option.some.inj h
                  obtain ⟨q0, g1⟩ := Prod.mk.inj g0
                  subst q0
                  subst g1
                  exact r_iret hX hQ dX0_run_210
                · replace h := in_e hc7 h
                  by_cases hc8 : a1 = 60
                  · replace h := ip_e hc8 h
                    refine r_lsw (off := 210) (tgt := 211) hX (by decide) (by rw [hc8]; rfl) (by decide) dX0_run_1 ?_
                    refine r_aload_n hX rfl 0 rfl dX0_run_211 ?_
                    refine r_iload_n hX rfl 2 rfl dX0_run_212 ?_
                    refine r_iconst (v := 2) hX (by decide) dX0_run_213 ?_
                    refine r_iload_n hX rfl 3 rfl dX0_run_214 ?_
                    refine r_aload_n hX rfl 0 rfl dX0_run_215 ?_
                    refine gf_0_2 (o := 15) hX fl_X0_19 rfl m1_g dX0_run_216 ?_
                    refine r_isub hX dX0_run_219 ?_
                    refine r_iload hX 4 rfl dX0_run_220 ?_
                    obtain ⟨x17, P18, hc18, h⟩ := bn2_e h
                    refine r_callVi hX hR (hrec σ _ _ _ _ _ _ _ _ hc18) rfl rfl mf_X0_from ml_X0_34 in_X0_from se_X0_from rfl rfl ⟨rfl, rfl, by show 2 * n + 16 + 1 ≤ 2 * n + 17; omega, by show 8 + (7 + 11) + 40 * (2 * n + 16) ≤ 40 * (2 * n + 17); omega⟩ rfl (st := []) rfl (Nat.le_of_ble_eq_true rfl) dX0_run_222 ?_
                    have g0 := Option.some.inj h
                    obtain ⟨q0, g1⟩ := Prod.mk.inj g0
                    subst q0
                    subst g1
                    exact r_iret hX hQ dX0_run_225
                  · replace h := in_e hc8 h
                    by_cases hc9 : a1 = 70
                    · replace h := ip_e hc9 h
                      refine r_lsw (off := 225) (tgt := 226) hX (by decide) (by rw [hc9]; rfl) (by decide) dX0_run_1 ?_
                      refine r_aload_n hX rfl 0 rfl dX0_run_226 ?_
                      refine r_iload_n hX rfl 2 rfl dX0_run_227 ?_
                      refine r_iconst (v := 1) hX (by decide) dX0_run_228 ?_
                      refine r_iload_n hX rfl 3 rfl dX0_run_229 ?_
                      refine r_iload hX 4 rfl dX0_run_230 ?_
                      obtain ⟨x19, P20, hc20, h⟩ := bn2_e h
                      refine r_callVi hX hR (hrec σ _ _ _ _ _ _ _ _ hc20) rfl rfl mf_X0_from ml_X0_34 in_X0_from se_X0_from rfl rfl ⟨rfl, rfl, by show 2 * n + 16 + 1 ≤ 2 * n + 17; omega, by show 8 + (7 + 11) + 40 * (2 * n + 16) ≤ 40 * (2 * n + 17); omega⟩ rfl (st := []) rfl (Nat.le_of_ble_eq_true rfl) dX0_run_232 ?_
                      refine r_aload_n hX rfl 0 rfl dX0_run_235 ?_
                      refine r_iload_n hX rfl 2 rfl dX0_run_236 ?_
                      refine r_iconst (v := 0) hX (by decide) dX0_run_237 ?_
                      refine r_iconst (v := 2) hX (by decide) dX0_run_238 ?_
                      refine r_iload hX 4 rfl dX0_run_239 ?_
                      obtain ⟨x21, P22, hc22, h⟩ := bn2_e h
                      refine r_callVi hX hR (hrec σ _ _ _ _ _ _ _ _ hc22) rfl rfl mf_X0_from ml_X0_34 in_X0_from se_X0_from rfl rfl ⟨rfl, rfl, by show 2 * n + 16 + 1 ≤ 2 * n + 17; omega, by show 8 + (7 + 11) + 40 * (2 * n + 16) ≤ 40 * (2 * n + 17); omega⟩ rfl (st := [.int x19]) rfl (Nat.le_of_ble_eq_true rfl) dX0_run_241 ?_
                      refine r_iadd hX dX0_run_244 ?_
                      have g0 := Option.some.inj h
                      obtain ⟨q0, g1⟩ := Prod.mk.inj g0
                      subst q0
                      subst g1
                      exact r_iret hX hQ dX0_run_245
                    · replace h := in_e hc9 h
                      by_cases hc10 : a1 = 71
                      · replace h := ip_e hc10 h
                        refine r_lsw (off := 245) (tgt := 246) hX (by decide) (by rw [hc10]; rfl) (by decide) dX0_run_1 ?_
                        refine r_aload_n hX rfl 0 rfl dX0_run_246 ?_
                        refine r_iload_n hX rfl 2 rfl dX0_run_247 ?_
                        refine r_iconst (v := 0) hX (by decide) dX0_run_248 ?_
                        refine r_iload_n hX rfl 3 rfl dX0_run_249 ?_
                        refine r_iload hX 4 rfl dX0_run_250 ?_
                        obtain ⟨x23, P24, hc24, h⟩ := bn2_e h
                        refine r_callVi hX hR (hrec σ _ _ _ _ _ _ _ _ hc24) rfl rfl mf_X0_from ml_X0_34 in_X0_from se_X0_from rfl rfl ⟨rfl, rfl, by show 2 * n + 16 + 1 ≤ 2 * n + 17; omega, by show 8 + (7 + 11) + 40 * (2 * n + 16) ≤ 40 * (2 * n + 17); omega⟩ rfl (st := []) rfl (Nat.le_of_ble_eq_true rfl) dX0_run_252 ?_
                        refine r_aload_n hX rfl 0 rfl dX0_run_255 ?_
                        refine gf_0_4 (o := 15) hX fl_X0_25 rfl m1_g dX0_run_256 ?_
                        refine r_ixor hX dX0_run_259 ?_
                        have g0 := Option.some.inj h
                        obtain ⟨q0, g1⟩ := Prod.mk.inj g0
                        subst q0
                        subst g1
                        exact r_iret hX hQ dX0_run_260
                      · replace h := in_e hc10 h
                        have hD : WW X G 5 (m1 σ 15 P) lm 261 [(0, .ref (gA G 15 0)), (1, .int a1), (2, .int a2), (3, .int a3), (4, .int a4)] [] := by
                          refine r_iconst (v := 0) hX (by decide) dX0_run_261 ?_
                          have g0 := Option.some.inj h
                          obtain ⟨q0, g1⟩ := Prod.mk.inj g0
                          subst q0
                          subst g1
                          exact r_iret hX hQ dX0_run_262
                        have j0 := i32n (n := 10) hc0 rfl
                        have j1 := i32n (n := 11) hc1 rfl
                        have j2 := i32n (n := 12) hc2 rfl
                        have j3 := i32n (n := 20) hc3 rfl
                        have j4 := i32n (n := 30) hc4 rfl
                        have j5 := i32n (n := 40) hc5 rfl
                        have j6 := i32n (n := 50) hc6 rfl
                        have j7 := i32n (n := 51) hc7 rfl
                        have j8 := i32n (n := 60) hc8 rfl
                        have j9 := i32n (n := 70) hc9 rfl
                        have j10 := i32n (n := 71) hc10 rfl
                        refine r_lsw (off := 260) (tgt := 261) hX (by decide) ?_ (by decide) dX0_run_1 hD
                        simp [Op.lookupswitch.offset, j0, Ne.symm j0, j1, Ne.symm j1, j2, Ne.symm j2, j3, Ne.symm j3, j4, Ne.symm j4, j5, Ne.symm j5, j6, Ne.symm j6, j7, Ne.symm j7, j8, Ne.symm j8, j9, Ne.symm j9, j10, Ne.symm j10]
def f_X0_from_J100 (rec : Pm → Int32 → Int32 → Int32 → Int32 → Option (Int32 × Pm)) (P : Pm) (v3 : Int32) (v4 : Int32) (v5 : Int32) (v6 : Int32) : Option (Int32 × Pm) :=
  nb (up2 P 0 0 ((P 0 0) + 1)) (fun P1 => (if inb v5 7 = true then bn2 (f_X0_run rec P1 v6 (tAb (ix v5)) v3 (v4 + 1)) (fun x3 P4 => some (x3, P4)) else none))
def f_X0_from_J54 (rec : Pm → Int32 → Int32 → Int32 → Int32 → Option (Int32 × Pm)) (P : Pm) (v2 : Int32) (v3 : Int32) (v4 : Int32) (v5 : Int32) : Option (Int32 × Pm) :=
  (if v5 < 0 then some (0, P) else (if v5 < 7 then (if inb ((v5 * 3) + v2) 21 = true then (if 20 ≤ (P 0 0) then f_X0_from_J100 rec P v3 v4 v5 (tBo (ix ((v5 * 3) + v2))) else (if inb (P 0 0) 20 = true then nb (up2 P 2 (ix (P 0 0)) (tBo (ix ((v5 * 3) + v2)))) (fun P7 => f_X0_from_J100 rec P7 v3 v4 v5 (tBo (ix ((v5 * 3) + v2)))) else none)) else none) else some (0, P)))
def f_X0_from_B15 (rec : Pm → Int32 → Int32 → Int32 → Int32 → Option (Int32 × Pm)) (P : Pm) (v2 : Int32) (v3 : Int32) (v4 : Int32) (v5 : Int32) (v6 : Int32) : Option ((Int32 × Int32) ⊕ (Int32)) :=
  (if 7 ≤ v6 then some (.inr v5) else (if v5 ≤ 0 then some (.inr v5) else (if inb ((v5 * 3) + v2) 21 = true then (if (tBo (ix ((v5 * 3) + v2))) = 0 then (if inb v5 7 = true then some (.inl ((tAb (ix v5)), (v6 + 1))) else none) else some (.inr v5)) else none)))
def f_X0_from_H15 (rec : Pm → Int32 → Int32 → Int32 → Int32 → Option (Int32 × Pm)) (P : Pm) (v2 : Int32) (v3 : Int32) (v4 : Int32) (v5 : Int32) (v6 : Int32) : Option (Int32 × Pm) :=
  Option.bind (iter (fun t => f_X0_from_B15 rec P v2 v3 v4 t.1 t.2) 200 (v5, v6)) (fun v5 => f_X0_from_J54 rec P v2 v3 v4 v5)
def f_X0_fromS (rec : Pm → Int32 → Int32 → Int32 → Int32 → Option (Int32 × Pm)) (P : Pm) (a1 : Int32) (a2 : Int32) (a3 : Int32) (a4 : Int32) : Option (Int32 × Pm) :=
  (if a4 ≤ 40 then f_X0_from_H15 rec P a2 a3 a4 a1 0 else some (0, P))
set_option maxHeartbeats 4000000 in
set_option maxRecDepth 100000 in
theorem c_X0_fromS (l : Launch) (G : GE) {n : Nat} {rec : Pm → Int32 → Int32 → Int32 → Int32 → Option (Int32 × Pm)} (hrec : ∀ (σ : Mm) (lm : Ml) (P : Pm) (a1 : Int32) (a2 : Int32) (a3 : Int32) (a4 : Int32) (rz : Int32) (Pz : Pm), rec P a1 a2 a3 a4 = some (rz, Pz) → CM l G yX0_from bX0_from 7 (Option.some Jvm.ClassFile.FieldType.int) (rmN (2 * n + 16)) [.ref (gA G 15 0), .int a1, .int a2, .int a3, .int a4] (m1 σ 15 P) lm (some (.int rz)) (m1 σ 15 Pz) lm) {σ : Mm} {lm : Ml} {P : Pm} {a1 : Int32} {a2 : Int32} {a3 : Int32} {a4 : Int32} {rz : Int32} {Pz : Pm} (h : f_X0_fromS rec P a1 a2 a3 a4 = some (rz, Pz)) : CM l G yX0_from bX0_from 7 (Option.some Jvm.ClassFile.FieldType.int) (rmN (2 * n + 18)) [.ref (gA G 15 0), .int a1, .int a2, .int a3, .int a4] (m1 σ 15 P) lm (some (.int rz)) (m1 σ 15 Pz) lm := by
  refine CM.of (own := zR0) (L0 := [(0, .ref (gA G 15 0)), (1, .int a1), (2, .int a2), (3, .int a3), (4, .int a4)]) (by decide +kernel) rfl (Nat.le_of_ble_eq_true rfl) rfl (fun X hl hX hR hQ => ?_)
  subst hl
  have K100 : ∀ (P : Pm) (v3 : Int32) (v4 : Int32) (v5 : Int32) (v6 : Int32) (_ : True), f_X0_from_J100 rec  P v3 v4 v5 v6 = some (rz, Pz) → WW X G 7 (m1 σ 15 P) lm 100 [(0, .ref (gA G 15 0)), (3, .int v3), (4, .int v4), (5, .int v5), (6, .int v6)] [] := by
    intro P v3 v4 v5 v6 _ h
    unfold f_X0_from_J100 at h
    refine r_aload_n hX rfl 0 rfl dX0_from_100 ?_
    refine r_dup hX rfl dX0_from_101 ?_
    refine gf_0_0 (o := 15) hX fl_X0_9 rfl m1_g dX0_from_102 ?_
    refine r_iconst (v := 1) hX (by decide) dX0_from_105 ?_
    refine r_iadd hX dX0_from_106 ?_
    obtain ⟨P1, hP1, h⟩ := nb_e h
    refine pf_0_0 (o := 15) hX fl_X0_9 rfl m1_g dX0_from_107 (m1_w hP1) ?_
    refine r_aload_n hX rfl 0 rfl dX0_from_110 ?_
    refine r_iload hX 4 rfl dX0_from_111 ?_
    refine r_gst0N hX dX0_from_113 ?_
    refine r_iload hX 3 rfl dX0_from_116 ?_
    obtain ⟨hk2, h⟩ := kc_e h
    refine r_sald0 hX hk2 dX0_from_118 ?_
    refine r_iload_n hX rfl 1 rfl dX0_from_119 ?_
    refine r_iload hX 2 rfl dX0_from_120 ?_
    refine r_iconst (v := 1) hX (by decide) dX0_from_122 ?_
    refine r_iadd hX dX0_from_123 ?_
    obtain ⟨x3, P4, hc4, h⟩ := bn2_e h
    refine r_callVi hX hR (c_X0_run (σ := σ) (n := n) X.2.1 G hrec hc4) rfl rfl mf_X0_run ml_X0_44 in_X0_run se_X0_run rfl rfl ⟨rfl, rfl, by show 2 * n + 17 + 1 ≤ 2 * n + 18; omega, by show 8 + (5 + 11) + 40 * (2 * n + 17) ≤ 40 * (2 * n + 18); omega⟩ rfl (st := []) rfl (Nat.le_of_ble_eq_true rfl) dX0_from_124 ?_
    have g0 := Option.some.inj h
    obtain ⟨q0, g1⟩ := Prod.mk.inj g0
    subst q0
    subst g1
    exact r_iret hX hQ dX0_from_127
  have K54 : ∀ (P : Pm) (v2 : Int32) (v3 : Int32) (v4 : Int32) (v5 : Int32) (_ : True), f_X0_from_J54 rec  P v2 v3 v4 v5 = some (rz, Pz) → WW X G 7 (m1 σ 15 P) lm 54 [(0, .ref (gA G 15 0)), (2, .int v2), (3, .int v3), (4, .int v4), (5, .int v5)] [] := by
    intro P v2 v3 v4 v5 _ h
    unfold f_X0_from_J54 at h
    refine r_iload hX 4 rfl dX0_from_54 ?_
    refine r_if_lt hX dX0_from_56 (fun hc => ?_) (fun hc => ?_)
    · replace h := ip_e hc h
      refine r_iconst (v := 0) hX (by decide) dX0_from_66 ?_
      have g0 := Option.some.inj h
      obtain ⟨q0, g1⟩ := Prod.mk.inj g0
      subst q0
      subst g1
      exact r_iret hX hQ dX0_from_67
    · replace h := in_e hc h
      refine r_iload hX 4 rfl dX0_from_59 ?_
      refine r_bipush (v := 7) hX (by decide) dX0_from_61 ?_
      refine r_icmp_lt hX dX0_from_63 (fun hc => ?_) (fun hc => ?_)
      · replace h := ip_e hc h
        refine r_gst1 hX fl_X0_38 dX0_from_68 ?_
        refine r_iload hX 4 rfl dX0_from_71 ?_
        refine r_iconst (v := 3) hX (by decide) dX0_from_73 ?_
        refine r_imul hX dX0_from_74 ?_
        refine r_iload_n hX rfl 1 rfl dX0_from_75 ?_
        refine r_iadd hX dX0_from_76 ?_
        obtain ⟨hk5, h⟩ := kc_e h
        refine r_sald1 hX hk5 dX0_from_77 ?_
        refine r_istore (L2 := [(6, .int (tBo (ix ((v5 * 3) + v2)))), (0, .ref (gA G 15 0)), (2, .int v2), (3, .int v3), (4, .int v4), (5, .int v5)]) hX (by decide) rfl dX0_from_78 ?_
        refine r_aload_n hX rfl 1 rfl dX0_from_80 ?_
        refine gf_0_0 (o := 15) hX fl_X0_9 rfl m1_g dX0_from_81 ?_
        refine r_bipush (v := 20) hX (by decide) dX0_from_84 ?_
        refine r_icmp_ge hX dX0_from_86 (fun hc => ?_) (fun hc => ?_)
        · replace h := ip_e hc h
          exact WW.sub [1, 3, 4, 5, 0] rfl (K100 P v3 v4 v5 (tBo (ix ((v5 * 3) + v2))) trivial h)
        · replace h := in_e hc h
          refine r_aload_n hX rfl 1 rfl dX0_from_89 ?_
          refine gf_0_1 (o := 15) hX fl_X0_15 rfl m1_g dX0_from_90 ?_
          refine r_aload_n hX rfl 1 rfl dX0_from_93 ?_
          refine gf_0_0 (o := 15) hX fl_X0_9 rfl m1_g dX0_from_94 ?_
          refine r_iload hX 0 rfl dX0_from_97 ?_
          obtain ⟨hk6, h⟩ := kc_e h
          obtain ⟨P7, hP7, h⟩ := nb_e h
          refine pa_0_2 (o := 15) hX rfl m1_g hk6 (m1_w hP7) dX0_from_99 ?_
          exact WW.sub [1, 3, 4, 5, 0] rfl (K100 P7 v3 v4 v5 (tBo (ix ((v5 * 3) + v2))) trivial h)
      · replace h := in_e hc h
        refine r_iconst (v := 0) hX (by decide) dX0_from_66 ?_
        have g0 := Option.some.inj h
        obtain ⟨q0, g1⟩ := Prod.mk.inj g0
        subst q0
        subst g1
        exact r_iret hX hQ dX0_from_67
  have K15 : ∀ (P : Pm) (v2 : Int32) (v3 : Int32) (v4 : Int32) (v5 : Int32) (v6 : Int32) (_ : True), f_X0_from_H15 rec  P v2 v3 v4 v5 v6 = some (rz, Pz) → WW X G 7 (m1 σ 15 P) lm 15 [(0, .ref (gA G 15 0)), (2, .int v2), (3, .int v3), (4, .int v4), (5, .int v5), (6, .int v6)] [] := by
    intro P v2 v3 v4 v5 v6 _ h
    unfold f_X0_from_H15 at h
    obtain ⟨e_v5, hit, hO⟩ := bn_e h
    refine iter_w (P := fun t : Int32 × Int32 => WW X G 7 (m1 σ 15 P) lm 15 [(0, .ref (gA G 15 0)), (2, .int v2), (3, .int v3), (4, .int v4), (5, .int t.1), (6, .int t.2)] []) (x := e_v5) ?_ 200 (v5, v6) hit
    clear hit
    intro t z1 hb hin1 hex1
    obtain ⟨v5, v6⟩ := t
    have h : f_X0_from_B15 rec P v2 v3 v4 v5 v6 = some z1 := hb
    clear hb
    unfold f_X0_from_B15 at h
    refine r_iload hX 5 rfl dX0_from_15 ?_
    refine r_bipush (v := 7) hX (by decide) dX0_from_17 ?_
    refine r_icmp_ge hX dX0_from_19 (fun hc => ?_) (fun hc => ?_)
    · replace h := ip_e hc h
      have g0 := hex1 _ (Option.some.inj h).symm
      subst g0
      exact WW.sub [0, 1, 2, 3, 4] rfl (K54 P v2 v3 v4 v5 trivial hO)
    · replace h := in_e hc h
      refine r_iload hX 4 rfl dX0_from_22 ?_
      refine r_if_le hX dX0_from_24 (fun hc => ?_) (fun hc => ?_)
      · replace h := ip_e hc h
        have g0 := hex1 _ (Option.some.inj h).symm
        subst g0
        exact WW.sub [0, 1, 2, 3, 4] rfl (K54 P v2 v3 v4 v5 trivial hO)
      · replace h := in_e hc h
        refine r_gst1 hX fl_X0_38 dX0_from_27 ?_
        refine r_iload hX 4 rfl dX0_from_30 ?_
        refine r_iconst (v := 3) hX (by decide) dX0_from_32 ?_
        refine r_imul hX dX0_from_33 ?_
        refine r_iload_n hX rfl 1 rfl dX0_from_34 ?_
        refine r_iadd hX dX0_from_35 ?_
        obtain ⟨hk8, h⟩ := kc_e h
        refine r_sald1 hX hk8 dX0_from_36 ?_
        refine r_if_ne hX dX0_from_37 (fun hc => ?_) (fun hc => ?_)
        · replace h := in_e hc h
          have g0 := hex1 _ (Option.some.inj h).symm
          subst g0
          exact WW.sub [0, 1, 2, 3, 4] rfl (K54 P v2 v3 v4 v5 trivial hO)
        · replace h := ip_e hc h
          refine r_gst0N hX dX0_from_40 ?_
          refine r_iload hX 4 rfl dX0_from_43 ?_
          obtain ⟨hk9, h⟩ := kc_e h
          refine r_sald0 hX hk9 dX0_from_45 ?_
          refine r_istore (L2 := [(5, .int (tAb (ix v5))), (0, .ref (gA G 15 0)), (2, .int v2), (3, .int v3), (4, .int v4), (6, .int v6)]) hX (by decide) rfl dX0_from_46 ?_
          refine r_iinc (v := v6 + 1) (L2 := [(6, .int (v6 + 1)), (5, .int (tAb (ix v5))), (0, .ref (gA G 15 0)), (2, .int v2), (3, .int v3), (4, .int v4)]) hX 5 rfl rfl (by decide) rfl dX0_from_48 ?_
          refine r_goto hX dX0_from_51 ?_
          exact WW.sub [2, 3, 4, 5, 1, 0] rfl (hin1 _ (Option.some.inj h).symm)
  unfold f_X0_fromS at h
  refine r_iload hX 4 rfl dX0_from_0 ?_
  refine r_bipush (v := 40) hX (by decide) dX0_from_2 ?_
  refine r_icmp_le hX dX0_from_4 (fun hc => ?_) (fun hc => ?_)
  · replace h := ip_e hc h
    refine r_iload_n hX rfl 1 rfl dX0_from_9 ?_
    refine r_istore (L2 := [(5, .int a1), (0, .ref (gA G 15 0)), (1, .int a1), (2, .int a2), (3, .int a3), (4, .int a4)]) hX (by decide) rfl dX0_from_10 ?_
    refine r_iconst (v := 0) hX (by decide) dX0_from_12 ?_
    refine r_istore (L2 := [(6, .int 0), (5, .int a1), (0, .ref (gA G 15 0)), (1, .int a1), (2, .int a2), (3, .int a3), (4, .int a4)]) hX (by decide) rfl dX0_from_13 ?_
    exact WW.sub [2, 4, 5, 6, 1, 0] rfl (K15 P a2 a3 a4 a1 0 trivial h)
  · replace h := in_e hc h
    refine r_iconst (v := 0) hX (by decide) dX0_from_7 ?_
    have g0 := Option.some.inj h
    obtain ⟨q0, g1⟩ := Prod.mk.inj g0
    subst q0
    subst g1
    exact r_iret hX hQ dX0_from_8
def f_X0_from : Nat → Pm → Int32 → Int32 → Int32 → Int32 → Option (Int32 × Pm)
  | 0 => fun _ _ _ _ _ => none
  | n + 1 => fun x0 x1 x2 x3 x4 => f_X0_fromS (f_X0_from n) x0 x1 x2 x3 x4
theorem c_X0_fromE (l : Launch) (G : GE) : ∀ (n : Nat) (σ : Mm) (lm : Ml) (P : Pm) (a1 : Int32) (a2 : Int32) (a3 : Int32) (a4 : Int32) (rz : Int32) (Pz : Pm), f_X0_from n P a1 a2 a3 a4 = some (rz, Pz) → CM l G yX0_from bX0_from 7 (Option.some Jvm.ClassFile.FieldType.int) (rmN (2 * n + 16)) [.ref (gA G 15 0), .int a1, .int a2, .int a3, .int a4] (m1 σ 15 P) lm (some (.int rz)) (m1 σ 15 Pz) lm
  | 0 => by
    intro _ _ _ _ _ _ _ _ _ h
    cases h
  | n + 1 => by
    intro _ _ _ _ _ _ _ _ _ h
    exact c_X0_fromS l G (n := n) (fun _ _ _ _ _ _ _ _ _ h2 => c_X0_fromE l G n _ _ _ _ _ _ _ _ _ h2) h
abbrev rm_X0_perform : Room := { frames := 97, cells := 0, slots := 0, locals := 3866 }
def f_X0_perform (P : Pm) (Q : Pm) (a2 : Int32) (a3 : Int32) (a4 : Int32) : Option (Int32 × Pm) :=
  nb (up2 P 0 2 a2) (fun P1 => (if inb a2 6 = true then nb (up2 P1 0 3 (Q 5 (ix a2))) (fun P3 => (if inb a2 6 = true then nb (up2 P3 0 4 (Q 6 (ix a2))) (fun P5 => bn2 (f_X0_from 40 P5 (P5 0 3) a3 a4 0) (fun x6 P7 => some (x6, P7))) else none)) else none))
set_option maxHeartbeats 4000000 in
set_option maxRecDepth 100000 in
theorem c_X0_perform (l : Launch) (G : GE) {σ : Mm} {lm : Ml} {o2 : Nat} (ho2 : kdo o2 = 5) (h12 : 15 ≠ o2)  {P : Pm} {Q : Pm} {a2 : Int32} {a3 : Int32} {a4 : Int32} {rz : Int32} {Pz : Pm} (h : f_X0_perform P Q a2 a3 a4 = some (rz, Pz)) : CM l G yX0_perform bX0_perform 5 (Option.some Jvm.ClassFile.FieldType.int) rm_X0_perform [.ref (gA G 15 0), .ref (gA G o2 0), .int a2, .int a3, .int a4] (m2 σ 15 P o2 Q) lm (some (.int rz)) (m2 σ 15 Pz o2 Q) lm := by
  refine CM.of (own := zR0) (L0 := [(0, .ref (gA G 15 0)), (1, .ref (gA G o2 0)), (2, .int a2), (3, .int a3), (4, .int a4)]) (by decide +kernel) rfl (Nat.le_of_ble_eq_true rfl) rfl (fun X hl hX hR hQ => ?_)
  unfold f_X0_perform at h
  refine r_aload_n hX rfl 0 rfl dX0_perform_0 ?_
  refine r_iload_n hX rfl 2 rfl dX0_perform_1 ?_
  obtain ⟨P1, hP1, h⟩ := nb_e h
  refine pf_0_2 (o := 15) hX fl_X0_19 rfl (m2_g1 h12) dX0_perform_2 (m2_w1 h12 hP1) ?_
  refine r_aload_n hX rfl 0 rfl dX0_perform_5 ?_
  refine r_aload_n hX rfl 1 rfl dX0_perform_6 ?_
  refine gf_5_4 hX fl_X0_28 ho2 m2_g2 dX0_perform_7 ?_
  refine r_iload_n hX rfl 2 rfl dX0_perform_10 ?_
  obtain ⟨hk2, h⟩ := kc_e h
  refine ga_5_5 hX ho2 m2_g2 hk2 dX0_perform_11 ?_
  obtain ⟨P3, hP3, h⟩ := nb_e h
  refine pf_0_3 (o := 15) hX fl_X0_22 rfl (m2_g1 h12) dX0_perform_12 (m2_w1 h12 hP3) ?_
  refine r_aload_n hX rfl 0 rfl dX0_perform_15 ?_
  refine r_aload_n hX rfl 1 rfl dX0_perform_16 ?_
  refine gf_5_5 hX fl_X0_32 ho2 m2_g2 dX0_perform_17 ?_
  refine r_iload_n hX rfl 2 rfl dX0_perform_20 ?_
  obtain ⟨hk4, h⟩ := kc_e h
  refine ga_5_6 hX ho2 m2_g2 hk4 dX0_perform_21 ?_
  obtain ⟨P5, hP5, h⟩ := nb_e h
  refine pf_0_4 (o := 15) hX fl_X0_25 rfl (m2_g1 h12) dX0_perform_22 (m2_w1 h12 hP5) ?_
  refine r_aload_n hX rfl 0 rfl dX0_perform_25 ?_
  refine r_aload_n hX rfl 0 rfl dX0_perform_26 ?_
  refine gf_0_3 (o := 15) hX fl_X0_22 rfl (m2_g1 h12) dX0_perform_27 ?_
  refine r_iload_n hX rfl 3 rfl dX0_perform_30 ?_
  refine r_iload hX 4 rfl dX0_perform_31 ?_
  refine r_iconst (v := 0) hX (by decide) dX0_perform_33 ?_
  obtain ⟨x6, P7, hc7, h⟩ := bn2_e h
  refine r_callVi hX hR (c_X0_fromE X.2.1 G 40 (m2 σ 15 P5 o2 Q) _ _ _ _ _ _ _ _ hc7) (m2_1 h12) (m2_1 h12) mf_X0_from ml_X0_34 in_X0_from se_X0_from rfl rfl ⟨rfl, rfl, Nat.le_of_ble_eq_true rfl, Nat.le_of_ble_eq_true rfl⟩ rfl (st := []) rfl (Nat.le_of_ble_eq_true rfl) dX0_perform_34 ?_
  have g0 := Option.some.inj h
  obtain ⟨q0, g1⟩ := Prod.mk.inj g0
  subst q0
  subst g1
  exact r_iret hX hQ dX0_perform_37
abbrev rm_X3_take : Room := { frames := 0, cells := 0, slots := 0, locals := 60 }
def f_X3_take (s : Mm) (a1 : Int32) : Option (Mm) :=
  (if 100 ≤ ((s 6) 0 0) then some s else (if inb ((s 6) 0 0) 100 = true then nb (setO s 6 (up2 (s 6) 4 (ix ((s 6) 0 0)) a1)) (fun s2 => nb (setO s2 6 (up2 (s2 6) 0 0 (((s2 6) 0 0) + 1))) (fun s3 => some s3)) else none))
set_option maxHeartbeats 4000000 in
set_option maxRecDepth 100000 in
theorem c_X3_take (l : Launch) (G : GE) {lm : Ml}  {s : Mm} {a1 : Int32} {sz : Mm} (h : f_X3_take s a1 = some sz) : CM l G yX3_take bX3_take 2 (Option.none : Option Jvm.ClassFile.FieldType) rm_X3_take [.ref (gA G 6 0), .int a1] s lm (none) sz lm := by
  refine CM.of (own := zR3) (L0 := [(0, .ref (gA G 6 0)), (1, .int a1)]) (by decide +kernel) rfl (Nat.le_of_ble_eq_true rfl) rfl (fun X hl hX hR hQ => ?_)
  unfold f_X3_take at h
  refine r_aload_n hX rfl 0 rfl dX3_take_0 ?_
  refine gf_3_0 (o := 6) hX fl_X3_7 rfl rfl dX3_take_1 ?_
  refine r_bipush (v := 100) hX (by decide) dX3_take_4 ?_
  refine r_icmp_ge hX dX3_take_6 (fun hc => ?_) (fun hc => ?_)
  · replace h := ip_e hc h
    have g0 := Option.some.inj h
    subst g0
    exact r_vret hX hQ dX3_take_29
  · replace h := in_e hc h
    refine r_aload_n hX rfl 0 rfl dX3_take_9 ?_
    refine gf_3_3 (o := 6) hX fl_X3_20 rfl rfl dX3_take_10 ?_
    refine r_aload_n hX rfl 0 rfl dX3_take_13 ?_
    refine gf_3_0 (o := 6) hX fl_X3_7 rfl rfl dX3_take_14 ?_
    refine r_iload_n hX rfl 1 rfl dX3_take_17 ?_
    obtain ⟨hk1, h⟩ := kc_e h
    obtain ⟨s2, hs2, h⟩ := nb_e h
    refine pa_3_4 (o := 6) hX rfl rfl hk1 hs2.symm dX3_take_18 ?_
    refine r_aload_n hX rfl 0 rfl dX3_take_19 ?_
    refine r_dup hX rfl dX3_take_20 ?_
    refine gf_3_0 (o := 6) hX fl_X3_7 rfl rfl dX3_take_21 ?_
    refine r_iconst (v := 1) hX (by decide) dX3_take_24 ?_
    refine r_iadd hX dX3_take_25 ?_
    obtain ⟨s3, hs3, h⟩ := nb_e h
    refine pf_3_0 (o := 6) hX fl_X3_7 rfl rfl dX3_take_26 hs3.symm ?_
    have g0 := Option.some.inj h
    subst g0
    exact r_vret hX hQ dX3_take_29
abbrev rm_X3_sign : Room := { frames := 0, cells := 0, slots := 0, locals := 60 }
def f_X3_sign (s : Mm) : Option (Int32) :=
  (if ((s 6) 0 0) ≤ ((s 6) 0 1) then some (-1) else (if 100 ≤ ((s 6) 0 1) then some (-1) else (if inb ((s 6) 0 1) 100 = true then some ((s 6) 4 (ix ((s 6) 0 1))) else none)))
set_option maxHeartbeats 4000000 in
set_option maxRecDepth 100000 in
theorem c_X3_sign (l : Launch) (G : GE) {lm : Ml}  {s : Mm} {rz : Int32} (h : f_X3_sign s = some rz) : CM l G yX3_sign bX3_sign 1 (Option.some Jvm.ClassFile.FieldType.int) rm_X3_sign [.ref (gA G 6 0)] s lm (some (.int rz)) s lm := by
  refine CM.of (own := zR3) (L0 := [(0, .ref (gA G 6 0))]) (by decide +kernel) rfl (Nat.le_of_ble_eq_true rfl) rfl (fun X hl hX hR hQ => ?_)
  unfold f_X3_sign at h
  refine r_aload_n hX rfl 0 rfl dX3_sign_0 ?_
  refine gf_3_1 (o := 6) hX fl_X3_13 rfl rfl dX3_sign_1 ?_
  refine r_aload_n hX rfl 0 rfl dX3_sign_4 ?_
  refine gf_3_0 (o := 6) hX fl_X3_7 rfl rfl dX3_sign_5 ?_
  refine r_icmp_ge hX dX3_sign_8 (fun hc => ?_) (fun hc => ?_)
  · replace h := ip_e hc h
    refine r_iconst (v := (-1)) hX (by decide) dX3_sign_32 ?_
    have g0 := Option.some.inj h
    subst g0
    exact r_iret hX hQ dX3_sign_33
  · replace h := in_e hc h
    refine r_aload_n hX rfl 0 rfl dX3_sign_11 ?_
    refine gf_3_1 (o := 6) hX fl_X3_13 rfl rfl dX3_sign_12 ?_
    refine r_bipush (v := 100) hX (by decide) dX3_sign_15 ?_
    refine r_icmp_ge hX dX3_sign_17 (fun hc => ?_) (fun hc => ?_)
    · replace h := ip_e hc h
      refine r_iconst (v := (-1)) hX (by decide) dX3_sign_32 ?_
      have g0 := Option.some.inj h
      subst g0
      exact r_iret hX hQ dX3_sign_33
    · replace h := in_e hc h
      refine r_aload_n hX rfl 0 rfl dX3_sign_20 ?_
      refine gf_3_3 (o := 6) hX fl_X3_20 rfl rfl dX3_sign_21 ?_
      refine r_aload_n hX rfl 0 rfl dX3_sign_24 ?_
      refine gf_3_1 (o := 6) hX fl_X3_13 rfl rfl dX3_sign_25 ?_
      obtain ⟨hk1, h⟩ := kc_e h
      refine ga_3_4 (o := 6) hX rfl rfl hk1 dX3_sign_28 ?_
      refine r_goto hX dX3_sign_29 ?_
      have g0 := Option.some.inj h
      subst g0
      exact r_iret hX hQ dX3_sign_33
abbrev rm_X3_wordOf : Room := { frames := 0, cells := 0, slots := 0, locals := 60 }
def f_X3_wordOf (a0 : Int32) : Option (Nat) :=
  (if a0 = 99 then some 0 else (if a0 = 102 then some 3 else (if a0 = 109 then some 1 else (if a0 = 115 then some 2 else some 4))))
set_option maxHeartbeats 4000000 in
set_option maxRecDepth 100000 in
theorem c_X3_wordOf (l : Launch) (G : GE) {σ : Mm} {lm : Ml}  {a0 : Int32} {rz : Nat} (h : f_X3_wordOf a0 = some rz) : CM l G yX3_wordOf bX3_wordOf 1 (Option.some (Jvm.ClassFile.FieldType.object "java/lang/String")) rm_X3_wordOf [.int a0] σ lm (some (.ref (gX G (10 + rz)))) σ lm := by
  refine CM.of (own := zR3) (L0 := [(0, .int a0)]) (by decide +kernel) rfl (Nat.le_of_ble_eq_true rfl) rfl (fun X hl hX hR hQ => ?_)
  unfold f_X3_wordOf at h
  refine r_iload_n hX rfl 0 rfl dX3_wordOf_0 ?_
  by_cases hc0 : a0 = 99
  · replace h := ip_e hc0 h
    refine r_lsw (off := 43) (tgt := 44) hX (by decide) (by rw [hc0]; rfl) (by decide) dX3_wordOf_1 ?_
    refine r_ldcS (k := 0) hX rfl dX3_wordOf_44 ?_
    have g0 := Option.some.inj h
    subst g0
    exact r_aret hX hQ dX3_wordOf_46
  · replace h := in_e hc0 h
    by_cases hc1 : a0 = 102
    · replace h := ip_e hc1 h
      refine r_lsw (off := 52) (tgt := 53) hX (by decide) (by rw [hc1]; rfl) (by decide) dX3_wordOf_1 ?_
      refine r_ldcS (k := 3) hX rfl dX3_wordOf_53 ?_
      have g0 := Option.some.inj h
      subst g0
      exact r_aret hX hQ dX3_wordOf_55
    · replace h := in_e hc1 h
      by_cases hc2 : a0 = 109
      · replace h := ip_e hc2 h
        refine r_lsw (off := 46) (tgt := 47) hX (by decide) (by rw [hc2]; rfl) (by decide) dX3_wordOf_1 ?_
        refine r_ldcS (k := 1) hX rfl dX3_wordOf_47 ?_
        have g0 := Option.some.inj h
        subst g0
        exact r_aret hX hQ dX3_wordOf_49
      · replace h := in_e hc2 h
        by_cases hc3 : a0 = 115
        · replace h := ip_e hc3 h
          refine r_lsw (off := 49) (tgt := 50) hX (by decide) (by rw [hc3]; rfl) (by decide) dX3_wordOf_1 ?_
          refine r_ldcS (k := 2) hX rfl dX3_wordOf_50 ?_
          have g0 := Option.some.inj h
          subst g0
          exact r_aret hX hQ dX3_wordOf_52
        · replace h := in_e hc3 h
          have hD : WW X G 1 σ lm 56 [(0, .int a0)] [] := by
            refine r_ldcS (k := 4) hX rfl dX3_wordOf_56 ?_
            have g0 := Option.some.inj h
            subst g0
            exact r_aret hX hQ dX3_wordOf_58
          have j0 := i32n (n := 99) hc0 rfl
          have j1 := i32n (n := 102) hc1 rfl
          have j2 := i32n (n := 109) hc2 rfl
          have j3 := i32n (n := 115) hc3 rfl
          refine r_lsw (off := 55) (tgt := 56) hX (by decide) ?_ (by decide) dX3_wordOf_1 hD
          simp [Op.lookupswitch.offset, j0, Ne.symm j0, j1, Ne.symm j1, j2, Ne.symm j2, j3, Ne.symm j3]
abbrev rm_X3_expect : Room := { frames := 1, cells := 0, slots := 0, locals := 80 }
def f_X3_expect_J15 (s : Mm) : Option (Mm) :=
  nb (setO s 6 (up2 (s 6) 0 2 1)) (fun s1 => some s1)
def f_X3_expect (s : Mm) (a1 : Int32) : Option (Mm) :=
  (if ((s 6) 0 2) = 0 then Option.bind (f_X3_sign s) (fun x2 => (if x2 = a1 then nb (setO s 6 (up2 (s 6) 0 1 (((s 6) 0 1) + 1))) (fun s3 => some s3) else f_X3_expect_J15 s)) else f_X3_expect_J15 s)
set_option maxHeartbeats 4000000 in
set_option maxRecDepth 100000 in
theorem c_X3_expect (l : Launch) (G : GE) {lm : Ml}  {s : Mm} {a1 : Int32} {sz : Mm} (h : f_X3_expect s a1 = some sz) : CM l G yX3_expect bX3_expect 2 (Option.none : Option Jvm.ClassFile.FieldType) rm_X3_expect [.ref (gA G 6 0), .int a1] s lm (none) sz lm := by
  refine CM.of (own := zR3) (L0 := [(0, .ref (gA G 6 0)), (1, .int a1)]) (by decide +kernel) rfl (Nat.le_of_ble_eq_true rfl) rfl (fun X hl hX hR hQ => ?_)
  have K15 : ∀ (s : Mm) (_ : True), f_X3_expect_J15 s = some sz → WW X G 2 s lm 15 [(0, .ref (gA G 6 0))] [] := by
    intro s _ h
    unfold f_X3_expect_J15 at h
    refine r_aload_n hX rfl 0 rfl dX3_expect_15 ?_
    refine r_iconst (v := 1) hX (by decide) dX3_expect_16 ?_
    obtain ⟨s1, hs1, h⟩ := nb_e h
    refine pf_3_2 (o := 6) (Or.inr rfl) hX fl_X3_16 rfl rfl dX3_expect_17 hs1.symm ?_
    refine r_goto hX dX3_expect_20 ?_
    have g0 := Option.some.inj h
    subst g0
    exact r_vret hX hQ dX3_expect_33
  unfold f_X3_expect at h
  refine r_aload_n hX rfl 0 rfl dX3_expect_0 ?_
  refine gf_3_2 (o := 6) hX fl_X3_16 rfl rfl dX3_expect_1 ?_
  refine r_if_ne hX dX3_expect_4 (fun hc => ?_) (fun hc => ?_)
  · replace h := in_e hc h
    exact WW.sub [0] rfl (K15 s trivial h)
  · replace h := ip_e hc h
    refine r_aload_n hX rfl 0 rfl dX3_expect_7 ?_
    obtain ⟨x2, hc2, h⟩ := bn_e h
    refine r_callVi hX hR (c_X3_sign X.2.1 G hc2) rfl rfl mf_X3_sign ml_X3_37 in_X3_sign se_X3_sign rfl rfl ⟨rfl, rfl, Nat.le_of_ble_eq_true rfl, Nat.le_of_ble_eq_true rfl⟩ rfl (st := []) rfl (Nat.le_of_ble_eq_true rfl) dX3_expect_8 ?_
    refine r_iload_n hX rfl 1 rfl dX3_expect_11 ?_
    refine r_icmp_eq hX dX3_expect_12 (fun hc => ?_) (fun hc => ?_)
    · replace h := ip_e hc h
      refine r_aload_n hX rfl 0 rfl dX3_expect_23 ?_
      refine r_dup hX rfl dX3_expect_24 ?_
      refine gf_3_1 (o := 6) hX fl_X3_13 rfl rfl dX3_expect_25 ?_
      refine r_iconst (v := 1) hX (by decide) dX3_expect_28 ?_
      refine r_iadd hX dX3_expect_29 ?_
      obtain ⟨s3, hs3, h⟩ := nb_e h
      refine pf_3_1 (o := 6) hX fl_X3_13 rfl rfl dX3_expect_30 hs3.symm ?_
      have g0 := Option.some.inj h
      subst g0
      exact r_vret hX hQ dX3_expect_33
    · replace h := in_e hc h
      exact WW.sub [0] rfl (K15 s trivial h)
abbrev rm_X3_expectWord : Room := { frames := 8, cells := 0, slots := 0, locals := 400 }
def f_X3_expectWord_J25 (s : Mm) : Option (Mm) :=
  some s
def f_X3_expectWord_B2 (v1 : Nat) (v2 : Int32) (s : Mm) : Option ((Int32 × Mm) ⊕ (Mm)) :=
  (if (sLen v1) ≤ v2 then some (.inr s) else (if inb v2 (sLn.getD v1 0) = true then Option.bind (f_X3_expect s (sChr v1 (ix v2))) (fun s2 => some (.inl ((v2 + 1), s2))) else none))
def f_X3_expectWord_H2 (s : Mm) (v1 : Nat) (v2 : Int32) : Option (Mm) :=
  Option.bind (iter (fun t => f_X3_expectWord_B2 v1 t.1 t.2) 200 (v2, s)) (fun s => f_X3_expectWord_J25 s)
def f_X3_expectWord (s : Mm) (a1 : Nat) : Option (Mm) :=
  f_X3_expectWord_H2 s a1 0
set_option maxHeartbeats 4000000 in
set_option maxRecDepth 100000 in
theorem c_X3_expectWord (l : Launch) (G : GE) {lm : Ml}  {s : Mm} {a1 : Nat} (ha1 : a1 < 7) {sz : Mm} (h : f_X3_expectWord s a1 = some sz) : CM l G yX3_expectWord bX3_expectWord 3 (Option.none : Option Jvm.ClassFile.FieldType) rm_X3_expectWord [.ref (gA G 6 0), .ref (gX G (10 + a1))] s lm (none) sz lm := by
  refine CM.of (own := zR3) (L0 := [(0, .ref (gA G 6 0)), (1, .ref (gX G (10 + a1)))]) (by decide +kernel) rfl (Nat.le_of_ble_eq_true rfl) rfl (fun X hl hX hR hQ => ?_)
  have K25 : ∀ (s : Mm) (_ : True), f_X3_expectWord_J25 s = some sz → WW X G 3 s lm 25 [] [] := by
    intro s _ h
    unfold f_X3_expectWord_J25 at h
    have g0 := Option.some.inj h
    subst g0
    exact r_vret hX hQ dX3_expectWord_25
  have K2 : ∀ (s : Mm) (v1 : Nat) (v2 : Int32) (hv1 : v1 < 7) (_ : True), f_X3_expectWord_H2 s v1 v2 = some sz → WW X G 3 s lm 2 [(0, .ref (gA G 6 0)), (1, .ref (gX G (10 + v1))), (2, .int v2)] [] := by
    intro s v1 v2 hv1 _ h
    unfold f_X3_expectWord_H2 at h
    obtain ⟨e_s, hit, hO⟩ := bn_e h
    refine iter_w (P := fun t : Int32 × Mm => WW X G 3 t.2 lm 2 [(0, .ref (gA G 6 0)), (1, .ref (gX G (10 + v1))), (2, .int t.1)] []) (x := e_s) ?_ 200 (v2, s) hit
    clear hit
    intro t z1 hb hin1 hex1
    obtain ⟨v2, s⟩ := t
    have h : f_X3_expectWord_B2 v1 v2 s = some z1 := hb
    clear hb
    unfold f_X3_expectWord_B2 at h
    refine r_iload_n hX rfl 2 rfl dX3_expectWord_2 ?_
    refine r_aload_n hX rfl 1 rfl dX3_expectWord_3 ?_
    refine r_slen hX hR rfl hv1 ml_X3_41 (st := [.int v2]) (Nat.le_of_ble_eq_true rfl) dX3_expectWord_4 ?_
    refine r_icmp_ge hX dX3_expectWord_7 (fun hc => ?_) (fun hc => ?_)
    · replace h := ip_e hc h
      have g0 := hex1 _ (Option.some.inj h).symm
      subst g0
      exact WW.sub [] rfl (K25 s trivial hO)
    · replace h := in_e hc h
      refine r_aload_n hX rfl 0 rfl dX3_expectWord_10 ?_
      refine r_aload_n hX rfl 1 rfl dX3_expectWord_11 ?_
      refine r_iload_n hX rfl 2 rfl dX3_expectWord_12 ?_
      obtain ⟨hk1, h⟩ := kc_e h
      refine r_schr hX hR rfl hv1 hk1 ml_X3_45 (st := [.ref (gA G 6 0)]) (Nat.le_of_ble_eq_true rfl) dX3_expectWord_13 ?_
      obtain ⟨s2, hc2, h⟩ := bn_e h
      refine r_callVv hX hR (c_X3_expect X.2.1 G hc2) rfl rfl mf_X3_expect ml_X3_49 in_X3_expect se_X3_expect rfl rfl ⟨rfl, rfl, Nat.le_of_ble_eq_true rfl, Nat.le_of_ble_eq_true rfl⟩ rfl (st := []) rfl (Nat.le_of_ble_eq_true rfl) dX3_expectWord_16 ?_
      refine r_iinc (v := v2 + 1) (L2 := [(2, .int (v2 + 1)), (0, .ref (gA G 6 0)), (1, .ref (gX G (10 + v1)))]) hX 2 rfl rfl (by decide) rfl dX3_expectWord_19 ?_
      refine r_goto hX dX3_expectWord_22 ?_
      exact WW.sub [1, 2, 0] rfl (hin1 _ (Option.some.inj h).symm)
  unfold f_X3_expectWord at h
  refine r_iconst (v := 0) hX (by decide) dX3_expectWord_0 ?_
  refine r_istore_n (L2 := [(2, .int 0), (0, .ref (gA G 6 0)), (1, .ref (gX G (10 + a1)))]) hX rfl (by decide) rfl dX3_expectWord_1 ?_
  exact WW.sub [1, 2, 0] rfl (K2 s a1 0 ha1 trivial h)
abbrev rm_X3_readNumber : Room := { frames := 1, cells := 0, slots := 0, locals := 80 }
def f_X3_readNumber_J80 (s : Mm) (v1 : Int32) (w0 : Int32) : Option (Int32 × Mm) :=
  (if w0 = 0 ∨ w0 = 1 then nb (setO s 6 (up2 (s 6) 0 2 w0)) (fun s2 => some (v1, s2)) else none)
def f_X3_readNumber_J75 (s : Mm) (v1 : Int32) : Option (Int32 × Mm) :=
  f_X3_readNumber_J80 s v1 1
def f_X3_readNumber_J63 (s : Mm) (v1 : Int32) (v2 : Int32) : Option (Int32 × Mm) :=
  (if ((s 6) 0 2) = 0 then (if v2 = 0 then f_X3_readNumber_J75 s v1 else f_X3_readNumber_J80 s v1 0) else f_X3_readNumber_J75 s v1)
def f_X3_readNumber_B4 (v1 : Int32) (v2 : Int32) (s : Mm) : Option ((Int32 × Int32 × Mm) ⊕ (Int32 × Int32 × Mm)) :=
  (if 2 ≤ v2 then some (.inr (v1, v2, s)) else (if ((s 6) 0 2) = 0 then Option.bind (f_X3_sign s) (fun x3 => (if x3 < 48 then some (.inr (v1, v2, s)) else Option.bind (f_X3_sign s) (fun x4 => (if 57 < x4 then some (.inr (v1, v2, s)) else Option.bind (f_X3_sign s) (fun x5 => nb (setO s 6 (up2 (s 6) 0 1 (((s 6) 0 1) + 1))) (fun s6 => some (.inl ((((v1 * 10) + x5) - 48), (v2 + 1), s6)))))))) else some (.inr (v1, v2, s))))
def f_X3_readNumber_H4 (s : Mm) (v1 : Int32) (v2 : Int32) : Option (Int32 × Mm) :=
  bn3 (iter (fun t => f_X3_readNumber_B4 t.1 t.2.1 t.2.2) 200 (v1, v2, s)) (fun v1 v2 s => f_X3_readNumber_J63 s v1 v2)
def f_X3_readNumber (s : Mm) : Option (Int32 × Mm) :=
  f_X3_readNumber_H4 s 0 0
set_option maxHeartbeats 4000000 in
set_option maxRecDepth 100000 in
theorem c_X3_readNumber (l : Launch) (G : GE) {lm : Ml}  {s : Mm} {rz : Int32} {sz : Mm} (h : f_X3_readNumber s = some (rz, sz)) : CM l G yX3_readNumber bX3_readNumber 3 (Option.some Jvm.ClassFile.FieldType.int) rm_X3_readNumber [.ref (gA G 6 0)] s lm (some (.int rz)) sz lm := by
  refine CM.of (own := zR3) (L0 := [(0, .ref (gA G 6 0))]) (by decide +kernel) rfl (Nat.le_of_ble_eq_true rfl) rfl (fun X hl hX hR hQ => ?_)
  have K80 : ∀ (s : Mm) (v1 : Int32) (w0 : Int32) (_ : True), f_X3_readNumber_J80 s v1 w0 = some (rz, sz) → WW X G 3 s lm 80 [(1, .int v1)] [.int w0, .ref (gA G 6 0)] := by
    intro s v1 w0 _ h
    unfold f_X3_readNumber_J80 at h
    obtain ⟨hk1, h⟩ := kc_e h
    obtain ⟨s2, hs2, h⟩ := nb_e h
    refine pf_3_2 (o := 6) hk1 hX fl_X3_16 rfl rfl dX3_readNumber_80 hs2.symm ?_
    refine r_iload_n hX rfl 0 rfl dX3_readNumber_83 ?_
    have g0 := Option.some.inj h
    obtain ⟨q0, g1⟩ := Prod.mk.inj g0
    subst q0
    subst g1
    exact r_iret hX hQ dX3_readNumber_84
  have K75 : ∀ (s : Mm) (v1 : Int32) (_ : True), f_X3_readNumber_J75 s v1 = some (rz, sz) → WW X G 3 s lm 75 [(1, .int v1)] [.ref (gA G 6 0)] := by
    intro s v1 _ h
    unfold f_X3_readNumber_J75 at h
    refine r_iconst (v := 1) hX (by decide) dX3_readNumber_75 ?_
    refine r_goto hX dX3_readNumber_76 ?_
    exact WW.sub [0] rfl (K80 s v1 1 trivial h)
  have K63 : ∀ (s : Mm) (v1 : Int32) (v2 : Int32) (_ : True), f_X3_readNumber_J63 s v1 v2 = some (rz, sz) → WW X G 3 s lm 63 [(0, .ref (gA G 6 0)), (1, .int v1), (2, .int v2)] [] := by
    intro s v1 v2 _ h
    unfold f_X3_readNumber_J63 at h
    refine r_aload_n hX rfl 0 rfl dX3_readNumber_63 ?_
    refine r_aload_n hX rfl 0 rfl dX3_readNumber_64 ?_
    refine gf_3_2 (o := 6) hX fl_X3_16 rfl rfl dX3_readNumber_65 ?_
    refine r_if_ne hX dX3_readNumber_68 (fun hc => ?_) (fun hc => ?_)
    · replace h := in_e hc h
      exact WW.sub [1] rfl (K75 s v1 trivial h)
    · replace h := ip_e hc h
      refine r_iload_n hX rfl 2 rfl dX3_readNumber_71 ?_
      refine r_if_ne hX dX3_readNumber_72 (fun hc => ?_) (fun hc => ?_)
      · replace h := in_e hc h
        refine r_iconst (v := 0) hX (by decide) dX3_readNumber_79 ?_
        exact WW.sub [1] rfl (K80 s v1 0 trivial h)
      · replace h := ip_e hc h
        exact WW.sub [1] rfl (K75 s v1 trivial h)
  have K4 : ∀ (s : Mm) (v1 : Int32) (v2 : Int32) (_ : True), f_X3_readNumber_H4 s v1 v2 = some (rz, sz) → WW X G 3 s lm 4 [(0, .ref (gA G 6 0)), (1, .int v1), (2, .int v2)] [] := by
    intro s v1 v2 _ h
    unfold f_X3_readNumber_H4 at h
    obtain ⟨e_v1, e_v2, e_s, hit, hO⟩ := bn3_e h
    refine iter_w (P := fun t : Int32 × Int32 × Mm => WW X G 3 t.2.2 lm 4 [(0, .ref (gA G 6 0)), (1, .int t.1), (2, .int t.2.1)] []) (x := (e_v1, e_v2, e_s)) ?_ 200 (v1, v2, s) hit
    clear hit
    intro t z1 hb hin1 hex1
    obtain ⟨v1, v2, s⟩ := t
    have h : f_X3_readNumber_B4 v1 v2 s = some z1 := hb
    clear hb
    unfold f_X3_readNumber_B4 at h
    refine r_iload_n hX rfl 2 rfl dX3_readNumber_4 ?_
    refine r_iconst (v := 2) hX (by decide) dX3_readNumber_5 ?_
    refine r_icmp_ge hX dX3_readNumber_6 (fun hc => ?_) (fun hc => ?_)
    · replace h := ip_e hc h
      have g0 := hex1 _ (Option.some.inj h).symm
      obtain ⟨q0, g1⟩ := Prod.mk.inj g0
      obtain ⟨q1, g2⟩ := Prod.mk.inj g1
      subst q0
      subst q1
      subst g2
      exact WW.sub [0, 1, 2] rfl (K63 s v1 v2 trivial hO)
    · replace h := in_e hc h
      refine r_aload_n hX rfl 0 rfl dX3_readNumber_9 ?_
      refine gf_3_2 (o := 6) hX fl_X3_16 rfl rfl dX3_readNumber_10 ?_
      refine r_if_ne hX dX3_readNumber_13 (fun hc => ?_) (fun hc => ?_)
      · replace h := in_e hc h
        have g0 := hex1 _ (Option.some.inj h).symm
        obtain ⟨q0, g1⟩ := Prod.mk.inj g0
        obtain ⟨q1, g2⟩ := Prod.mk.inj g1
        subst q0
        subst q1
        subst g2
        exact WW.sub [0, 1, 2] rfl (K63 s v1 v2 trivial hO)
      · replace h := ip_e hc h
        refine r_aload_n hX rfl 0 rfl dX3_readNumber_16 ?_
        obtain ⟨x3, hc3, h⟩ := bn_e h
        refine r_callVi hX hR (c_X3_sign X.2.1 G hc3) rfl rfl mf_X3_sign ml_X3_37 in_X3_sign se_X3_sign rfl rfl ⟨rfl, rfl, Nat.le_of_ble_eq_true rfl, Nat.le_of_ble_eq_true rfl⟩ rfl (st := []) rfl (Nat.le_of_ble_eq_true rfl) dX3_readNumber_17 ?_
        refine r_bipush (v := 48) hX (by decide) dX3_readNumber_20 ?_
        refine r_icmp_lt hX dX3_readNumber_22 (fun hc => ?_) (fun hc => ?_)
        · replace h := ip_e hc h
          have g0 := hex1 _ (Option.some.inj h).symm
          obtain ⟨q0, g1⟩ := Prod.mk.inj g0
          obtain ⟨q1, g2⟩ := Prod.mk.inj g1
          subst q0
          subst q1
          subst g2
          exact WW.sub [0, 1, 2] rfl (K63 s v1 v2 trivial hO)
        · replace h := in_e hc h
          refine r_aload_n hX rfl 0 rfl dX3_readNumber_25 ?_
          obtain ⟨x4, hc4, h⟩ := bn_e h
          refine r_callVi hX hR (c_X3_sign X.2.1 G hc4) rfl rfl mf_X3_sign ml_X3_37 in_X3_sign se_X3_sign rfl rfl ⟨rfl, rfl, Nat.le_of_ble_eq_true rfl, Nat.le_of_ble_eq_true rfl⟩ rfl (st := []) rfl (Nat.le_of_ble_eq_true rfl) dX3_readNumber_26 ?_
          refine r_bipush (v := 57) hX (by decide) dX3_readNumber_29 ?_
          refine r_icmp_gt hX dX3_readNumber_31 (fun hc => ?_) (fun hc => ?_)
          · replace h := ip_e hc h
            have g0 := hex1 _ (Option.some.inj h).symm
            obtain ⟨q0, g1⟩ := Prod.mk.inj g0
            obtain ⟨q1, g2⟩ := Prod.mk.inj g1
            subst q0
            subst q1
            subst g2
            exact WW.sub [0, 1, 2] rfl (K63 s v1 v2 trivial hO)
          · replace h := in_e hc h
            refine r_iload_n hX rfl 1 rfl dX3_readNumber_34 ?_
            refine r_bipush (v := 10) hX (by decide) dX3_readNumber_35 ?_
            refine r_imul hX dX3_readNumber_37 ?_
            refine r_aload_n hX rfl 0 rfl dX3_readNumber_38 ?_
            obtain ⟨x5, hc5, h⟩ := bn_e h
            refine r_callVi hX hR (c_X3_sign X.2.1 G hc5) rfl rfl mf_X3_sign ml_X3_37 in_X3_sign se_X3_sign rfl rfl ⟨rfl, rfl, Nat.le_of_ble_eq_true rfl, Nat.le_of_ble_eq_true rfl⟩ rfl (st := [.int (v1 * 10)]) rfl (Nat.le_of_ble_eq_true rfl) dX3_readNumber_39 ?_
            refine r_iadd hX dX3_readNumber_42 ?_
            refine r_bipush (v := 48) hX (by decide) dX3_readNumber_43 ?_
            refine r_isub hX dX3_readNumber_45 ?_
            refine r_istore_n (L2 := [(1, .int (((v1 * 10) + x5) - 48)), (0, .ref (gA G 6 0)), (2, .int v2)]) hX rfl (by decide) rfl dX3_readNumber_46 ?_
            refine r_aload_n hX rfl 1 rfl dX3_readNumber_47 ?_
            refine r_dup hX rfl dX3_readNumber_48 ?_
            refine gf_3_1 (o := 6) hX fl_X3_13 rfl rfl dX3_readNumber_49 ?_
            refine r_iconst (v := 1) hX (by decide) dX3_readNumber_52 ?_
            refine r_iadd hX dX3_readNumber_53 ?_
            obtain ⟨s6, hs6, h⟩ := nb_e h
            refine pf_3_1 (o := 6) hX fl_X3_13 rfl rfl dX3_readNumber_54 hs6.symm ?_
            refine r_iinc (v := v2 + 1) (L2 := [(2, .int (v2 + 1)), (1, .int (((v1 * 10) + x5) - 48)), (0, .ref (gA G 6 0))]) hX 2 rfl rfl (by decide) rfl dX3_readNumber_57 ?_
            refine r_goto hX dX3_readNumber_60 ?_
            exact WW.sub [2, 1, 0] rfl (hin1 _ (Option.some.inj h).symm)
  unfold f_X3_readNumber at h
  refine r_iconst (v := 0) hX (by decide) dX3_readNumber_0 ?_
  refine r_istore_n (L2 := [(1, .int 0), (0, .ref (gA G 6 0))]) hX rfl (by decide) rfl dX3_readNumber_1 ?_
  refine r_iconst (v := 0) hX (by decide) dX3_readNumber_2 ?_
  refine r_istore_n (L2 := [(2, .int 0), (1, .int 0), (0, .ref (gA G 6 0))]) hX rfl (by decide) rfl dX3_readNumber_3 ?_
  exact WW.sub [2, 1, 0] rfl (K4 s 0 0 trivial h)
def f_X3_readEither_J136 (rec : Mm → Int32 → Option (Mm)) (s : Mm) : Option (Mm) :=
  some s
def f_X3_readEither_J126 (rec : Mm → Int32 → Option (Mm)) (s : Mm) (v1 : Int32) (v2 : Int32) (v3 : Int32) (w0 : Int32) (w1 : Int32) : Option ((Int32 × Int32 × Mm) ⊕ (Mm)) :=
  nb (setO s 6 (up2 (s 6) 0 1 (w1 + w0))) (fun s1 => some (.inl (v2, (v3 + 1), s1)))
def f_X3_readEither_J111 (rec : Mm → Int32 → Option (Mm)) (s : Mm) (v1 : Int32) (v3 : Int32) (w0 : Int32) : Option ((Int32 × Int32 × Mm) ⊕ (Mm)) :=
  (if w0 = 0 then f_X3_readEither_J126 rec s v1 w0 v3 0 ((s 6) 0 1) else f_X3_readEither_J126 rec s v1 w0 v3 1 ((s 6) 0 1))
def f_X3_readEither_J110 (rec : Mm → Int32 → Option (Mm)) (s : Mm) (v1 : Int32) (v3 : Int32) : Option ((Int32 × Int32 × Mm) ⊕ (Mm)) :=
  f_X3_readEither_J111 rec s v1 v3 0
def f_X3_readEither_J90 (rec : Mm → Int32 → Option (Mm)) (s : Mm) (v1 : Int32) (v3 : Int32) : Option ((Int32 × Int32 × Mm) ⊕ (Mm)) :=
  (if ((s 6) 0 2) = 0 then Option.bind (f_X3_sign s) (fun x2 => (if x2 = 124 then f_X3_readEither_J111 rec s v1 v3 1 else f_X3_readEither_J110 rec s v1 v3)) else f_X3_readEither_J110 rec s v1 v3)
def f_X3_readEither_J76 (rec : Mm → Int32 → Option (Mm)) (s : Mm) (v1 : Int32) (v3 : Int32) : Option ((Int32 × Int32 × Mm) ⊕ (Mm)) :=
  (if v3 ≤ 0 then f_X3_readEither_J90 rec s v1 v3 else (if kdo (ix ((s 6) 0 4)) = 1 then Option.bind (f_X1_addStep (s (ix ((s 6) 0 4))) 5 0 0) (fun p4 => nb (setO s (ix ((s 6) 0 4)) p4) (fun s5 => f_X3_readEither_J90 rec s5 v1 v3)) else none))
def f_X3_readEither_B22 (rec : Mm → Int32 → Option (Mm)) (v1 : Int32) (v3 : Int32) (v4 : Int32) (s : Mm) : Option ((Int32 × Mm) ⊕ (Mm)) :=
  (if 100 ≤ v4 then some (.inr s) else (if ((s 6) 0 2) = 0 then Option.bind (f_X3_sign s) (fun x6 => (if x6 = 38 then nb (setO s 6 (up2 (s 6) 0 1 (((s 6) 0 1) + 1))) (fun s7 => Option.bind (rec s7 v1) (fun s8 => (if kdo (ix ((s8 6) 0 4)) = 1 then Option.bind (f_X1_addStep (s8 (ix ((s8 6) 0 4))) 4 0 0) (fun p10 => nb (setO s8 (ix ((s8 6) 0 4)) p10) (fun s11 => some (.inl ((v4 + 1), s11)))) else none))) else some (.inr s))) else some (.inr s)))
def f_X3_readEither_H22 (rec : Mm → Int32 → Option (Mm)) (s : Mm) (v1 : Int32) (v3 : Int32) (v4 : Int32) : Option ((Int32 × Int32 × Mm) ⊕ (Mm)) :=
  Option.bind (iter (fun t => f_X3_readEither_B22 rec v1 v3 t.1 t.2) 200 (v4, s)) (fun s => f_X3_readEither_J76 rec s v1 v3)
def f_X3_readEither_B4 (rec : Mm → Int32 → Option (Mm)) (v1 : Int32) (v2 : Int32) (v3 : Int32) (s : Mm) : Option ((Int32 × Int32 × Mm) ⊕ (Mm)) :=
  (if 100 ≤ v3 then some (.inr s) else (if v2 = 0 then some (.inr s) else Option.bind (rec s v1) (fun s12 => f_X3_readEither_H22 rec s12 v1 v3 0)))
def f_X3_readEither_H4 (rec : Mm → Int32 → Option (Mm)) (s : Mm) (v1 : Int32) (v2 : Int32) (v3 : Int32) : Option (Mm) :=
  Option.bind (iter (fun t => f_X3_readEither_B4 rec v1 t.1 t.2.1 t.2.2) 200 (v2, v3, s)) (fun s => f_X3_readEither_J136 rec s)
def f_X3_readEither (rec : Mm → Int32 → Option (Mm)) (s : Mm) (a1 : Int32) : Option (Mm) :=
  f_X3_readEither_H4 rec s a1 1 0
set_option maxHeartbeats 4000000 in
set_option maxRecDepth 100000 in
theorem c_X3_readEither (l : Launch) (G : GE) {n : Nat} {rec : Mm → Int32 → Option (Mm)} (hrec : ∀ (lm : Ml) (s : Mm) (a1 : Int32) (sz : Mm), rec s a1 = some sz → CM l G yX3_readPart bX3_readPart 2 (Option.none : Option Jvm.ClassFile.FieldType) (rmN (2 * n + 16)) [.ref (gA G 6 0), .int a1] s lm (none) sz lm) {lm : Ml} {s : Mm} {a1 : Int32} {sz : Mm} (h : f_X3_readEither rec s a1 = some sz) : CM l G yX3_readEither bX3_readEither 5 (Option.none : Option Jvm.ClassFile.FieldType) (rmN (2 * n + 17)) [.ref (gA G 6 0), .int a1] s lm (none) sz lm := by
  refine CM.of (own := zR3) (L0 := [(0, .ref (gA G 6 0)), (1, .int a1)]) (by decide +kernel) rfl (Nat.le_of_ble_eq_true rfl) rfl (fun X hl hX hR hQ => ?_)
  subst hl
  have K136 : ∀ (s : Mm) (_ : True), f_X3_readEither_J136 rec  s = some sz → WW X G 5 s lm 136 [] [] := by
    intro s _ h
    unfold f_X3_readEither_J136 at h
    have g0 := Option.some.inj h
    subst g0
    exact r_vret hX hQ dX3_readEither_136
  have K4 : ∀ (s : Mm) (v1 : Int32) (v2 : Int32) (v3 : Int32) (_ : True), f_X3_readEither_H4 rec  s v1 v2 v3 = some sz → WW X G 5 s lm 4 [(0, .ref (gA G 6 0)), (1, .int v1), (2, .int v2), (3, .int v3)] [] := by
    intro s v1 v2 v3 _ h
    unfold f_X3_readEither_H4 at h
    obtain ⟨e_s, hit, hO⟩ := bn_e h
    refine iter_w (P := fun t : Int32 × Int32 × Mm => WW X G 5 t.2.2 lm 4 [(0, .ref (gA G 6 0)), (1, .int v1), (2, .int t.1), (3, .int t.2.1)] []) (x := e_s) ?_ 200 (v2, v3, s) hit
    clear hit
    intro t z1 hb hin1 hex1
    obtain ⟨v2, v3, s⟩ := t
    have h : f_X3_readEither_B4 rec v1 v2 v3 s = some z1 := hb
    clear hb
    have K126 : ∀ (s : Mm) (v2 : Int32) (v3 : Int32) (w0 : Int32) (w1 : Int32) (_ : True), f_X3_readEither_J126 rec  s v1 v2 v3 w0 w1 = some z1 → WW X G 5 s lm 126 [(0, .ref (gA G 6 0)), (1, .int v1), (2, .int v2), (3, .int v3)] [.int w0, .int w1, .ref (gA G 6 0)] := by
      intro s v2 v3 w0 w1 _ h
      unfold f_X3_readEither_J126 at h
      refine r_iadd hX dX3_readEither_126 ?_
      obtain ⟨s1, hs1, h⟩ := nb_e h
      refine pf_3_1 (o := 6) hX fl_X3_13 rfl rfl dX3_readEither_127 hs1.symm ?_
      refine r_iinc (v := v3 + 1) (L2 := [(3, .int (v3 + 1)), (0, .ref (gA G 6 0)), (1, .int v1), (2, .int v2)]) hX 3 rfl rfl (by decide) rfl dX3_readEither_130 ?_
      refine r_goto hX dX3_readEither_133 ?_
      exact WW.sub [1, 2, 3, 0] rfl (hin1 _ (Option.some.inj h).symm)
    have K111 : ∀ (s : Mm) (v3 : Int32) (w0 : Int32) (_ : True), f_X3_readEither_J111 rec  s v1 v3 w0 = some z1 → WW X G 5 s lm 111 [(0, .ref (gA G 6 0)), (1, .int v1), (3, .int v3)] [.int w0] := by
      intro s v3 w0 _ h
      unfold f_X3_readEither_J111 at h
      refine r_istore_n (L2 := [(2, .int w0), (0, .ref (gA G 6 0)), (1, .int v1), (3, .int v3)]) hX rfl (by decide) rfl dX3_readEither_111 ?_
      refine r_aload_n hX rfl 1 rfl dX3_readEither_112 ?_
      refine r_dup hX rfl dX3_readEither_113 ?_
      refine gf_3_1 (o := 6) hX fl_X3_13 rfl rfl dX3_readEither_114 ?_
      refine r_iload_n hX rfl 0 rfl dX3_readEither_117 ?_
      refine r_if_eq hX dX3_readEither_118 (fun hc => ?_) (fun hc => ?_)
      · replace h := ip_e hc h
        refine r_iconst (v := 0) hX (by decide) dX3_readEither_125 ?_
        exact WW.sub [1, 2, 0, 3] rfl (K126 s w0 v3 0 ((s 6) 0 1) trivial h)
      · replace h := in_e hc h
        refine r_iconst (v := 1) hX (by decide) dX3_readEither_121 ?_
        refine r_goto hX dX3_readEither_122 ?_
        exact WW.sub [1, 2, 0, 3] rfl (K126 s w0 v3 1 ((s 6) 0 1) trivial h)
    have K110 : ∀ (s : Mm) (v3 : Int32) (_ : True), f_X3_readEither_J110 rec  s v1 v3 = some z1 → WW X G 5 s lm 110 [(0, .ref (gA G 6 0)), (1, .int v1), (3, .int v3)] [] := by
      intro s v3 _ h
      unfold f_X3_readEither_J110 at h
      refine r_iconst (v := 0) hX (by decide) dX3_readEither_110 ?_
      exact WW.sub [0, 1, 2] rfl (K111 s v3 0 trivial h)
    have K90 : ∀ (s : Mm) (v3 : Int32) (_ : True), f_X3_readEither_J90 rec  s v1 v3 = some z1 → WW X G 5 s lm 90 [(0, .ref (gA G 6 0)), (1, .int v1), (3, .int v3)] [] := by
      intro s v3 _ h
      unfold f_X3_readEither_J90 at h
      refine r_aload_n hX rfl 0 rfl dX3_readEither_90 ?_
      refine gf_3_2 (o := 6) hX fl_X3_16 rfl rfl dX3_readEither_91 ?_
      refine r_if_ne hX dX3_readEither_94 (fun hc => ?_) (fun hc => ?_)
      · replace h := in_e hc h
        exact WW.sub [0, 1, 2] rfl (K110 s v3 trivial h)
      · replace h := ip_e hc h
        refine r_aload_n hX rfl 0 rfl dX3_readEither_97 ?_
        obtain ⟨x2, hc2, h⟩ := bn_e h
        refine r_callVi hX hR (c_X3_sign X.2.1 G hc2) rfl rfl mf_X3_sign ml_X3_37 in_X3_sign se_X3_sign rfl rfl ⟨rfl, rfl, by show 0 + 1 ≤ 2 * n + 17; omega, by show 8 + (1 + 11) + 60 ≤ 40 * (2 * n + 17); omega⟩ rfl (st := []) rfl (Nat.le_of_ble_eq_true rfl) dX3_readEither_98 ?_
        refine r_bipush (v := 124) hX (by decide) dX3_readEither_101 ?_
        refine r_icmp_ne hX dX3_readEither_103 (fun hc => ?_) (fun hc => ?_)
        · replace h := in_e hc h
          exact WW.sub [0, 1, 2] rfl (K110 s v3 trivial h)
        · replace h := ip_e hc h
          refine r_iconst (v := 1) hX (by decide) dX3_readEither_106 ?_
          refine r_goto hX dX3_readEither_107 ?_
          exact WW.sub [0, 1, 2] rfl (K111 s v3 1 trivial h)
    have K76 : ∀ (s : Mm) (v3 : Int32) (_ : True), f_X3_readEither_J76 rec  s v1 v3 = some z1 → WW X G 5 s lm 76 [(0, .ref (gA G 6 0)), (1, .int v1), (3, .int v3)] [] := by
      intro s v3 _ h
      unfold f_X3_readEither_J76 at h
      refine r_iload_n hX rfl 2 rfl dX3_readEither_76 ?_
      refine r_if_le hX dX3_readEither_77 (fun hc => ?_) (fun hc => ?_)
      · replace h := ip_e hc h
        exact WW.sub [0, 1, 2] rfl (K90 s v3 trivial h)
      · replace h := in_e hc h
        refine r_aload_n hX rfl 0 rfl dX3_readEither_80 ?_
        obtain ⟨hk3, h⟩ := kc_e h
        refine gf_3_4 (o := 6) hX fl_X3_27 rfl rfl dX3_readEither_81 ?_
        refine r_iconst (v := 5) hX (by decide) dX3_readEither_84 ?_
        refine r_iconst (v := 0) hX (by decide) dX3_readEither_85 ?_
        refine r_iconst (v := 0) hX (by decide) dX3_readEither_86 ?_
        obtain ⟨p4, hc4, h⟩ := bn_e h
        obtain ⟨s5, hs5, h⟩ := nb_e h
        refine r_callVv hX hR (c_X1_addStep (σ := s) X.2.1 G hk3 hc4) m1_i hs5.symm mf_X1_addStep ml_X3_92 in_X1_addStep se_X1_addStep hk3 rfl ⟨rfl, rfl, by show 0 + 1 ≤ 2 * n + 17; omega, by show 8 + (4 + 11) + 60 ≤ 40 * (2 * n + 17); omega⟩ rfl (st := []) rfl (Nat.le_of_ble_eq_true rfl) dX3_readEither_87 ?_
        exact WW.sub [0, 1, 2] rfl (K90 s5 v3 trivial h)
    have K22 : ∀ (s : Mm) (v3 : Int32) (v4 : Int32) (_ : True), f_X3_readEither_H22 rec  s v1 v3 v4 = some z1 → WW X G 5 s lm 22 [(0, .ref (gA G 6 0)), (1, .int v1), (3, .int v3), (4, .int v4)] [] := by
      intro s v3 v4 _ h
      unfold f_X3_readEither_H22 at h
      obtain ⟨e_s, hit, hO⟩ := bn_e h
      refine iter_w (P := fun t : Int32 × Mm => WW X G 5 t.2 lm 22 [(0, .ref (gA G 6 0)), (1, .int v1), (3, .int v3), (4, .int t.1)] []) (x := e_s) ?_ 200 (v4, s) hit
      clear hit
      intro t z2 hb hin2 hex2
      obtain ⟨v4, s⟩ := t
      have h : f_X3_readEither_B22 rec v1 v3 v4 s = some z2 := hb
      clear hb
      unfold f_X3_readEither_B22 at h
      refine r_iload hX 3 rfl dX3_readEither_22 ?_
      refine r_bipush (v := 100) hX (by decide) dX3_readEither_24 ?_
      refine r_icmp_ge hX dX3_readEither_26 (fun hc => ?_) (fun hc => ?_)
      · replace h := ip_e hc h
        have g0 := hex2 _ (Option.some.inj h).symm
        subst g0
        exact WW.sub [0, 1, 2] rfl (K76 s v3 trivial hO)
      · replace h := in_e hc h
        refine r_aload_n hX rfl 0 rfl dX3_readEither_29 ?_
        refine gf_3_2 (o := 6) hX fl_X3_16 rfl rfl dX3_readEither_30 ?_
        refine r_if_ne hX dX3_readEither_33 (fun hc => ?_) (fun hc => ?_)
        · replace h := in_e hc h
          have g0 := hex2 _ (Option.some.inj h).symm
          subst g0
          exact WW.sub [0, 1, 2] rfl (K76 s v3 trivial hO)
        · replace h := ip_e hc h
          refine r_aload_n hX rfl 0 rfl dX3_readEither_36 ?_
          obtain ⟨x6, hc6, h⟩ := bn_e h
          refine r_callVi hX hR (c_X3_sign X.2.1 G hc6) rfl rfl mf_X3_sign ml_X3_37 in_X3_sign se_X3_sign rfl rfl ⟨rfl, rfl, by show 0 + 1 ≤ 2 * n + 17; omega, by show 8 + (1 + 11) + 60 ≤ 40 * (2 * n + 17); omega⟩ rfl (st := []) rfl (Nat.le_of_ble_eq_true rfl) dX3_readEither_37 ?_
          refine r_bipush (v := 38) hX (by decide) dX3_readEither_40 ?_
          refine r_icmp_ne hX dX3_readEither_42 (fun hc => ?_) (fun hc => ?_)
          · replace h := in_e hc h
            have g0 := hex2 _ (Option.some.inj h).symm
            subst g0
            exact WW.sub [0, 1, 2] rfl (K76 s v3 trivial hO)
          · replace h := ip_e hc h
            refine r_aload_n hX rfl 0 rfl dX3_readEither_45 ?_
            refine r_dup hX rfl dX3_readEither_46 ?_
            refine gf_3_1 (o := 6) hX fl_X3_13 rfl rfl dX3_readEither_47 ?_
            refine r_iconst (v := 1) hX (by decide) dX3_readEither_50 ?_
            refine r_iadd hX dX3_readEither_51 ?_
            obtain ⟨s7, hs7, h⟩ := nb_e h
            refine pf_3_1 (o := 6) hX fl_X3_13 rfl rfl dX3_readEither_52 hs7.symm ?_
            refine r_aload_n hX rfl 0 rfl dX3_readEither_55 ?_
            refine r_iload_n hX rfl 1 rfl dX3_readEither_56 ?_
            obtain ⟨s8, hc8, h⟩ := bn_e h
            refine r_callVv hX hR (hrec _ _ _ _ hc8) rfl rfl mf_X3_readPart ml_X3_89 in_X3_readPart se_X3_readPart rfl rfl ⟨rfl, rfl, by show 2 * n + 16 + 1 ≤ 2 * n + 17; omega, by show 8 + (2 + 11) + 40 * (2 * n + 16) ≤ 40 * (2 * n + 17); omega⟩ rfl (st := []) rfl (Nat.le_of_ble_eq_true rfl) dX3_readEither_57 ?_
            refine r_aload_n hX rfl 0 rfl dX3_readEither_60 ?_
            obtain ⟨hk9, h⟩ := kc_e h
            refine gf_3_4 (o := 6) hX fl_X3_27 rfl rfl dX3_readEither_61 ?_
            refine r_iconst (v := 4) hX (by decide) dX3_readEither_64 ?_
            refine r_iconst (v := 0) hX (by decide) dX3_readEither_65 ?_
            refine r_iconst (v := 0) hX (by decide) dX3_readEither_66 ?_
            obtain ⟨p10, hc10, h⟩ := bn_e h
            obtain ⟨s11, hs11, h⟩ := nb_e h
            refine r_callVv hX hR (c_X1_addStep (σ := s8) X.2.1 G hk9 hc10) m1_i hs11.symm mf_X1_addStep ml_X3_92 in_X1_addStep se_X1_addStep hk9 rfl ⟨rfl, rfl, by show 0 + 1 ≤ 2 * n + 17; omega, by show 8 + (4 + 11) + 60 ≤ 40 * (2 * n + 17); omega⟩ rfl (st := []) rfl (Nat.le_of_ble_eq_true rfl) dX3_readEither_67 ?_
            refine r_iinc (v := v4 + 1) (L2 := [(4, .int (v4 + 1)), (0, .ref (gA G 6 0)), (1, .int v1), (3, .int v3)]) hX 3 rfl rfl (by decide) rfl dX3_readEither_70 ?_
            refine r_goto hX dX3_readEither_73 ?_
            exact WW.sub [1, 2, 3, 0] rfl (hin2 _ (Option.some.inj h).symm)
    unfold f_X3_readEither_B4 at h
    refine r_iload_n hX rfl 3 rfl dX3_readEither_4 ?_
    refine r_bipush (v := 100) hX (by decide) dX3_readEither_5 ?_
    refine r_icmp_ge hX dX3_readEither_7 (fun hc => ?_) (fun hc => ?_)
    · replace h := ip_e hc h
      have g0 := hex1 _ (Option.some.inj h).symm
      subst g0
      exact WW.sub [] rfl (K136 s trivial hO)
    · replace h := in_e hc h
      refine r_iload_n hX rfl 2 rfl dX3_readEither_10 ?_
      refine r_if_eq hX dX3_readEither_11 (fun hc => ?_) (fun hc => ?_)
      · replace h := ip_e hc h
        have g0 := hex1 _ (Option.some.inj h).symm
        subst g0
        exact WW.sub [] rfl (K136 s trivial hO)
      · replace h := in_e hc h
        refine r_aload_n hX rfl 0 rfl dX3_readEither_14 ?_
        refine r_iload_n hX rfl 1 rfl dX3_readEither_15 ?_
        obtain ⟨s12, hc12, h⟩ := bn_e h
        refine r_callVv hX hR (hrec _ _ _ _ hc12) rfl rfl mf_X3_readPart ml_X3_89 in_X3_readPart se_X3_readPart rfl rfl ⟨rfl, rfl, by show 2 * n + 16 + 1 ≤ 2 * n + 17; omega, by show 8 + (2 + 11) + 40 * (2 * n + 16) ≤ 40 * (2 * n + 17); omega⟩ rfl (st := []) rfl (Nat.le_of_ble_eq_true rfl) dX3_readEither_16 ?_
        refine r_iconst (v := 0) hX (by decide) dX3_readEither_19 ?_
        refine r_istore (L2 := [(4, .int 0), (0, .ref (gA G 6 0)), (1, .int v1), (2, .int v2), (3, .int v3)]) hX (by decide) rfl dX3_readEither_20 ?_
        exact WW.sub [1, 2, 4, 0] rfl (K22 s12 v3 0 trivial h)
  unfold f_X3_readEither at h
  refine r_iconst (v := 1) hX (by decide) dX3_readEither_0 ?_
  refine r_istore_n (L2 := [(2, .int 1), (0, .ref (gA G 6 0)), (1, .int a1)]) hX rfl (by decide) rfl dX3_readEither_1 ?_
  refine r_iconst (v := 0) hX (by decide) dX3_readEither_2 ?_
  refine r_istore_n (L2 := [(3, .int 0), (2, .int 1), (0, .ref (gA G 6 0)), (1, .int a1)]) hX rfl (by decide) rfl dX3_readEither_3 ?_
  exact WW.sub [2, 3, 1, 0] rfl (K4 s a1 1 0 trivial h)
abbrev rm_X3_placeOf : Room := { frames := 8, cells := 0, slots := 0, locals := 400 }
def f_X3_placeOf_B2 (v0 : Int32) (v1 : Nat) (v2 : Int32) : Option ((Int32) ⊕ (Int32)) :=
  (if (sLen v1) ≤ v2 then wr (some (-1)) else (if inb v2 (sLn.getD v1 0) = true then (if (sChr v1 (ix v2)) = v0 then wr (some v2) else some (.inl (v2 + 1))) else none))
def f_X3_placeOf_H2 (v0 : Int32) (v1 : Nat) (v2 : Int32) : Option (Int32) :=
  iter (fun t => f_X3_placeOf_B2 v0 v1 t) 200 v2
def f_X3_placeOf (a0 : Int32) (a1 : Nat) : Option (Int32) :=
  f_X3_placeOf_H2 a0 a1 0
set_option maxHeartbeats 4000000 in
set_option maxRecDepth 100000 in
theorem c_X3_placeOf (l : Launch) (G : GE) {σ : Mm} {lm : Ml}  {a0 : Int32} {a1 : Nat} (ha1 : a1 < 7) {rz : Int32} (h : f_X3_placeOf a0 a1 = some rz) : CM l G yX3_placeOf bX3_placeOf 3 (Option.some Jvm.ClassFile.FieldType.int) rm_X3_placeOf [.int a0, .ref (gX G (10 + a1))] σ lm (some (.int rz)) σ lm := by
  refine CM.of (own := zR3) (L0 := [(0, .int a0), (1, .ref (gX G (10 + a1)))]) (by decide +kernel) rfl (Nat.le_of_ble_eq_true rfl) rfl (fun X hl hX hR hQ => ?_)
  have K2 : ∀ (v0 : Int32) (v1 : Nat) (v2 : Int32) (hv1 : v1 < 7) (_ : True), f_X3_placeOf_H2 v0 v1 v2 = some rz → WW X G 3 σ lm 2 [(0, .int v0), (1, .ref (gX G (10 + v1))), (2, .int v2)] [] := by
    intro v0 v1 v2 hv1 _ h
    unfold f_X3_placeOf_H2 at h
    have hit := h
    refine iter_w (P := fun t : Int32 => WW X G 3 σ lm 2 [(0, .int v0), (1, .ref (gX G (10 + v1))), (2, .int t)] []) (x := rz) ?_ 200 v2 hit
    clear hit
    clear h
    intro v2 z1 hb hin1 hex1
    have h : f_X3_placeOf_B2 v0 v1 v2 = some z1 := hb
    clear hb
    unfold f_X3_placeOf_B2 at h
    refine r_iload_n hX rfl 2 rfl dX3_placeOf_2 ?_
    refine r_aload_n hX rfl 1 rfl dX3_placeOf_3 ?_
    refine r_slen hX hR rfl hv1 ml_X3_41 (st := [.int v2]) (Nat.le_of_ble_eq_true rfl) dX3_placeOf_4 ?_
    refine r_icmp_ge hX dX3_placeOf_7 (fun hc => ?_) (fun hc => ?_)
    · replace h := ip_e hc h
      refine r_iconst (v := (-1)) hX (by decide) dX3_placeOf_27 ?_
      obtain ⟨y1, h, e1⟩ := wr_e h
      rw [hex1 _ e1] at h
      have g0 := Option.some.inj h
      subst g0
      exact r_iret hX hQ dX3_placeOf_28
    · replace h := in_e hc h
      refine r_aload_n hX rfl 1 rfl dX3_placeOf_10 ?_
      refine r_iload_n hX rfl 2 rfl dX3_placeOf_11 ?_
      obtain ⟨hk1, h⟩ := kc_e h
      refine r_schr hX hR rfl hv1 hk1 ml_X3_45 (st := []) (Nat.le_of_ble_eq_true rfl) dX3_placeOf_12 ?_
      refine r_iload_n hX rfl 0 rfl dX3_placeOf_15 ?_
      refine r_icmp_ne hX dX3_placeOf_16 (fun hc => ?_) (fun hc => ?_)
      · replace h := in_e hc h
        refine r_iinc (v := v2 + 1) (L2 := [(2, .int (v2 + 1)), (0, .int v0), (1, .ref (gX G (10 + v1)))]) hX 2 rfl rfl (by decide) rfl dX3_placeOf_21 ?_
        refine r_goto hX dX3_placeOf_24 ?_
        exact WW.sub [1, 2, 0] rfl (hin1 _ (Option.some.inj h).symm)
      · replace h := ip_e hc h
        refine r_iload_n hX rfl 2 rfl dX3_placeOf_19 ?_
        obtain ⟨y1, h, e1⟩ := wr_e h
        rw [hex1 _ e1] at h
        have g0 := Option.some.inj h
        subst g0
        exact r_iret hX hQ dX3_placeOf_20
  unfold f_X3_placeOf at h
  refine r_iconst (v := 0) hX (by decide) dX3_placeOf_0 ?_
  refine r_istore_n (L2 := [(2, .int 0), (0, .int a0), (1, .ref (gX G (10 + a1)))]) hX rfl (by decide) rfl dX3_placeOf_1 ?_
  exact WW.sub [1, 2, 0] rfl (K2 a0 a1 0 ha1 trivial h)
abbrev rm_X3_readTest : Room := { frames := 9, cells := 0, slots := 0, locals := 422 }
def f_X3_readTest (s : Mm) : Option (Mm) :=
  Option.bind (f_X3_sign s) (fun x1 => Option.bind (f_X3_placeOf x1 5) (fun x2 => (if 0 ≤ x2 then nb (setO s 6 (up2 (s 6) 0 1 (((s 6) 0 1) + 1))) (fun s3 => Option.bind (f_X3_sign s3) (fun x4 => Option.bind (f_X3_placeOf x4 6) (fun x5 => (if 0 ≤ x5 then nb (setO s3 6 (up2 (s3 6) 0 1 (((s3 6) 0 1) + 1))) (fun s6 => (if kdo (ix ((s6 6) 0 4)) = 1 then bn2 (f_X3_readNumber s6) (fun x8 s9 => Option.bind (f_X1_addStep (s9 (ix ((s6 6) 0 4))) x5 x2 x8) (fun p10 => nb (setO s9 (ix ((s6 6) 0 4)) p10) (fun s11 => some s11))) else none)) else nb (setO s3 6 (up2 (s3 6) 0 2 1)) (fun s12 => some s12))))) else nb (setO s 6 (up2 (s 6) 0 2 1)) (fun s13 => some s13))))
set_option maxHeartbeats 4000000 in
set_option maxRecDepth 100000 in
theorem c_X3_readTest (l : Launch) (G : GE) {lm : Ml}  {s : Mm} {sz : Mm} (h : f_X3_readTest s = some sz) : CM l G yX3_readTest bX3_readTest 3 (Option.none : Option Jvm.ClassFile.FieldType) rm_X3_readTest [.ref (gA G 6 0)] s lm (none) sz lm := by
  refine CM.of (own := zR3) (L0 := [(0, .ref (gA G 6 0))]) (by decide +kernel) rfl (Nat.le_of_ble_eq_true rfl) rfl (fun X hl hX hR hQ => ?_)
  unfold f_X3_readTest at h
  refine r_aload_n hX rfl 0 rfl dX3_readTest_0 ?_
  obtain ⟨x1, hc1, h⟩ := bn_e h
  refine r_callVi hX hR (c_X3_sign X.2.1 G hc1) rfl rfl mf_X3_sign ml_X3_37 in_X3_sign se_X3_sign rfl rfl ⟨rfl, rfl, Nat.le_of_ble_eq_true rfl, Nat.le_of_ble_eq_true rfl⟩ rfl (st := []) rfl (Nat.le_of_ble_eq_true rfl) dX3_readTest_1 ?_
  refine r_ldcS (k := 5) hX rfl dX3_readTest_4 ?_
  obtain ⟨x2, hc2, h⟩ := bn_e h
  refine r_callSi hX hR (c_X3_placeOf (σ := s) X.2.1 G (by decide) hc2) rfl rfl mf_X3_placeOf ml_X3_101 st_X3_placeOf ⟨rfl, rfl, Nat.le_of_ble_eq_true rfl, Nat.le_of_ble_eq_true rfl⟩ rfl (st := []) rfl (Nat.le_of_ble_eq_true rfl) dX3_readTest_6 ?_
  refine r_istore_n (L2 := [(1, .int x2), (0, .ref (gA G 6 0))]) hX rfl (by decide) rfl dX3_readTest_9 ?_
  refine r_iload_n hX rfl 0 rfl dX3_readTest_10 ?_
  refine r_if_ge hX dX3_readTest_11 (fun hc => ?_) (fun hc => ?_)
  · replace h := ip_e hc h
    refine r_aload_n hX rfl 1 rfl dX3_readTest_20 ?_
    refine r_dup hX rfl dX3_readTest_21 ?_
    refine gf_3_1 (o := 6) hX fl_X3_13 rfl rfl dX3_readTest_22 ?_
    refine r_iconst (v := 1) hX (by decide) dX3_readTest_25 ?_
    refine r_iadd hX dX3_readTest_26 ?_
    obtain ⟨s3, hs3, h⟩ := nb_e h
    refine pf_3_1 (o := 6) hX fl_X3_13 rfl rfl dX3_readTest_27 hs3.symm ?_
    refine r_aload_n hX rfl 1 rfl dX3_readTest_30 ?_
    obtain ⟨x4, hc4, h⟩ := bn_e h
    refine r_callVi hX hR (c_X3_sign X.2.1 G hc4) rfl rfl mf_X3_sign ml_X3_37 in_X3_sign se_X3_sign rfl rfl ⟨rfl, rfl, Nat.le_of_ble_eq_true rfl, Nat.le_of_ble_eq_true rfl⟩ rfl (st := []) rfl (Nat.le_of_ble_eq_true rfl) dX3_readTest_31 ?_
    refine r_ldcS (k := 6) hX rfl dX3_readTest_34 ?_
    obtain ⟨x5, hc5, h⟩ := bn_e h
    refine r_callSi hX hR (c_X3_placeOf (σ := s3) X.2.1 G (by decide) hc5) rfl rfl mf_X3_placeOf ml_X3_101 st_X3_placeOf ⟨rfl, rfl, Nat.le_of_ble_eq_true rfl, Nat.le_of_ble_eq_true rfl⟩ rfl (st := []) rfl (Nat.le_of_ble_eq_true rfl) dX3_readTest_36 ?_
    refine r_istore_n (L2 := [(2, .int x5), (1, .int x2), (0, .ref (gA G 6 0))]) hX rfl (by decide) rfl dX3_readTest_39 ?_
    refine r_iload_n hX rfl 0 rfl dX3_readTest_40 ?_
    refine r_if_ge hX dX3_readTest_41 (fun hc => ?_) (fun hc => ?_)
    · replace h := ip_e hc h
      refine r_aload_n hX rfl 2 rfl dX3_readTest_50 ?_
      refine r_dup hX rfl dX3_readTest_51 ?_
      refine gf_3_1 (o := 6) hX fl_X3_13 rfl rfl dX3_readTest_52 ?_
      refine r_iconst (v := 1) hX (by decide) dX3_readTest_55 ?_
      refine r_iadd hX dX3_readTest_56 ?_
      obtain ⟨s6, hs6, h⟩ := nb_e h
      refine pf_3_1 (o := 6) hX fl_X3_13 rfl rfl dX3_readTest_57 hs6.symm ?_
      refine r_aload_n hX rfl 2 rfl dX3_readTest_60 ?_
      obtain ⟨hk7, h⟩ := kc_e h
      refine gf_3_4 (o := 6) hX fl_X3_27 rfl rfl dX3_readTest_61 ?_
      refine r_iload_n hX rfl 0 rfl dX3_readTest_64 ?_
      refine r_iload_n hX rfl 1 rfl dX3_readTest_65 ?_
      refine r_aload_n hX rfl 2 rfl dX3_readTest_66 ?_
      obtain ⟨x8, s9, hc9, h⟩ := bn2_e h
      refine r_callVi hX hR (c_X3_readNumber X.2.1 G hc9) rfl rfl mf_X3_readNumber ml_X3_61 in_X3_readNumber se_X3_readNumber rfl rfl ⟨rfl, rfl, Nat.le_of_ble_eq_true rfl, Nat.le_of_ble_eq_true rfl⟩ rfl (st := [.int x2, .int x5, .ref (gA G (ix ((s6 6) 0 4)) 0)]) rfl (Nat.le_of_ble_eq_true rfl) dX3_readTest_67 ?_
      obtain ⟨p10, hc10, h⟩ := bn_e h
      obtain ⟨s11, hs11, h⟩ := nb_e h
      refine r_callVv hX hR (c_X1_addStep (σ := s9) X.2.1 G hk7 hc10) m1_i hs11.symm mf_X1_addStep ml_X3_92 in_X1_addStep se_X1_addStep hk7 rfl ⟨rfl, rfl, Nat.le_of_ble_eq_true rfl, Nat.le_of_ble_eq_true rfl⟩ rfl (st := []) rfl (Nat.le_of_ble_eq_true rfl) dX3_readTest_70 ?_
      have g0 := Option.some.inj h
      subst g0
      exact r_vret hX hQ dX3_readTest_73
    · replace h := in_e hc h
      refine r_aload_n hX rfl 2 rfl dX3_readTest_44 ?_
      refine r_iconst (v := 1) hX (by decide) dX3_readTest_45 ?_
      obtain ⟨s12, hs12, h⟩ := nb_e h
      refine pf_3_2 (o := 6) (Or.inr rfl) hX fl_X3_16 rfl rfl dX3_readTest_46 hs12.symm ?_
      have g0 := Option.some.inj h
      subst g0
      exact r_vret hX hQ dX3_readTest_49
  · replace h := in_e hc h
    refine r_aload_n hX rfl 1 rfl dX3_readTest_14 ?_
    refine r_iconst (v := 1) hX (by decide) dX3_readTest_15 ?_
    obtain ⟨s13, hs13, h⟩ := nb_e h
    refine pf_3_2 (o := 6) (Or.inr rfl) hX fl_X3_16 rfl rfl dX3_readTest_16 hs13.symm ?_
    have g0 := Option.some.inj h
    subst g0
    exact r_vret hX hQ dX3_readTest_19
def f_X3_readPart_J92 (rec : Mm → Int32 → Option (Mm)) (s : Mm) : Option (Mm) :=
  Option.bind (f_X3_readTest s) (fun s1 => some s1)
def f_X3_readPart_J52 (rec : Mm → Int32 → Option (Mm)) (s : Mm) (v1 : Int32) : Option (Mm) :=
  Option.bind (f_X3_sign s) (fun x2 => (if x2 = 40 then (if 4 ≤ v1 then f_X3_readPart_J92 rec s else nb (setO s 6 (up2 (s 6) 0 1 (((s 6) 0 1) + 1))) (fun s3 => Option.bind (f_X3_readEither rec s3 (v1 + 1)) (fun s4 => Option.bind (f_X3_expect s4 41) (fun s5 => some s5)))) else f_X3_readPart_J92 rec s))
def f_X3_readPartS (rec : Mm → Int32 → Option (Mm)) (s : Mm) (a1 : Int32) : Option (Mm) :=
  (if ((s 6) 0 2) = 0 then Option.bind (f_X3_sign s) (fun x6 => (if x6 = 33 then (if 4 ≤ a1 then f_X3_readPart_J52 rec s a1 else nb (setO s 6 (up2 (s 6) 0 1 (((s 6) 0 1) + 1))) (fun s7 => Option.bind (rec s7 (a1 + 1)) (fun s8 => (if kdo (ix ((s8 6) 0 4)) = 1 then Option.bind (f_X1_addStep (s8 (ix ((s8 6) 0 4))) 3 0 0) (fun p10 => nb (setO s8 (ix ((s8 6) 0 4)) p10) (fun s11 => some s11)) else none)))) else f_X3_readPart_J52 rec s a1)) else some s)
set_option maxHeartbeats 4000000 in
set_option maxRecDepth 100000 in
theorem c_X3_readPartS (l : Launch) (G : GE) {n : Nat} {rec : Mm → Int32 → Option (Mm)} (hrec : ∀ (lm : Ml) (s : Mm) (a1 : Int32) (sz : Mm), rec s a1 = some sz → CM l G yX3_readPart bX3_readPart 2 (Option.none : Option Jvm.ClassFile.FieldType) (rmN (2 * n + 16)) [.ref (gA G 6 0), .int a1] s lm (none) sz lm) {lm : Ml} {s : Mm} {a1 : Int32} {sz : Mm} (h : f_X3_readPartS rec s a1 = some sz) : CM l G yX3_readPart bX3_readPart 2 (Option.none : Option Jvm.ClassFile.FieldType) (rmN (2 * n + 18)) [.ref (gA G 6 0), .int a1] s lm (none) sz lm := by
  refine CM.of (own := zR3) (L0 := [(0, .ref (gA G 6 0)), (1, .int a1)]) (by decide +kernel) rfl (Nat.le_of_ble_eq_true rfl) rfl (fun X hl hX hR hQ => ?_)
  subst hl
  have K92 : ∀ (s : Mm) (_ : True), f_X3_readPart_J92 rec  s = some sz → WW X G 2 s lm 92 [(0, .ref (gA G 6 0))] [] := by
    intro s _ h
    unfold f_X3_readPart_J92 at h
    refine r_aload_n hX rfl 0 rfl dX3_readPart_92 ?_
    obtain ⟨s1, hc1, h⟩ := bn_e h
    refine r_callVv hX hR (c_X3_readTest X.2.1 G hc1) rfl rfl mf_X3_readTest ml_X3_96 in_X3_readTest se_X3_readTest rfl rfl ⟨rfl, rfl, by show 9 + 1 ≤ 2 * n + 18; omega, by show 8 + (3 + 11) + 422 ≤ 40 * (2 * n + 18); omega⟩ rfl (st := []) rfl (Nat.le_of_ble_eq_true rfl) dX3_readPart_93 ?_
    have g0 := Option.some.inj h
    subst g0
    exact r_vret hX hQ dX3_readPart_96
  have K52 : ∀ (s : Mm) (v1 : Int32) (_ : True), f_X3_readPart_J52 rec  s v1 = some sz → WW X G 2 s lm 52 [(0, .ref (gA G 6 0)), (1, .int v1)] [] := by
    intro s v1 _ h
    unfold f_X3_readPart_J52 at h
    refine r_aload_n hX rfl 0 rfl dX3_readPart_52 ?_
    obtain ⟨x2, hc2, h⟩ := bn_e h
    refine r_callVi hX hR (c_X3_sign X.2.1 G hc2) rfl rfl mf_X3_sign ml_X3_37 in_X3_sign se_X3_sign rfl rfl ⟨rfl, rfl, by show 0 + 1 ≤ 2 * n + 18; omega, by show 8 + (1 + 11) + 60 ≤ 40 * (2 * n + 18); omega⟩ rfl (st := []) rfl (Nat.le_of_ble_eq_true rfl) dX3_readPart_53 ?_
    refine r_bipush (v := 40) hX (by decide) dX3_readPart_56 ?_
    refine r_icmp_ne hX dX3_readPart_58 (fun hc => ?_) (fun hc => ?_)
    · replace h := in_e hc h
      exact WW.sub [0] rfl (K92 s trivial h)
    · replace h := ip_e hc h
      refine r_iload_n hX rfl 1 rfl dX3_readPart_61 ?_
      refine r_iconst (v := 4) hX (by decide) dX3_readPart_62 ?_
      refine r_icmp_ge hX dX3_readPart_63 (fun hc => ?_) (fun hc => ?_)
      · replace h := ip_e hc h
        exact WW.sub [0] rfl (K92 s trivial h)
      · replace h := in_e hc h
        refine r_aload_n hX rfl 0 rfl dX3_readPart_66 ?_
        refine r_dup hX rfl dX3_readPart_67 ?_
        refine gf_3_1 (o := 6) hX fl_X3_13 rfl rfl dX3_readPart_68 ?_
        refine r_iconst (v := 1) hX (by decide) dX3_readPart_71 ?_
        refine r_iadd hX dX3_readPart_72 ?_
        obtain ⟨s3, hs3, h⟩ := nb_e h
        refine pf_3_1 (o := 6) hX fl_X3_13 rfl rfl dX3_readPart_73 hs3.symm ?_
        refine r_aload_n hX rfl 0 rfl dX3_readPart_76 ?_
        refine r_iload_n hX rfl 1 rfl dX3_readPart_77 ?_
        refine r_iconst (v := 1) hX (by decide) dX3_readPart_78 ?_
        refine r_iadd hX dX3_readPart_79 ?_
        obtain ⟨s4, hc4, h⟩ := bn_e h
        refine r_callVv hX hR (c_X3_readEither (n := n) X.2.1 G hrec hc4) rfl rfl mf_X3_readEither ml_X3_73 in_X3_readEither se_X3_readEither rfl rfl ⟨rfl, rfl, by show 2 * n + 17 + 1 ≤ 2 * n + 18; omega, by show 8 + (5 + 11) + 40 * (2 * n + 17) ≤ 40 * (2 * n + 18); omega⟩ rfl (st := []) rfl (Nat.le_of_ble_eq_true rfl) dX3_readPart_80 ?_
        refine r_aload_n hX rfl 0 rfl dX3_readPart_83 ?_
        refine r_bipush (v := 41) hX (by decide) dX3_readPart_84 ?_
        obtain ⟨s5, hc5, h⟩ := bn_e h
        refine r_callVv hX hR (c_X3_expect X.2.1 G hc5) rfl rfl mf_X3_expect ml_X3_49 in_X3_expect se_X3_expect rfl rfl ⟨rfl, rfl, by show 1 + 1 ≤ 2 * n + 18; omega, by show 8 + (2 + 11) + 80 ≤ 40 * (2 * n + 18); omega⟩ rfl (st := []) rfl (Nat.le_of_ble_eq_true rfl) dX3_readPart_86 ?_
        refine r_goto hX dX3_readPart_89 ?_
        have g0 := Option.some.inj h
        subst g0
        exact r_vret hX hQ dX3_readPart_96
  unfold f_X3_readPartS at h
  refine r_aload_n hX rfl 0 rfl dX3_readPart_0 ?_
  refine gf_3_2 (o := 6) hX fl_X3_16 rfl rfl dX3_readPart_1 ?_
  refine r_if_eq hX dX3_readPart_4 (fun hc => ?_) (fun hc => ?_)
  · replace h := ip_e hc h
    refine r_aload_n hX rfl 0 rfl dX3_readPart_8 ?_
    obtain ⟨x6, hc6, h⟩ := bn_e h
    refine r_callVi hX hR (c_X3_sign X.2.1 G hc6) rfl rfl mf_X3_sign ml_X3_37 in_X3_sign se_X3_sign rfl rfl ⟨rfl, rfl, by show 0 + 1 ≤ 2 * n + 18; omega, by show 8 + (1 + 11) + 60 ≤ 40 * (2 * n + 18); omega⟩ rfl (st := []) rfl (Nat.le_of_ble_eq_true rfl) dX3_readPart_9 ?_
    refine r_bipush (v := 33) hX (by decide) dX3_readPart_12 ?_
    refine r_icmp_ne hX dX3_readPart_14 (fun hc => ?_) (fun hc => ?_)
    · replace h := in_e hc h
      exact WW.sub [0, 1] rfl (K52 s a1 trivial h)
    · replace h := ip_e hc h
      refine r_iload_n hX rfl 1 rfl dX3_readPart_17 ?_
      refine r_iconst (v := 4) hX (by decide) dX3_readPart_18 ?_
      refine r_icmp_ge hX dX3_readPart_19 (fun hc => ?_) (fun hc => ?_)
      · replace h := ip_e hc h
        exact WW.sub [0, 1] rfl (K52 s a1 trivial h)
      · replace h := in_e hc h
        refine r_aload_n hX rfl 0 rfl dX3_readPart_22 ?_
        refine r_dup hX rfl dX3_readPart_23 ?_
        refine gf_3_1 (o := 6) hX fl_X3_13 rfl rfl dX3_readPart_24 ?_
        refine r_iconst (v := 1) hX (by decide) dX3_readPart_27 ?_
        refine r_iadd hX dX3_readPart_28 ?_
        obtain ⟨s7, hs7, h⟩ := nb_e h
        refine pf_3_1 (o := 6) hX fl_X3_13 rfl rfl dX3_readPart_29 hs7.symm ?_
        refine r_aload_n hX rfl 0 rfl dX3_readPart_32 ?_
        refine r_iload_n hX rfl 1 rfl dX3_readPart_33 ?_
        refine r_iconst (v := 1) hX (by decide) dX3_readPart_34 ?_
        refine r_iadd hX dX3_readPart_35 ?_
        obtain ⟨s8, hc8, h⟩ := bn_e h
        refine r_callVv hX hR (hrec _ _ _ _ hc8) rfl rfl mf_X3_readPart ml_X3_89 in_X3_readPart se_X3_readPart rfl rfl ⟨rfl, rfl, by show 2 * n + 16 + 1 ≤ 2 * n + 18; omega, by show 8 + (2 + 11) + 40 * (2 * n + 16) ≤ 40 * (2 * n + 18); omega⟩ rfl (st := []) rfl (Nat.le_of_ble_eq_true rfl) dX3_readPart_36 ?_
        refine r_aload_n hX rfl 0 rfl dX3_readPart_39 ?_
        obtain ⟨hk9, h⟩ := kc_e h
        refine gf_3_4 (o := 6) hX fl_X3_27 rfl rfl dX3_readPart_40 ?_
        refine r_iconst (v := 3) hX (by decide) dX3_readPart_43 ?_
        refine r_iconst (v := 0) hX (by decide) dX3_readPart_44 ?_
        refine r_iconst (v := 0) hX (by decide) dX3_readPart_45 ?_
        obtain ⟨p10, hc10, h⟩ := bn_e h
        obtain ⟨s11, hs11, h⟩ := nb_e h
        refine r_callVv hX hR (c_X1_addStep (σ := s8) X.2.1 G hk9 hc10) m1_i hs11.symm mf_X1_addStep ml_X3_92 in_X1_addStep se_X1_addStep hk9 rfl ⟨rfl, rfl, by show 0 + 1 ≤ 2 * n + 18; omega, by show 8 + (4 + 11) + 60 ≤ 40 * (2 * n + 18); omega⟩ rfl (st := []) rfl (Nat.le_of_ble_eq_true rfl) dX3_readPart_46 ?_
        refine r_goto hX dX3_readPart_49 ?_
        have g0 := Option.some.inj h
        subst g0
        exact r_vret hX hQ dX3_readPart_96
  · replace h := in_e hc h
    have g0 := Option.some.inj h
    subst g0
    exact r_vret hX hQ dX3_readPart_7
def f_X3_readPart : Nat → Mm → Int32 → Option (Mm)
  | 0 => fun _ _ => none
  | n + 1 => fun x0 x1 => f_X3_readPartS (f_X3_readPart n) x0 x1
theorem c_X3_readPartE (l : Launch) (G : GE) : ∀ (n : Nat) (lm : Ml) (s : Mm) (a1 : Int32) (sz : Mm), f_X3_readPart n s a1 = some sz → CM l G yX3_readPart bX3_readPart 2 (Option.none : Option Jvm.ClassFile.FieldType) (rmN (2 * n + 16)) [.ref (gA G 6 0), .int a1] s lm (none) sz lm
  | 0 => by
    intro _ _ _ _ h
    cases h
  | n + 1 => by
    intro _ _ _ _ h
    exact c_X3_readPartS l G (n := n) (fun _ _ _ _ h2 => c_X3_readPartE l G n _ _ _ _ h2) h
abbrev rm_X3_readClause : Room := { frames := 98, cells := 0, slots := 0, locals := 3904 }
def f_X3_readClause_J112 (s : Mm) (w0 : Int32) (w1 : Nat) : Option (Mm) :=
  Option.bind (f_X1_addPrice (s w1) w0) (fun p1 => nb (setO s w1 p1) (fun s2 => some s2))
def f_X3_readClause (s : Mm) : Option (Mm) :=
  Option.bind (f_X3_sign s) (fun x3 => Option.bind (f_X3_wordOf x3) (fun x4 => (if x4 < 7 then Option.bind (f_X3_expectWord s x4) (fun s6 => bn2 (f_X3_readNumber s6) (fun x7 s8 => (if x3 = 102 then (if kdo (ix ((s8 6) 0 4)) = 1 then nb (setO s8 (ix ((s8 6) 0 4)) (up2 (s8 (ix ((s8 6) 0 4))) 0 2 x7)) (fun s10 => some s10) else none) else (if x3 = 109 then (if kdo (ix ((s8 6) 0 4)) = 1 then nb (setO s8 (ix ((s8 6) 0 4)) (up2 (s8 (ix ((s8 6) 0 4))) 0 0 x7)) (fun s12 => some s12) else none) else (if x3 = 115 then (if kdo (ix ((s8 6) 0 4)) = 1 then nb (setO s8 (ix ((s8 6) 0 4)) (up2 (s8 (ix ((s8 6) 0 4))) 0 1 x7)) (fun s14 => some s14) else none) else Option.bind (f_X3_expect s8 32) (fun s15 => Option.bind (f_X3_readEither (f_X3_readPart 40) s15 0) (fun s16 => (if kdo (ix ((s16 6) 0 4)) = 1 then (if x3 = 100 then f_X3_readClause_J112 s16 x7 (ix ((s16 6) 0 4)) else f_X3_readClause_J112 s16 (-x7) (ix ((s16 6) 0 4))) else none)))))))) else none)))
set_option maxHeartbeats 4000000 in
set_option maxRecDepth 100000 in
theorem c_X3_readClause (l : Launch) (G : GE) {lm : Ml}  {s : Mm} {sz : Mm} (h : f_X3_readClause s = some sz) : CM l G yX3_readClause bX3_readClause 3 (Option.none : Option Jvm.ClassFile.FieldType) rm_X3_readClause [.ref (gA G 6 0)] s lm (none) sz lm := by
  refine CM.of (own := zR3) (L0 := [(0, .ref (gA G 6 0))]) (by decide +kernel) rfl (Nat.le_of_ble_eq_true rfl) rfl (fun X hl hX hR hQ => ?_)
  have K112 : ∀ (s : Mm) (w0 : Int32) (w1 : Nat) (hw1 : kdo w1 = 1) (_ : True), f_X3_readClause_J112 s w0 w1 = some sz → WW X G 3 s lm 112 [] [.int w0, .ref (gA G w1 0)] := by
    intro s w0 w1 hw1 _ h
    unfold f_X3_readClause_J112 at h
    obtain ⟨p1, hc1, h⟩ := bn_e h
    obtain ⟨s2, hs2, h⟩ := nb_e h
    refine r_callVv hX hR (c_X1_addPrice (σ := s) X.2.1 G hw1 hc1) m1_i hs2.symm mf_X1_addPrice ml_X3_76 in_X1_addPrice se_X1_addPrice hw1 rfl ⟨rfl, rfl, Nat.le_of_ble_eq_true rfl, Nat.le_of_ble_eq_true rfl⟩ rfl (st := []) rfl (Nat.le_of_ble_eq_true rfl) dX3_readClause_112 ?_
    have g0 := Option.some.inj h
    subst g0
    exact r_vret hX hQ dX3_readClause_115
  unfold f_X3_readClause at h
  refine r_aload_n hX rfl 0 rfl dX3_readClause_0 ?_
  obtain ⟨x3, hc3, h⟩ := bn_e h
  refine r_callVi hX hR (c_X3_sign X.2.1 G hc3) rfl rfl mf_X3_sign ml_X3_37 in_X3_sign se_X3_sign rfl rfl ⟨rfl, rfl, Nat.le_of_ble_eq_true rfl, Nat.le_of_ble_eq_true rfl⟩ rfl (st := []) rfl (Nat.le_of_ble_eq_true rfl) dX3_readClause_1 ?_
  refine r_istore_n (L2 := [(1, .int x3), (0, .ref (gA G 6 0))]) hX rfl (by decide) rfl dX3_readClause_4 ?_
  refine r_aload_n hX rfl 1 rfl dX3_readClause_5 ?_
  refine r_iload_n hX rfl 0 rfl dX3_readClause_6 ?_
  obtain ⟨x4, hc4, h⟩ := bn_e h
  obtain ⟨hk5, h⟩ := kc_e h
  refine r_callSi hX hR (c_X3_wordOf (σ := s) X.2.1 G hc4) rfl rfl mf_X3_wordOf ml_X3_53 st_X3_wordOf ⟨rfl, rfl, Nat.le_of_ble_eq_true rfl, Nat.le_of_ble_eq_true rfl⟩ rfl (st := [.ref (gA G 6 0)]) rfl (Nat.le_of_ble_eq_true rfl) dX3_readClause_7 ?_
  obtain ⟨s6, hc6, h⟩ := bn_e h
  refine r_callVv hX hR (c_X3_expectWord X.2.1 G hk5 hc6) rfl rfl mf_X3_expectWord ml_X3_57 in_X3_expectWord se_X3_expectWord rfl rfl ⟨rfl, rfl, Nat.le_of_ble_eq_true rfl, Nat.le_of_ble_eq_true rfl⟩ rfl (st := []) rfl (Nat.le_of_ble_eq_true rfl) dX3_readClause_10 ?_
  refine r_aload_n hX rfl 1 rfl dX3_readClause_13 ?_
  obtain ⟨x7, s8, hc8, h⟩ := bn2_e h
  refine r_callVi hX hR (c_X3_readNumber X.2.1 G hc8) rfl rfl mf_X3_readNumber ml_X3_61 in_X3_readNumber se_X3_readNumber rfl rfl ⟨rfl, rfl, Nat.le_of_ble_eq_true rfl, Nat.le_of_ble_eq_true rfl⟩ rfl (st := []) rfl (Nat.le_of_ble_eq_true rfl) dX3_readClause_14 ?_
  refine r_istore_n (L2 := [(2, .int x7), (1, .int x3), (0, .ref (gA G 6 0))]) hX rfl (by decide) rfl dX3_readClause_17 ?_
  refine r_iload_n hX rfl 1 rfl dX3_readClause_18 ?_
  by_cases hc0 : x3 = 102
  · replace h := ip_e hc0 h
    refine r_lsw (off := 55) (tgt := 74) hX (by decide) (by rw [hc0]; rfl) (by decide) dX3_readClause_19 ?_
    refine r_aload_n hX rfl 2 rfl dX3_readClause_74 ?_
    obtain ⟨hk9, h⟩ := kc_e h
    refine gf_3_4 (o := 6) hX fl_X3_27 rfl rfl dX3_readClause_75 ?_
    refine r_iload_n hX rfl 0 rfl dX3_readClause_78 ?_
    obtain ⟨s10, hs10, h⟩ := nb_e h
    refine pf_1_2 hX fl_X3_70 hk9 rfl dX3_readClause_79 hs10.symm ?_
    refine r_goto hX dX3_readClause_82 ?_
    have g0 := Option.some.inj h
    subst g0
    exact r_vret hX hQ dX3_readClause_115
  · replace h := in_e hc0 h
    by_cases hc1 : x3 = 109
    · replace h := ip_e hc1 h
      refine r_lsw (off := 33) (tgt := 52) hX (by decide) (by rw [hc1]; rfl) (by decide) dX3_readClause_19 ?_
      refine r_aload_n hX rfl 2 rfl dX3_readClause_52 ?_
      obtain ⟨hk11, h⟩ := kc_e h
      refine gf_3_4 (o := 6) hX fl_X3_27 rfl rfl dX3_readClause_53 ?_
      refine r_iload_n hX rfl 0 rfl dX3_readClause_56 ?_
      obtain ⟨s12, hs12, h⟩ := nb_e h
      refine pf_1_0 hX fl_X3_64 hk11 rfl dX3_readClause_57 hs12.symm ?_
      refine r_goto hX dX3_readClause_60 ?_
      have g0 := Option.some.inj h
      subst g0
      exact r_vret hX hQ dX3_readClause_115
    · replace h := in_e hc1 h
      by_cases hc2 : x3 = 115
      · replace h := ip_e hc2 h
        refine r_lsw (off := 44) (tgt := 63) hX (by decide) (by rw [hc2]; rfl) (by decide) dX3_readClause_19 ?_
        refine r_aload_n hX rfl 2 rfl dX3_readClause_63 ?_
        obtain ⟨hk13, h⟩ := kc_e h
        refine gf_3_4 (o := 6) hX fl_X3_27 rfl rfl dX3_readClause_64 ?_
        refine r_iload_n hX rfl 0 rfl dX3_readClause_67 ?_
        obtain ⟨s14, hs14, h⟩ := nb_e h
        refine pf_1_1 hX fl_X3_67 hk13 rfl dX3_readClause_68 hs14.symm ?_
        refine r_goto hX dX3_readClause_71 ?_
        have g0 := Option.some.inj h
        subst g0
        exact r_vret hX hQ dX3_readClause_115
      · replace h := in_e hc2 h
        have hD : WW X G 3 s8 lm 85 [(2, .int x7), (1, .int x3), (0, .ref (gA G 6 0))] [] := by
          refine r_aload_n hX rfl 2 rfl dX3_readClause_85 ?_
          refine r_bipush (v := 32) hX (by decide) dX3_readClause_86 ?_
          obtain ⟨s15, hc15, h⟩ := bn_e h
          refine r_callVv hX hR (c_X3_expect X.2.1 G hc15) rfl rfl mf_X3_expect ml_X3_49 in_X3_expect se_X3_expect rfl rfl ⟨rfl, rfl, Nat.le_of_ble_eq_true rfl, Nat.le_of_ble_eq_true rfl⟩ rfl (st := []) rfl (Nat.le_of_ble_eq_true rfl) dX3_readClause_88 ?_
          refine r_aload_n hX rfl 2 rfl dX3_readClause_91 ?_
          refine r_iconst (v := 0) hX (by decide) dX3_readClause_92 ?_
          obtain ⟨s16, hc16, h⟩ := bn_e h
          refine r_callVv hX hR (c_X3_readEither (n := 40) X.2.1 G (c_X3_readPartE X.2.1 G 40) hc16) rfl rfl mf_X3_readEither ml_X3_73 in_X3_readEither se_X3_readEither rfl rfl ⟨rfl, rfl, Nat.le_of_ble_eq_true rfl, Nat.le_of_ble_eq_true rfl⟩ rfl (st := []) rfl (Nat.le_of_ble_eq_true rfl) dX3_readClause_93 ?_
          refine r_aload_n hX rfl 2 rfl dX3_readClause_96 ?_
          obtain ⟨hk17, h⟩ := kc_e h
          refine gf_3_4 (o := 6) hX fl_X3_27 rfl rfl dX3_readClause_97 ?_
          refine r_iload_n hX rfl 1 rfl dX3_readClause_100 ?_
          refine r_bipush (v := 100) hX (by decide) dX3_readClause_101 ?_
          refine r_icmp_ne hX dX3_readClause_103 (fun hc => ?_) (fun hc => ?_)
          · replace h := in_e hc h
            refine r_iload_n hX rfl 0 rfl dX3_readClause_110 ?_
            refine r_ineg hX dX3_readClause_111 ?_
            exact WW.sub [] rfl (K112 s16 (-x7) (ix ((s16 6) 0 4)) hk17 trivial h)
          · replace h := ip_e hc h
            refine r_iload_n hX rfl 0 rfl dX3_readClause_106 ?_
            refine r_goto hX dX3_readClause_107 ?_
            exact WW.sub [] rfl (K112 s16 x7 (ix ((s16 6) 0 4)) hk17 trivial h)
        have j0 := i32n (n := 102) hc0 rfl
        have j1 := i32n (n := 109) hc1 rfl
        have j2 := i32n (n := 115) hc2 rfl
        refine r_lsw (off := 66) (tgt := 85) hX (by decide) ?_ (by decide) dX3_readClause_19 hD
        simp [Op.lookupswitch.offset, j0, Ne.symm j0, j1, Ne.symm j1, j2, Ne.symm j2]
abbrev rm_X3_readInto : Room := { frames := 99, cells := 0, slots := 0, locals := 3926 }
def f_X3_readInto_J88 (s : Mm) : Option (Int32 × Mm) :=
  some (((s 6) 0 1), s)
def f_X3_readInto_J70 (s : Mm) : Option (Int32 × Mm) :=
  (if ((s 6) 0 2) = 0 then (if ((s 6) 0 0) ≤ ((s 6) 0 1) then some ((-1), s) else f_X3_readInto_J88 s) else f_X3_readInto_J88 s)
def f_X3_readInto_B28 (v2 : Int32) (s : Mm) : Option ((Int32 × Mm) ⊕ (Mm)) :=
  (if 10 ≤ v2 then some (.inr s) else (if ((s 6) 0 2) = 0 then Option.bind (f_X3_sign s) (fun x1 => (if x1 = 59 then nb (setO s 6 (up2 (s 6) 0 1 (((s 6) 0 1) + 1))) (fun s2 => Option.bind (f_X3_readClause s2) (fun s3 => some (.inl ((v2 + 1), s3)))) else some (.inr s))) else some (.inr s)))
def f_X3_readInto_H28 (s : Mm) (v2 : Int32) : Option (Int32 × Mm) :=
  Option.bind (iter (fun t => f_X3_readInto_B28 t.1 t.2) 200 (v2, s)) (fun s => f_X3_readInto_J70 s)
def f_X3_readInto (s : Mm) (a1 : Nat) : Option (Int32 × Mm) :=
  nb (setO s 6 (up2 (s 6) 0 4 (nI a1))) (fun s4 => (if kdo (ix ((s4 6) 0 4)) = 1 then Option.bind (f_X1_clear (s4 (ix ((s4 6) 0 4)))) (fun p6 => nb (setO s4 (ix ((s4 6) 0 4)) p6) (fun s7 => nb (setO s7 6 (up2 (s7 6) 0 1 0)) (fun s8 => nb (setO s8 6 (up2 (s8 6) 0 2 0)) (fun s9 => Option.bind (f_X3_readClause s9) (fun s10 => f_X3_readInto_H28 s10 1))))) else none))
set_option maxHeartbeats 4000000 in
set_option maxRecDepth 100000 in
theorem c_X3_readInto (l : Launch) (G : GE) {lm : Ml}  {s : Mm} {a1 : Nat} (ha1 : kdo a1 = 1) {rz : Int32} {sz : Mm} (h : f_X3_readInto s a1 = some (rz, sz)) : CM l G yX3_readInto bX3_readInto 3 (Option.some Jvm.ClassFile.FieldType.int) rm_X3_readInto [.ref (gA G 6 0), .ref (gA G a1 0)] s lm (some (.int rz)) sz lm := by
  refine CM.of (own := zR3) (L0 := [(0, .ref (gA G 6 0)), (1, .ref (gA G a1 0))]) (by decide +kernel) rfl (Nat.le_of_ble_eq_true rfl) rfl (fun X hl hX hR hQ => ?_)
  have K88 : ∀ (s : Mm) (_ : True), f_X3_readInto_J88 s = some (rz, sz) → WW X G 3 s lm 88 [(0, .ref (gA G 6 0))] [] := by
    intro s _ h
    unfold f_X3_readInto_J88 at h
    refine r_aload_n hX rfl 0 rfl dX3_readInto_88 ?_
    refine gf_3_1 (o := 6) hX fl_X3_13 rfl rfl dX3_readInto_89 ?_
    refine r_goto hX dX3_readInto_92 ?_
    have g0 := Option.some.inj h
    obtain ⟨q0, g1⟩ := Prod.mk.inj g0
    subst q0
    subst g1
    exact r_iret hX hQ dX3_readInto_96
  have K70 : ∀ (s : Mm) (_ : True), f_X3_readInto_J70 s = some (rz, sz) → WW X G 3 s lm 70 [(0, .ref (gA G 6 0))] [] := by
    intro s _ h
    unfold f_X3_readInto_J70 at h
    refine r_aload_n hX rfl 0 rfl dX3_readInto_70 ?_
    refine gf_3_2 (o := 6) hX fl_X3_16 rfl rfl dX3_readInto_71 ?_
    refine r_if_ne hX dX3_readInto_74 (fun hc => ?_) (fun hc => ?_)
    · replace h := in_e hc h
      exact WW.sub [0] rfl (K88 s trivial h)
    · replace h := ip_e hc h
      refine r_aload_n hX rfl 0 rfl dX3_readInto_77 ?_
      refine gf_3_1 (o := 6) hX fl_X3_13 rfl rfl dX3_readInto_78 ?_
      refine r_aload_n hX rfl 0 rfl dX3_readInto_81 ?_
      refine gf_3_0 (o := 6) hX fl_X3_7 rfl rfl dX3_readInto_82 ?_
      refine r_icmp_ge hX dX3_readInto_85 (fun hc => ?_) (fun hc => ?_)
      · replace h := ip_e hc h
        refine r_iconst (v := (-1)) hX (by decide) dX3_readInto_95 ?_
        have g0 := Option.some.inj h
        obtain ⟨q0, g1⟩ := Prod.mk.inj g0
        subst q0
        subst g1
        exact r_iret hX hQ dX3_readInto_96
      · replace h := in_e hc h
        exact WW.sub [0] rfl (K88 s trivial h)
  have K28 : ∀ (s : Mm) (v2 : Int32) (_ : True), f_X3_readInto_H28 s v2 = some (rz, sz) → WW X G 3 s lm 28 [(0, .ref (gA G 6 0)), (2, .int v2)] [] := by
    intro s v2 _ h
    unfold f_X3_readInto_H28 at h
    obtain ⟨e_s, hit, hO⟩ := bn_e h
    refine iter_w (P := fun t : Int32 × Mm => WW X G 3 t.2 lm 28 [(0, .ref (gA G 6 0)), (2, .int t.1)] []) (x := e_s) ?_ 200 (v2, s) hit
    clear hit
    intro t z1 hb hin1 hex1
    obtain ⟨v2, s⟩ := t
    have h : f_X3_readInto_B28 v2 s = some z1 := hb
    clear hb
    unfold f_X3_readInto_B28 at h
    refine r_iload_n hX rfl 1 rfl dX3_readInto_28 ?_
    refine r_bipush (v := 10) hX (by decide) dX3_readInto_29 ?_
    refine r_icmp_ge hX dX3_readInto_31 (fun hc => ?_) (fun hc => ?_)
    · replace h := ip_e hc h
      have g0 := hex1 _ (Option.some.inj h).symm
      subst g0
      exact WW.sub [0] rfl (K70 s trivial hO)
    · replace h := in_e hc h
      refine r_aload_n hX rfl 0 rfl dX3_readInto_34 ?_
      refine gf_3_2 (o := 6) hX fl_X3_16 rfl rfl dX3_readInto_35 ?_
      refine r_if_ne hX dX3_readInto_38 (fun hc => ?_) (fun hc => ?_)
      · replace h := in_e hc h
        have g0 := hex1 _ (Option.some.inj h).symm
        subst g0
        exact WW.sub [0] rfl (K70 s trivial hO)
      · replace h := ip_e hc h
        refine r_aload_n hX rfl 0 rfl dX3_readInto_41 ?_
        obtain ⟨x1, hc1, h⟩ := bn_e h
        refine r_callVi hX hR (c_X3_sign X.2.1 G hc1) rfl rfl mf_X3_sign ml_X3_37 in_X3_sign se_X3_sign rfl rfl ⟨rfl, rfl, Nat.le_of_ble_eq_true rfl, Nat.le_of_ble_eq_true rfl⟩ rfl (st := []) rfl (Nat.le_of_ble_eq_true rfl) dX3_readInto_42 ?_
        refine r_bipush (v := 59) hX (by decide) dX3_readInto_45 ?_
        refine r_icmp_ne hX dX3_readInto_47 (fun hc => ?_) (fun hc => ?_)
        · replace h := in_e hc h
          have g0 := hex1 _ (Option.some.inj h).symm
          subst g0
          exact WW.sub [0] rfl (K70 s trivial hO)
        · replace h := ip_e hc h
          refine r_aload_n hX rfl 0 rfl dX3_readInto_50 ?_
          refine r_dup hX rfl dX3_readInto_51 ?_
          refine gf_3_1 (o := 6) hX fl_X3_13 rfl rfl dX3_readInto_52 ?_
          refine r_iconst (v := 1) hX (by decide) dX3_readInto_55 ?_
          refine r_iadd hX dX3_readInto_56 ?_
          obtain ⟨s2, hs2, h⟩ := nb_e h
          refine pf_3_1 (o := 6) hX fl_X3_13 rfl rfl dX3_readInto_57 hs2.symm ?_
          refine r_aload_n hX rfl 0 rfl dX3_readInto_60 ?_
          obtain ⟨s3, hc3, h⟩ := bn_e h
          refine r_callVv hX hR (c_X3_readClause X.2.1 G hc3) rfl rfl mf_X3_readClause ml_X3_34 in_X3_readClause se_X3_readClause rfl rfl ⟨rfl, rfl, Nat.le_of_ble_eq_true rfl, Nat.le_of_ble_eq_true rfl⟩ rfl (st := []) rfl (Nat.le_of_ble_eq_true rfl) dX3_readInto_61 ?_
          refine r_iinc (v := v2 + 1) (L2 := [(2, .int (v2 + 1)), (0, .ref (gA G 6 0))]) hX 1 rfl rfl (by decide) rfl dX3_readInto_64 ?_
          refine r_goto hX dX3_readInto_67 ?_
          exact WW.sub [1, 0] rfl (hin1 _ (Option.some.inj h).symm)
  unfold f_X3_readInto at h
  refine r_aload_n hX rfl 0 rfl dX3_readInto_0 ?_
  refine r_aload_n hX rfl 1 rfl dX3_readInto_1 ?_
  obtain ⟨s4, hs4, h⟩ := nb_e h
  refine pf_3_4 (o := 6) ha1 hX fl_X3_27 rfl rfl dX3_readInto_2 hs4.symm ?_
  refine r_aload_n hX rfl 0 rfl dX3_readInto_5 ?_
  obtain ⟨hk5, h⟩ := kc_e h
  refine gf_3_4 (o := 6) hX fl_X3_27 rfl rfl dX3_readInto_6 ?_
  obtain ⟨p6, hc6, h⟩ := bn_e h
  obtain ⟨s7, hs7, h⟩ := nb_e h
  refine r_callVv hX hR (c_X1_clear (σ := s4) X.2.1 G hk5 hc6) m1_i hs7.symm mf_X1_clear ml_X3_31 in_X1_clear se_X1_clear hk5 rfl ⟨rfl, rfl, Nat.le_of_ble_eq_true rfl, Nat.le_of_ble_eq_true rfl⟩ rfl (st := []) rfl (Nat.le_of_ble_eq_true rfl) dX3_readInto_9 ?_
  refine r_aload_n hX rfl 0 rfl dX3_readInto_12 ?_
  refine r_iconst (v := 0) hX (by decide) dX3_readInto_13 ?_
  obtain ⟨s8, hs8, h⟩ := nb_e h
  refine pf_3_1 (o := 6) hX fl_X3_13 rfl rfl dX3_readInto_14 hs8.symm ?_
  refine r_aload_n hX rfl 0 rfl dX3_readInto_17 ?_
  refine r_iconst (v := 0) hX (by decide) dX3_readInto_18 ?_
  obtain ⟨s9, hs9, h⟩ := nb_e h
  refine pf_3_2 (o := 6) (Or.inl rfl) hX fl_X3_16 rfl rfl dX3_readInto_19 hs9.symm ?_
  refine r_aload_n hX rfl 0 rfl dX3_readInto_22 ?_
  obtain ⟨s10, hc10, h⟩ := bn_e h
  refine r_callVv hX hR (c_X3_readClause X.2.1 G hc10) rfl rfl mf_X3_readClause ml_X3_34 in_X3_readClause se_X3_readClause rfl rfl ⟨rfl, rfl, Nat.le_of_ble_eq_true rfl, Nat.le_of_ble_eq_true rfl⟩ rfl (st := []) rfl (Nat.le_of_ble_eq_true rfl) dX3_readInto_23 ?_
  refine r_iconst (v := 1) hX (by decide) dX3_readInto_26 ?_
  refine r_istore_n (L2 := [(2, .int 1), (0, .ref (gA G 6 0)), (1, .ref (gA G a1 0))]) hX rfl (by decide) rfl dX3_readInto_27 ?_
  exact WW.sub [1, 0] rfl (K28 s10 1 trivial h)
