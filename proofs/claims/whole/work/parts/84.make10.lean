/-! making 10: what the machine holds at the start: classes, constants, texts (written by wip/whole/make/gen84.py) -/
def SFA (gx : Nat → Nat) (A : Nat → Prop) (U : State) (H : Heap) : Prop :=
  va_Z "WellLendsDepth" "ABOVE" "[I" (.ref (gx 0)) A U H ∧ va_T .int (gx 0) 7 (fun j => .int (tAb j)) A U H ∧
  va_Z "WellLendsDepth$Actor" "BODIES" "[I" (.ref (gx 1)) A U H ∧ va_T .int (gx 1) 21 (fun j => .int (tBo j)) A U H ∧
  va_Z "java/lang/String" "COMPACT_STRINGS" "Z" (.int 1) A U H ∧ va_Zq "jdk/internal/util/Preconditions" "SIOOBE_FORMATTER" "Ljava/util/function/BiFunction;" A U H ∧
  vk_S 7 sLn sBy (fun k => gx (10 + k)) (fun k => gx (20 + k)) A U H
def BG (gc : Nat → ClassId) (D : va_G) (gx : Nat → Nat) (s : State) : Prop := va_K D cl8 (tyG gc) s ∧ LK gc s ∧ EX s ∧ SFA gx (fun q => s.heap.size ≤ q) s s.heap ∧ (∀ (k : Nat) (q : Nat × String), sTx[k]? = some q → vk_R "WellLendsDepth$Reader" q.1 q.2 (gx (10 + k)) s) ∧ va_Nw (.fieldLinkNest "WellLendsDepth$Actor" 41 "WellLendsDepth" "ABOVE" "[I" "WellLendsDepth") s
theorem w_ab : Cond.laysStatic "WellLendsDepth" "ABOVE" "[I" ∈ lw_tbl := sm_4 (List.mem_of_getElem? (i := 6) (by decide +kernel))
theorem w_bo : Cond.laysStatic "WellLendsDepth$Actor" "BODIES" "[I" ∈ lw_tbl := sm_4 (List.mem_of_getElem? (i := 4) (by decide +kernel))
theorem w_cs : Cond.laysStatic "java/lang/String" "COMPACT_STRINGS" "Z" ∈ lw_tbl := sm_2 (List.mem_of_getElem? (i := 194) (by decide +kernel))
theorem w_sf : Cond.laysStatic "jdk/internal/util/Preconditions" "SIOOBE_FORMATTER" "Ljava/util/function/BiFunction;" ∈ lw_tbl := sm_2 (List.mem_of_getElem? (i := 210) (by decide +kernel))
theorem w_i1 : Cond.initialized "WellLendsDepth" ∈ lw_tbl := sm_1 (List.mem_of_getElem? (i := 1) (by decide +kernel))
theorem w_i6 : Cond.initialized "WellLendsDepth$Actor" ∈ lw_tbl := sm_1 (List.mem_of_getElem? (i := 6) (by decide +kernel))
theorem w_i10 : Cond.initialized "java/lang/String" ∈ lw_tbl := sm_1 (List.mem_of_getElem? (i := 10) (by decide +kernel))
theorem w_i12 : Cond.initialized "jdk/internal/util/Preconditions" ∈ lw_tbl := sm_1 (List.mem_of_getElem? (i := 12) (by decide +kernel))
theorem w_s0 : Cond.stringRef "WellLendsDepth$Reader" 79 "cheap " ∈ lw_tbl := sm_2 (List.mem_of_getElem? (i := 176) (by decide +kernel))
theorem w_s1 : Cond.stringRef "WellLendsDepth$Reader" 81 "mark " ∈ lw_tbl := sm_2 (List.mem_of_getElem? (i := 177) (by decide +kernel))
theorem w_s2 : Cond.stringRef "WellLendsDepth$Reader" 83 "spring " ∈ lw_tbl := sm_2 (List.mem_of_getElem? (i := 178) (by decide +kernel))
theorem w_s3 : Cond.stringRef "WellLendsDepth$Reader" 85 "fine " ∈ lw_tbl := sm_2 (List.mem_of_getElem? (i := 179) (by decide +kernel))
theorem w_s4 : Cond.stringRef "WellLendsDepth$Reader" 87 "dear " ∈ lw_tbl := sm_2 (List.mem_of_getElem? (i := 180) (by decide +kernel))
theorem w_s5 : Cond.stringRef "WellLendsDepth$Reader" 99 "bkvhld" ∈ lw_tbl := sm_3 (List.mem_of_getElem? (i := 17) (by decide +kernel))
theorem w_s6 : Cond.stringRef "WellLendsDepth$Reader" 105 "<=>" ∈ lw_tbl := sm_3 (List.mem_of_getElem? (i := 21) (by decide +kernel))
theorem w_fn : Cond.fieldLinkNest "WellLendsDepth$Actor" 41 "WellLendsDepth" "ABOVE" "[I" "WellLendsDepth" ∈ lw_tbl := sm_4 (List.mem_of_getElem? (i := 5) (by decide +kernel))
def tmS (i : Nat) : Term := .string "WellLendsDepth$Reader" (([79, 81, 83, 85, 87, 99, 105] : List Nat).getD i 0)
abbrev nwC : List Cond := flatC (Cond.and given_1 narrow_1)
theorem nw_ab : ∀ j : Nat, j < 7 → Cond.eq (.elem (.static "WellLendsDepth" "ABOVE" "[I") (.int (Int32.ofNat j))) (.int (tAb j)) ∈ nwC := by decide +kernel
theorem nw_bo : ∀ j : Nat, j < 21 → Cond.eq (.elem (.static "WellLendsDepth$Actor" "BODIES" "[I") (.int (Int32.ofNat j))) (.int (tBo j)) ∈ nwC := by decide +kernel
theorem nw_ex : ∀ i : Nat, i < 7 → Cond.exactly (tmS i) "java/lang/String" ∈ nwC := by decide +kernel
theorem nw_co : ∀ i : Nat, i < 7 → Cond.eq (.field (tmS i) "java/lang/String" "coder" "B") (.int 0) ∈ nwC := by decide +kernel
theorem nw_ar : ∀ i : Nat, i < 7 → Cond.arrayOf (.field (tmS i) "java/lang/String" "value" "[B") .byte ∈ nwC := by decide +kernel
theorem nw_le : ∀ i : Nat, i < 7 → Cond.eq (.length (.field (tmS i) "java/lang/String" "value" "[B")) (.int (Int32.ofNat (sLn.getD i 0))) ∈ nwC := by decide +kernel
theorem nw_el : ∀ i : Nat, i < 7 → ∀ j : Nat, j < sLn.getD i 0 → Cond.eq (.elem (.field (tmS i) "java/lang/String" "value" "[B") (.int (Int32.ofNat j))) (.int ((sBy.getD i []).getD j 0)) ∈ nwC := by decide +kernel
theorem nw_ne : ∀ i : Nat, i < 7 → ∀ j : Nat, j < 7 → i ≠ j → Cond.not (Cond.eq (tmS i) (tmS j)) ∈ nwC ∨ Cond.not (Cond.eq (tmS j) (tmS i)) ∈ nwC := by decide +kernel
theorem nw_1 : Cond.arrayOf (.static "WellLendsDepth" "ABOVE" "[I") .int ∈ nwC ∧ Cond.eq (.length (.static "WellLendsDepth" "ABOVE" "[I")) (.int 7) ∈ nwC ∧ Cond.arrayOf (.static "WellLendsDepth$Actor" "BODIES" "[I") .int ∈ nwC ∧ Cond.eq (.length (.static "WellLendsDepth$Actor" "BODIES" "[I")) (.int 21) ∈ nwC ∧ Cond.eq (.static "java/lang/String" "COMPACT_STRINGS" "Z") (.int 1) ∈ nwC ∧ Cond.isRef (.static "jdk/internal/util/Preconditions" "SIOOBE_FORMATTER" "Ljava/util/function/BiFunction;") ∈ nwC := by decide +kernel
theorem ka_prim {args : Array Value} {s : State} {ty : FieldType} (h : (Cond.arrayClass ty).before args s = true) (hra : ∀ cA : ClassId, s.vm.findClass (FieldType.array ty).toString = some cA → va_RA s cA ty) : ∃ cA : ClassId, ArrOfT s cA ty ∧ va_RA s cA ty := by
  obtain ⟨cA, k, cc, h1, h2, h3⟩ := Cond.arrayClass_spec h
  exact ⟨cA, fun N z => ⟨(fun k h => by cases h), k, h2, cc, h3⟩, hra cA h1⟩
theorem ex_of {args : Array Value} {s : State} (hts : ∀ w ∈ lw_tbl, w.before args s = true) : EX s := ⟨va_Nw.of rfl (hts _ mn_X6_11), va_Nw.of rfl (hts _ mn_X6_26), va_Nw.of rfl (hts _ mn_X6_36), va_Nw.of rfl (hts _ mn_X6_43), va_Nw.of rfl (hts _ mn_X6_54), va_Nw.of rfl (hts _ mn_X3_26), va_AO.of (hts _ ao_C)⟩
theorem sfa_of {args : Array Value} {s : State} (hts : ∀ w ∈ lw_tbl, w.before args s = true) (hn : ∀ w ∈ nwC, w.before args s = true) : ∃ gx : Nat → Nat, SFA gx (fun q => s.heap.size ≤ q) s s.heap ∧ ∀ (k : Nat) (q : Nat × String), sTx[k]? = some q → vk_R "WellLendsDepth$Reader" q.1 q.2 (gx (10 + k)) s := by
  have hA : ∀ a : Nat, a < s.heap.size → ¬ (fun q => s.heap.size ≤ q) a := fun a h => Nat.not_le.mpr h
  obtain ⟨n1, n2, n3, n4, n5, n6⟩ := nw_1
  obtain ⟨tA, eA, hTA⟩ := va_Tof (N := 7) (f := fun j => .int (tAb j)) (by decide) (hn _ n1) (va_eqt (hn _ n2)) (fun j hj => va_eqt (hn _ (nw_ab j hj))) hA
  obtain ⟨tB, eB, hTB⟩ := va_Tof (N := 21) (f := fun j => .int (tBo j)) (by decide) (hn _ n3) (va_eqt (hn _ n4)) (fun j hj => va_eqt (hn _ (nw_bo j hj))) hA
  obtain ⟨adK, adV, hS, hE⟩ := vk_Sof (N := 7) (tm := tmS) (len := sLn) (byt := sBy) (by decide +kernel) (fun i hi => hn _ (nw_ex i hi)) (fun i hi => hn _ (nw_co i hi)) (fun i hi => hn _ (nw_ar i hi)) (fun i hi => hn _ (nw_le i hi)) (fun i hi j hj => hn _ (nw_el i hi j hj)) (fun i j hi hj hij => (nw_ne i hi j hj hij).imp (hn _) (hn _)) hA
  refine ⟨fun n => if n = 0 then tA else if n = 1 then tB else if n < 20 then adK (n - 10) else adV (n - 20), ⟨va_Zof (hts _ w_ab) (hts _ w_i1) eA hA, hTA, va_Zof (hts _ w_bo) (hts _ w_i6) eB hA, hTB, va_Zof (hts _ w_cs) (hts _ w_i10) (va_eqt (hn _ n5)) hA, va_Zqof (hts _ w_sf) (hts _ w_i12) (hn _ n6) hA, ?_⟩, ?_⟩
  · have eK : ∀ i : Nat, i < 7 → (fun n => if n = 0 then tA else if n = 1 then tB else if n < 20 then adK (n - 10) else adV (n - 20)) (10 + i) = adK i := by
      intro i hi
      show (if 10 + i = 0 then tA else if 10 + i = 1 then tB else if 10 + i < 20 then adK (10 + i - 10) else adV (10 + i - 20)) = adK i
      rw [if_neg (by omega), if_neg (by omega), if_pos (by omega), Nat.add_sub_cancel_left]
    have eV : ∀ i : Nat, i < 7 → (fun n => if n = 0 then tA else if n = 1 then tB else if n < 20 then adK (n - 10) else adV (n - 20)) (20 + i) = adV i := by
      intro i hi
      show (if 20 + i = 0 then tA else if 20 + i = 1 then tB else if 20 + i < 20 then adK (20 + i - 10) else adV (20 + i - 20)) = adV i
      rw [if_neg (by omega), if_neg (by omega), if_neg (by omega), Nat.add_sub_cancel_left]
    generalize (fun n => if n = 0 then tA else if n = 1 then tB else if n < 20 then adK (n - 10) else adV (n - 20)) = gx at eK eV
    refine ⟨fun i hi => ?_, fun i j hi hj e => hS.2 i j hi hj ?_⟩
    · have h := hS.1 i hi
      rw [← eK i hi, ← eV i hi] at h
      exact h
    · rw [← eK i hi, ← eK j hj]
      exact e
  · intro k q hk
    match k, hk with
    | 0, hk => cases hk; exact vk_R.of (hts _ w_s0) (hE 0 (by decide))
    | 1, hk => cases hk; exact vk_R.of (hts _ w_s1) (hE 1 (by decide))
    | 2, hk => cases hk; exact vk_R.of (hts _ w_s2) (hE 2 (by decide))
    | 3, hk => cases hk; exact vk_R.of (hts _ w_s3) (hE 3 (by decide))
    | 4, hk => cases hk; exact vk_R.of (hts _ w_s4) (hE 4 (by decide))
    | 5, hk => cases hk; exact vk_R.of (hts _ w_s5) (hE 5 (by decide))
    | 6, hk => cases hk; exact vk_R.of (hts _ w_s6) (hE 6 (by decide))
    | k + 7, hk => cases hk
theorem kn_of {args : Array Value} {s : State} (hg : ∀ w ∈ gT, w.before args s = true) : ∃ D : va_G, ∀ (c : Nat) (q : vw_C), cl8[c]? = some q → u_Kn s q.1 q.2.1 q.2.2 (D.1 c) (D.2 c) := by
  obtain ⟨c0, i0, k0⟩ := u_known hg zin0 (hg _ ib_0)
  obtain ⟨c1, i1, k1⟩ := u_known hg zin1 (hg _ ib_1)
  obtain ⟨c2, i2, k2⟩ := u_known hg zin2 (hg _ ib_2)
  obtain ⟨c3, i3, k3⟩ := u_known hg zin3 (hg _ ib_3)
  obtain ⟨c4, i4, k4⟩ := u_known hg zin4 (hg _ ib_4)
  obtain ⟨c5, i5, k5⟩ := u_known hg zin5 (hg _ ib_5)
  obtain ⟨c6, i6, k6⟩ := u_known hg zin6 (hg _ ib_6)
  obtain ⟨c7, i7, k7⟩ := u_known hg zin7 (hg _ ib_7)
  refine ⟨(fun c => match c with | 0 => c0 | 1 => c1 | 2 => c2 | 3 => c3 | 4 => c4 | 5 => c5 | 6 => c6 | _ => c7, fun c => match c with | 0 => i0 | 1 => i1 | 2 => i2 | 3 => i3 | 4 => i4 | 5 => i5 | 6 => i6 | _ => i7), fun c q hq => ?_⟩
  match c, hq with
  | 0, hq => cases hq; exact k0
  | 1, hq => cases hq; exact k1
  | 2, hq => cases hq; exact k2
  | 3, hq => cases hq; exact k3
  | 4, hq => cases hq; exact k4
  | 5, hq => cases hq; exact k5
  | 6, hq => cases hq; exact k6
  | 7, hq => cases hq; exact k7
  | c + 8, hq => cases hq
theorem bg_of {args : Array Value} {s : State} (hts : ∀ w ∈ lw_tbl, w.before args s = true) (hn : ∀ w ∈ nwC, w.before args s = true) : ∃ (gc : Nat → ClassId) (D : va_G) (gx : Nat → Nat), BG gc D gx s := by
  have hg : ∀ w ∈ gT, w.before args s = true := fun w hw => hts w (List.mem_filter.mp hw).1
  obtain ⟨D, hD⟩ := kn_of hg
  obtain ⟨gx, hS, hR⟩ := sfa_of hts hn
  obtain ⟨g0, a0, r0⟩ := ka_prim (hg _ ac_int) (fun _ h => h)
  obtain ⟨g2, a2, r2⟩ := ka_prim (hg _ ac_boolean) (fun _ h => h)
  obtain ⟨comp3, g3, k3, x1, x2, x3, x4, x5⟩ := Cond.arrayOver_spec (hts _ ao_C)
  obtain ⟨g1, g4, k4, y1, y2, y3, y4, y5⟩ := arrayOverA_spec (hts _ ao_L)
  obtain ⟨g1', kC, c0, z1, z2, z3⟩ := Cond.arrayClass_spec (hg _ ac_long)
  have eg : g1' = g1 := Option.some.inj (z1.symm.trans y1)
  subst eg
  refine ⟨fun n => match n with | 0 => g0 | 1 => g1' | 2 => g2 | 3 => g3 | _ => g4, D, gx, ⟨hD, fun k q hq => ?_⟩, ⟨k4, y3, y4⟩, ex_of hts, hS, hR, va_Nw.of rfl (hts _ w_fn)⟩
  match k, hq with
  | 0, hq => cases hq; exact ⟨a0, r0⟩
  | 1, hq => cases hq; exact ⟨fun N z => ⟨(fun k h => by cases h), kC, z2, c0, z3⟩, z1⟩
  | 2, hq => cases hq; exact ⟨a2, r2⟩
  | 3, hq => cases hq; exact ⟨fun N z => ⟨(fun k h => by cases h), k3, x3, comp3, x4⟩, k3, comp3, x3, x4, x1, x5⟩
  | 4, hq => cases hq; exact ⟨fun N z => ⟨(fun k h => by cases h), k4, y3, g1', y4⟩, y5⟩
  | k + 5, hq => cases hq
theorem kf_of {gc : Nat → ClassId} {D : va_G} {gx : Nat → Nat} {s : State} {a6 a7 : Nat → Nat → Nat} (h : BG gc D gx s) (hD : va_D (fun q => s.heap.size ≤ q) (w0M gc a6 a7)) : KF (aM a6 a7, D, gc, gx) s := by
  obtain ⟨hK, -, -, ⟨s1, s2, s3, s4, s5, s6, s7⟩, hR, hN⟩ := h
  have hAA := aa_M (gcc := gc) (D := D) (gx := gx) hD
  exact ⟨hK, inj_M hD, ⟨s1.narrow hAA, s2.narrow hAA, s3.narrow hAA, s4.narrow hAA, s5.narrow hAA, s6.narrow hAA, s7.narrow hAA⟩, hR, hN⟩
