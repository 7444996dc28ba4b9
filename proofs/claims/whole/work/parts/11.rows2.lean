/-! more rows: the reader's country, the constant arrays, System.arraycopy, the tapes' rows -/
theorem inb_lt {i : Int32} {n : Nat} (h : inb i n = true) : ix i < n := by
  unfold inb at h
  rw [Bool.and_eq_true, decide_eq_true_eq, decide_eq_true_eq] at h
  exact h.2
theorem kd_8 {i : Int32} (h : inb i 6 = true) : kdo (8 + ix i) = 1 := by
  have h1 := inb_lt h
  have h2 : ∀ n, n < 6 → kdo (8 + n) = 1 := by decide
  exact h2 _ h1
theorem row_in {e : Nat} (h : e < 6) : 4 + e ∈ cls 4 := by
  have h2 : ∀ n, n < 6 → 4 + n ∈ cls 4 := by decide
  exact h2 _ h
theorem row_eK {G : GE} {P : Pm} {Q : Pl} {e : Nat} (h : e < 6) : eK 4 G 16 P Q (4 + e) = .inl (gC G 1, 60, .inr (.inl (Q (4 + e)))) := by
  rcases (show e = 0 ∨ e = 1 ∨ e = 2 ∨ e = 3 ∨ e = 4 ∨ e = 5 by omega) with rfl | rfl | rfl | rfl | rfl | rfl <;> rfl
def cpok (sp dp n : Int32) (n0 n1 : Nat) : Bool := decide (0 ≤ sp) && (decide (0 ≤ dp) && (decide (0 ≤ n) && (decide (ix sp + ix n ≤ n0) && decide (ix dp + ix n ≤ n1))))
theorem cpok_e {sp dp n : Int32} {n0 n1 : Nat} (h : cpok sp dp n n0 n1 = true) : ¬ sp < 0 ∧ ¬ dp < 0 ∧ ¬ n < 0 ∧ ix sp + ix n ≤ n0 ∧ ix dp + ix n ≤ n1 := by
  unfold cpok at h
  simp only [Bool.and_eq_true, decide_eq_true_eq] at h
  exact ⟨Int32.not_lt.mpr h.1, Int32.not_lt.mpr h.2.1, Int32.not_lt.mpr h.2.2.1, h.2.2.2.1, h.2.2.2.2⟩
def acR (r : Room) : Bool := Nat.ble 1 r.frames && Nat.ble (8 + (nativeFrameWords "java/lang/System" "arraycopy" 5 + 11)) r.locals
theorem acR_e {r : Room} (h : acR r = true) : 1 ≤ r.frames ∧ 8 + (nativeFrameWords "java/lang/System" "arraycopy" 5 + 11) ≤ r.locals := by
  unfold acR at h
  rw [Bool.and_eq_true] at h
  exact ⟨Nat.le_of_ble_eq_true h.1, Nat.le_of_ble_eq_true h.2⟩
section Rows3
variable {X : MX} {G : GE} {own : String} {cc : ByteArray} {nL : Nat} {σ : Mm} {lm : Ml} {pc nx : Nat} {L : List (Nat × Value)} {st : List Value}
theorem pf_3_4 {o o2 index : Nat} {P : Pm} {σ2 : Mm} (hk2 : kdo o2 = 1) (hX : Cx X G own cc nL) (hlk : Cond.fieldLink own index "WellLendsDepth$Reader" "country" "LWellLendsDepth$Country;" ∈ gT) (ho : kdo o = 3) (hP : σ o = P) (hd : decode cc pc = .ok (.putfield index, 3) ∧ pc + 3 = nx) (h2 : setO σ o (up2 P 0 4 (nI o2)) = σ2) (kk : WW X G nL σ2 lm nx L st) : WW X G nL σ lm pc L (.ref (gA G o2 0) :: .ref (gA G o 0) :: st) := by
  subst h2
  intro H locs ls hw hS hl
  obtain ⟨hx, hb, hml, hown, hts, hlo, hK, hI, hSF⟩ := hX
  obtain ⟨hd, rfl⟩ := hd
  subst hP
  obtain ⟨q0, hq⟩ := prs_in ho (by decide) (c := 0) List.mem_cons_self
  have he := wl_at (G := G) (σ := σ) (lm := lm) hq
  rw [ho] at he
  have ho2 := kdo_lt hk2 (by decide)
  have hix : ix (nI o2) = o2 := nI_clamp (by omega)
  have hset : (fsK 3 G o (σ o 0)).set 4 (.ref (gA G o2 0)) = fsK 3 G o (upd (σ o 0) 4 (nI o2)) := by
    show [Value.int (σ o 0 0), .int (σ o 0 1), .int (σ o 0 2), .ref (gA G o 4), .ref (gA G o2 0)] = [Value.int (σ o 0 0), .int (σ o 0 1), .int (σ o 0 2), .ref (gA G o 4), .ref (gA G (ix (nI o2)) 0)]
    rw [hix]
  refine va_put hx hb hts zin3 zty3 zok3 znm3 hown hK hw (wl_D hI) hS q0 he rfl 4 (by decide) (hts _ hlk) (fun _ h => h) rfl rfl rfl rfl (by show (4 : Nat) < 5; decide) hd (fun H1 locs1 hP1 hD1 hS1 => ?_)
  rw [wl_setI (f := upd (σ o 0) 4 (nI o2)) hq (by rw [ho]; show _ = Sum.inr (3, fsK 3 G o (setO (σ o) 0 (upd (σ o 0) 4 (nI o2)) 0)); rw [setO_s, hset])] at hP1
  exact kk H1 locs1 ls hP1 hS1 hl
theorem r_gst0 {index : Nat} (hX : Cx X G own cc nL) (hlk : Cond.fieldLink own index "WellLendsDepth" "ABOVE" "[I" ∈ gT) (hd : decode cc pc = .ok (.getstatic index, 3) ∧ pc + 3 = nx) (kk : WW X G nL σ lm nx L (.ref (gX G 0) :: st)) : WW X G nL σ lm pc L st := by
  intro H locs ls hw hS hl
  obtain ⟨hx, hb, hml, hown, hts, hlo, hK, hI, hSF, hR, hN⟩ := hX
  obtain ⟨hd, rfl⟩ := hd
  exact va_gets hx hb hSF.1 hS hown (hts _ hlk) (fun _ h => h) hd (kk H locs ls hw hS hl)
theorem r_gst0N (hX : Cx X G zR0 cc nL) (hd : decode cc pc = .ok (.getstatic 41, 3) ∧ pc + 3 = nx) (kk : WW X G nL σ lm nx L (.ref (gX G 0) :: st)) : WW X G nL σ lm pc L st := by
  intro H locs ls hw hS hl
  obtain ⟨hx, hb, hml, hown, hts, hlo, hK, hI, hSF, hR, hN⟩ := hX
  obtain ⟨hd, rfl⟩ := hd
  exact va_getsN hx hb hSF.1 hS hown (va_Nw.use rfl hN) (fun _ h => h) hd (kk H locs ls hw hS hl)
theorem r_gst1 {index : Nat} (hX : Cx X G own cc nL) (hlk : Cond.fieldLink own index "WellLendsDepth$Actor" "BODIES" "[I" ∈ gT) (hd : decode cc pc = .ok (.getstatic index, 3) ∧ pc + 3 = nx) (kk : WW X G nL σ lm nx L (.ref (gX G 1) :: st)) : WW X G nL σ lm pc L st := by
  intro H locs ls hw hS hl
  obtain ⟨hx, hb, hml, hown, hts, hlo, hK, hI, hSF, hR, hN⟩ := hX
  obtain ⟨hd, rfl⟩ := hd
  exact va_gets hx hb hSF.2.2.1 hS hown (hts _ hlk) (fun _ h => h) hd (kk H locs ls hw hS hl)
theorem r_sald0 {i : Int32} (hX : Cx X G own cc nL) (hi : inb i 7 = true) (hd : decode cc pc = .ok (.iaload, 1) ∧ pc + 1 = nx) (kk : WW X G nL σ lm nx L (.int (tAb (ix i)) :: st)) : WW X G nL σ lm pc L (.int i :: .ref (gX G 0) :: st) := by
  intro H locs ls hw hS hl
  obtain ⟨hx, hb, hml, hown, hts, hlo, hK, hI, hSF, hR, hN⟩ := hX
  obtain ⟨hd, rfl⟩ := hd
  exact va_ti hx hb hSF.2.1 hS (inb_in hi) rfl hd (kk H locs ls hw hS hl)
theorem r_sald1 {i : Int32} (hX : Cx X G own cc nL) (hi : inb i 21 = true) (hd : decode cc pc = .ok (.iaload, 1) ∧ pc + 1 = nx) (kk : WW X G nL σ lm nx L (.int (tBo (ix i)) :: st)) : WW X G nL σ lm pc L (.int i :: .ref (gX G 1) :: st) := by
  intro H locs ls hw hS hl
  obtain ⟨hx, hb, hml, hown, hts, hlo, hK, hI, hSF, hR, hN⟩ := hX
  obtain ⟨hd, rfl⟩ := hd
  exact va_ti hx hb hSF.2.2.2.1 hS (inb_in hi) rfl hd (kk H locs ls hw hS hl)
theorem r_rowld {e : Nat} {i : Int32} (he : e < 6) (hX : Cx X G own cc nL) (hi : inb i 60 = true) (hd : decode cc pc = .ok (.laload, 1) ∧ pc + 1 = nx) (kk : WW X G nL σ lm nx L (.long (lm 16 (4 + e) (ix i)) :: st)) : WW X G nL σ lm pc L (.int i :: .ref (gA G 16 (4 + e)) :: st) := r_lald (k := 4) hX rfl (by decide) (row_in he) (fun _ => row_eK he) rfl hi hd kk
theorem r_rowst {e : Nat} {i : Int32} {x : Int64} {lm2 : Ml} (he : e < 6) (hX : Cx X G own cc nL) (hi : inb i 60 = true) (h2 : setO lm 16 (up2L (lm 16) (4 + e) (ix i) x) = lm2) (hd : decode cc pc = .ok (.lastore, 1) ∧ pc + 1 = nx) (kk : WW X G nL σ lm2 nx L st) : WW X G nL σ lm pc L (.long x :: .int i :: .ref (gA G 16 (4 + e)) :: st) := r_last (k := 4) hX rfl (by decide) (row_in he) (fun _ _ => row_eK he) rfl hi hd h2 kk
theorem r_acpyI {o o2 k k2 c c2 n n2 index : Nat} {P P2 : Pm} {sp dp len : Int32} {rmc : Room} {σ2 : Mm} (hX : Cx X G own cc nL) (hR : rmX X = rmc) (hlk : Cond.methodLink own index arraycopyName ∈ gT) (hrm : acR rmc = true) (ho : kdo o = k) (ho2 : kdo o2 = k2) (hk : k < 8) (hk2 : k2 < 8) (hc : c ∈ cls k) (hc2 : c2 ∈ cls k2) (he : ∀ P Q, eK k G o P Q c = .inl (gC G 0, n, .inl (P c))) (he2 : ∀ P Q, eK k2 G o2 P Q c2 = .inl (gC G 0, n2, .inl (P c2))) (hP : σ o = P) (hP2 : σ o2 = P2) (hok : cpok sp dp len n n2 = true) (h2 : setO σ o2 (setO P2 c2 (va_cpy (P c) (P2 c2) (ix sp) (ix dp) (ix len))) = σ2) (hw8 : (st.map fun v => v.category).sum ≤ 8) (hd : decode cc pc = .ok (.invokestatic index, 3) ∧ pc + 3 = nx) (kk : WW X G nL σ2 lm nx L st) : WW X G nL σ lm pc L (.int len :: .int dp :: .ref (gA G o2 c2) :: .int sp :: .ref (gA G o c) :: st) := by
  subst h2
  intro H locs ls hw hS hl
  obtain ⟨hx, hb, hml, hown, hts, hlo, hK, hI, hSF⟩ := hX
  obtain ⟨hd, rfl⟩ := hd
  subst hP
  subst hP2
  subst hR
  obtain ⟨a1, a2, a3, a4, a5⟩ := cpok_e hok
  obtain ⟨g1, g2⟩ := acR_e hrm
  obtain ⟨q0, hq⟩ := prs_in ho hk hc
  obtain ⟨q1, hq1⟩ := prs_in ho2 hk2 hc2
  have h1 := wl_at (G := G) (σ := σ) (lm := lm) hq
  rw [ho, he] at h1
  have h3 := wl_at (G := G) (σ := σ) (lm := lm) hq1
  rw [ho2, he2] at h3
  refine va_copyi hx hb (hml.trans hl.1.symm) hown (hts _ hlk) (hts _ acpy_na) (hts _ acpy_st) (hts _ acpy_in) hK hw (wl_D hI) hS q0 q1 0 0 (ty := .int) h1 h3 rfl rfl rfl a1 a2 a3 a4 a5 (fun _ _ => rfl) g1 (by unfold rmX at g2; omega) hd (fun H1 locs1 hP1 hD1 hS1 => ?_)
  rw [wl_setI (f := va_cpy (σ o c) (σ o2 c2) (ix sp) (ix dp) (ix len)) hq1 (by rw [ho2, he2, setO_s])] at hP1
  exact kk H1 locs1 ls hP1 hS1 hl
theorem r_acpyL {e e2 index : Nat} {sp dp len : Int32} {rmc : Room} {lm2 : Ml} (h6 : e < 6) (h7 : e2 < 6) (hX : Cx X G own cc nL) (hR : rmX X = rmc) (hlk : Cond.methodLink own index arraycopyName ∈ gT) (hrm : acR rmc = true) (hok : cpok sp dp len 60 60 = true) (h2 : setO lm 16 (setO (lm 16) (4 + e2) (va_cpy (lm 16 (4 + e)) (lm 16 (4 + e2)) (ix sp) (ix dp) (ix len))) = lm2) (hw8 : (st.map fun v => v.category).sum ≤ 8) (hd : decode cc pc = .ok (.invokestatic index, 3) ∧ pc + 3 = nx) (kk : WW X G nL σ lm2 nx L st) : WW X G nL σ lm pc L (.int len :: .int dp :: .ref (gA G 16 (4 + e2)) :: .int sp :: .ref (gA G 16 (4 + e)) :: st) := by
  subst h2
  intro H locs ls hw hS hl
  obtain ⟨hx, hb, hml, hown, hts, hlo, hK, hI, hSF⟩ := hX
  obtain ⟨hd, rfl⟩ := hd
  subst hR
  obtain ⟨a1, a2, a3, a4, a5⟩ := cpok_e hok
  obtain ⟨g1, g2⟩ := acR_e hrm
  obtain ⟨q0, hq⟩ := prs_in (o := 16) (k := 4) rfl (by decide) (row_in h6)
  obtain ⟨q1, hq1⟩ := prs_in (o := 16) (k := 4) rfl (by decide) (row_in h7)
  have h1 := wl_at (G := G) (σ := σ) (lm := lm) hq
  have h3 := wl_at (G := G) (σ := σ) (lm := lm) hq1
  have k16 : kdo 16 = 4 := rfl
  rw [k16, row_eK h6] at h1
  rw [k16, row_eK h7] at h3
  refine va_copyl hx hb (hml.trans hl.1.symm) hown (hts _ hlk) (hts _ acpy_na) (hts _ acpy_st) (hts _ acpy_in) hK hw (wl_D hI) hS q0 q1 1 1 (ty := .long) h1 h3 rfl rfl rfl a1 a2 a3 a4 a5 (fun _ _ => rfl) g1 (by unfold rmX at g2; omega) hd (fun H1 locs1 hP1 hD1 hS1 => ?_)
  rw [wl_setL (f := va_cpy (lm 16 (4 + e)) (lm 16 (4 + e2)) (ix sp) (ix dp) (ix len)) hq1 (by rw [k16, row_eK h7, setO_s])] at hP1
  exact kk H1 locs1 ls hP1 hS1 hl
end Rows3
