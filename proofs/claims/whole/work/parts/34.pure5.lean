/-! the pure side 5: rows that are copied, the trial and what is put back; written by wip/whole/pure/gen34.py -/
def cpn (k : Nat) (f g : Nat → Int32) : Nat → Int32 := fun i => if i < k then g i else f i
theorem cpn_0 {f g : Nat → Int32} : cpn 0 f g = f := by
  funext i
  unfold cpn
  rw [if_neg (by omega)]
theorem cpn_s {k : Nat} {f g : Nat → Int32} : upd (cpn k f g) k (g k) = cpn (k + 1) f g := by
  funext i
  unfold cpn
  rw [upd_g]
  by_cases h : i = k
  · subst h
    rw [if_pos rfl, if_pos (by omega)]
  · rw [if_neg h]
    by_cases h2 : i < k
    · rw [if_pos h2, if_pos (by omega)]
    · rw [if_neg h2, if_neg (by omega)]
theorem cpn_e {k : Nat} {f g : Nat → Int32} (h : ∀ i, k ≤ i → f i = g i) : cpn k f g = g := by
  funext i
  unfold cpn
  split
  · rfl
  · exact h i (by omega)

def cl_W (k : Nat) (P0 Q : Pm) : Pm := fun c => if c = 5 then cpn k (P0 5) (Q 5) else if c = 6 then cpn k (P0 6) (Q 6) else if c = 7 then cpn k (P0 7) (Q 7) else if c = 8 then cpn k (P0 8) (Q 8) else if c = 9 then cpn k (P0 9) (Q 9) else if c = 10 then cpn k (P0 10) (Q 10) else if c = 11 then cpn k (P0 11) (Q 11) else if c = 12 then cpn k (P0 12) (Q 12) else if c = 13 then cpn k (P0 13) (Q 13) else P0 c
theorem cl_W_5 {k : Nat} {P0 Q : Pm} : cl_W k P0 Q 5 = cpn k (P0 5) (Q 5) := rfl
theorem cl_W_6 {k : Nat} {P0 Q : Pm} : cl_W k P0 Q 6 = cpn k (P0 6) (Q 6) := rfl
theorem cl_W_7 {k : Nat} {P0 Q : Pm} : cl_W k P0 Q 7 = cpn k (P0 7) (Q 7) := rfl
theorem cl_W_8 {k : Nat} {P0 Q : Pm} : cl_W k P0 Q 8 = cpn k (P0 8) (Q 8) := rfl
theorem cl_W_9 {k : Nat} {P0 Q : Pm} : cl_W k P0 Q 9 = cpn k (P0 9) (Q 9) := rfl
theorem cl_W_10 {k : Nat} {P0 Q : Pm} : cl_W k P0 Q 10 = cpn k (P0 10) (Q 10) := rfl
theorem cl_W_11 {k : Nat} {P0 Q : Pm} : cl_W k P0 Q 11 = cpn k (P0 11) (Q 11) := rfl
theorem cl_W_12 {k : Nat} {P0 Q : Pm} : cl_W k P0 Q 12 = cpn k (P0 12) (Q 12) := rfl
theorem cl_W_13 {k : Nat} {P0 Q : Pm} : cl_W k P0 Q 13 = cpn k (P0 13) (Q 13) := rfl
theorem cl_W_n {k c : Nat} {P0 Q : Pm} (h5 : c ≠ 5) (h6 : c ≠ 6) (h7 : c ≠ 7) (h8 : c ≠ 8) (h9 : c ≠ 9) (h10 : c ≠ 10) (h11 : c ≠ 11) (h12 : c ≠ 12) (h13 : c ≠ 13) : cl_W k P0 Q c = P0 c := by
  unfold cl_W
  simp only [h5, h6, h7, h8, h9, h10, h11, h12, h13, if_false]
theorem cl_W_0 {P0 Q : Pm} : cl_W 0 P0 Q = P0 := by
  funext c
  unfold cl_W
  simp only [cpn_0]
  repeat (first | (split; (rename_i h; subst h; rfl)) | rfl)
theorem cl_W_s {k : Nat} {P0 Q : Pm} : (up2 (up2 (up2 (up2 (up2 (up2 (up2 (up2 (up2 (cl_W k P0 Q) 5 k (Q 5 k)) 6 k (Q 6 k)) 7 k (Q 7 k)) 8 k (Q 8 k)) 9 k (Q 9 k)) 10 k (Q 10 k)) 11 k (Q 11 k)) 12 k (Q 12 k)) 13 k (Q 13 k)) = cl_W (k + 1) P0 Q := by
  funext c
  by_cases h5 : c = 5
  · subst h5
    exact cpn_s
  by_cases h6 : c = 6
  · subst h6
    exact cpn_s
  by_cases h7 : c = 7
  · subst h7
    exact cpn_s
  by_cases h8 : c = 8
  · subst h8
    exact cpn_s
  by_cases h9 : c = 9
  · subst h9
    exact cpn_s
  by_cases h10 : c = 10
  · subst h10
    exact cpn_s
  by_cases h11 : c = 11
  · subst h11
    exact cpn_s
  by_cases h12 : c = 12
  · subst h12
    exact cpn_s
  by_cases h13 : c = 13
  · subst h13
    exact cpn_s
  rw [cl_W_n h5 h6 h7 h8 h9 h10 h11 h12 h13]
  simp only [up2_g, h5, h6, h7, h8, h9, h10, h11, h12, h13, if_false]
  exact cl_W_n h5 h6 h7 h8 h9 h10 h11 h12 h13
def cl_S (k : Nat) (P0 : Pm) : Pm := fun c => if c = 38 then cpn k (P0 38) (P0 6) else if c = 39 then cpn k (P0 39) (P0 7) else if c = 40 then cpn k (P0 40) (P0 8) else if c = 41 then cpn k (P0 41) (P0 9) else if c = 42 then cpn k (P0 42) (P0 10) else if c = 43 then cpn k (P0 43) (P0 11) else if c = 44 then cpn k (P0 44) (P0 13) else P0 c
theorem cl_S_38 {k : Nat} {P0 : Pm} : cl_S k P0 38 = cpn k (P0 38) (P0 6) := rfl
theorem cl_S_39 {k : Nat} {P0 : Pm} : cl_S k P0 39 = cpn k (P0 39) (P0 7) := rfl
theorem cl_S_40 {k : Nat} {P0 : Pm} : cl_S k P0 40 = cpn k (P0 40) (P0 8) := rfl
theorem cl_S_41 {k : Nat} {P0 : Pm} : cl_S k P0 41 = cpn k (P0 41) (P0 9) := rfl
theorem cl_S_42 {k : Nat} {P0 : Pm} : cl_S k P0 42 = cpn k (P0 42) (P0 10) := rfl
theorem cl_S_43 {k : Nat} {P0 : Pm} : cl_S k P0 43 = cpn k (P0 43) (P0 11) := rfl
theorem cl_S_44 {k : Nat} {P0 : Pm} : cl_S k P0 44 = cpn k (P0 44) (P0 13) := rfl
theorem cl_S_n {k c : Nat} {P0 : Pm} (h38 : c ≠ 38) (h39 : c ≠ 39) (h40 : c ≠ 40) (h41 : c ≠ 41) (h42 : c ≠ 42) (h43 : c ≠ 43) (h44 : c ≠ 44) : cl_S k P0 c = P0 c := by
  unfold cl_S
  simp only [h38, h39, h40, h41, h42, h43, h44, if_false]
theorem cl_S_0 {P0 : Pm} : cl_S 0 P0 = P0 := by
  funext c
  unfold cl_S
  simp only [cpn_0]
  repeat (first | (split; (rename_i h; subst h; rfl)) | rfl)
theorem cl_S_s {k : Nat} {P0 : Pm} : (up2 (up2 (up2 (up2 (up2 (up2 (up2 (cl_S k P0) 38 k ((cl_S k P0) 6 k)) 39 k ((cl_S k P0) 7 k)) 40 k ((cl_S k P0) 8 k)) 41 k ((cl_S k P0) 9 k)) 42 k ((cl_S k P0) 10 k)) 43 k ((cl_S k P0) 11 k)) 44 k ((cl_S k P0) 13 k)) = cl_S (k + 1) P0 := by
  funext c
  by_cases h38 : c = 38
  · subst h38
    exact cpn_s
  by_cases h39 : c = 39
  · subst h39
    exact cpn_s
  by_cases h40 : c = 40
  · subst h40
    exact cpn_s
  by_cases h41 : c = 41
  · subst h41
    exact cpn_s
  by_cases h42 : c = 42
  · subst h42
    exact cpn_s
  by_cases h43 : c = 43
  · subst h43
    exact cpn_s
  by_cases h44 : c = 44
  · subst h44
    exact cpn_s
  rw [cl_S_n h38 h39 h40 h41 h42 h43 h44]
  simp only [up2_g, h38, h39, h40, h41, h42, h43, h44, if_false]
  exact cl_S_n h38 h39 h40 h41 h42 h43 h44
def cl_B (k : Nat) (P0 : Pm) : Pm := fun c => if c = 6 then cpn k (P0 6) (P0 38) else if c = 7 then cpn k (P0 7) (P0 39) else if c = 8 then cpn k (P0 8) (P0 40) else if c = 9 then cpn k (P0 9) (P0 41) else if c = 10 then cpn k (P0 10) (P0 42) else if c = 11 then cpn k (P0 11) (P0 43) else if c = 13 then cpn k (P0 13) (P0 44) else P0 c
theorem cl_B_6 {k : Nat} {P0 : Pm} : cl_B k P0 6 = cpn k (P0 6) (P0 38) := rfl
theorem cl_B_7 {k : Nat} {P0 : Pm} : cl_B k P0 7 = cpn k (P0 7) (P0 39) := rfl
theorem cl_B_8 {k : Nat} {P0 : Pm} : cl_B k P0 8 = cpn k (P0 8) (P0 40) := rfl
theorem cl_B_9 {k : Nat} {P0 : Pm} : cl_B k P0 9 = cpn k (P0 9) (P0 41) := rfl
theorem cl_B_10 {k : Nat} {P0 : Pm} : cl_B k P0 10 = cpn k (P0 10) (P0 42) := rfl
theorem cl_B_11 {k : Nat} {P0 : Pm} : cl_B k P0 11 = cpn k (P0 11) (P0 43) := rfl
theorem cl_B_13 {k : Nat} {P0 : Pm} : cl_B k P0 13 = cpn k (P0 13) (P0 44) := rfl
theorem cl_B_n {k c : Nat} {P0 : Pm} (h6 : c ≠ 6) (h7 : c ≠ 7) (h8 : c ≠ 8) (h9 : c ≠ 9) (h10 : c ≠ 10) (h11 : c ≠ 11) (h13 : c ≠ 13) : cl_B k P0 c = P0 c := by
  unfold cl_B
  simp only [h6, h7, h8, h9, h10, h11, h13, if_false]
theorem cl_B_0 {P0 : Pm} : cl_B 0 P0 = P0 := by
  funext c
  unfold cl_B
  simp only [cpn_0]
  repeat (first | (split; (rename_i h; subst h; rfl)) | rfl)
theorem cl_B_s {k : Nat} {P0 : Pm} : (up2 (up2 (up2 (up2 (up2 (up2 (up2 (cl_B k P0) 6 k ((cl_B k P0) 38 k)) 7 k ((cl_B k P0) 39 k)) 8 k ((cl_B k P0) 40 k)) 9 k ((cl_B k P0) 41 k)) 10 k ((cl_B k P0) 42 k)) 11 k ((cl_B k P0) 43 k)) 13 k ((cl_B k P0) 44 k)) = cl_B (k + 1) P0 := by
  funext c
  by_cases h6 : c = 6
  · subst h6
    exact cpn_s
  by_cases h7 : c = 7
  · subst h7
    exact cpn_s
  by_cases h8 : c = 8
  · subst h8
    exact cpn_s
  by_cases h9 : c = 9
  · subst h9
    exact cpn_s
  by_cases h10 : c = 10
  · subst h10
    exact cpn_s
  by_cases h11 : c = 11
  · subst h11
    exact cpn_s
  by_cases h13 : c = 13
  · subst h13
    exact cpn_s
  rw [cl_B_n h6 h7 h8 h9 h10 h11 h13]
  simp only [up2_g, h6, h7, h8, h9, h10, h11, h13, if_false]
  exact cl_B_n h6 h7 h8 h9 h10 h11 h13
theorem le6 {k : Nat} (hk : k < 6) : ¬ (6 : Int32) ≤ nI k := nI_ge hk (by decide)
theorem l_S {P : Pm} : ∃ P', iter (fun t : Int32 × Pm => f_X7_save_B30 t.1 t.2) 200 (0, P) = some P' ∧ P' = cl_S 6 P := by
  refine iter_I (fun k t => t.1 = nI k ∧ t.2 = cl_S k P) (fun r => r = cl_S 6 P) 6 (fun k t hk hI => ?_) (fun t hI => ?_) 6 0 _ (by omega) ⟨rfl, cl_S_0.symm⟩ 200 (by omega)
  · obtain ⟨v, T⟩ := t
    obtain ⟨hv, hT⟩ := hI
    dsimp only at hv hT
    subst hv
    subst hT
    have h6 : inb (nI k) 6 = true := inb_nI hk (by decide)
    have hx : ix (nI k) = k := ix_nI (by omega)
    refine ⟨(nI (k + 1), cl_S (k + 1) P), ?_, rfl, rfl⟩
    show f_X7_save_B30 (nI k) (cl_S k P) = _
    unfold f_X7_save_B30
    simp only [if_neg (le6 hk), h6, if_true, nb, hx, nI_1]
    rw [← cl_S_s (k := k) (P0 := P)]
    rfl
  · obtain ⟨v, T⟩ := t
    obtain ⟨hv, hT⟩ := hI
    dsimp only at hv hT
    subst hv
    subst hT
    refine ⟨_, ?_, rfl⟩
    show f_X7_save_B30 (nI 6) (cl_S 6 P) = _
    unfold f_X7_save_B30
    rw [if_pos (show (6 : Int32) ≤ nI 6 from Int32.le_refl _)]
theorem l_B {P : Pm} : ∃ P', iter (fun t : Int32 × Pm => f_X7_putBack_B35 t.1 t.2) 200 (0, P) = some P' ∧ P' = cl_B 6 P := by
  refine iter_I (fun k t => t.1 = nI k ∧ t.2 = cl_B k P) (fun r => r = cl_B 6 P) 6 (fun k t hk hI => ?_) (fun t hI => ?_) 6 0 _ (by omega) ⟨rfl, cl_B_0.symm⟩ 200 (by omega)
  · obtain ⟨v, T⟩ := t
    obtain ⟨hv, hT⟩ := hI
    dsimp only at hv hT
    subst hv
    subst hT
    have h6 : inb (nI k) 6 = true := inb_nI hk (by decide)
    have hx : ix (nI k) = k := ix_nI (by omega)
    refine ⟨(nI (k + 1), cl_B (k + 1) P), ?_, rfl, rfl⟩
    show f_X7_putBack_B35 (nI k) (cl_B k P) = _
    unfold f_X7_putBack_B35
    simp only [if_neg (le6 hk), h6, if_true, nb, hx, nI_1]
    rw [← cl_B_s (k := k) (P0 := P)]
    rfl
  · obtain ⟨v, T⟩ := t
    obtain ⟨hv, hT⟩ := hI
    dsimp only at hv hT
    subst hv
    subst hT
    refine ⟨_, ?_, rfl⟩
    show f_X7_putBack_B35 (nI 6) (cl_B 6 P) = _
    unfold f_X7_putBack_B35
    rw [if_pos (show (6 : Int32) ≤ nI 6 from Int32.le_refl _)]
theorem l_W {P Q : Pm} : ∃ P', iter (fun t : Int32 × Pm => f_X5_copyFrom_B31 Q t.1 t.2) 200 (0, P) = some P' ∧ P' = cl_W 6 P Q := by
  refine iter_I (fun k t => t.1 = nI k ∧ t.2 = cl_W k P Q) (fun r => r = cl_W 6 P Q) 6 (fun k t hk hI => ?_) (fun t hI => ?_) 6 0 _ (by omega) ⟨rfl, cl_W_0.symm⟩ 200 (by omega)
  · obtain ⟨v, T⟩ := t
    obtain ⟨hv, hT⟩ := hI
    dsimp only at hv hT
    subst hv
    subst hT
    have h6 : inb (nI k) 6 = true := inb_nI hk (by decide)
    have hx : ix (nI k) = k := ix_nI (by omega)
    refine ⟨(nI (k + 1), cl_W (k + 1) P Q), ?_, rfl, rfl⟩
    show f_X5_copyFrom_B31 Q (nI k) (cl_W k P Q) = _
    unfold f_X5_copyFrom_B31
    simp only [if_neg (le6 hk), h6, if_true, nb, hx, nI_1]
    rw [← cl_W_s (k := k) (P0 := P) (Q := Q)]
  · obtain ⟨v, T⟩ := t
    obtain ⟨hv, hT⟩ := hI
    dsimp only at hv hT
    subst hv
    subst hT
    refine ⟨_, ?_, rfl⟩
    show f_X5_copyFrom_B31 Q (nI 6) (cl_W 6 P Q) = _
    unfold f_X5_copyFrom_B31
    rw [if_pos (show (6 : Int32) ≤ nI 6 from Int32.le_refl _)]
/-- nothing stands outside a well's own places -/
def NZ (W : Pm) : Prop := (∀ c, c ≠ 0 → (c < 5 ∨ 14 < c) → W c = fun _ => 0) ∧ (∀ i, 4 ≤ i → W 0 i = 0) ∧ (∀ c i, 5 ≤ c → c ≤ 13 → 6 ≤ i → W c i = 0) ∧ ∀ i, 24 ≤ i → W 14 i = 0
theorem cpy24 {f g : Nat → Int32} (h : ∀ i, 24 ≤ i → f i = g i) : va_cpy f g (ix 0) (ix 0) (ix 24) = f := by
  funext i
  have e0 : ix 0 = 0 := rfl
  have e24 : ix 24 = 24 := rfl
  rw [e0, e24]
  unfold va_cpy
  by_cases hi : i < 24
  · rw [if_pos (by omega)]
    congr 1
    omega
  · rw [if_neg (by omega)]
    exact (h i (by omega)).symm
/-- a well copied: all of the other's, but turned is 0 -/
theorem e_copy {P Q : Pm} (hP : NZ P) (hQ : NZ Q) : f_X5_copyFrom P Q = some (up2 Q 0 3 0) := by
  unfold f_X5_copyFrom f_X5_copyFrom_H31
  simp only [nb]
  generalize hR : up2 (up2 (up2 (up2 P 0 0 (Q 0 0)) 0 1 (Q 0 1)) 0 2 (Q 0 2)) 0 3 0 = R
  have r0 : ∀ c, c ≠ 0 → R c = P c := fun c hc => by rw [← hR, up2_g, if_neg hc, up2_g, if_neg hc, up2_g, if_neg hc, up2_g, if_neg hc]
  obtain ⟨P', h1, h2⟩ := l_W (P := R) (Q := Q)
  rw [h1, Option.bind_some]
  unfold f_X5_copyFrom_J151
  rw [if_pos (by decide)]
  simp only [nb]
  congr 1
  funext c
  by_cases h14 : c = 14
  · subst h14
    rw [setO_s, cpy24 (fun i hi => by
      rw [h2, cl_W_n (by decide) (by decide) (by decide) (by decide) (by decide) (by decide) (by decide) (by decide) (by decide), r0 14 (by decide), hP.2.2.2 i hi, hQ.2.2.2 i hi])]
    rfl
  · rw [setO_n h14, h2]
    by_cases h0 : c = 0
    · subst h0
      rw [cl_W_n (by decide) (by decide) (by decide) (by decide) (by decide) (by decide) (by decide) (by decide) (by decide), ← hR]
      funext i
      simp only [up2_g, upd_g, if_true]
      by_cases a3 : i = 3
      · rw [if_pos a3, if_pos a3]
      · rw [if_neg a3, if_neg a3]
        by_cases a2 : i = 2
        · rw [if_pos a2, a2]
        · rw [if_neg a2]
          by_cases a1 : i = 1
          · rw [if_pos a1, a1]
          · rw [if_neg a1]
            by_cases a0 : i = 0
            · rw [if_pos a0, a0]
            · rw [if_neg a0, hP.2.1 i (by omega), hQ.2.1 i (by omega)]
    · by_cases hw : 5 ≤ c ∧ c ≤ 13
      · have e : cl_W 6 R Q c = cpn 6 (R c) (Q c) := by
          rcases (show c = 5 ∨ c = 6 ∨ c = 7 ∨ c = 8 ∨ c = 9 ∨ c = 10 ∨ c = 11 ∨ c = 12 ∨ c = 13 by omega) with h | h | h | h | h | h | h | h | h <;> subst h <;> rfl
        rw [e, r0 c h0, up2_g, if_neg h0]
        exact cpn_e (fun i hi => by rw [hP.2.2.1 c i hw.1 hw.2 hi, hQ.2.2.1 c i hw.1 hw.2 hi])
      · rw [cl_W_n (by omega) (by omega) (by omega) (by omega) (by omega) (by omega) (by omega) (by omega) (by omega), r0 c h0, up2_g, if_neg h0, hP.1 c h0 (by omega), hQ.1 c h0 (by omega)]
theorem NZ_up {W : Pm} {c j : Nat} {x : Int32} (h : NZ W) (hc : (c = 0 ∧ j < 4) ∨ (5 ≤ c ∧ c ≤ 13 ∧ j < 6) ∨ (c = 14 ∧ j < 24)) : NZ (up2 W c j x) := by
  refine ⟨fun c' h0 h1 => ?_, fun i hi => ?_, fun c' i h1 h2 h3 => ?_, fun i hi => ?_⟩
  · rw [up2_g, if_neg (by omega)]
    exact h.1 c' h0 h1
  · rw [up2_g]
    split
    · rw [upd_g, if_neg (by omega)]
      rename_i e
      rw [← e]
      exact h.2.1 i hi
    · exact h.2.1 i hi
  · rw [up2_g]
    split
    · rw [upd_g, if_neg (by omega)]
      rename_i e
      rw [← e]
      exact h.2.2.1 c' i h1 h2 h3
    · exact h.2.2.1 c' i h1 h2 h3
  · rw [up2_g]
    split
    · rw [upd_g, if_neg (by omega)]
      rename_i e
      rw [← e]
      exact h.2.2.2 i hi
    · exact h.2.2.2 i hi
theorem NZ_rise {W : Pm} {x : Int32} (h : NZ W) : NZ (riseW W x) := NZ_up h (by omega)
theorem NZ_one {rt : Pm → Nat → Int32} {mk ab fi : Int32} {W : Pm} {j : Nat} (h : NZ W) (hj : j < 6) : NZ (oneW rt mk ab fi W j) := by
  have ha : NZ (awayW fi W j) := NZ_up (NZ_up (NZ_up h (by omega)) (by omega)) (by omega)
  have ht : ∀ a, NZ (takeW W j a) := fun a => NZ_up (NZ_up (NZ_up h (by omega)) (by omega)) (by omega)
  unfold oneW askW keepW
  split
  · split
    · exact h
    · split
      · exact h
      · split
        · try dsimp only
          split
          · exact ha
          · split
            · exact ha
            · exact ht _
        · exact h
  · try dsimp only
    have h2 : ∀ x y, NZ (up2 (up2 W 11 j x) 10 j y) := fun x y => NZ_up (NZ_up h (by omega)) (by omega)
    split
    · split
      · exact NZ_up (NZ_rise (h2 _ _)) (by omega)
      · exact NZ_up (h2 _ _) (by omega)
    · exact h2 _ _
theorem NZ_day {rt : Pm → Nat → Int32} {mk ab fi sp : Int32} {W : Pm} (h : NZ W) (hL : LInv W) : NZ (dayW rt mk ab fi sp W) := by
  obtain ⟨m, d, hm, hd, h1, h2, h3⟩ := hL
  have hg : ∀ k, k ≤ m → NZ (goW rt mk ab fi k W) := by
    intro k
    induction k with
    | zero => intro _; exact h
    | succ k ih =>
      intro hk
      obtain ⟨j, hj, e⟩ := h3 k (by omega)
      have e13 : goW rt mk ab fi k W 13 k = nI j := by rw [goW_c (by decide) (by decide) (by decide) (by decide) (by decide)]; exact e
      show NZ (oneW rt mk ab fi (goW rt mk ab fi k W) (ix (goW rt mk ab fi k W 13 k)))
      rw [e13, ix_nI (by omega)]
      exact NZ_one (ih (by omega)) (by omega)
  unfold dayW
  try dsimp only
  rw [h1, ix_nI (by omega)]
  exact NZ_up (NZ_rise (hg m (Nat.le_refl m))) (by omega)

