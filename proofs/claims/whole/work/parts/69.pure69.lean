/-! the pure side 69: the image; written by wip/whole/pure/gen69.py -/
def cl_Ia (k : Nat) (P0 : Pm) : Pm := fun c => if c = 62 then cpn k (P0 62) (P0 4) else if c = 63 then cpn k (P0 63) (P0 5) else if c = 64 then cpn k (P0 64) (P0 6) else if c = 65 then cpn k (P0 65) (P0 7) else if c = 66 then cpn k (P0 66) (P0 8) else if c = 67 then cpn k (P0 67) (P0 9) else if c = 68 then cpn k (P0 68) (P0 10) else if c = 69 then cpn k (P0 69) (P0 11) else if c = 70 then cpn k (P0 70) (P0 13) else P0 c
theorem cl_Ia_62 {k : Nat} {P0 : Pm} : cl_Ia k P0 62 = cpn k (P0 62) (P0 4) := rfl
theorem cl_Ia_63 {k : Nat} {P0 : Pm} : cl_Ia k P0 63 = cpn k (P0 63) (P0 5) := rfl
theorem cl_Ia_64 {k : Nat} {P0 : Pm} : cl_Ia k P0 64 = cpn k (P0 64) (P0 6) := rfl
theorem cl_Ia_65 {k : Nat} {P0 : Pm} : cl_Ia k P0 65 = cpn k (P0 65) (P0 7) := rfl
theorem cl_Ia_66 {k : Nat} {P0 : Pm} : cl_Ia k P0 66 = cpn k (P0 66) (P0 8) := rfl
theorem cl_Ia_67 {k : Nat} {P0 : Pm} : cl_Ia k P0 67 = cpn k (P0 67) (P0 9) := rfl
theorem cl_Ia_68 {k : Nat} {P0 : Pm} : cl_Ia k P0 68 = cpn k (P0 68) (P0 10) := rfl
theorem cl_Ia_69 {k : Nat} {P0 : Pm} : cl_Ia k P0 69 = cpn k (P0 69) (P0 11) := rfl
theorem cl_Ia_70 {k : Nat} {P0 : Pm} : cl_Ia k P0 70 = cpn k (P0 70) (P0 13) := rfl
theorem cl_Ia_n {k c : Nat} {P0 : Pm} (h62 : c ≠ 62) (h63 : c ≠ 63) (h64 : c ≠ 64) (h65 : c ≠ 65) (h66 : c ≠ 66) (h67 : c ≠ 67) (h68 : c ≠ 68) (h69 : c ≠ 69) (h70 : c ≠ 70) : cl_Ia k P0 c = P0 c := by
  unfold cl_Ia
  simp only [h62, h63, h64, h65, h66, h67, h68, h69, h70, if_false]
theorem cl_Ia_0 {P0 : Pm} : cl_Ia 0 P0 = P0 := by
  funext c
  unfold cl_Ia
  simp only [cpn_0]
  repeat (first | (split; (rename_i h; subst h; rfl)) | rfl)
theorem cl_Ia_s {k : Nat} {P0 : Pm} : (up2 (up2 (up2 (up2 (up2 (up2 (up2 (up2 (up2 (cl_Ia k P0) 62 k ((cl_Ia k P0) 4 k)) 63 k ((cl_Ia k P0) 5 k)) 64 k ((cl_Ia k P0) 6 k)) 65 k ((cl_Ia k P0) 7 k)) 66 k ((cl_Ia k P0) 8 k)) 67 k ((cl_Ia k P0) 9 k)) 68 k ((cl_Ia k P0) 10 k)) 69 k ((cl_Ia k P0) 11 k)) 70 k ((cl_Ia k P0) 13 k)) = cl_Ia (k + 1) P0 := by
  funext c
  by_cases h62 : c = 62
  · subst h62
    exact cpn_s
  by_cases h63 : c = 63
  · subst h63
    exact cpn_s
  by_cases h64 : c = 64
  · subst h64
    exact cpn_s
  by_cases h65 : c = 65
  · subst h65
    exact cpn_s
  by_cases h66 : c = 66
  · subst h66
    exact cpn_s
  by_cases h67 : c = 67
  · subst h67
    exact cpn_s
  by_cases h68 : c = 68
  · subst h68
    exact cpn_s
  by_cases h69 : c = 69
  · subst h69
    exact cpn_s
  by_cases h70 : c = 70
  · subst h70
    exact cpn_s
  rw [cl_Ia_n h62 h63 h64 h65 h66 h67 h68 h69 h70]
  simp only [up2_g, h62, h63, h64, h65, h66, h67, h68, h69, h70, if_false]
  exact cl_Ia_n h62 h63 h64 h65 h66 h67 h68 h69 h70
theorem l_Ia {P : Pm} : iter (fun t : Int32 × Pm => f_X7_image_B63 t.1 t.2) 200 (0, P) = some (cl_Ia 6 P) := by
  have h : ∃ P', iter (fun t : Int32 × Pm => f_X7_image_B63 t.1 t.2) 200 (0, P) = some P' ∧ P' = cl_Ia 6 P := by
    refine iter_I (fun k t => t.1 = nI k ∧ t.2 = cl_Ia k P) (fun r => r = cl_Ia 6 P) 6 (fun k t hk hI => ?_) (fun t hI => ?_) 6 0 _ (by omega) ⟨rfl, cl_Ia_0.symm⟩ 200 (by omega)
    · obtain ⟨v, T⟩ := t
      obtain ⟨hv, hT⟩ := hI
      dsimp only at hv hT
      subst hv
      subst hT
      have h6 : inb (nI k) 6 = true := inb_nI hk (by decide)
      have hx : ix (nI k) = k := ix_nI (by omega)
      refine ⟨(nI (k + 1), cl_Ia (k + 1) P), ?_, rfl, rfl⟩
      show f_X7_image_B63 (nI k) (cl_Ia k P) = _
      unfold f_X7_image_B63
      simp only [if_neg (show ¬ (6 : Int32) ≤ nI k from nI_ge (b := 6) hk (by omega)), h6, if_true, nb, hx, nI_1]
      rw [← cl_Ia_s (k := k) (P0 := P)]
      all_goals rfl
    · obtain ⟨v, T⟩ := t
      obtain ⟨hv, hT⟩ := hI
      dsimp only at hv hT
      subst hv
      subst hT
      refine ⟨_, ?_, rfl⟩
      show f_X7_image_B63 (nI 6) (cl_Ia 6 P) = _
      unfold f_X7_image_B63
      rw [if_pos (show (6 : Int32) ≤ nI 6 from Int32.le_refl _)]
  obtain ⟨P', h1, h2⟩ := h
  rw [h1, h2]
def cl_Ib (k : Nat) (P0 : Pm) : Pm := fun c => if c = 71 then cpn k (P0 71) (P0 12) else P0 c
theorem cl_Ib_71 {k : Nat} {P0 : Pm} : cl_Ib k P0 71 = cpn k (P0 71) (P0 12) := rfl
theorem cl_Ib_n {k c : Nat} {P0 : Pm} (h71 : c ≠ 71) : cl_Ib k P0 c = P0 c := by
  unfold cl_Ib
  simp only [h71, if_false]
theorem cl_Ib_0 {P0 : Pm} : cl_Ib 0 P0 = P0 := by
  funext c
  unfold cl_Ib
  simp only [cpn_0]
  repeat (first | (split; (rename_i h; subst h; rfl)) | rfl)
theorem cl_Ib_s {k : Nat} {P0 : Pm} : (up2 (cl_Ib k P0) 71 k ((cl_Ib k P0) 12 k)) = cl_Ib (k + 1) P0 := by
  funext c
  by_cases h71 : c = 71
  · subst h71
    exact cpn_s
  rw [cl_Ib_n h71]
  simp only [up2_g, h71, if_false]
  exact cl_Ib_n h71
theorem l_Ib {P : Pm} : iter (fun t : Int32 × Pm => f_X7_image_B185 t.1 t.2) 200 (0, P) = some (cl_Ib 24 P) := by
  have h : ∃ P', iter (fun t : Int32 × Pm => f_X7_image_B185 t.1 t.2) 200 (0, P) = some P' ∧ P' = cl_Ib 24 P := by
    refine iter_I (fun k t => t.1 = nI k ∧ t.2 = cl_Ib k P) (fun r => r = cl_Ib 24 P) 24 (fun k t hk hI => ?_) (fun t hI => ?_) 24 0 _ (by omega) ⟨rfl, cl_Ib_0.symm⟩ 200 (by omega)
    · obtain ⟨v, T⟩ := t
      obtain ⟨hv, hT⟩ := hI
      dsimp only at hv hT
      subst hv
      subst hT
      have h6 : inb (nI k) 24 = true := inb_nI hk (by decide)
      have hx : ix (nI k) = k := ix_nI (by omega)
      refine ⟨(nI (k + 1), cl_Ib (k + 1) P), ?_, rfl, rfl⟩
      show f_X7_image_B185 (nI k) (cl_Ib k P) = _
      unfold f_X7_image_B185
      simp only [if_neg (show ¬ (24 : Int32) ≤ nI k from nI_ge (b := 24) hk (by omega)), h6, if_true, nb, hx, nI_1]
      rw [← cl_Ib_s (k := k) (P0 := P)]
      all_goals rfl
    · obtain ⟨v, T⟩ := t
      obtain ⟨hv, hT⟩ := hI
      dsimp only at hv hT
      subst hv
      subst hT
      refine ⟨_, ?_, rfl⟩
      show f_X7_image_B185 (nI 24) (cl_Ib 24 P) = _
      unfold f_X7_image_B185
      rw [if_pos (show (24 : Int32) ≤ nI 24 from Int32.le_refl _)]
  obtain ⟨P', h1, h2⟩ := h
  rw [h1, h2]
def cl_Ic (k : Nat) (P0 : Pm) : Pm := fun c => if c = 72 then cpn k (P0 72) (P0 46) else if c = 73 then cpn k (P0 73) (P0 47) else P0 c
theorem cl_Ic_72 {k : Nat} {P0 : Pm} : cl_Ic k P0 72 = cpn k (P0 72) (P0 46) := rfl
theorem cl_Ic_73 {k : Nat} {P0 : Pm} : cl_Ic k P0 73 = cpn k (P0 73) (P0 47) := rfl
theorem cl_Ic_n {k c : Nat} {P0 : Pm} (h72 : c ≠ 72) (h73 : c ≠ 73) : cl_Ic k P0 c = P0 c := by
  unfold cl_Ic
  simp only [h72, h73, if_false]
theorem cl_Ic_0 {P0 : Pm} : cl_Ic 0 P0 = P0 := by
  funext c
  unfold cl_Ic
  simp only [cpn_0]
  repeat (first | (split; (rename_i h; subst h; rfl)) | rfl)
theorem cl_Ic_s {k : Nat} {P0 : Pm} : (up2 (up2 (cl_Ic k P0) 72 k ((cl_Ic k P0) 46 k)) 73 k ((cl_Ic k P0) 47 k)) = cl_Ic (k + 1) P0 := by
  funext c
  by_cases h72 : c = 72
  · subst h72
    exact cpn_s
  by_cases h73 : c = 73
  · subst h73
    exact cpn_s
  rw [cl_Ic_n h72 h73]
  simp only [up2_g, h72, h73, if_false]
  exact cl_Ic_n h72 h73
theorem l_Ic {P : Pm} : iter (fun t : Int32 × Pm => f_X7_image_B211 t.1 t.2) 200 (0, P) = some (cl_Ic 5 P) := by
  have h : ∃ P', iter (fun t : Int32 × Pm => f_X7_image_B211 t.1 t.2) 200 (0, P) = some P' ∧ P' = cl_Ic 5 P := by
    refine iter_I (fun k t => t.1 = nI k ∧ t.2 = cl_Ic k P) (fun r => r = cl_Ic 5 P) 5 (fun k t hk hI => ?_) (fun t hI => ?_) 5 0 _ (by omega) ⟨rfl, cl_Ic_0.symm⟩ 200 (by omega)
    · obtain ⟨v, T⟩ := t
      obtain ⟨hv, hT⟩ := hI
      dsimp only at hv hT
      subst hv
      subst hT
      have h6 : inb (nI k) 5 = true := inb_nI hk (by decide)
      have hx : ix (nI k) = k := ix_nI (by omega)
      refine ⟨(nI (k + 1), cl_Ic (k + 1) P), ?_, rfl, rfl⟩
      show f_X7_image_B211 (nI k) (cl_Ic k P) = _
      unfold f_X7_image_B211
      simp only [if_neg (show ¬ (5 : Int32) ≤ nI k from nI_ge (b := 5) hk (by omega)), h6, if_true, nb, hx, nI_1]
      rw [← cl_Ic_s (k := k) (P0 := P)]
      all_goals rfl
    · obtain ⟨v, T⟩ := t
      obtain ⟨hv, hT⟩ := hI
      dsimp only at hv hT
      subst hv
      subst hT
      refine ⟨_, ?_, rfl⟩
      show f_X7_image_B211 (nI 5) (cl_Ic 5 P) = _
      unfold f_X7_image_B211
      rw [if_pos (show (5 : Int32) ≤ nI 5 from Int32.le_refl _)]
  obtain ⟨P', h1, h2⟩ := h
  rw [h1, h2]
def cl_Id (k : Nat) (P0 : Pm) : Pm := fun c => if c = 74 then cpn k (P0 74) (P0 50) else if c = 75 then cpn k (P0 75) (P0 51) else P0 c
theorem cl_Id_74 {k : Nat} {P0 : Pm} : cl_Id k P0 74 = cpn k (P0 74) (P0 50) := rfl
theorem cl_Id_75 {k : Nat} {P0 : Pm} : cl_Id k P0 75 = cpn k (P0 75) (P0 51) := rfl
theorem cl_Id_n {k c : Nat} {P0 : Pm} (h74 : c ≠ 74) (h75 : c ≠ 75) : cl_Id k P0 c = P0 c := by
  unfold cl_Id
  simp only [h74, h75, if_false]
theorem cl_Id_0 {P0 : Pm} : cl_Id 0 P0 = P0 := by
  funext c
  unfold cl_Id
  simp only [cpn_0]
  repeat (first | (split; (rename_i h; subst h; rfl)) | rfl)
theorem cl_Id_s {k : Nat} {P0 : Pm} : (up2 (up2 (cl_Id k P0) 74 k ((cl_Id k P0) 50 k)) 75 k ((cl_Id k P0) 51 k)) = cl_Id (k + 1) P0 := by
  funext c
  by_cases h74 : c = 74
  · subst h74
    exact cpn_s
  by_cases h75 : c = 75
  · subst h75
    exact cpn_s
  rw [cl_Id_n h74 h75]
  simp only [up2_g, h74, h75, if_false]
  exact cl_Id_n h74 h75
theorem l_Id {P : Pm} : iter (fun t : Int32 × Pm => f_X7_image_B248 t.1 t.2) 200 (0, P) = some (cl_Id 10 P) := by
  have h : ∃ P', iter (fun t : Int32 × Pm => f_X7_image_B248 t.1 t.2) 200 (0, P) = some P' ∧ P' = cl_Id 10 P := by
    refine iter_I (fun k t => t.1 = nI k ∧ t.2 = cl_Id k P) (fun r => r = cl_Id 10 P) 10 (fun k t hk hI => ?_) (fun t hI => ?_) 10 0 _ (by omega) ⟨rfl, cl_Id_0.symm⟩ 200 (by omega)
    · obtain ⟨v, T⟩ := t
      obtain ⟨hv, hT⟩ := hI
      dsimp only at hv hT
      subst hv
      subst hT
      have h6 : inb (nI k) 10 = true := inb_nI hk (by decide)
      have hx : ix (nI k) = k := ix_nI (by omega)
      refine ⟨(nI (k + 1), cl_Id (k + 1) P), ?_, rfl, rfl⟩
      show f_X7_image_B248 (nI k) (cl_Id k P) = _
      unfold f_X7_image_B248
      simp only [if_neg (show ¬ (10 : Int32) ≤ nI k from nI_ge (b := 10) hk (by omega)), h6, if_true, nb, hx, nI_1]
      rw [← cl_Id_s (k := k) (P0 := P)]
      all_goals rfl
    · obtain ⟨v, T⟩ := t
      obtain ⟨hv, hT⟩ := hI
      dsimp only at hv hT
      subst hv
      subst hT
      refine ⟨_, ?_, rfl⟩
      show f_X7_image_B248 (nI 10) (cl_Id 10 P) = _
      unfold f_X7_image_B248
      rw [if_pos (show (10 : Int32) ≤ nI 10 from Int32.le_refl _)]
  obtain ⟨P', h1, h2⟩ := h
  rw [h1, h2]
def cl_Ie (k : Nat) (P0 : Pm) : Pm := fun c => if c = 76 then cpn k (P0 76) (P0 52) else if c = 77 then cpn k (P0 77) (P0 53) else P0 c
theorem cl_Ie_76 {k : Nat} {P0 : Pm} : cl_Ie k P0 76 = cpn k (P0 76) (P0 52) := rfl
theorem cl_Ie_77 {k : Nat} {P0 : Pm} : cl_Ie k P0 77 = cpn k (P0 77) (P0 53) := rfl
theorem cl_Ie_n {k c : Nat} {P0 : Pm} (h76 : c ≠ 76) (h77 : c ≠ 77) : cl_Ie k P0 c = P0 c := by
  unfold cl_Ie
  simp only [h76, h77, if_false]
theorem cl_Ie_0 {P0 : Pm} : cl_Ie 0 P0 = P0 := by
  funext c
  unfold cl_Ie
  simp only [cpn_0]
  repeat (first | (split; (rename_i h; subst h; rfl)) | rfl)
theorem cl_Ie_s {k : Nat} {P0 : Pm} : (up2 (up2 (cl_Ie k P0) 76 k ((cl_Ie k P0) 52 k)) 77 k ((cl_Ie k P0) 53 k)) = cl_Ie (k + 1) P0 := by
  funext c
  by_cases h76 : c = 76
  · subst h76
    exact cpn_s
  by_cases h77 : c = 77
  · subst h77
    exact cpn_s
  rw [cl_Ie_n h76 h77]
  simp only [up2_g, h76, h77, if_false]
  exact cl_Ie_n h76 h77
theorem l_Ie {P : Pm} : iter (fun t : Int32 × Pm => f_X7_image_B286 t.1 t.2) 200 (0, P) = some (cl_Ie 8 P) := by
  have h : ∃ P', iter (fun t : Int32 × Pm => f_X7_image_B286 t.1 t.2) 200 (0, P) = some P' ∧ P' = cl_Ie 8 P := by
    refine iter_I (fun k t => t.1 = nI k ∧ t.2 = cl_Ie k P) (fun r => r = cl_Ie 8 P) 8 (fun k t hk hI => ?_) (fun t hI => ?_) 8 0 _ (by omega) ⟨rfl, cl_Ie_0.symm⟩ 200 (by omega)
    · obtain ⟨v, T⟩ := t
      obtain ⟨hv, hT⟩ := hI
      dsimp only at hv hT
      subst hv
      subst hT
      have h6 : inb (nI k) 8 = true := inb_nI hk (by decide)
      have hx : ix (nI k) = k := ix_nI (by omega)
      refine ⟨(nI (k + 1), cl_Ie (k + 1) P), ?_, rfl, rfl⟩
      show f_X7_image_B286 (nI k) (cl_Ie k P) = _
      unfold f_X7_image_B286
      simp only [if_neg (show ¬ (8 : Int32) ≤ nI k from nI_ge (b := 8) hk (by omega)), h6, if_true, nb, hx, nI_1]
      rw [← cl_Ie_s (k := k) (P0 := P)]
      all_goals rfl
    · obtain ⟨v, T⟩ := t
      obtain ⟨hv, hT⟩ := hI
      dsimp only at hv hT
      subst hv
      subst hT
      refine ⟨_, ?_, rfl⟩
      show f_X7_image_B286 (nI 8) (cl_Ie 8 P) = _
      unfold f_X7_image_B286
      rw [if_pos (show (8 : Int32) ≤ nI 8 from Int32.le_refl _)]
  obtain ⟨P', h1, h2⟩ := h
  rw [h1, h2]
def cl_Ua (k : Nat) (P0 : Pm) : Pm := fun c => if c = 4 then cpn k (P0 4) (P0 62) else if c = 5 then cpn k (P0 5) (P0 63) else if c = 6 then cpn k (P0 6) (P0 64) else if c = 7 then cpn k (P0 7) (P0 65) else if c = 8 then cpn k (P0 8) (P0 66) else if c = 9 then cpn k (P0 9) (P0 67) else if c = 10 then cpn k (P0 10) (P0 68) else if c = 11 then cpn k (P0 11) (P0 69) else if c = 13 then cpn k (P0 13) (P0 70) else P0 c
theorem cl_Ua_4 {k : Nat} {P0 : Pm} : cl_Ua k P0 4 = cpn k (P0 4) (P0 62) := rfl
theorem cl_Ua_5 {k : Nat} {P0 : Pm} : cl_Ua k P0 5 = cpn k (P0 5) (P0 63) := rfl
theorem cl_Ua_6 {k : Nat} {P0 : Pm} : cl_Ua k P0 6 = cpn k (P0 6) (P0 64) := rfl
theorem cl_Ua_7 {k : Nat} {P0 : Pm} : cl_Ua k P0 7 = cpn k (P0 7) (P0 65) := rfl
theorem cl_Ua_8 {k : Nat} {P0 : Pm} : cl_Ua k P0 8 = cpn k (P0 8) (P0 66) := rfl
theorem cl_Ua_9 {k : Nat} {P0 : Pm} : cl_Ua k P0 9 = cpn k (P0 9) (P0 67) := rfl
theorem cl_Ua_10 {k : Nat} {P0 : Pm} : cl_Ua k P0 10 = cpn k (P0 10) (P0 68) := rfl
theorem cl_Ua_11 {k : Nat} {P0 : Pm} : cl_Ua k P0 11 = cpn k (P0 11) (P0 69) := rfl
theorem cl_Ua_13 {k : Nat} {P0 : Pm} : cl_Ua k P0 13 = cpn k (P0 13) (P0 70) := rfl
theorem cl_Ua_n {k c : Nat} {P0 : Pm} (h4 : c ≠ 4) (h5 : c ≠ 5) (h6 : c ≠ 6) (h7 : c ≠ 7) (h8 : c ≠ 8) (h9 : c ≠ 9) (h10 : c ≠ 10) (h11 : c ≠ 11) (h13 : c ≠ 13) : cl_Ua k P0 c = P0 c := by
  unfold cl_Ua
  simp only [h4, h5, h6, h7, h8, h9, h10, h11, h13, if_false]
theorem cl_Ua_0 {P0 : Pm} : cl_Ua 0 P0 = P0 := by
  funext c
  unfold cl_Ua
  simp only [cpn_0]
  repeat (first | (split; (rename_i h; subst h; rfl)) | rfl)
theorem cl_Ua_s {k : Nat} {P0 : Pm} : (up2 (up2 (up2 (up2 (up2 (up2 (up2 (up2 (up2 (cl_Ua k P0) 4 k ((cl_Ua k P0) 62 k)) 5 k ((cl_Ua k P0) 63 k)) 6 k ((cl_Ua k P0) 64 k)) 7 k ((cl_Ua k P0) 65 k)) 8 k ((cl_Ua k P0) 66 k)) 9 k ((cl_Ua k P0) 67 k)) 10 k ((cl_Ua k P0) 68 k)) 11 k ((cl_Ua k P0) 69 k)) 13 k ((cl_Ua k P0) 70 k)) = cl_Ua (k + 1) P0 := by
  funext c
  by_cases h4 : c = 4
  · subst h4
    exact cpn_s
  by_cases h5 : c = 5
  · subst h5
    exact cpn_s
  by_cases h6 : c = 6
  · subst h6
    exact cpn_s
  by_cases h7 : c = 7
  · subst h7
    exact cpn_s
  by_cases h8 : c = 8
  · subst h8
    exact cpn_s
  by_cases h9 : c = 9
  · subst h9
    exact cpn_s
  by_cases h10 : c = 10
  · subst h10
    exact cpn_s
  by_cases h11 : c = 11
  · subst h11
    exact cpn_s
  by_cases h13 : c = 13
  · subst h13
    exact cpn_s
  rw [cl_Ua_n h4 h5 h6 h7 h8 h9 h10 h11 h13]
  simp only [up2_g, h4, h5, h6, h7, h8, h9, h10, h11, h13, if_false]
  exact cl_Ua_n h4 h5 h6 h7 h8 h9 h10 h11 h13
theorem l_Ua {P : Pm} : iter (fun t : Int32 × Pm => f_X7_undo_B68 t.1 t.2) 200 (0, P) = some (cl_Ua 6 P) := by
  have h : ∃ P', iter (fun t : Int32 × Pm => f_X7_undo_B68 t.1 t.2) 200 (0, P) = some P' ∧ P' = cl_Ua 6 P := by
    refine iter_I (fun k t => t.1 = nI k ∧ t.2 = cl_Ua k P) (fun r => r = cl_Ua 6 P) 6 (fun k t hk hI => ?_) (fun t hI => ?_) 6 0 _ (by omega) ⟨rfl, cl_Ua_0.symm⟩ 200 (by omega)
    · obtain ⟨v, T⟩ := t
      obtain ⟨hv, hT⟩ := hI
      dsimp only at hv hT
      subst hv
      subst hT
      have h6 : inb (nI k) 6 = true := inb_nI hk (by decide)
      have hx : ix (nI k) = k := ix_nI (by omega)
      refine ⟨(nI (k + 1), cl_Ua (k + 1) P), ?_, rfl, rfl⟩
      show f_X7_undo_B68 (nI k) (cl_Ua k P) = _
      unfold f_X7_undo_B68
      simp only [if_neg (show ¬ (6 : Int32) ≤ nI k from nI_ge (b := 6) hk (by omega)), h6, if_true, nb, hx, nI_1]
      rw [← cl_Ua_s (k := k) (P0 := P)]
      all_goals rfl
    · obtain ⟨v, T⟩ := t
      obtain ⟨hv, hT⟩ := hI
      dsimp only at hv hT
      subst hv
      subst hT
      refine ⟨_, ?_, rfl⟩
      show f_X7_undo_B68 (nI 6) (cl_Ua 6 P) = _
      unfold f_X7_undo_B68
      rw [if_pos (show (6 : Int32) ≤ nI 6 from Int32.le_refl _)]
  obtain ⟨P', h1, h2⟩ := h
  rw [h1, h2]
def cl_Ub (k : Nat) (P0 : Pm) : Pm := fun c => if c = 12 then cpn k (P0 12) (P0 71) else P0 c
theorem cl_Ub_12 {k : Nat} {P0 : Pm} : cl_Ub k P0 12 = cpn k (P0 12) (P0 71) := rfl
theorem cl_Ub_n {k c : Nat} {P0 : Pm} (h12 : c ≠ 12) : cl_Ub k P0 c = P0 c := by
  unfold cl_Ub
  simp only [h12, if_false]
theorem cl_Ub_0 {P0 : Pm} : cl_Ub 0 P0 = P0 := by
  funext c
  unfold cl_Ub
  simp only [cpn_0]
  repeat (first | (split; (rename_i h; subst h; rfl)) | rfl)
theorem cl_Ub_s {k : Nat} {P0 : Pm} : (up2 (cl_Ub k P0) 12 k ((cl_Ub k P0) 71 k)) = cl_Ub (k + 1) P0 := by
  funext c
  by_cases h12 : c = 12
  · subst h12
    exact cpn_s
  rw [cl_Ub_n h12]
  simp only [up2_g, h12, if_false]
  exact cl_Ub_n h12
theorem l_Ub {P : Pm} : iter (fun t : Int32 × Pm => f_X7_undo_B190 t.1 t.2) 200 (0, P) = some (cl_Ub 24 P) := by
  have h : ∃ P', iter (fun t : Int32 × Pm => f_X7_undo_B190 t.1 t.2) 200 (0, P) = some P' ∧ P' = cl_Ub 24 P := by
    refine iter_I (fun k t => t.1 = nI k ∧ t.2 = cl_Ub k P) (fun r => r = cl_Ub 24 P) 24 (fun k t hk hI => ?_) (fun t hI => ?_) 24 0 _ (by omega) ⟨rfl, cl_Ub_0.symm⟩ 200 (by omega)
    · obtain ⟨v, T⟩ := t
      obtain ⟨hv, hT⟩ := hI
      dsimp only at hv hT
      subst hv
      subst hT
      have h6 : inb (nI k) 24 = true := inb_nI hk (by decide)
      have hx : ix (nI k) = k := ix_nI (by omega)
      refine ⟨(nI (k + 1), cl_Ub (k + 1) P), ?_, rfl, rfl⟩
      show f_X7_undo_B190 (nI k) (cl_Ub k P) = _
      unfold f_X7_undo_B190
      simp only [if_neg (show ¬ (24 : Int32) ≤ nI k from nI_ge (b := 24) hk (by omega)), h6, if_true, nb, hx, nI_1]
      rw [← cl_Ub_s (k := k) (P0 := P)]
      all_goals rfl
    · obtain ⟨v, T⟩ := t
      obtain ⟨hv, hT⟩ := hI
      dsimp only at hv hT
      subst hv
      subst hT
      refine ⟨_, ?_, rfl⟩
      show f_X7_undo_B190 (nI 24) (cl_Ub 24 P) = _
      unfold f_X7_undo_B190
      rw [if_pos (show (24 : Int32) ≤ nI 24 from Int32.le_refl _)]
  obtain ⟨P', h1, h2⟩ := h
  rw [h1, h2]
def cl_Uc (k : Nat) (P0 : Pm) : Pm := fun c => if c = 46 then cpn k (P0 46) (P0 72) else if c = 47 then cpn k (P0 47) (P0 73) else P0 c
theorem cl_Uc_46 {k : Nat} {P0 : Pm} : cl_Uc k P0 46 = cpn k (P0 46) (P0 72) := rfl
theorem cl_Uc_47 {k : Nat} {P0 : Pm} : cl_Uc k P0 47 = cpn k (P0 47) (P0 73) := rfl
theorem cl_Uc_n {k c : Nat} {P0 : Pm} (h46 : c ≠ 46) (h47 : c ≠ 47) : cl_Uc k P0 c = P0 c := by
  unfold cl_Uc
  simp only [h46, h47, if_false]
theorem cl_Uc_0 {P0 : Pm} : cl_Uc 0 P0 = P0 := by
  funext c
  unfold cl_Uc
  simp only [cpn_0]
  repeat (first | (split; (rename_i h; subst h; rfl)) | rfl)
theorem cl_Uc_s {k : Nat} {P0 : Pm} : (up2 (up2 (cl_Uc k P0) 46 k ((cl_Uc k P0) 72 k)) 47 k ((cl_Uc k P0) 73 k)) = cl_Uc (k + 1) P0 := by
  funext c
  by_cases h46 : c = 46
  · subst h46
    exact cpn_s
  by_cases h47 : c = 47
  · subst h47
    exact cpn_s
  rw [cl_Uc_n h46 h47]
  simp only [up2_g, h46, h47, if_false]
  exact cl_Uc_n h46 h47
theorem l_Uc {P : Pm} : iter (fun t : Int32 × Pm => f_X7_undo_B216 t.1 t.2) 200 (0, P) = some (cl_Uc 5 P) := by
  have h : ∃ P', iter (fun t : Int32 × Pm => f_X7_undo_B216 t.1 t.2) 200 (0, P) = some P' ∧ P' = cl_Uc 5 P := by
    refine iter_I (fun k t => t.1 = nI k ∧ t.2 = cl_Uc k P) (fun r => r = cl_Uc 5 P) 5 (fun k t hk hI => ?_) (fun t hI => ?_) 5 0 _ (by omega) ⟨rfl, cl_Uc_0.symm⟩ 200 (by omega)
    · obtain ⟨v, T⟩ := t
      obtain ⟨hv, hT⟩ := hI
      dsimp only at hv hT
      subst hv
      subst hT
      have h6 : inb (nI k) 5 = true := inb_nI hk (by decide)
      have hx : ix (nI k) = k := ix_nI (by omega)
      refine ⟨(nI (k + 1), cl_Uc (k + 1) P), ?_, rfl, rfl⟩
      show f_X7_undo_B216 (nI k) (cl_Uc k P) = _
      unfold f_X7_undo_B216
      simp only [if_neg (show ¬ (5 : Int32) ≤ nI k from nI_ge (b := 5) hk (by omega)), h6, if_true, nb, hx, nI_1]
      rw [← cl_Uc_s (k := k) (P0 := P)]
      all_goals rfl
    · obtain ⟨v, T⟩ := t
      obtain ⟨hv, hT⟩ := hI
      dsimp only at hv hT
      subst hv
      subst hT
      refine ⟨_, ?_, rfl⟩
      show f_X7_undo_B216 (nI 5) (cl_Uc 5 P) = _
      unfold f_X7_undo_B216
      rw [if_pos (show (5 : Int32) ≤ nI 5 from Int32.le_refl _)]
  obtain ⟨P', h1, h2⟩ := h
  rw [h1, h2]
def cl_Ud (k : Nat) (P0 : Pm) : Pm := fun c => if c = 50 then cpn k (P0 50) (P0 74) else if c = 51 then cpn k (P0 51) (P0 75) else P0 c
theorem cl_Ud_50 {k : Nat} {P0 : Pm} : cl_Ud k P0 50 = cpn k (P0 50) (P0 74) := rfl
theorem cl_Ud_51 {k : Nat} {P0 : Pm} : cl_Ud k P0 51 = cpn k (P0 51) (P0 75) := rfl
theorem cl_Ud_n {k c : Nat} {P0 : Pm} (h50 : c ≠ 50) (h51 : c ≠ 51) : cl_Ud k P0 c = P0 c := by
  unfold cl_Ud
  simp only [h50, h51, if_false]
theorem cl_Ud_0 {P0 : Pm} : cl_Ud 0 P0 = P0 := by
  funext c
  unfold cl_Ud
  simp only [cpn_0]
  repeat (first | (split; (rename_i h; subst h; rfl)) | rfl)
theorem cl_Ud_s {k : Nat} {P0 : Pm} : (up2 (up2 (cl_Ud k P0) 50 k ((cl_Ud k P0) 74 k)) 51 k ((cl_Ud k P0) 75 k)) = cl_Ud (k + 1) P0 := by
  funext c
  by_cases h50 : c = 50
  · subst h50
    exact cpn_s
  by_cases h51 : c = 51
  · subst h51
    exact cpn_s
  rw [cl_Ud_n h50 h51]
  simp only [up2_g, h50, h51, if_false]
  exact cl_Ud_n h50 h51
theorem l_Ud {P : Pm} : iter (fun t : Int32 × Pm => f_X7_undo_B253 t.1 t.2) 200 (0, P) = some (cl_Ud 10 P) := by
  have h : ∃ P', iter (fun t : Int32 × Pm => f_X7_undo_B253 t.1 t.2) 200 (0, P) = some P' ∧ P' = cl_Ud 10 P := by
    refine iter_I (fun k t => t.1 = nI k ∧ t.2 = cl_Ud k P) (fun r => r = cl_Ud 10 P) 10 (fun k t hk hI => ?_) (fun t hI => ?_) 10 0 _ (by omega) ⟨rfl, cl_Ud_0.symm⟩ 200 (by omega)
    · obtain ⟨v, T⟩ := t
      obtain ⟨hv, hT⟩ := hI
      dsimp only at hv hT
      subst hv
      subst hT
      have h6 : inb (nI k) 10 = true := inb_nI hk (by decide)
      have hx : ix (nI k) = k := ix_nI (by omega)
      refine ⟨(nI (k + 1), cl_Ud (k + 1) P), ?_, rfl, rfl⟩
      show f_X7_undo_B253 (nI k) (cl_Ud k P) = _
      unfold f_X7_undo_B253
      simp only [if_neg (show ¬ (10 : Int32) ≤ nI k from nI_ge (b := 10) hk (by omega)), h6, if_true, nb, hx, nI_1]
      rw [← cl_Ud_s (k := k) (P0 := P)]
      all_goals rfl
    · obtain ⟨v, T⟩ := t
      obtain ⟨hv, hT⟩ := hI
      dsimp only at hv hT
      subst hv
      subst hT
      refine ⟨_, ?_, rfl⟩
      show f_X7_undo_B253 (nI 10) (cl_Ud 10 P) = _
      unfold f_X7_undo_B253
      rw [if_pos (show (10 : Int32) ≤ nI 10 from Int32.le_refl _)]
  obtain ⟨P', h1, h2⟩ := h
  rw [h1, h2]
def cl_Ue (k : Nat) (P0 : Pm) : Pm := fun c => if c = 52 then cpn k (P0 52) (P0 76) else if c = 53 then cpn k (P0 53) (P0 77) else P0 c
theorem cl_Ue_52 {k : Nat} {P0 : Pm} : cl_Ue k P0 52 = cpn k (P0 52) (P0 76) := rfl
theorem cl_Ue_53 {k : Nat} {P0 : Pm} : cl_Ue k P0 53 = cpn k (P0 53) (P0 77) := rfl
theorem cl_Ue_n {k c : Nat} {P0 : Pm} (h52 : c ≠ 52) (h53 : c ≠ 53) : cl_Ue k P0 c = P0 c := by
  unfold cl_Ue
  simp only [h52, h53, if_false]
theorem cl_Ue_0 {P0 : Pm} : cl_Ue 0 P0 = P0 := by
  funext c
  unfold cl_Ue
  simp only [cpn_0]
  repeat (first | (split; (rename_i h; subst h; rfl)) | rfl)
theorem cl_Ue_s {k : Nat} {P0 : Pm} : (up2 (up2 (cl_Ue k P0) 52 k ((cl_Ue k P0) 76 k)) 53 k ((cl_Ue k P0) 77 k)) = cl_Ue (k + 1) P0 := by
  funext c
  by_cases h52 : c = 52
  · subst h52
    exact cpn_s
  by_cases h53 : c = 53
  · subst h53
    exact cpn_s
  rw [cl_Ue_n h52 h53]
  simp only [up2_g, h52, h53, if_false]
  exact cl_Ue_n h52 h53
theorem l_Ue {P : Pm} : iter (fun t : Int32 × Pm => f_X7_undo_B291 t.1 t.2) 200 (0, P) = some (cl_Ue 8 P) := by
  have h : ∃ P', iter (fun t : Int32 × Pm => f_X7_undo_B291 t.1 t.2) 200 (0, P) = some P' ∧ P' = cl_Ue 8 P := by
    refine iter_I (fun k t => t.1 = nI k ∧ t.2 = cl_Ue k P) (fun r => r = cl_Ue 8 P) 8 (fun k t hk hI => ?_) (fun t hI => ?_) 8 0 _ (by omega) ⟨rfl, cl_Ue_0.symm⟩ 200 (by omega)
    · obtain ⟨v, T⟩ := t
      obtain ⟨hv, hT⟩ := hI
      dsimp only at hv hT
      subst hv
      subst hT
      have h6 : inb (nI k) 8 = true := inb_nI hk (by decide)
      have hx : ix (nI k) = k := ix_nI (by omega)
      refine ⟨(nI (k + 1), cl_Ue (k + 1) P), ?_, rfl, rfl⟩
      show f_X7_undo_B291 (nI k) (cl_Ue k P) = _
      unfold f_X7_undo_B291
      simp only [if_neg (show ¬ (8 : Int32) ≤ nI k from nI_ge (b := 8) hk (by omega)), h6, if_true, nb, hx, nI_1]
      rw [← cl_Ue_s (k := k) (P0 := P)]
      all_goals rfl
    · obtain ⟨v, T⟩ := t
      obtain ⟨hv, hT⟩ := hI
      dsimp only at hv hT
      subst hv
      subst hT
      refine ⟨_, ?_, rfl⟩
      show f_X7_undo_B291 (nI 8) (cl_Ue 8 P) = _
      unfold f_X7_undo_B291
      rw [if_pos (show (8 : Int32) ≤ nI 8 from Int32.le_refl _)]
  obtain ⟨P', h1, h2⟩ := h
  rw [h1, h2]
theorem cpn_i {k i : Nat} {f g : Nat → Int32} (h : i < k) : cpn k f g i = g i := if_pos h
def imP (P : Pm) : Pm := up2 (up2 (up2 (up2 (up2 (up2 (up2 (up2 P 0 53 1) 0 54 (P 0 14)) 0 55 (P 0 0)) 0 56 (P 0 1)) 0 57 (P 0 2)) 0 58 (P 0 44)) 0 59 (P 0 47)) 0 60 (P 0 48)
def unP (P : Pm) : Pm := up2 (up2 (up2 (up2 (up2 (up2 (up2 P 0 14 (P 0 54)) 0 0 (P 0 55)) 0 1 (P 0 56)) 0 2 (P 0 57)) 0 44 (P 0 58)) 0 47 (P 0 59)) 0 48 (P 0 60)
def flI (P : Pm) : Pm := cl_Ie 8 (cl_Id 10 (cl_Ic 5 (cl_Ib 24 (cl_Ia 6 (imP P)))))
def flU (P : Pm) : Pm := cl_Ue 8 (cl_Ud 10 (cl_Uc 5 (cl_Ub 24 (cl_Ua 6 (unP P)))))
theorem flI_n {P : Pm} {c : Nat} (h0 : c ≠ 0) (h62 : c ≠ 62) (h63 : c ≠ 63) (h64 : c ≠ 64) (h65 : c ≠ 65) (h66 : c ≠ 66) (h67 : c ≠ 67) (h68 : c ≠ 68) (h69 : c ≠ 69) (h70 : c ≠ 70) (h71 : c ≠ 71) (h72 : c ≠ 72) (h73 : c ≠ 73) (h74 : c ≠ 74) (h75 : c ≠ 75) (h76 : c ≠ 76) (h77 : c ≠ 77) : flI P c = P c := by
  unfold flI
  rw [cl_Ie_n h76 h77, cl_Id_n h74 h75, cl_Ic_n h72 h73, cl_Ib_n h71, cl_Ia_n h62 h63 h64 h65 h66 h67 h68 h69 h70]
  unfold imP
  simp only [up2_g, h0, if_false]
theorem flI_0 {P : Pm} : flI P 0 = imP P 0 := rfl
theorem flI_62 {P : Pm} : flI P 62 = cpn 6 (P 62) (P 4) := rfl
theorem flI_63 {P : Pm} : flI P 63 = cpn 6 (P 63) (P 5) := rfl
theorem flI_64 {P : Pm} : flI P 64 = cpn 6 (P 64) (P 6) := rfl
theorem flI_65 {P : Pm} : flI P 65 = cpn 6 (P 65) (P 7) := rfl
theorem flI_66 {P : Pm} : flI P 66 = cpn 6 (P 66) (P 8) := rfl
theorem flI_67 {P : Pm} : flI P 67 = cpn 6 (P 67) (P 9) := rfl
theorem flI_68 {P : Pm} : flI P 68 = cpn 6 (P 68) (P 10) := rfl
theorem flI_69 {P : Pm} : flI P 69 = cpn 6 (P 69) (P 11) := rfl
theorem flI_70 {P : Pm} : flI P 70 = cpn 6 (P 70) (P 13) := rfl
theorem flI_71 {P : Pm} : flI P 71 = cpn 24 (P 71) (P 12) := rfl
theorem flI_72 {P : Pm} : flI P 72 = cpn 5 (P 72) (P 46) := rfl
theorem flI_73 {P : Pm} : flI P 73 = cpn 5 (P 73) (P 47) := rfl
theorem flI_74 {P : Pm} : flI P 74 = cpn 10 (P 74) (P 50) := rfl
theorem flI_75 {P : Pm} : flI P 75 = cpn 10 (P 75) (P 51) := rfl
theorem flI_76 {P : Pm} : flI P 76 = cpn 8 (P 76) (P 52) := rfl
theorem flI_77 {P : Pm} : flI P 77 = cpn 8 (P 77) (P 53) := rfl
theorem flU_n {P : Pm} {c : Nat} (h0 : c ≠ 0) (h4 : c ≠ 4) (h5 : c ≠ 5) (h6 : c ≠ 6) (h7 : c ≠ 7) (h8 : c ≠ 8) (h9 : c ≠ 9) (h10 : c ≠ 10) (h11 : c ≠ 11) (h12 : c ≠ 12) (h13 : c ≠ 13) (h46 : c ≠ 46) (h47 : c ≠ 47) (h50 : c ≠ 50) (h51 : c ≠ 51) (h52 : c ≠ 52) (h53 : c ≠ 53) : flU P c = P c := by
  unfold flU
  rw [cl_Ue_n h52 h53, cl_Ud_n h50 h51, cl_Uc_n h46 h47, cl_Ub_n h12, cl_Ua_n h4 h5 h6 h7 h8 h9 h10 h11 h13]
  unfold unP
  simp only [up2_g, h0, if_false]
theorem flU_0 {P : Pm} : flU P 0 = unP P 0 := rfl
theorem flU_4 {P : Pm} : flU P 4 = cpn 6 (P 4) (P 62) := rfl
theorem flU_5 {P : Pm} : flU P 5 = cpn 6 (P 5) (P 63) := rfl
theorem flU_6 {P : Pm} : flU P 6 = cpn 6 (P 6) (P 64) := rfl
theorem flU_7 {P : Pm} : flU P 7 = cpn 6 (P 7) (P 65) := rfl
theorem flU_8 {P : Pm} : flU P 8 = cpn 6 (P 8) (P 66) := rfl
theorem flU_9 {P : Pm} : flU P 9 = cpn 6 (P 9) (P 67) := rfl
theorem flU_10 {P : Pm} : flU P 10 = cpn 6 (P 10) (P 68) := rfl
theorem flU_11 {P : Pm} : flU P 11 = cpn 6 (P 11) (P 69) := rfl
theorem flU_13 {P : Pm} : flU P 13 = cpn 6 (P 13) (P 70) := rfl
theorem flU_12 {P : Pm} : flU P 12 = cpn 24 (P 12) (P 71) := rfl
theorem flU_46 {P : Pm} : flU P 46 = cpn 5 (P 46) (P 72) := rfl
theorem flU_47 {P : Pm} : flU P 47 = cpn 5 (P 47) (P 73) := rfl
theorem flU_50 {P : Pm} : flU P 50 = cpn 10 (P 50) (P 74) := rfl
theorem flU_51 {P : Pm} : flU P 51 = cpn 10 (P 51) (P 75) := rfl
theorem flU_52 {P : Pm} : flU P 52 = cpn 8 (P 52) (P 76) := rfl
theorem flU_53 {P : Pm} : flU P 53 = cpn 8 (P 53) (P 77) := rfl
theorem m_image {P : Pm} : f_X7_image P = some (P 0 1, flI P) := by
  unfold f_X7_image
  simp only [nb_w]
  unfold f_X7_image_H63
  rw [l_Ia, Option.bind_some]
  unfold f_X7_image_J183 f_X7_image_H185
  rw [l_Ib, Option.bind_some]
  unfold f_X7_image_J209 f_X7_image_H211
  rw [l_Ic, Option.bind_some]
  unfold f_X7_image_J246 f_X7_image_H248
  rw [l_Id, Option.bind_some]
  unfold f_X7_image_J284 f_X7_image_H286
  rw [l_Ie, Option.bind_some]
  rfl
theorem m_undo {P : Pm} (h : P 0 53 ≠ 0) : f_X7_undo P = some (P 0 56, flU P) := by
  unfold f_X7_undo
  rw [if_neg h]
  simp only [nb_w]
  unfold f_X7_undo_H68
  rw [l_Ua, Option.bind_some]
  unfold f_X7_undo_J188 f_X7_undo_H190
  rw [l_Ub, Option.bind_some]
  unfold f_X7_undo_J214 f_X7_undo_H216
  rw [l_Uc, Option.bind_some]
  unfold f_X7_undo_J251 f_X7_undo_H253
  rw [l_Ud, Option.bind_some]
  unfold f_X7_undo_J289 f_X7_undo_H291
  rw [l_Ue, Option.bind_some]
  rfl
theorem cpy_i {f g : Nat → Int32} {i k : Nat} {n : Int32} (hn : ix n = k) (h : i < k) : va_cpy f g (ix 0) (ix 0) (ix n) i = f i := by
  have e0 : ix 0 = 0 := rfl
  rw [e0, hn]
  unfold va_cpy
  rw [if_pos (by omega)]
  congr 1
  omega
theorem e_hcopy {P Q : Pm} : ∃ H, f_X2_copyFrom P Q = some H ∧ H 0 0 = Q 0 0 ∧ H 0 1 = Q 0 1 ∧ H 0 2 = Q 0 2 ∧ (∀ i, i < 5 → H 4 i = Q 4 i ∧ H 5 i = Q 5 i) ∧ (∀ i, i < 10 → H 6 i = Q 6 i ∧ H 7 i = Q 7 i) ∧ ∀ i, i < 8 → H 8 i = Q 8 i ∧ H 9 i = Q 9 i := by
  unfold f_X2_copyFrom
  simp only [nb_w]
  rw [if_pos (show cpok 0 0 5 5 5 = true by decide), if_pos (show cpok 0 0 5 5 5 = true by decide), if_pos (show cpok 0 0 10 10 10 = true by decide), if_pos (show cpok 0 0 10 10 10 = true by decide), if_pos (show cpok 0 0 8 8 8 = true by decide), if_pos (show cpok 0 0 8 8 8 = true by decide)]
  refine ⟨_, rfl, rfl, rfl, rfl, fun i hi => ⟨?_, ?_⟩, fun i hi => ⟨?_, ?_⟩, fun i hi => ⟨?_, ?_⟩⟩
  · exact cpy_i (n := 5) (k := 5) rfl hi
  · exact cpy_i (n := 5) (k := 5) rfl hi
  · exact cpy_i (n := 10) (k := 10) rfl hi
  · exact cpy_i (n := 10) (k := 10) rfl hi
  · exact cpy_i (n := 8) (k := 8) rfl hi
  · exact cpy_i (n := 8) (k := 8) rfl hi
theorem HG_copy {n : Nat} {H K : Pm} {a b c : Int32} {p4 p5 p6 p7 p8 p9 r4 r5 r6 r7 r8 r9 : Nat → Int32} (h : HG n H a b c p4 p5 p6 p7 p8 p9) (k0 : K 0 0 = H 0 0) (k1 : K 0 1 = H 0 1) (k2 : K 0 2 = H 0 2) (k4 : ∀ i, i < 5 → K 4 i = H 4 i ∧ K 5 i = H 5 i) (k6 : ∀ i, i < 10 → K 6 i = H 6 i ∧ K 7 i = H 7 i) (k8 : ∀ i, i < 8 → K 8 i = H 8 i ∧ K 9 i = H 9 i) (g4 : ∀ i, i < 5 → r4 i = p4 i ∧ r5 i = p5 i) (g6 : ∀ i, i < 10 → r6 i = p6 i ∧ r7 i = p7 i) (g8 : ∀ i, i < 8 → r8 i = p8 i ∧ r9 i = p9 i) : HG n K a b c r4 r5 r6 r7 r8 r9 := by
  obtain ⟨ns, ny, nk, b1, b2, b3, b4, b5, b6, c1, c2, c3, c4, c5, c6⟩ := h
  refine ⟨ns, ny, nk, b1, b2, b3, by rw [k0]; exact b4, by rw [k1]; exact b5, by rw [k2]; exact b6, fun i hi => ?_, fun i hi => ?_, fun i hi => ?_, fun i hi => ?_, fun i hi => ?_, fun i hi => ?_⟩
  · rw [(k4 i hi).1, (k4 i hi).2, (g4 i hi).1, (g4 i hi).2]
    exact c1 i hi
  · rw [(k6 i hi).1, (k6 i hi).2, (g6 i hi).1, (g6 i hi).2]
    exact c2 i hi
  · rw [(k8 i hi).1, (k8 i hi).2, (g8 i hi).1, (g8 i hi).2]
    exact c3 i hi
  · rw [(k4 i (by omega)).2]
    exact c4 i hi
  · rw [(k6 i (by omega)).1, (k6 i (by omega)).2]
    exact c5 i hi
  · rw [(k8 i (by omega)).1]
    exact c6 i hi
section Im
variable {s t : Mm} {P Q W V : Pm} {lm : Ml} {n d : Nat}
theorem DI_03 {x : Int32} (w3 : DI n d V) : DI n d (up2 V 0 3 x) := ⟨w3.1, w3.2.1, w3.2.2.1, w3.2.2.2.1, w3.2.2.2.2.1, RI_0s w3.2.2.2.2.2.1 (by decide), w3.2.2.2.2.2.2⟩
theorem s_image (h : RR s P lm) : QS s lm (f_X6_image s) (f_X7_image P) := by
  obtain ⟨⟨n, d, h1⟩, h2, h3, h4, h5, h6⟩ := id h
  obtain ⟨w1, w2, w3, w4, w5, w6⟩ := id h1
  obtain ⟨i1, i2, i3⟩ := id h4
  obtain ⟨H, e1, x0, x1, x2, x4, x6, x8⟩ := e_hcopy (P := s 5) (Q := s 4)
  have q0 : ∀ i, i < 53 ∨ 60 < i → flI P 0 i = P 0 i := fun i hi => by
    rw [flI_0]
    unfold imP
    rw [u_ne (Or.inr (by omega)), u_ne (Or.inr (by omega)), u_ne (Or.inr (by omega)), u_ne (Or.inr (by omega)), u_ne (Or.inr (by omega)), u_ne (Or.inr (by omega)), u_ne (Or.inr (by omega)), u_ne (Or.inr (by omega))]
  have qc : ∀ c, c ≠ 0 → c < 62 ∨ 77 < c → flI P c = P c := fun c a b => flI_n a (by omega) (by omega) (by omega) (by omega) (by omega) (by omega) (by omega) (by omega) (by omega) (by omega) (by omega) (by omega) (by omega) (by omega) (by omega) (by omega)
  unfold f_X6_image
  rw [e_copy i1 w1, Option.bind_some, nb_w, setO_n (show (5 : Nat) ≠ 3 by decide), setO_n (show (4 : Nat) ≠ 3 by decide), e1, Option.bind_some, m_image]
  simp only [nb_w]
  generalize hT : setO (setO (setO (setO s 3 (up2 (s 1) 0 3 0)) 5 H) 0 _) 0 _ = T
  have t0 : T 0 = up2 (up2 (s 0) 0 12 (s 0 0 11)) 0 13 1 := by
    rw [← hT, setO_s, setO_s]
    rfl
  have t3 : T 3 = up2 (s 1) 0 3 0 := by rw [← hT]; rfl
  have t5 : T 5 = H := by rw [← hT]; rfl
  have tn : ∀ o, o ≠ 0 → o ≠ 3 → o ≠ 5 → T o = s o := fun o a b c => by rw [← hT, setO_n a, setO_n a, setO_n c, setO_n b]
  rw [tn 1 (by decide) (by decide) (by decide), (AR_kn h1).1, (AR_kn h1).2.1]
  refine ⟨_, T, flI P, rfl, rfl, tn 17 (by decide) (by decide) (by decide), ⟨n, d, WEL_c h1 (tn 1 (by decide) (by decide) (by decide)) (tn 2 (by decide) (by decide) (by decide)) (tn 4 (by decide) (by decide) (by decide)) (fun c hc => qc c (by omega) (by omega)) (fun i hi => q0 i (by omega))⟩, ?_, TXT_c h3 (tn 6 (by decide) (by decide) (by decide)) (q0 15 (by omega)) (qc 19 (by omega) (by omega)) (qc 30 (by omega) (by omega)), ?_, AKT_c h5 (tn 15 (by decide) (by decide) (by decide)) (q0 77 (by omega)) (qc 79 (by omega) (by omega)), TPS_c h6 (tn 16 (by decide) (by decide) (by decide)) (qc 80 (by omega) (by omega)) (qc 81 (by omega) (by omega))⟩
  · obtain ⟨f, a1, a2, a3, a4, a5, a6, a7⟩ := h2
    unfold CTS
    rw [t0, q0 13 (by omega), q0 14 (by omega), qc 20 (by omega) (by omega), qc 21 (by omega) (by omega), qc 22 (by omega) (by omega), qc 23 (by omega) (by omega), qc 24 (by omega) (by omega), qc 25 (by omega) (by omega), tn 7 (by decide) (by decide) (by decide)]
    refine ⟨f, a1, a2, a3, fun g hg => ?_, a5, a6, fun _ => ?_⟩
    · rw [tn (8 + g) (by omega) (by omega) (by omega)]
      exact a4 g hg
    · show HOL f (s 0 0 11) (P 0 14)
      exact a6
  · unfold IMG
    rw [t3, t5, t0]
    refine ⟨NZ_up w1 (by omega), rfl, fun _ => ⟨n, d, DI_03 w3, w4, ?_, ?_⟩⟩
    · show HG n H (P 0 44) (P 0 47) (P 0 48) _ _ _ _ _ _
      exact HG_copy w6 x0 x1 x2 x4 x6 x8 (fun i hi => ⟨by rw [flI_72, cpn_i hi], by rw [flI_73, cpn_i hi]⟩) (fun i hi => ⟨by rw [flI_74, cpn_i hi], by rw [flI_75, cpn_i hi]⟩) (fun i hi => ⟨by rw [flI_76, cpn_i hi], by rw [flI_77, cpn_i hi]⟩)
    · refine ⟨w5.1.r00, w5.1.r01, w5.1.r02, fun i hi => ?_, fun i hi => ?_⟩
      · rw [flI_62, flI_63, flI_64, flI_65, flI_66, flI_67, flI_68, flI_69, flI_70, cpn_i hi, cpn_i hi, cpn_i hi, cpn_i hi, cpn_i hi, cpn_i hi, cpn_i hi, cpn_i hi, cpn_i hi, w5.1.r4, w5.1.r5, w5.1.r6, w5.1.r7, w5.1.r8, w5.1.r9, w5.1.r10, w5.1.r11, w5.1.r13]
        exact ⟨rfl, rfl, rfl, rfl, rfl, rfl, rfl, rfl, rfl⟩
      · rw [flI_71, cpn_i hi, w5.1.r12]
        rfl
theorem s_undo (h : RR s P lm) : QS s lm (f_X6_undo s) (f_X7_undo P) := by
  obtain ⟨⟨n0, d0, h1⟩, h2, h3, h4, h5, h6⟩ := id h
  obtain ⟨w1, w2, w3, w4, w5, w6⟩ := id h1
  obtain ⟨i1, i2, i3⟩ := id h4
  by_cases c : s 0 0 13 = 0
  · unfold f_X6_undo f_X7_undo
    rw [if_pos c, if_pos (i2.symm.trans c)]
    exact QS_0 h
  obtain ⟨n, d, j1, j2, j3, j4, j5, j6, j7, j8⟩ := i3 c
  obtain ⟨H, e1, x0, x1, x2, x4, x6, x8⟩ := e_hcopy (P := s 4) (Q := s 5)
  have q0 : ∀ i, ¬ (i ≤ 2 ∨ i = 14 ∨ i = 44 ∨ i = 47 ∨ i = 48) → flU P 0 i = P 0 i := fun i hi => by
    rw [flU_0]
    unfold unP
    rw [u_ne (Or.inr (by omega)), u_ne (Or.inr (by omega)), u_ne (Or.inr (by omega)), u_ne (Or.inr (by omega)), u_ne (Or.inr (by omega)), u_ne (Or.inr (by omega)), u_ne (Or.inr (by omega))]
  have qc : ∀ c, ¬ (c = 0 ∨ (4 ≤ c ∧ c ≤ 13) ∨ (46 ≤ c ∧ c ≤ 53)) → flU P c = P c := fun c a => flU_n (by omega) (by omega) (by omega) (by omega) (by omega) (by omega) (by omega) (by omega) (by omega) (by omega) (by omega) (by omega) (by omega) (by omega) (by omega) (by omega) (by omega)
  unfold f_X6_undo
  rw [if_neg c, e_copy w1 i1, Option.bind_some, nb_w, setO_n (show (4 : Nat) ≠ 1 by decide), setO_n (show (5 : Nat) ≠ 1 by decide), e1, Option.bind_some, m_undo (by rw [← i2]; exact c)]
  simp only [nb_w]
  generalize hT : setO (setO (setO s 1 (up2 (s 3) 0 3 0)) 4 H) 0 _ = T
  have t0 : T 0 = up2 (s 0) 0 11 (s 0 0 12) := by
    rw [← hT, setO_s]
    rfl
  have t1 : T 1 = up2 (s 3) 0 3 0 := by rw [← hT]; rfl
  have t4 : T 4 = H := by rw [← hT]; rfl
  have tn : ∀ o, o ≠ 0 → o ≠ 1 → o ≠ 4 → T o = s o := fun o a b c => by rw [← hT, setO_n a, setO_n c, setO_n b]
  have r2 : T 1 0 2 = P 0 56 := by
    rw [t1]
    exact j5.symm
  rw [r2]
  have cc : ∀ (p q v w : Nat → Int32), (∀ i, i < 6 → q i = v i) → p = w → (∀ i, 6 ≤ i → w i = 0) → (∀ i, 6 ≤ i → v i = 0) → cpn 6 p q = v := by
    intro p q v w a1 a2 a3 a4
    funext i
    unfold cpn
    split
    · exact a1 i (by assumption)
    · rw [a2, a3 i (by omega), a4 i (by omega)]
  refine ⟨_, T, flU P, rfl, rfl, tn 17 (by decide) (by decide) (by decide), ⟨n, d, ?_⟩, ?_, TXT_c h3 (tn 6 (by decide) (by decide) (by decide)) (q0 15 (by omega)) (qc 19 (by omega)) (qc 30 (by omega)), IMG_c h4 (tn 3 (by decide) (by decide) (by decide)) (tn 5 (by decide) (by decide) (by decide)) (by rw [t0]; rfl) (fun c a b => qc c (by omega)) (fun i a b => q0 i (by omega)), AKT_c h5 (tn 15 (by decide) (by decide) (by decide)) (q0 77 (by omega)) (qc 79 (by omega)), TPS_c h6 (tn 16 (by decide) (by decide) (by decide)) (qc 80 (by omega)) (qc 81 (by omega))⟩
  · unfold WEL
    rw [t1, t4, tn 2 (by decide) (by decide) (by decide)]
    refine ⟨NZ_up i1 (by omega), w2, DI_03 j1, j2, ⟨?_, (q0 30 (by omega)).trans w5.2.1, (q0 31 (by omega)).trans w5.2.2.1, (q0 33 (by omega)).trans w5.2.2.2⟩, ?_⟩
    · have z : ∀ c, 5 ≤ c → c ≤ 13 → (∀ i, 6 ≤ i → s 1 c i = 0) ∧ ∀ i, 6 ≤ i → s 3 c i = 0 := fun c a b => ⟨fun i hi => w1.2.2.1 c i a b hi, fun i hi => i1.2.2.1 c i a b hi⟩
      refine WV.of j4 j5 j6 rfl ?_ ?_ ?_ ?_ ?_ ?_ ?_ ?_ ?_ ?_
      · rw [flU_4]; exact cc _ _ _ _ (fun i hi => (j7 i hi).1) w5.1.r4 (z 5 (by omega) (by omega)).1 (z 5 (by omega) (by omega)).2
      · rw [flU_5]; exact cc _ _ _ _ (fun i hi => (j7 i hi).2.1) w5.1.r5 (z 6 (by omega) (by omega)).1 (z 6 (by omega) (by omega)).2
      · rw [flU_6]; exact cc _ _ _ _ (fun i hi => (j7 i hi).2.2.1) w5.1.r6 (z 7 (by omega) (by omega)).1 (z 7 (by omega) (by omega)).2
      · rw [flU_7]; exact cc _ _ _ _ (fun i hi => (j7 i hi).2.2.2.1) w5.1.r7 (z 8 (by omega) (by omega)).1 (z 8 (by omega) (by omega)).2
      · rw [flU_8]; exact cc _ _ _ _ (fun i hi => (j7 i hi).2.2.2.2.1) w5.1.r8 (z 9 (by omega) (by omega)).1 (z 9 (by omega) (by omega)).2
      · rw [flU_9]; exact cc _ _ _ _ (fun i hi => (j7 i hi).2.2.2.2.2.1) w5.1.r9 (z 10 (by omega) (by omega)).1 (z 10 (by omega) (by omega)).2
      · rw [flU_10]; exact cc _ _ _ _ (fun i hi => (j7 i hi).2.2.2.2.2.2.1) w5.1.r10 (z 11 (by omega) (by omega)).1 (z 11 (by omega) (by omega)).2
      · rw [flU_11]; exact cc _ _ _ _ (fun i hi => (j7 i hi).2.2.2.2.2.2.2.1) w5.1.r11 (z 12 (by omega) (by omega)).1 (z 12 (by omega) (by omega)).2
      · rw [flU_12]
        show cpn 24 (P 12) (P 71) = s 3 14
        funext i
        unfold cpn
        split
        · exact j8 i (by assumption)
        · rw [w5.1.r12]
          show s 1 14 i = s 3 14 i
          rw [w1.2.2.2 i (by omega), i1.2.2.2 i (by omega)]
      · rw [flU_13]; exact cc _ _ _ _ (fun i hi => (j7 i hi).2.2.2.2.2.2.2.2) w5.1.r13 (z 13 (by omega) (by omega)).1 (z 13 (by omega) (by omega)).2
    · show HG n H (P 0 58) (P 0 59) (P 0 60) _ _ _ _ _ _
      exact HG_copy j3 x0 x1 x2 x4 x6 x8 (fun i hi => ⟨by rw [flU_46, cpn_i hi], by rw [flU_47, cpn_i hi]⟩) (fun i hi => ⟨by rw [flU_50, cpn_i hi], by rw [flU_51, cpn_i hi]⟩) (fun i hi => ⟨by rw [flU_52, cpn_i hi], by rw [flU_53, cpn_i hi]⟩)
  · obtain ⟨f, a1, a2, a3, a4, a5, a6, a7⟩ := h2
    unfold CTS
    rw [t0, q0 13 (by omega), q0 54 (by omega), qc 20 (by omega), qc 21 (by omega), qc 22 (by omega), qc 23 (by omega), qc 24 (by omega), qc 25 (by omega), tn 7 (by decide) (by decide) (by decide)]
    refine ⟨f, a1, a2, a3, fun g hg => ?_, a5, ?_, a7⟩
    · rw [tn (8 + g) (by omega) (by omega) (by omega)]
      exact a4 g hg
    · show HOL f (s 0 0 12) (P 0 54)
      exact a7 c
end Im

