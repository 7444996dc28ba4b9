/-! the pure side 4: a day of the reference is dayW; what holds of a well day by day -/
section Day
variable {M W : Pm} {j n d : Nat} {mk sp fi ab : Int32} {rt : Pm → Nat → Int32} {f : Nat → Int32}
/-- a well of n borrowers on day d -/
def DI (n d : Nat) (W : Pm) : Prop := n ≤ 6 ∧ W 0 2 = nI n ∧ W 0 1 = nI d ∧ (∀ k, k < n → ∃ j, j < n ∧ W 13 k = nI j) ∧ (∀ k k', k < n → k' < n → W 13 k = W 13 k' → k = k') ∧ RI n W ∧ ∀ j, j < 6 → rg (W 12 j) d
theorem DI.L (h : DI n d W) (hd : d < 2 ^ 30) : LInv W := ⟨n, d, h.1, hd, h.2.1, h.2.2.1, h.2.2.2.1⟩
theorem oneW_12n {i : Nat} (h : i ≠ j) : oneW rt mk ab fi W j 12 i = W 12 i := by
  have ha : awayW fi W j 12 i = W 12 i := by
    unfold awayW
    try dsimp only
    rw [up2_g, if_neg (by decide), up2_g, if_neg (by decide), up2_g, if_pos rfl, upd_g, if_neg h]
  unfold oneW askW keepW
  split
  · split
    · rfl
    · split
      · rfl
      · split
        · dsimp only
          split
          · exact ha
          · split
            · exact ha
            · exact congrFun (takeW_c (by decide) (by decide) (by decide)) i
        · rfl
  · dsimp only
    split
    · split
      · rw [up2_g, if_neg (by decide), riseW_c (by decide), up2_g, if_neg (by decide), up2_g, if_neg (by decide)]
      · rw [up2_g, if_neg (by decide), up2_g, if_neg (by decide), up2_g, if_neg (by decide)]
    · rw [up2_g, if_neg (by decide), up2_g, if_neg (by decide)]
theorem oneW_12j : oneW rt mk ab fi W j 12 j = W 12 j ∨ oneW rt mk ab fi W j 12 j = W 12 j + 1 := by
  have ha : awayW fi W j 12 j = W 12 j + 1 := by
    unfold awayW
    try dsimp only
    rw [up2_g, if_neg (by decide), up2_g, if_neg (by decide), up2_g, if_pos rfl, upd_g, if_pos rfl]
  unfold oneW askW keepW
  split
  · split
    · exact Or.inl rfl
    · split
      · exact Or.inl rfl
      · split
        · dsimp only
          split
          · exact Or.inr ha
          · split
            · exact Or.inr ha
            · exact Or.inl (congrFun (takeW_c (by decide) (by decide) (by decide)) j)
        · exact Or.inl rfl
  · dsimp only
    left
    split
    · split
      · rw [up2_g, if_neg (by decide), riseW_c (by decide), up2_g, if_neg (by decide), up2_g, if_neg (by decide)]
      · rw [up2_g, if_neg (by decide), up2_g, if_neg (by decide), up2_g, if_neg (by decide)]
    · rw [up2_g, if_neg (by decide), up2_g, if_neg (by decide)]
/-- within a day: who has had its turn may have been sent once more -/
theorem goW_12 (h : DI n d W) : ∀ k, k ≤ n → ∀ i, i < 6 → rg (goW rt mk ab fi k W 12 i) (d + 1) ∧ ((∀ k', k' < k → W 13 k' ≠ nI i) → rg (goW rt mk ab fi k W 12 i) d)
  | 0, _, i, hi => ⟨rg_mono (h.2.2.2.2.2.2 i hi) (by omega), fun _ => h.2.2.2.2.2.2 i hi⟩
  | k + 1, hk, i, hi => by
    obtain ⟨j, hj, e⟩ := h.2.2.2.1 k (by omega)
    have hn := h.1
    have e13 : goW rt mk ab fi k W 13 k = nI j := by rw [goW_c (by decide) (by decide) (by decide) (by decide) (by decide)]; exact e
    have es : goW rt mk ab fi (k + 1) W = oneW rt mk ab fi (goW rt mk ab fi k W) j := by
      show oneW _ _ _ _ _ _ = _
      rw [e13, ix_nI (by omega)]
    obtain ⟨q1, q2⟩ := goW_12 h k (by omega) i hi
    rw [es]
    by_cases hij : i = j
    · subst hij
      have hq : rg (goW rt mk ab fi k W 12 i) d := q2 (fun k' hk' e' => by
        have := h.2.2.2.2.1 k' k (by omega) (by omega) (e'.trans e.symm)
        omega)
      refine ⟨?_, fun hno => absurd e (hno k (by omega))⟩
      rcases oneW_12j (rt := rt) (mk := mk) (ab := ab) (fi := fi) (W := goW rt mk ab fi k W) (j := i) with h1 | h1
      · rw [h1]; exact rg_mono hq (by omega)
      · rw [h1]
        exact rg_add hq ⟨1, by omega, rfl⟩
    · rw [oneW_12n hij]
      exact ⟨q1, fun hno => q2 (fun k' hk' => hno k' (by omega))⟩
theorem DI_day (h : DI n d W) (hd : d < 2 ^ 29) (hmk : rg mk 99) (hfi : rg fi 99) (hsp : rg sp 99) (hrt : ∀ W j, rg (rt W j) 991) : DI n (d + 1) (dayW rt mk ab fi sp W) := by
  have hn := h.1
  have hix : ix (W 0 2) = n := by rw [h.2.1]; exact ix_nI (by omega)
  have hc : ∀ c, c ≠ 0 → dayW rt mk ab fi sp W c = goW rt mk ab fi n W c := fun c hc => by
    unfold dayW
    try dsimp only
    rw [up2_g, if_neg hc, riseW_c hc, hix]
  have h0 : ∀ i, i ≠ 0 → i ≠ 1 → dayW rt mk ab fi sp W 0 i = goW rt mk ab fi n W 0 i := fun i h0 h1 => by
    unfold dayW
    try dsimp only
    rw [up2_g, if_pos rfl, upd_g, if_neg h1, riseW_0 h0, hix]
  have h13 : dayW rt mk ab fi sp W 13 = W 13 := by rw [hc 13 (by decide), goW_c (by decide) (by decide) (by decide) (by decide) (by decide)]
  refine ⟨hn, ?_, ?_, ?_, ?_, RI_day h.2.2.2.2.2.1 (h.L (by omega)) hmk hfi hsp hrt, ?_⟩
  · rw [h0 2 (by decide) (by decide), goW_0 (by decide) (by decide)]; exact h.2.1
  · unfold dayW
    try dsimp only
    rw [up2_g, if_pos rfl, upd_g, if_pos rfl, riseW_0 (by decide), goW_0 (by decide) (by decide), h.2.2.1, nI_1]
  · rw [h13]; exact h.2.2.2.1
  · rw [h13]; exact h.2.2.2.2.1
  · intro j hj
    rw [hc 12 (by decide)]
    exact (goW_12 h n (Nat.le_refl n) j hj).1
/-- the reference's day -/
theorem m_day (h : DI n d W) (hd : d < 2 ^ 29) (hS : nI (d + 1) ≤ M 0 33) (hmk : rg mk 99) (hem : rg (emk M mk) 99) (hfi : rg fi 99) (hsp : rg sp 99) (hrt : ∀ W j, rg (rt W j) 991) (hC : CtyM M mk sp fi rt) :
    ∃ f', f_X7_goDay (put (setO M 33 f) W) = some (put (setO M 33 f') (dayW rt (emk M mk) (M 0 31) fi sp W)) := by
  have hn := h.1
  have hix : ix (W 0 2) = n := by rw [h.2.1]; exact ix_nI (by omega)
  have hg : ∀ k, k ≤ n → RI n (goW rt (emk M mk) (M 0 31) fi k W) := by
    intro k
    induction k with
    | zero => intro _; exact h.2.2.2.2.2.1
    | succ k ih =>
      intro hk
      obtain ⟨j, hj, e⟩ := h.2.2.2.1 k (by omega)
      have e13 : goW rt (emk M mk) (M 0 31) fi k W 13 k = nI j := by rw [goW_c (by decide) (by decide) (by decide) (by decide) (by decide)]; exact e
      show RI n (oneW rt (emk M mk) (M 0 31) fi (goW rt (emk M mk) (M 0 31) fi k W) (ix (goW rt (emk M mk) (M 0 31) fi k W 13 k)))
      rw [e13, ix_nI (by omega)]
      exact RI_one (by omega) (ih (by omega)) hem hfi hrt
  obtain ⟨P', hit, f', hP⟩ := iter_I (body := fun t : Int32 × Pm => f_X7_goDay_B2 t.1 t.2) (fun k t => t.1 = nI k ∧ ∃ f', t.2 = put (setO M 33 f') (goW rt (emk M mk) (M 0 31) fi k W)) (fun r => ∃ f', r = put (setO M 33 f') (goW rt (emk M mk) (M 0 31) fi n W)) n
    (fun k t hk hI => by
      obtain ⟨v, P⟩ := t
      obtain ⟨hv, f1, hP⟩ := hI
      dsimp only at hv hP
      subst hv
      subst hP
      obtain ⟨j, hj, hj2⟩ := h.2.2.2.1 k hk
      generalize hV : goW rt (emk M mk) (M 0 31) fi k W = V
      have hRV : RI n V := by rw [← hV]; exact hg k (by omega)
      have e2 : V 0 2 = nI n := by rw [← hV, goW_0 (by decide) (by decide)]; exact h.2.1
      have e1 : V 0 1 = nI d := by rw [← hV, goW_0 (by decide) (by decide)]; exact h.2.2.1
      have e13 : V 13 k = nI j := by rw [← hV, goW_c (by decide) (by decide) (by decide) (by decide) (by decide)]; exact hj2
      have es : rg (V 12 j) d := by
        rw [← hV]
        exact (goW_12 h k (by omega) j (by omega)).2 (fun k' hk' e' => by
          have := h.2.2.2.2.1 k' k (by omega) (by omega) (e'.trans hj2.symm)
          omega)
      have hgo : goW rt (emk M mk) (M 0 31) fi (k + 1) W = oneW rt (emk M mk) (M 0 31) fi V j := by
        show oneW _ _ _ _ _ _ = _
        rw [hV, e13, ix_nI (by omega)]
      have hk6 : inb (nI k) 6 = true := inb_nI (by omega) (by decide)
      have hxk : ix (nI k) = k := ix_nI (by omega)
      have hj6 : inb (nI j) 6 = true := inb_nI (by omega) (by decide)
      have hxj : ix (nI j) = j := ix_nI (by omega)
      have hc : ¬ nI n ≤ nI k := nI_ge hk (by omega)
      show ∃ s', f_X7_goDay_B2 (nI k) (put (setO M 33 f1) V) = _ ∧ _
      unfold f_X7_goDay_B2 f_X7_goDay_J47
      rw [hxk, put_13, e13, put_01, e2, if_neg hc, if_pos hk6, if_pos hj6, hxj, put_8, nI_1]
      unfold oneW at hgo
      by_cases c1 : V 9 j ≤ 0
      · rw [if_pos c1] at hgo ⊢
        rw [if_pos hk6, m_askJ (by omega) hj hRV e1 (by omega) es hS (by omega) hfi hC]
        exact ⟨_, rfl, rfl, f1, by rw [hgo]⟩
      · rw [if_neg c1] at hgo ⊢
        obtain ⟨f2, hf2⟩ := m_keep (f := f1) (W := V) (j := j) (by omega) hRV hC (hrt V j)
        rw [if_pos hk6, hf2]
        exact ⟨_, rfl, rfl, f2, by rw [hgo]⟩)
    (fun t hI => by
      obtain ⟨v, P⟩ := t
      obtain ⟨hv, f1, hP⟩ := hI
      dsimp only at hv hP
      subst hv
      subst hP
      have e2 : goW rt (emk M mk) (M 0 31) fi n W 0 2 = nI n := by rw [goW_0 (by decide) (by decide)]; exact h.2.1
      refine ⟨_, ?_, f1, rfl⟩
      show f_X7_goDay_B2 (nI n) (put (setO M 33 f1) (goW rt (emk M mk) (M 0 31) fi n W)) = _
      unfold f_X7_goDay_B2
      rw [put_01, e2, if_pos (Int32.le_refl _)]) n 0 (0, put (setO M 33 f) W) (by omega) ⟨rfl, f, rfl⟩ 200 (by omega)
  subst hP
  refine ⟨f', ?_⟩
  unfold f_X7_goDay f_X7_goDay_H2
  rw [hit, Option.bind_some]
  unfold f_X7_goDay_J53
  rw [(hC f' _).2.1, Option.bind_some, m_held, put_00]
  have a3 : 0 ≤ goW rt (emk M mk) (M 0 31) fi n W 0 0 + sp := rg_0 (rg_add (hg n (Nat.le_refl n)).1 hsp) (by decide)
  rw [held_min a3, Option.bind_some]
  simp only [nb, wp_00, wp_02, put_02]
  unfold dayW
  rw [hix]
  rfl
/-- absent nobody: whatever number it is told by -/
theorem dayW_ab {a2 : Int32} (h : ∀ j, j < 6 → (nI j = ab ↔ nI j = a2)) (hL : LInv W) : dayW rt mk ab fi sp W = dayW rt mk a2 fi sp W := by
  obtain ⟨n, d, hn, hd, h1, h2, h3⟩ := hL
  have hg : ∀ k, k ≤ n → goW rt mk ab fi k W = goW rt mk a2 fi k W := by
    intro k
    induction k with
    | zero => intro _; rfl
    | succ k ih =>
      intro hk
      obtain ⟨j, hj, e⟩ := h3 k (by omega)
      have e13 : goW rt mk a2 fi k W 13 k = nI j := by rw [goW_c (by decide) (by decide) (by decide) (by decide) (by decide)]; exact e
      show oneW rt mk ab fi (goW rt mk ab fi k W) (ix (goW rt mk ab fi k W 13 k)) = oneW rt mk a2 fi (goW rt mk a2 fi k W) (ix (goW rt mk a2 fi k W 13 k))
      rw [ih (by omega), e13, ix_nI (by omega)]
      unfold oneW
      by_cases c : nI j = ab
      · rw [if_pos c, if_pos ((h j (by omega)).mp c)]
      · rw [if_neg c, if_neg (fun q => c ((h j (by omega)).mpr q))]
  unfold dayW
  rw [h1, ix_nI (by omega), hg n (Nat.le_refl n)]
end Day
