/-! the pure side 9: lowest, first, mean; the fraction -/
section Ask
variable {s t : Mm} {P Q W V U : Pm} {n d e rid : Nat} {mk sp fi x y m ab a1 a2 : Int32} {rt : Pm → Nat → Int32}
theorem q_lowest (h : AR n d rid mk sp fi rt s P W) : QA s P W (f_X6_lowest s a1 a2) (f_X7_lowest P a1 a2) := by
  have hd := h.2.2.2.2.1
  have hR := AR_RU h
  unfold f_X6_lowest f_X7_lowest
  rw [e_win, m_win, Option.bind_some, Option.bind_some]
  by_cases c0 : win a2 0 1 = 0
  · rw [if_pos c0, if_pos c0]
    exact ⟨_, s, P, rfl, rfl, h.as⟩
  rw [if_neg c0, if_neg c0, e_asked, m_isDays, Option.bind_some, Option.bind_some]
  by_cases c : win a1 0 60 = 0
  · rw [if_pos c, if_pos c]
    exact ⟨_, s, P, rfl, rfl, h.as⟩
  rw [if_neg c, if_neg c]
  obtain ⟨k, -, hk, rfl⟩ := win_r (b := 0) (c := 60) (by omega) (by omega) c
  obtain ⟨t, Q, g1, g2, hT, hW⟩ := tt_start h
  rw [g1, g2, Option.bind_some, Option.bind_some]
  obtain ⟨r, r', g3, g4, g5, g6, V, e, hT', hW'⟩ := iter_2 (b1 := fun t : Int32 × Int32 × Int32 × Mm => f_X6_lowest_B39 (nI k) a2 t.1 t.2.1 t.2.2.1 t.2.2.2) (b2 := fun t : Int32 × Int32 × Int32 × Pm => f_X7_lowest_B38 (nI k) a2 t.1 t.2.1 t.2.2.1 t.2.2.2)
    (fun i u v => u.2.2.1 = nI (i + 1) ∧ v.2.2.1 = nI (i + 1) ∧ u.1 = v.1 ∧ u.2.1 = v.2.1 ∧ TT s u.2.2.2 P v.2.2.2 W (itW (dayW rt mk (-1) fi sp) i (up2 W 0 3 0)) (-1) (-1)) (fun u v => u.1 = v.1 ∧ u.2.1 = v.2.1 ∧ ∃ V e, TT s u.2.2 P v.2.2 W V (-1) (-1) ∧ TW n e W V) k
    (fun i u v hi hI => by
      obtain ⟨u1, u2, u3, u⟩ := u
      obtain ⟨v1, v2, v3, v⟩ := v
      obtain ⟨h1, h2, h3, h4, h5⟩ := hI
      dsimp only at h1 h2 h3 h4 h5
      subst h1 h2 h3 h4
      have hWi := TW_it (ab := -1) hR hR.1 hW i (by omega)
      show (i < k ∧ ∃ s' t', f_X6_lowest_B39 (nI k) a2 u1 u2 (nI (i + 1)) u = _ ∧ f_X7_lowest_B38 (nI k) a2 u1 u2 (nI (i + 1)) v = _ ∧ _) ∨ ∃ r r', f_X6_lowest_B39 (nI k) a2 u1 u2 (nI (i + 1)) u = _ ∧ f_X7_lowest_B38 (nI k) a2 u1 u2 (nI (i + 1)) v = _ ∧ _
      unfold f_X6_lowest_B39 f_X7_lowest_B38
      by_cases hik : i = k
      · subst hik
        right
        rw [if_pos (nI_lt (by omega) (by omega)), if_pos (nI_lt (by omega) (by omega))]
        exact ⟨_, _, rfl, rfl, rfl, rfl, _, _, h5, hWi⟩
      · left
        rw [if_neg (nI_nlt (by omega) (by omega)), if_neg (nI_nlt (by omega) (by omega))]
        obtain ⟨u', v', q1, q2, q3⟩ := tt_day h h5 hWi (by omega)
        refine ⟨by omega, ?_⟩
        rw [q1, q2, Option.bind_some, Option.bind_some, q3.2.1, q3.2.2.1.1.r00]
        by_cases cl : u1 ≤ dayW rt mk (-1) fi sp (itW (dayW rt mk (-1) fi sp) i (up2 W 0 3 0)) 0 0
        · rw [if_pos cl, if_neg (Int32.not_lt.mpr cl)]
          exact ⟨_, _, rfl, rfl, nI_1 _, nI_1 _, rfl, rfl, q3⟩
        · rw [if_neg cl, if_pos (Int32.not_le.mp cl)]
          exact ⟨_, _, rfl, rfl, nI_1 _, nI_1 _, rfl, rfl, q3⟩) k 0 (t 2 0 0, 0, 1, t) (Q 0 0, 0, 1, Q) (by omega) ⟨rfl, rfl, by show t 2 0 0 = Q 0 0; rw [hT.2.1, hT.2.2.1.1.r00], rfl, hT⟩ 200 (by omega)
  obtain ⟨P', g7, hA⟩ := tt_end h hT' hW'
  unfold f_X6_lowest_H39 f_X7_lowest_H38
  rw [g3, g4]
  obtain ⟨r1, r2, r3⟩ := r
  obtain ⟨r1', r2', r3'⟩ := r'
  dsimp only at g5 g6 hA g7
  subst g5 g6
  show QA s P W (f_X6_lowest_J79 r3 a2 r1 r2) (f_X7_lowest_J74 r3' a2 r1 r2)
  unfold f_X6_lowest_J79 f_X7_lowest_J74
  rw [g7, Option.bind_some]
  by_cases cc : a2 = 0
  · rw [if_pos cc, if_pos cc]
    exact ⟨_, _, _, rfl, rfl, hA⟩
  · rw [if_neg cc, if_neg cc]
    exact ⟨_, _, _, rfl, rfl, hA⟩
theorem TW.le0 (h : TW n e W V) (he : e < 40000) : V 0 3 ≤ 0 ↔ V 0 3 = 0 := by
  obtain ⟨-, -, -, -, -, -, q, h7, h8⟩ := h
  rw [h8]
  constructor
  · intro g
    by_cases c : q = 0
    · rw [c]; rfl
    · exact absurd g (nI_nle (by omega) (by omega))
  · intro g
    rw [g]
    exact Int32.le_refl _
theorem q_first (h : AR n d rid mk sp fi rt s P W) : QA s P W (f_X6_first s) (f_X7_first P) := by
  have hd := h.2.2.2.2.1
  have hR := AR_RU h
  unfold f_X6_first f_X7_first
  obtain ⟨t, Q, g1, g2, hT, hW⟩ := tt_start h
  rw [g1, g2, Option.bind_some, Option.bind_some]
  generalize hF : (fun i => itW (dayW rt mk (-1) fi sp) i (up2 W 0 3 0)) = F
  have hWi : ∀ i, i ≤ 100 → TW n (d + i) W (F i) := fun i hi => by rw [← hF]; exact TW_it (ab := -1) hR hR.1 hW i (by omega)
  have hF0 : F 0 = up2 W 0 3 0 := by rw [← hF]; rfl
  have hFs : ∀ i, dayW rt mk (-1) fi sp (F i) = F (i + 1) := fun i => by rw [← hF]; rfl
  obtain ⟨r, g3, hS, hN, hr⟩ := iter_E (body := fun t : Int32 × Mm => f_X6_first_B6 t.1 t.2) (fun i u => u.1 = nI i ∧ SB s u.2 ∧ u.2 2 = F i ∧ ∀ j, j ≤ i → F j 0 3 = 0)
    (fun r => SB s r.2 ∧ NZ (r.2 2) ∧ ((∃ k, k ≤ 60 ∧ r.1 = nI k ∧ F (k + 1) 0 3 ≠ 0 ∧ ∀ j, j ≤ k → F j 0 3 = 0) ∨ (r.1 = -5 ∧ ∀ j, j ≤ 61 → F j 0 3 = 0))) 61
    (fun i u hi hI => by
      obtain ⟨v, u⟩ := u
      obtain ⟨hv, hS, h2, h3⟩ := hI
      dsimp only at hv hS h2 h3
      subst hv
      show (i < 61 ∧ ∃ s', f_X6_first_B6 (nI i) u = _ ∧ _) ∨ ∃ r, f_X6_first_B6 (nI i) u = _ ∧ _
      unfold f_X6_first_B6
      by_cases hik : i = 61
      · subst hik
        right
        rw [if_pos (show (60 : Int32) < nI 61 from nI_lt (a := 60) (by omega) (by omega))]
        exact ⟨(-5, u), rfl, hS, by show NZ (u 2); rw [h2]; exact (hWi 61 (by omega)).2.1, Or.inr ⟨rfl, h3⟩⟩
      · rw [if_neg (show ¬ (60 : Int32) < nI i from nI_nlt (b := i) (a := 60) (by omega) (by omega))]
        obtain ⟨u', q1, q2, q3⟩ := c_goTrial h (k := 1) (by omega) hS h2 (hWi i (by omega)) (by omega)
        have q3' : u' 2 = F (i + 1) := q3.trans (hFs i)
        rw [show (1 : Int32) = nI 1 from rfl, q1, Option.bind_some, q3']
        by_cases c : F (i + 1) 0 3 = 0
        · left
          rw [if_pos (((hWi (i + 1) (by omega)).le0 (by omega)).mpr c)]
          refine ⟨by omega, (nI i + nI 1, u'), rfl, nI_1 _, q2, q3', fun j hj => ?_⟩
          by_cases e : j = i + 1
          · rw [e]; exact c
          · exact h3 j (by omega)
        · right
          rw [if_neg (fun q => c (((hWi (i + 1) (by omega)).le0 (by omega)).mp q))]
          exact ⟨(nI i, u'), rfl, q2, by show NZ (u' 2); rw [q3']; exact (hWi (i + 1) (by omega)).2.1, Or.inl ⟨i, by omega, rfl, c, h3⟩⟩) 61 0 (0, t) (by omega) ⟨rfl, hT.1, hT.2.1.trans hF0.symm, fun j hj => by
        have : j = 0 := by omega
        rw [this, hF0]
        rfl⟩ 200 (by omega)
  obtain ⟨r', g4, k', hk', hv', hR', hx', hy', hz', hw'⟩ := iter_E (body := fun t : Int32 × Pm => f_X7_first_B6 t.1 t.2) (fun i u => u.1 = nI i ∧ TR P W u.2 (F i) ∧ u.2 0 30 = -1 ∧ u.2 0 31 = -1 ∧ ∀ j, j < i → F j 0 3 = 0)
    (fun r => ∃ k, k ≤ 61 ∧ r.1 = nI k ∧ TR P W r.2 (F k) ∧ r.2 0 30 = -1 ∧ r.2 0 31 = -1 ∧ (∀ j, j < k → F j 0 3 = 0) ∧ (k = 61 ∨ F k 0 3 ≠ 0)) 61
    (fun i u hi hI => by
      obtain ⟨v, u⟩ := u
      obtain ⟨hv, h2, h3, h4, h5⟩ := hI
      dsimp only at hv h2 h3 h4 h5
      subst hv
      show (i < 61 ∧ ∃ s', f_X7_first_B6 (nI i) u = _ ∧ _) ∨ ∃ r, f_X7_first_B6 (nI i) u = _ ∧ _
      unfold f_X7_first_B6
      by_cases hik : i = 61
      · subst hik
        right
        rw [if_pos (show (61 : Int32) ≤ nI 61 from Int32.le_refl _)]
        exact ⟨_, rfl, 61, by omega, rfl, h2, h3, h4, h5, Or.inl rfl⟩
      · rw [if_neg (show ¬ (61 : Int32) ≤ nI i from nI_ge (b := 61) (by omega) (by omega)), h2.1.r034]
        by_cases c : F i 0 3 = 0
        · left
          obtain ⟨u', q1, q2, q3, q4⟩ := r_goDay h h2 h3 h4 (if_pos (by decide)) hR.1 (hWi i (by omega)) (by omega)
          rw [if_pos c, q1, Option.bind_some]
          refine ⟨by omega, _, rfl, nI_1 _, by rw [← hFs i]; exact q2, q3, q4, fun j hj => ?_⟩
          by_cases e : j = i
          · rw [e]; exact c
          · exact h5 j (by omega)
        · right
          rw [if_neg c]
          exact ⟨_, rfl, i, by omega, rfl, h2, h3, h4, h5, Or.inr c⟩) 61 0 (0, Q) (by omega) ⟨rfl, by rw [hF0]; exact hT.2.2.1, hT.2.2.2.1, hT.2.2.2.2, fun j hj => absurd hj (by omega)⟩ 200 (by omega)
  unfold f_X6_first_H6 f_X7_first_H6
  rw [g3, g4]
  obtain ⟨r1, r2⟩ := r
  obtain ⟨r1', r2'⟩ := r'
  dsimp only at hS hN hr hv' hR' hx' hy'
  obtain ⟨P', g7, g8, g9⟩ := r_end h hR' (hWi k' (by omega))
  show QA s P W (some (r1, r2)) (f_X7_first_J29 r2' r1')
  unfold f_X7_first_J29 f_X7_first_J44
  rw [hR'.1.r034, g7, Option.bind_some, Option.bind_some]
  have hAS : AS s P W r2 P' := ⟨hS, hN, g9, g8⟩
  rcases hr with ⟨k, hk, e1, e2, e3⟩ | ⟨e1, e2⟩
  · have hkk : k' = k + 1 := by
      rcases hw' with hw' | hw'
      · apply Decidable.byContradiction
        intro q
        exact e2 (hz' (k + 1) (by omega))
      · apply Decidable.byContradiction
        intro q
        by_cases l : k' ≤ k
        · exact hw' (e3 k' l)
        · exact e2 (hz' (k + 1) (by omega))
    subst hkk
    rw [if_neg (fun q => e2 (((hWi (k + 1) (by omega)).le0 (by omega)).mp q)), hv', nI_pred, e1]
    exact ⟨_, _, _, rfl, rfl, hAS⟩
  · rw [if_pos (((hWi k' (by omega)).le0 (by omega)).mpr (e2 k' hk')), e1]
    exact ⟨_, _, _, rfl, rfl, hAS⟩
theorem nI_long {k : Nat} (h : k < 2 ^ 31) : (nI k).toInt64 = lN k := by
  apply Int64.toInt_inj.mp
  rw [Int32.toInt_toInt64, nI_toInt h]
  exact (pk_lT (by omega)).symm
/-- the fraction in lowest terms -/
theorem q_frac {a b : Nat} {part : Int32} {M : Pm} (ha : a < 2 ^ 20) (hb : b ≤ 6) (hb0 : 0 < b) : ∃ r, f_X6_lowestTerms (nI a).toInt64 (nI b).toInt64 part = some r ∧ f_X7_lowest_ M (nI a) (nI b) part = some r := by
  rw [nI_long (by omega), nI_long (by omega)]
  obtain ⟨r, r', h1, h2, g, hg, hg2, rfl, rfl⟩ := iter_2 (b1 := fun t : Int64 × Int64 × Int32 => f_X6_commonDivisor_B9 t.1 t.2.1 t.2.2) (b2 := fun t : Int32 × Int32 => f_X7_divisor_B5 M t.1 t.2)
    (fun i u v => ∃ x y, u = (lN x, lN y, nI i) ∧ v = (nI x, nI y) ∧ x < 2 ^ 20 ∧ y + i ≤ 6 ∧ ¬ (x = 0 ∧ y = 0)) (fun u v => ∃ g, 0 < g ∧ g < 2 ^ 20 ∧ u = lN g ∧ v = nI g) 6
    (fun i u v hi hI => by
      obtain ⟨x, y, rfl, rfl, hx, hy, h0⟩ := hI
      show (i < 6 ∧ ∃ s' t', f_X6_commonDivisor_B9 (lN x) (lN y) (nI i) = _ ∧ f_X7_divisor_B5 M (nI x) (nI y) = _ ∧ _) ∨ ∃ r r', f_X6_commonDivisor_B9 (lN x) (lN y) (nI i) = _ ∧ f_X7_divisor_B5 M (nI x) (nI y) = _ ∧ _
      unfold f_X6_commonDivisor_B9 f_X7_divisor_B5
      rw [if_neg (show ¬ (100 : Int32) ≤ nI i from nI_ge (b := 100) (by omega) (by omega))]
      by_cases c : y = 0
      · subst c
        right
        rw [if_pos ((lg_cmp_eq (lN 0) 0).mpr rfl), if_pos (show nI 0 = 0 from rfl)]
        exact ⟨_, _, rfl, rfl, x, by omega, hx, rfl, rfl⟩
      · left
        have hyl : ¬ lN y = 0 := fun q => c ((pk_lEQ (a := y) (b := 0) (by omega) (by omega)).mp q)
        rw [if_neg (fun q => hyl ((lg_cmp_eq (lN y) 0).mp q)), if_neg hyl, if_neg (nI_ne0 (by omega) (by omega)), if_neg (nI_ne0 (by omega) (by omega)), pk_lRem (by omega) (by omega) (by omega), pk_rem (by omega) (by omega) (by omega), nI_1]
        have hm := Nat.mod_lt x (show 0 < y by omega)
        exact ⟨by omega, _, _, rfl, rfl, y, x % y, rfl, rfl, by omega, by omega, by omega⟩) 6 0 (lN a, lN b, 0) (nI a, nI b) (by omega) ⟨a, b, rfl, rfl, ha, by omega, by omega⟩ 200 (by omega)
  unfold f_X6_lowestTerms f_X6_commonDivisor f_X6_commonDivisor_H9 f_X7_lowest_ f_X7_divisor f_X7_divisor_H5
  rw [h1, h2]
  show ∃ r, (if lg_cmp (lN g) 0 = 0 then some (-9223372036854775808) else if part = 0 then if lN g = 0 then none else some (lN a / lN g) else if lN g = 0 then none else some (lN b / lN g)) = some r ∧ (if part = 0 then if nI g = 0 then none else some (nI a / nI g).toInt64 else if nI g = 0 then none else some (nI b / nI g).toInt64) = some r
  have hgl : ¬ lN g = 0 := fun q => absurd ((pk_lEQ (a := g) (b := 0) (by omega) (by omega)).mp q) (by omega)
  have hga := Nat.div_le_self a g
  have hgb := Nat.div_le_self b g
  rw [if_neg (fun q => hgl ((lg_cmp_eq (lN g) 0).mp q)), if_neg hgl, if_neg hgl, if_neg (nI_ne0 hg (by omega)), if_neg (nI_ne0 hg (by omega)), pk_lDiv (by omega) hg (by omega), pk_lDiv (by omega) hg (by omega), pk_div (by omega) hg (by omega), pk_div (by omega) hg (by omega), nI_long (by omega), nI_long (by omega)]
  by_cases c : part = 0
  · rw [if_pos c]
    exact ⟨_, rfl, rfl⟩
  · rw [if_neg c]
    exact ⟨_, rfl, rfl⟩
theorem q_mean (h : AR n d rid mk sp fi rt s P W) : QA s P W (f_X6_mean s a1 a2) (f_X7_mean P a1 a2) := by
  have hd := h.2.2.2.2.1
  have hn := h.hn
  have hR := AR_RU h
  have no : QA s P W (f_X6_mean_J26 s) (f_X7_mean_J25 P) := ⟨_, s, P, rfl, rfl, h.as⟩
  unfold f_X6_mean f_X7_mean
  rw [e_asked, m_isDays, e_win, m_win, h.e2, h.m1]
  simp only [Option.bind_some]
  by_cases c : win a1 0 60 = 0
  · rw [if_pos c, if_pos c]
    split
    · exact no
    · exact no
  rw [if_neg c, if_neg c]
  by_cases c0 : win a2 0 1 = 0
  · rw [if_pos c0, if_pos c0]
    split
    · exact no
    · exact no
  rw [if_neg c0, if_neg c0]
  by_cases cn : nI n = 0
  · rw [if_pos cn, if_pos cn]
    exact no
  rw [if_neg cn, if_neg cn]
  have hn0 : 0 < n := Nat.pos_of_ne_zero (fun q => cn (by rw [q]; rfl))
  obtain ⟨k, -, hk, rfl⟩ := win_r (b := 0) (c := 60) (by omega) (by omega) c
  obtain ⟨t, Q, g1, g2, hT, hW⟩ := tt_start h
  obtain ⟨t', Q', g3, g4, hT'⟩ := tt_days h (k := k) (by omega) hT hW (by omega)
  have hW' := TW_it (ab := -1) hR hR.1 hW k (by omega)
  obtain ⟨q, hq, o1, o2⟩ := e_owes hW'.1
  obtain ⟨P', g5, hA⟩ := tt_end h hT' hW'
  obtain ⟨r, f1, f2⟩ := q_frac (a := q) (b := n) (part := a2) (M := P') (by omega) hn hn0
  rw [g1, g2, Option.bind_some, Option.bind_some, g3, g4, Option.bind_some, Option.bind_some, hT'.2.1, o1, o2 Q' hT'.2.2.1.1, Option.bind_some, Option.bind_some, (h.go hA).e2, f1, g5, Option.bind_some, Option.bind_some, (h.go hA).m1, f2, Option.bind_some]
  exact ⟨_, _, _, rfl, rfl, hA⟩
end Ask
