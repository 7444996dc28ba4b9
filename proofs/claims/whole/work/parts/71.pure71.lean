/-! the pure side 71: tapes -/
section Tp
variable {s t : Mm} {P Q A : Pm} {lm lm' : Ml} {n d k m q o c b : Nat} {x y a1 a2 a3 a4 a5 : Int32} {v z : Int64}
theorem sub_toI {a b : Nat} (ha : a < 2 ^ 31) (hb : b < 2 ^ 31) : (nI a - nI b).toInt = (a : Int) - b := by
  rw [Int32.toInt_sub, nI_toInt (by omega), nI_toInt (by omega)]
  exact Int.bmod_eq_of_le (by omega) (by omega)
theorem e_tk : f_X4_known A x = some (win x 0 5) := by
  unfold f_X4_known win
  by_cases c : x < 0
  · rw [if_pos c, if_pos c]
  · obtain ⟨k, hk, rfl⟩ := nIof c
    rw [if_neg c, if_neg c]
    by_cases c2 : 6 ≤ k
    · rw [if_pos (show (6 : Int32) ≤ nI k from nI_le (a := 6) c2 (by omega)), if_pos (show (5 : Int32) < nI k from nI_lt (a := 5) (by omega) (by omega))]
    · rw [if_neg (show ¬ (6 : Int32) ≤ nI k from nI_ge (b := 6) (by omega) (by omega)), if_neg (show ¬ (5 : Int32) < nI k from nI_nlt (a := 5) (b := k) (by omega) (by omega))]
theorem m_tk : f_X7_isTape P x = some (win x 0 5) := m_win2 (f := f_X7_isTape) (fun _ _ => rfl)
theorem e_holds {t : Nat} (ht : t < 6) : f_X4_holds A (nI t) = some (if A 1 t = -1 then 0 else 1) := by
  unfold f_X4_holds
  rw [if_pos (inb_nI ht (by decide)), ix_nI (by omega)]
  split <;> rfl
/-- a place below 0, or a number -/
theorem e_placeN {t : Nat} (ht : t < 6) (h : v < 0) : f_X4_hasPlace A (nI t) v = some 0 := by
  unfold f_X4_hasPlace
  rw [e_holds ht, Option.bind_some, if_pos ((lg_cmp_lt v 0).mpr h)]
  split <;> rfl
theorem e_placeE {t : Nat} (ht : t < 6) (h : A 1 t = -1) : f_X4_hasPlace A (nI t) v = some 0 := by
  unfold f_X4_hasPlace
  rw [e_holds ht, Option.bind_some, if_pos h, if_pos rfl]
theorem e_placeY {t : Nat} (ht : t < 6) (h : A 1 t ≠ -1) (h2 : A 2 t = nI m) (hm : m ≤ 60) (hk : k < 2 ^ 40) : f_X4_hasPlace A (nI t) (lN k) = some (if k < m then 1 else 0) := by
  unfold f_X4_hasPlace
  have h0 : ¬ lg_cmp (lN k) 0 < 0 := by
    rw [lg_cmp_lt]
    intro w
    have := (pk_lLT (a := k) (b := 0) (by omega) (by omega)).mp w
    omega
  rw [e_holds ht, Option.bind_some, if_neg h, if_neg (show ¬ (1 : Int32) = 0 by decide), if_neg h0, if_pos (inb_nI ht (by decide)), ix_nI (by omega), h2, nI_long (by omega)]
  by_cases c : k < m
  · rw [if_pos c, if_neg (fun w => by
      have := (pk_lLE (a := m) (b := k) (by omega) (by omega)).mp ((lg_cmp_ge _ _).mp w)
      omega)]
  · rw [if_neg c, if_pos ((lg_cmp_ge _ _).mpr ((pk_lLE (a := m) (b := k) (by omega) (by omega)).mpr (by omega)))]
theorem i64_neg (h : x < 0) : x.toInt64 < 0 := by
  rw [Int64.lt_iff_toInt_lt, Int32.toInt_toInt64]
  rw [Int32.lt_iff_toInt_lt] at h
  exact h
/-- of a tape: what both sides know -/
theorem TPS_t (h : TPS s P lm) {t : Nat} (ht : t < 6) : (s 16 1 t = -1 ∧ P 80 t = -1 ∧ P 80 t < 0) ∨ ∃ q m, q ≤ 4 ∧ m ≤ 60 ∧ s 16 1 t = nI q ∧ s 16 1 t ≠ -1 ∧ s 16 2 t = nI m ∧ P 80 t = nI q ∧ ¬ P 80 t < 0 ∧ P 81 t = nI m ∧ ∀ i, i < m → lm 16 (4 + t) i = lm 17 82 (60 * t + i) := by
  obtain ⟨h1, h2 | ⟨q, m, h2, h3, h4, h5, h6, h7⟩⟩ := h t ht
  · left
    rw [← h1, h2]
    exact ⟨rfl, rfl, by decide⟩
  · right
    have h0 : ¬ nI q < 0 := fun w => absurd (nI_pos' (n := q) (by omega)) (Int32.not_le.mpr w)
    refine ⟨q, m, h2, h3, h4, fun w => ?_, h5, h1.symm.trans h4, ?_, h6, h7⟩
    · rw [h4] at w
      rw [w] at h0
      exact h0 (by decide)
    · rw [← h1, h4]
      exact h0
theorem s_judge (h : RR s P lm) : ∃ r, f_X6_judge s lm a1 a2 = some r ∧ f_X7_judge P lm a1 a2 = some r := by
  obtain ⟨⟨n, d, h1⟩, h2, h3, h4, h5, h6⟩ := id h
  have hn := h1.2.2.1.1
  have w5 := h1.2.2.2.2.1
  unfold f_X6_judge f_X7_judge
  rw [e_tk, m_tk, Option.bind_some, Option.bind_some]
  by_cases c : win a1 0 5 = 0
  · rw [if_pos c, if_pos c]; exact ⟨_, rfl, rfl⟩
  obtain ⟨t, -, ht, rfl⟩ := win_r (b := 0) (c := 5) (by omega) (by omega) c
  have ht6 : t < 6 := by omega
  have hin : inb (nI t) 6 = true := inb_nI ht6 (by decide)
  have hix : ix (nI t) = t := ix_nI (by omega)
  have key : ∃ r, f_X6_judge_J40 s lm (nI t) a2 = some r ∧ f_X7_judge_J32 P lm (nI t) a2 = some r := by
    unfold f_X6_judge_J40 f_X6_judge_H42 f_X7_judge_J32 f_X7_judge_H34
    obtain ⟨r, r', g1, g2, g3⟩ := iter_2 (b1 := fun u => f_X6_judge_B42 s lm (nI t) a2 u) (b2 := fun u => f_X7_judge_B34 P lm (nI t) a2 u) (fun i u w => u = nI i ∧ w = nI i ∧ (0 < i → ¬ a2 < 0)) (fun r r' => r = r') n
      (fun i u w hi hI => by
        obtain ⟨rfl, rfl, hpos⟩ := hI
        unfold f_X6_judge_B42 f_X7_judge_B34 f_X6_judge_J69 f_X7_judge_J69
        simp only [hin, hix, if_true]
        rw [(AR_kn h1).1, (AR_kn h1).2.1]
        by_cases ci : i = n
        · subst ci
          right
          rw [if_pos (Int32.le_refl _), if_pos (Int32.le_refl _)]
          exact ⟨_, _, rfl, rfl, rfl⟩
        · rw [if_neg (nI_ge (by omega) (by omega)), if_neg (nI_ge (by omega) (by omega))]
          have h6i : inb (nI i) 6 = true := inb_nI (by omega) (by decide)
          have hxi : ix (nI i) = i := ix_nI (by omega)
          rcases TPS_t h6 ht6 with ⟨e1, e2, e3⟩ | ⟨q, m, e1, e2, e3, e4, e5, e6, e7, e8, e9⟩
          · right
            rw [e_placeE ht6 e1, Option.bind_some, if_pos rfl, if_pos e3]
            exact ⟨_, _, rfl, rfl, rfl⟩
          · by_cases cn : a2 < 0
            · have hi0 : i = 0 := by
                apply Decidable.byContradiction
                intro w
                exact hpos (by omega) cn
              right
              subst hi0
              rw [e_placeN ht6 (by
                rw [show (nI 0).toInt64 = 0 by decide, Int64.add_zero]
                exact i64_neg cn), Option.bind_some, if_pos rfl, if_neg e7, if_pos cn]
              exact ⟨_, _, rfl, rfl, rfl⟩
            · obtain ⟨y, hy, rfl⟩ := nIof cn
              have hle : nI y ≤ nI m - nI i - 1 ↔ y + i < m := by
                have e1' : (nI m - nI i - 1).toInt = (m : Int) - i - 1 := by
                  rw [Int32.toInt_sub, sub_toI (by omega) (by omega), show (1 : Int32).toInt = 1 by decide]
                  exact Int.bmod_eq_of_le (by omega) (by omega)
                rw [Int32.le_iff_toInt_le, nI_toInt hy, e1']
                omega
              rw [nI_long hy, nI_long (by omega), lN_add, e_placeY ht6 e4 e5 e2 (by omega), Option.bind_some, if_neg e7, if_neg cn, e8]
              by_cases cp : y + i < m
              · rw [if_pos cp, if_neg (show ¬ (1 : Int32) = 0 by decide), nI_add, if_pos (inb_nI (by omega) (by decide)), if_pos h6i, if_pos (hle.mpr cp), hxi, ix_nI (by omega)]
                have e60 : 60 * nI t + nI y + nI i = nI (60 * t + (y + i)) := by
                  rw [show (60 : Int32) = nI 60 from rfl, pk_mul, nI_add, nI_add, Nat.add_assoc]
                rw [e60, if_pos (inb_nI (by omega) (by decide)), if_pos h6i, ix_nI (by omega), e9 _ cp, w5.1.r8]
                show (i < n ∧ ∃ s' t', (if lg_cmp (lm 17 82 (60 * t + (y + i))) (s 1 9 i).toInt64 = 0 then _ else _) = _ ∧ (if lg_cmp (lm 17 82 (60 * t + (y + i))) (s 1 9 i).toInt64 = 0 then _ else _) = _ ∧ _) ∨ ∃ r r', (if lg_cmp (lm 17 82 (60 * t + (y + i))) (s 1 9 i).toInt64 = 0 then _ else _) = _ ∧ (if lg_cmp (lm 17 82 (60 * t + (y + i))) (s 1 9 i).toInt64 = 0 then _ else _) = _ ∧ _
                by_cases cq : lg_cmp (lm 17 82 (60 * t + (y + i))) (s 1 9 i).toInt64 = 0
                · left
                  rw [if_pos cq, nI_1]
                  exact ⟨by omega, _, _, rfl, rfl, rfl, rfl, fun _ => cn⟩
                · right
                  rw [if_neg cq]
                  exact ⟨_, _, rfl, rfl, rfl⟩
              · right
                rw [if_neg cp, if_pos rfl, if_neg (fun w => cp (hle.mp w))]
                exact ⟨_, _, rfl, rfl, rfl⟩) n 0 (nI 0) (nI 0) (by omega) ⟨rfl, rfl, fun w => absurd w (by omega)⟩ 200 (by omega)
    exact ⟨r, g1, by rw [g3]; exact g2⟩
  rw [if_neg c, if_neg c, e_holds ht6, Option.bind_some, if_pos hin, if_pos hin, if_pos hin, hix]
  rcases TPS_t h6 ht6 with ⟨e1, e2, e3⟩ | ⟨q, m, e1, e2, e3, e4, e5, e6, e7, e8, e9⟩
  · rw [if_pos e1, if_pos rfl, if_pos e3]
    exact key
  · rw [if_neg e4, if_neg (show ¬ (1 : Int32) = 0 by decide), if_neg e7, e3, e6]
    by_cases c2 : nI q = 2
    · rw [if_pos c2, if_pos c2]
      exact key
    · rw [if_neg c2, if_neg c2]
      exact ⟨_, rfl, rfl⟩
/-- is a place there, on both sides -/
theorem q_place2 (h6 : TPS s P lm) {t : Nat} (ht6 : t < 6) (h4 : s 16 1 t ≠ -1) : ∃ m, m ≤ 60 ∧ P 81 t = nI m ∧ (∀ i, i < m → lm 16 (4 + t) i = lm 17 82 (60 * t + i)) ∧ ((∃ y, y < m ∧ a2 = nI y ∧ f_X4_hasPlace (s 16) (nI t) a2.toInt64 = some 1 ∧ win a2 0 (nI m - 1) = 1) ∨ (f_X4_hasPlace (s 16) (nI t) a2.toInt64 = some 0 ∧ win a2 0 (nI m - 1) = 0)) := by
  rcases TPS_t h6 ht6 with ⟨e1, e2, e3⟩ | ⟨q, m, e1, e2, e3, e4, e5, e6, e7, e8, e9⟩
  · exact absurd e1 h4
  refine ⟨m, e2, e8, e9, ?_⟩
  by_cases cn : a2 < 0
  · right
    refine ⟨e_placeN ht6 (i64_neg cn), ?_⟩
    unfold win
    rw [if_pos cn]
  · obtain ⟨y, hy, rfl⟩ := nIof cn
    rw [nI_long hy, e_placeY ht6 e4 e5 e2 (by omega)]
    have hlt : nI m - 1 < nI y ↔ ¬ y < m := by
      rw [Int32.lt_iff_toInt_lt, nI_toInt hy, show (1 : Int32) = nI 1 from rfl, sub_toI (by omega) (by omega)]
      omega
    by_cases cp : y < m
    · left
      refine ⟨y, cp, rfl, by rw [if_pos cp], ?_⟩
      unfold win
      rw [if_neg cn, if_neg (fun w => hlt.mp w cp)]
    · right
      refine ⟨by rw [if_neg cp], ?_⟩
      unfold win
      rw [if_neg cn, if_pos (hlt.mpr cp)]
theorem s_read (h : RR s P lm) : ∃ r, f_X6_read s lm a1 a2 = some r ∧ f_X7_read P lm a1 a2 = some r := by
  obtain ⟨⟨n, d, h1⟩, h2, h3, h4, h5, h6⟩ := id h
  unfold f_X6_read f_X7_read f_X6_read_J24 f_X7_read_J34
  rw [e_tk, m_tk, Option.bind_some, Option.bind_some]
  by_cases c : win a1 0 5 = 0
  · rw [if_pos c, if_pos c]; exact ⟨_, rfl, rfl⟩
  obtain ⟨t, -, ht, rfl⟩ := win_r (b := 0) (c := 5) (by omega) (by omega) c
  have ht6 : t < 6 := by omega
  have hin : inb (nI t) 6 = true := inb_nI ht6 (by decide)
  have hix : ix (nI t) = t := ix_nI (by omega)
  rw [if_neg c, if_neg c, if_pos hin, if_pos hin, if_pos hin, hix]
  rcases TPS_t h6 ht6 with ⟨e1, e2, e3⟩ | ⟨q, m, e1, e2, e3, e4, e5, e6, e7, e8, e9⟩
  · rw [e_placeE ht6 e1, Option.bind_some, if_pos rfl, if_pos e3]
    exact ⟨_, rfl, rfl⟩
  · obtain ⟨m', k1, k2, k3, k4⟩ := q_place2 (a2 := a2) h6 ht6 e4
    rw [if_neg e7, k2, m_win, Option.bind_some]
    rcases k4 with ⟨y, y1, y2, y3, y4⟩ | ⟨y1, y2⟩
    · subst y2
      rw [y3, y4, Option.bind_some, if_neg (show ¬ (1 : Int32) = 0 by decide), if_neg (show ¬ (1 : Int32) = 0 by decide), if_pos (inb_nI (by omega) (by decide)), ix_nI (by omega), show (60 : Int32) = nI 60 from rfl, pk_mul, nI_add, if_pos (inb_nI (by omega) (by decide)), ix_nI (by omega), k3 y y1]
      exact ⟨_, rfl, rfl⟩
    · rw [y1, y2, Option.bind_some, if_pos rfl, if_pos rfl]
      exact ⟨_, rfl, rfl⟩
theorem up2L_g {P : Pl} {c j c' i : Nat} {x : Int64} : up2L P c j x c' i = if c' = c ∧ i = j then x else P c' i := by
  unfold up2L setO vp_updL
  by_cases h : c' = c
  · subst h
    rw [if_pos rfl]
    by_cases h2 : i = j
    · rw [if_pos h2, if_pos ⟨rfl, h2⟩]
    · rw [if_neg h2, if_neg (fun w => h2 w.2)]
  · rw [if_neg h, if_neg (fun w => h w.1)]
theorem RR_lm (h : RR s P lm) (hT : TPS s P lm') : RR s P lm' := ⟨h.1, h.2.1, h.2.2.1, h.2.2.2.1, h.2.2.2.2.1, hT⟩
theorem e_cut {q : Int32} : ∃ z, f_X4_cut q v = some z ∧ ∀ P, f_X7_narrow P q v = some z := by
  unfold f_X4_cut f_X7_narrow
  by_cases g0 : q = 0
  · simp only [g0, if_true]; exact ⟨_, rfl, fun _ => rfl⟩
  by_cases g1 : q = 1
  · simp only [g0, g1, if_true, if_false]; exact ⟨_, rfl, fun _ => rfl⟩
  by_cases g2 : q = 2
  · simp only [g0, g1, g2, if_true, if_false]; exact ⟨_, rfl, fun _ => rfl⟩
  by_cases g4 : q = 4
  · simp only [g0, g1, g2, g4, if_true, if_false]
    by_cases g5 : lg_cmp v 0 = 0
    · simp only [g5, if_true]; exact ⟨_, rfl, fun _ => rfl⟩
    · simp only [g5, if_false]; exact ⟨_, rfl, fun _ => rfl⟩
  · simp only [g0, g1, g2, g4, if_false]; exact ⟨_, rfl, fun _ => rfl⟩
theorem s_item (h : RR s P lm) : ∃ r lm1 lm2, f_X6_item s lm a1 a2 v = some (r, lm1) ∧ f_X7_item P lm1 a1 a2 v = some (r, lm2) ∧ RR s P lm2 := by
  obtain ⟨⟨n, d, h1⟩, h2, h3, h4, h5, h6⟩ := id h
  have same : ∀ r, f_X6_item s lm a1 a2 v = some (r, lm) → f_X7_item P lm a1 a2 v = some (r, lm) → ∃ r lm1 lm2, f_X6_item s lm a1 a2 v = some (r, lm1) ∧ f_X7_item P lm1 a1 a2 v = some (r, lm2) ∧ RR s P lm2 := fun r e1 e2 => ⟨r, lm, lm, e1, e2, h⟩
  by_cases c : win a1 0 5 = 0
  · refine same (-1) ?_ ?_
    · unfold f_X6_item
      rw [e_tk, Option.bind_some, if_pos c]
    · unfold f_X7_item
      rw [m_tk, Option.bind_some, if_pos c]
  obtain ⟨t, -, ht, rfl⟩ := win_r (b := 0) (c := 5) (by omega) (by omega) c
  have ht6 : t < 6 := by omega
  have hin : inb (nI t) 6 = true := inb_nI ht6 (by decide)
  have hix : ix (nI t) = t := ix_nI (by omega)
  have E1 : f_X6_item s lm (nI t) a2 v = Option.bind (some (if s 16 1 t = -1 then (0 : Int32) else 1)) (fun x2 => (if x2 = 0 then some ((-11), lm) else Option.bind (f_X4_hasPlace (s 16) (nI t) a2.toInt64) (fun x3 => (if x3 = 0 then some ((-13), lm) else Option.bind (f_X4_cut ((s 16) 1 t) v) (fun x6 => (if inb a2 60 = true then nb (setO lm 16 (up2L (lm 16) (4 + t) (ix a2) x6)) (fun lm7 => some (1, lm7)) else none)))))) := by
    unfold f_X6_item
    rw [e_tk, Option.bind_some, if_neg c, e_holds ht6]
    simp only [hin, hix, if_true]
  have E2 : ∀ l : Ml, f_X7_item P l (nI t) a2 v = (if 0 ≤ P 80 t then Option.bind (some (win a2 0 (P 81 t - 1))) (fun x4 => (if x4 = 0 then some ((-13), l) else Option.bind (f_X7_narrow P (P 80 t) v) (fun x6 => (if inb ((60 * nI t) + a2) 360 = true then nb (setO l 17 (up2L (l 17) 82 (ix ((60 * nI t) + a2)) x6)) (fun lm7 => some (1, lm7)) else none)))) else some ((-11), l)) := by
    intro l
    unfold f_X7_item
    rw [m_tk, Option.bind_some, if_neg c, m_win]
    simp only [hin, hix, if_true]
  rcases TPS_t h6 ht6 with ⟨e1, e2, e3⟩ | ⟨q, m, e1, e2, e3, e4, e5, e6, e7, e8, e9⟩
  · refine same (-11) ?_ ?_
    · rw [E1, if_pos e1, Option.bind_some, if_pos rfl]
    · rw [E2, if_neg (show ¬ 0 ≤ P 80 t from Int32.not_le.mpr e3)]
  · obtain ⟨m', k1, k2, k3, k4⟩ := q_place2 (a2 := a2) h6 ht6 e4
    have hm : m' = m := nIeq (k2.symm.trans e8) (by omega) (by omega)
    subst hm
    rcases k4 with ⟨y, y1, y2, y3, y4⟩ | ⟨y1, y2⟩
    · subst y2
      obtain ⟨z, hz, hz2⟩ := e_cut (v := v) (q := nI q)
      have e60 : 60 * nI t + nI y = nI (60 * t + y) := by rw [show (60 : Int32) = nI 60 from rfl, pk_mul, nI_add]
      refine ⟨1, setO lm 16 (up2L (lm 16) (4 + t) y z), setO (setO lm 16 (up2L (lm 16) (4 + t) y z)) 17 (up2L ((setO lm 16 (up2L (lm 16) (4 + t) y z)) 17) 82 (60 * t + y) z), ?_, ?_, RR_lm h (fun t' ht' => ?_)⟩
      · rw [E1, if_neg e4, Option.bind_some, if_neg (show ¬ (1 : Int32) = 0 by decide), y3, Option.bind_some, if_neg (show ¬ (1 : Int32) = 0 by decide), e3, hz, Option.bind_some, if_pos (inb_nI (by omega) (by decide)), ix_nI (by omega), nb_w]
      · rw [E2, if_pos (show 0 ≤ P 80 t from Int32.not_lt.mp e7), k2, y4, Option.bind_some, if_neg (show ¬ (1 : Int32) = 0 by decide), e6, hz2, Option.bind_some, e60, if_pos (inb_nI (by omega) (by decide)), ix_nI (by omega), nb_w]
      · obtain ⟨h7, h8⟩ := h6 t' ht'
        refine ⟨h7, h8.imp id (fun ⟨q', m2, j1, j2, j3, j4, j5, j6⟩ => ⟨q', m2, j1, j2, j3, j4, j5, fun i hi => ?_⟩)⟩
        rw [setO_n (show (16 : Nat) ≠ 17 by decide), setO_s, setO_s, setO_n (show (17 : Nat) ≠ 16 by decide), up2L_g, up2L_g]
        by_cases g : t' = t ∧ i = y
        · rw [if_pos (by omega), if_pos (by omega)]
        · rw [if_neg (by omega), if_neg (by omega)]
          exact j6 i hi
    · refine same (-13) ?_ ?_
      · rw [E1, if_neg e4, Option.bind_some, if_neg (show ¬ (1 : Int32) = 0 by decide), y1, Option.bind_some, if_pos rfl]
      · rw [E2, if_pos (show 0 ≤ P 80 t from Int32.not_lt.mp e7), k2, y2, Option.bind_some, if_pos rfl]
/-- k places of a row become 0 -/
def zL (lm : Ml) (o c b k : Nat) : Ml := setO lm o (setO (lm o) c (fun j => if b ≤ j ∧ j < b + k then 0 else lm o c j))
theorem zL_0 : zL lm o c b 0 = lm := by
  unfold zL
  have : (fun j => if b ≤ j ∧ j < b + 0 then (0 : Int64) else lm o c j) = lm o c := by
    funext j
    rw [if_neg (by omega)]
  rw [this, setO_i, setO_i]
theorem zL_g {o' c' j : Nat} : zL lm o c b k o' c' j = if o' = o ∧ c' = c ∧ b ≤ j ∧ j < b + k then 0 else lm o' c' j := by
  unfold zL
  by_cases h1 : o' = o
  · subst h1
    rw [setO_s]
    by_cases h2 : c' = c
    · subst h2
      rw [setO_s]
      by_cases h3 : b ≤ j ∧ j < b + k
      · rw [if_pos h3, if_pos ⟨rfl, rfl, h3⟩]
      · rw [if_neg h3, if_neg (fun w => h3 w.2.2)]
    · rw [setO_n h2, if_neg (fun w => h2 w.2.1)]
  · rw [setO_n h1, if_neg (fun w => h1 w.1)]
theorem zL_s : setO (zL lm o c b k) o (up2L ((zL lm o c b k) o) c (b + k) 0) = zL lm o c b (k + 1) := by
  funext o' c' j
  rw [zL_g]
  by_cases h1 : o' = o
  · subst h1
    rw [setO_s, up2L_g, zL_g]
    by_cases h2 : c' = c ∧ j = b + k
    · rw [if_pos h2, if_pos ⟨rfl, h2.1, by omega, by omega⟩]
    · rw [if_neg h2]
      by_cases h3 : c' = c ∧ b ≤ j ∧ j < b + k
      · rw [if_pos ⟨rfl, h3⟩, if_pos ⟨rfl, h3.1, by omega, by omega⟩]
      · rw [if_neg (fun w => h3 w.2), if_neg (fun w => by omega)]
  · rw [setO_n h1, zL_g, if_neg (fun w => h1 w.1), if_neg (fun w => h1 w.1)]
theorem l_zC {t : Nat} (ht : t < 6) : iter (fun u : Int32 × Ml => f_X4_make_B17 A (nI t) u.1 u.2) 200 (0, lm) = some (zL lm 16 (4 + t) 0 60) := by
  obtain ⟨r, h1, h2⟩ := iter_I (body := fun u : Int32 × Ml => f_X4_make_B17 A (nI t) u.1 u.2) (fun k u => u.1 = nI k ∧ u.2 = zL lm 16 (4 + t) 0 k) (fun r => r = zL lm 16 (4 + t) 0 60) 60
    (fun k u hk hI => by
      obtain ⟨u1, u2⟩ := u
      obtain ⟨g1, g2⟩ := hI
      dsimp only at g1 g2
      subst g1 g2
      show ∃ s', f_X4_make_B17 A (nI t) (nI k) (zL lm 16 (4 + t) 0 k) = _ ∧ _
      unfold f_X4_make_B17
      rw [if_neg (show ¬ (60 : Int32) ≤ nI k from nI_ge (b := 60) hk (by omega)), if_pos (inb_nI ht (by decide)), if_pos (inb_nI hk (by decide)), ix_nI (by omega), ix_nI (by omega), nb_w, nI_1]
      refine ⟨_, rfl, rfl, ?_⟩
      have := zL_s (lm := lm) (o := 16) (c := 4 + t) (b := 0) (k := k)
      rw [Nat.zero_add] at this
      exact this)
    (fun u hI => by
      obtain ⟨u1, u2⟩ := u
      obtain ⟨g1, g2⟩ := hI
      dsimp only at g1 g2
      subst g1 g2
      refine ⟨_, ?_, rfl⟩
      show f_X4_make_B17 A (nI t) (nI 60) _ = _
      unfold f_X4_make_B17
      rw [if_pos (show (60 : Int32) ≤ nI 60 from Int32.le_refl _)]) 60 0 (0, lm) (by omega) ⟨rfl, zL_0.symm⟩ 200 (by omega)
  rw [h1, h2]
theorem l_zM {t : Nat} (ht : t < 6) : iter (fun u : Int32 × Ml => f_X7_tape_B69 P (nI t) u.1 u.2) 200 (0, lm) = some (zL lm 17 82 (60 * t) 60) := by
  obtain ⟨r, h1, h2⟩ := iter_I (body := fun u : Int32 × Ml => f_X7_tape_B69 P (nI t) u.1 u.2) (fun k u => u.1 = nI k ∧ u.2 = zL lm 17 82 (60 * t) k) (fun r => r = zL lm 17 82 (60 * t) 60) 60
    (fun k u hk hI => by
      obtain ⟨u1, u2⟩ := u
      obtain ⟨g1, g2⟩ := hI
      dsimp only at g1 g2
      subst g1 g2
      show ∃ s', f_X7_tape_B69 P (nI t) (nI k) (zL lm 17 82 (60 * t) k) = _ ∧ _
      unfold f_X7_tape_B69
      have e60 : 60 * nI t + nI k = nI (60 * t + k) := by rw [show (60 : Int32) = nI 60 from rfl, pk_mul, nI_add]
      rw [if_neg (show ¬ (60 : Int32) ≤ nI k from nI_ge (b := 60) hk (by omega)), e60, if_pos (inb_nI (by omega) (by decide)), ix_nI (by omega), nb_w, nI_1]
      exact ⟨_, rfl, rfl, zL_s⟩)
    (fun u hI => by
      obtain ⟨u1, u2⟩ := u
      obtain ⟨g1, g2⟩ := hI
      dsimp only at g1 g2
      subst g1 g2
      refine ⟨_, ?_, rfl⟩
      show f_X7_tape_B69 P (nI t) (nI 60) _ = _
      unfold f_X7_tape_B69
      rw [if_pos (show (60 : Int32) ≤ nI 60 from Int32.le_refl _)]) 60 0 (0, lm) (by omega) ⟨rfl, zL_0.symm⟩ 200 (by omega)
  rw [h1, h2]
/-- only the tapes are others -/
theorem RR_tp (h : RR s P lm) {B : Pm} (hT : TPS (setO s 16 B) Q lm') (hc : ∀ c, c ≠ 80 → c ≠ 81 → Q c = P c) : RR (setO s 16 B) Q lm' := by
  obtain ⟨⟨n, d, h1⟩, h2, h3, h4, h5, h6⟩ := id h
  have tn : ∀ o, o ≠ 16 → setO s 16 B o = s o := fun o a => setO_n a
  have z : Q 0 = P 0 := hc 0 (by decide) (by decide)
  exact ⟨⟨n, d, WEL_c h1 (tn 1 (by decide)) (tn 2 (by decide)) (tn 4 (by decide)) (fun c hc2 => hc c (by omega) (by omega)) (fun i _ => by rw [z])⟩, CTS_c h2 (tn 0 (by decide)) (fun o ho => by rw [tn o (kdNe ho (by decide))]; exact CEq.rf) (fun c a b => hc c (by omega) (by omega)) (by rw [z]) (by rw [z]) (by rw [z]), TXT_c h3 (tn 6 (by decide)) (by rw [z]) (hc 19 (by decide) (by decide)) (hc 30 (by decide) (by decide)), IMG_c h4 (tn 3 (by decide)) (tn 5 (by decide)) (by rw [tn 0 (by decide)]) (fun c a b => hc c (by omega) (by omega)) (fun i a b => by rw [z]), AKT_c h5 (tn 15 (by decide)) (by rw [z]) (hc 79 (by decide) (by decide)), hT⟩
theorem s_tape (h : RR s P lm) : ∃ r t lm1 Q lm2, f_X6_tape s lm a1 a2 a3 = some (r, t, lm1) ∧ t 17 = s 17 ∧ f_X7_tape P lm1 a1 a2 a3 = some (r, Q, lm2) ∧ RR t Q lm2 := by
  obtain ⟨⟨n, d, h1⟩, h2, h3, h4, h5, h6⟩ := id h
  have E1 : f_X6_tape s lm a1 a2 a3 = (if win a1 0 5 = 0 then some ((-1), s, lm) else (if a2 = (-1) then (if inb a1 6 = true then some (1, setO s 16 (up2 (s 16) 1 (ix a1) (-1)), lm) else none) else (if win a2 0 4 = 0 then some ((-2), s, lm) else (if a3 ≤ 60 then (if 0 ≤ a3 then bn2 (f_X4_make (s 16) lm a1 a2 a3) (fun p3 lm4 => some (1, setO s 16 p3, lm4)) else some ((-14), s, lm)) else some ((-2), s, lm))))) := by
    unfold f_X6_tape
    rw [e_tk, Option.bind_some, e_win]
    rfl
  have E2 : ∀ l : Ml, f_X7_tape P l a1 a2 a3 = (if win a1 0 5 = 0 then some ((-1), P, l) else (if win a2 (-1) 4 = 0 then some ((-2), P, l) else (if a2 < 0 then f_X7_tape_J33 P l a1 a2 a3 else (if a3 ≤ 60 then f_X7_tape_J33 P l a1 a2 a3 else some ((-2), P, l))))) := by
    intro l
    unfold f_X7_tape
    rw [m_tk, Option.bind_some, m_win]
    rfl
  have same : ∀ r, f_X6_tape s lm a1 a2 a3 = some (r, s, lm) → f_X7_tape P lm a1 a2 a3 = some (r, P, lm) → ∃ r t lm1 Q lm2, f_X6_tape s lm a1 a2 a3 = some (r, t, lm1) ∧ t 17 = s 17 ∧ f_X7_tape P lm1 a1 a2 a3 = some (r, Q, lm2) ∧ RR t Q lm2 := fun r e1 e2 => ⟨r, s, lm, P, lm, e1, rfl, e2, h⟩
  by_cases c : win a1 0 5 = 0
  · exact same (-1) (by rw [E1, if_pos c]) (by rw [E2, if_pos c])
  obtain ⟨t, -, ht, rfl⟩ := win_r (b := 0) (c := 5) (by omega) (by omega) c
  have ht6 : t < 6 := by omega
  have hin : inb (nI t) 6 = true := inb_nI ht6 (by decide)
  have hix : ix (nI t) = t := ix_nI (by omega)
  have J44 : ∀ (l : Ml) (q m : Int32), f_X7_tape_J44 P l (nI t) q m = some (1, up2 (up2 P 80 t q) 81 t (if 0 ≤ q then m else 0), zL l 17 82 (60 * t) 60) := by
    intro l q m
    unfold f_X7_tape_J44 f_X7_tape_J65 f_X7_tape_H69 f_X7_tape_J95
    simp only [hin, hix, if_true, nb_w]
    by_cases g : 0 ≤ q
    · rw [if_pos g, if_pos g, l_zM ht6]
      rfl
    · rw [if_neg g, if_neg g, l_zM ht6]
      rfl
  by_cases c2 : a2 = -1
  · subst c2
    refine ⟨1, setO s 16 (up2 (s 16) 1 t (-1)), lm, up2 (up2 P 80 t (-1)) 81 t (if 0 ≤ (-1 : Int32) then a3 else 0), zL lm 17 82 (60 * t) 60, ?_, setO_n (by decide), ?_, RR_tp h (fun t' ht' => ?_) (fun c a b => by rw [u_c b, u_c a])⟩
    · rw [E1, if_neg c, if_pos rfl, if_pos hin, hix]
    · rw [E2, if_neg c, if_neg (show ¬ win (-1) (-1) 4 = 0 by decide), if_pos (show (-1 : Int32) < 0 by decide)]
      unfold f_X7_tape_J33
      rw [if_pos (show (-1 : Int32) < 0 by decide), J44]
    · obtain ⟨h7, h8⟩ := h6 t' ht'
      rw [setO_s, show up2 (up2 P 80 t (-1)) 81 t (if 0 ≤ (-1 : Int32) then a3 else 0) 80 t' = upd (P 80) t (-1) t' from rfl, show up2 (s 16) 1 t (-1) 1 t' = upd (s 16 1) t (-1) t' from rfl, upd_g, upd_g]
      by_cases e : t' = t
      · rw [if_pos e, if_pos e]
        exact ⟨rfl, Or.inl rfl⟩
      · rw [if_neg e, if_neg e]
        refine ⟨h7, h8.imp id (fun ⟨q', m2, j1, j2, j3, j4, j5, j6⟩ => ⟨q', m2, j1, j2, j3, j4, ?_, fun i hi => ?_⟩)⟩
        · rw [u_ne (Or.inr e), u_c (by decide)]
          exact j5
        · rw [zL_g, zL_g, if_neg (fun w => absurd w.1 (by decide)), if_neg (by omega)]
          exact j6 i hi
  by_cases c3 : win a2 0 4 = 0
  · have hw : win a2 (-1) 4 = 0 := by
      unfold win at c3 ⊢
      by_cases g : a2 < -1
      · rw [if_pos g]
      · rw [if_neg g]
        have g0 : ¬ a2 < 0 := by
          intro w
          apply c2
          rw [Int32.lt_iff_toInt_lt] at w g
          apply Int32.toInt_inj.mp
          rw [show (-1 : Int32).toInt = -1 by decide] at g ⊢
          rw [show (0 : Int32).toInt = 0 by decide] at w
          omega
        rw [if_neg g0] at c3
        exact c3
    exact same (-2) (by rw [E1, if_neg c, if_neg c2, if_pos c3]) (by rw [E2, if_neg c, if_pos hw])
  obtain ⟨q, -, hq, rfl⟩ := win_r (b := 0) (c := 4) (by omega) (by omega) c3
  have hq0 : ¬ nI q < 0 := fun w => absurd (nI_pos' (n := q) (by omega)) (Int32.not_le.mpr w)
  have hw : ¬ win (nI q) (-1) 4 = 0 := by
    unfold win
    rw [if_neg (fun w => hq0 (Int32.lt_trans w (by decide))), if_neg (show ¬ (4 : Int32) < nI q from nI_nlt (a := 4) (b := q) (by omega) (by omega))]
    decide
  by_cases c4 : a3 ≤ 60
  · by_cases c5 : 0 ≤ a3
    · obtain ⟨m, hm, rfl⟩ := nIof (show ¬ a3 < 0 from Int32.not_lt.mpr c5)
      have hm60 : m ≤ 60 := by
        apply Decidable.byContradiction
        intro w
        exact absurd c4 (nI_ge (a := 60) (b := m) (by omega) (by omega))
      have em : f_X4_make (s 16) lm (nI t) (nI q) (nI m) = some (up2 (up2 (s 16) 1 t (nI q)) 2 t (nI m), zL lm 16 (4 + t) 0 60) := by
        unfold f_X4_make f_X4_make_H17 f_X4_make_J40
        simp only [hin, hix, if_true, nb_w, l_zC ht6, Option.bind_some]
      refine ⟨1, setO s 16 (up2 (up2 (s 16) 1 t (nI q)) 2 t (nI m)), zL lm 16 (4 + t) 0 60, up2 (up2 P 80 t (nI q)) 81 t (nI m), zL (zL lm 16 (4 + t) 0 60) 17 82 (60 * t) 60, ?_, setO_n (by decide), ?_, RR_tp h (fun t' ht' => ?_) (fun c a b => by rw [u_c b, u_c a])⟩
      · rw [E1, if_neg c, if_neg c2, if_neg c3, if_pos c4, if_pos c5, em, bn2_w]
      · rw [E2, if_neg c, if_neg hw, if_neg hq0, if_pos c4]
        unfold f_X7_tape_J33
        rw [if_neg hq0, if_pos c5, J44, if_pos (show 0 ≤ nI q from Int32.not_lt.mp hq0)]
      · obtain ⟨h7, h8⟩ := h6 t' ht'
        rw [setO_s, show up2 (up2 P 80 t (nI q)) 81 t (nI m) 80 t' = upd (P 80) t (nI q) t' from rfl, show up2 (up2 (s 16) 1 t (nI q)) 2 t (nI m) 1 t' = upd (s 16 1) t (nI q) t' from rfl, upd_g, upd_g]
        by_cases e : t' = t
        · rw [if_pos e, if_pos e]
          refine ⟨rfl, Or.inr ⟨q, m, hq, hm60, rfl, ?_, ?_, fun i hi => ?_⟩⟩
          · rw [e, u_s]
          · rw [e, u_s]
          · rw [zL_g, zL_g, zL_g, if_neg (fun w => absurd w.1 (by decide)), if_pos ⟨rfl, by omega, by omega, by omega⟩, if_pos ⟨rfl, rfl, by omega, by omega⟩]
        · rw [if_neg e, if_neg e]
          refine ⟨h7, h8.imp id (fun ⟨q', m2, j1, j2, j3, j4, j5, j6⟩ => ⟨q', m2, j1, j2, j3, ?_, ?_, fun i hi => ?_⟩)⟩
          · rw [u_ne (Or.inr e), u_c (by decide)]
            exact j4
          · rw [u_ne (Or.inr e), u_c (by decide)]
            exact j5
          · rw [zL_g, zL_g, zL_g, zL_g, if_neg (fun w => absurd w.1 (by decide)), if_neg (by omega), if_neg (by omega), if_neg (fun w => absurd w.1 (by decide))]
            exact j6 i hi
    · refine same (-14) (by rw [E1, if_neg c, if_neg c2, if_neg c3, if_pos c4, if_neg c5]) ?_
      rw [E2, if_neg c, if_neg hw, if_neg hq0, if_pos c4]
      unfold f_X7_tape_J33
      rw [if_neg hq0, if_neg c5]
  · exact same (-2) (by rw [E1, if_neg c, if_neg c2, if_neg c3, if_neg c4]) (by rw [E2, if_neg c, if_neg hw, if_neg hq0, if_neg c4])
end Tp
