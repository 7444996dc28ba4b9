/-! the pure side 66: of, pass -/
section Op
variable {s t : Mm} {P Q W V : Pm} {lm : Ml} {n d rid j : Nat} {mk sp fi ab m x y a1 a2 : Int32} {rt : Pm → Nat → Int32}
theorem s_of (h : RR s P lm) : QS s lm (f_X6_of s a1 a2) (f_X7_of P a1 a2) := by
  obtain ⟨⟨n, d, h1⟩, h2⟩ := id h
  obtain ⟨rid, mk, sp, fi, rt, hA, hrt⟩ := RR_AR h1 h2.1
  obtain ⟨w1, w2, w3, w4, w5, w6⟩ := id h1
  have hn := w3.1
  unfold f_X6_of f_X7_of
  rw [(k_known h1).1, (k_known h1).2, Option.bind_some, Option.bind_some]
  by_cases c : win a1 0 (nI n - 1) = 0
  · rw [if_pos c, if_pos c]
    exact QS_0 h
  obtain ⟨j, hj, rfl⟩ := known_r hn c
  have hj6 : j < 6 := by omega
  have h6 : inb (nI j) 6 = true := inb_nI hj6 (by decide)
  have hx : ix (nI j) = j := ix_nI (by omega)
  rw [if_neg c, if_neg c]
  simp only [h6, hx, if_true]
  by_cases k0 : a2 = 0
  · rw [if_pos k0, if_pos k0, w5.1.r4]; exact QS_0 h
  rw [if_neg k0, if_neg k0]
  by_cases k1 : a2 = 1
  · rw [if_pos k1, if_pos k1, w5.1.r5]; exact QS_0 h
  rw [if_neg k1, if_neg k1]
  by_cases k2 : a2 = 2
  · rw [if_pos k2, if_pos k2, w5.1.r6]; exact QS_0 h
  rw [if_neg k2, if_neg k2]
  by_cases k3 : a2 = 3
  · rw [if_pos k3, if_pos k3, w5.1.r7]; exact QS_0 h
  rw [if_neg k3, if_neg k3]
  by_cases k4 : a2 = 4
  · rw [if_pos k4, if_pos k4, w5.1.r8]; exact QS_0 h
  rw [if_neg k4, if_neg k4]
  by_cases k5 : a2 = 5
  · rw [if_pos k5, if_pos k5, w5.1.r9]; exact QS_0 h
  rw [if_neg k5, if_neg k5]
  by_cases k6 : a2 = 6
  · rw [if_pos k6, if_pos k6, w5.1.r10]; exact QS_0 h
  rw [if_neg k6, if_neg k6]
  by_cases k7 : a2 = 7
  · rw [if_pos k7, if_pos k7, w5.1.r11]; exact QS_0 h
  rw [if_neg k7, if_neg k7]
  have hru := hA.2.2.2.2.2.2.1
  have hkd := hA.2.2.2.2.2.2.2.1
  have hPd : put P (up2 (s 1) 0 3 (P 0 34)) = P := (WEL_W h1).symm
  by_cases k8 : a2 = 8
  · obtain ⟨p13, P', e1, ⟨z, e2, e3⟩, e4⟩ := q_rate hA hj6
    rw [if_pos k8, if_pos k8, hru, Option.bind_some, if_pos hkd, e1, e2, bn2_w, bn2_w, nb_w, e3, hrt]
    exact QS_of ⟨_, _, _, rfl, rfl, e4⟩ h1 h2
  rw [if_neg k8, if_neg k8]
  by_cases k9 : a2 = 9
  · have e1 := e_as (mk := (s rid) 0 0) hj6 (w3.L (by omega))
    have hD3 : RI n (up2 (s 1) 0 3 (P 0 34)) := RI_0s w3.2.2.2.2.2.1 (by decide)
    have e2 := m_as (M := P) (f := P 33) (W := up2 (s 1) 0 3 (P 0 34)) hj6 hD3 w3.2.2.1 (by omega) (AR_C hA)
    rw [setO_i, hPd] at e2
    have hem : emk P mk = mk := by
      unfold emk
      rw [w5.2.1, if_pos (by decide)]
    have hmk : (s rid) 0 0 = mk := hA.2.2.2.2.2.2.2.2.1.2.1
    rw [if_pos k9, if_pos k9, hru, Option.bind_some, if_pos hkd, e1, e2, hem, hmk]
    exact QS_0 h
  rw [if_neg k9, if_neg k9]
  by_cases k10 : a2 = 10
  · have e2 := m_kp (M := P) (W := up2 (s 1) 0 3 (P 0 34)) hj6
    rw [hPd] at e2
    rw [if_pos k10, if_pos k10, e_kp hj6, e2]
    exact QS_0 h
  rw [if_neg k10, if_neg k10]
  by_cases k11 : a2 = 11
  · have e2 := m_st (M := P) (W := up2 (s 1) 0 3 (P 0 34)) hj6
    rw [hPd] at e2
    rw [if_pos k11, if_pos k11, e_st hj6, e2, Option.bind_some, Option.bind_some]
    show QS s lm (if stW (s 1) j = 0 then _ else _) (if stW (s 1) j = 0 then _ else _)
    by_cases cc : stW (s 1) j = 0
    · rw [if_pos cc, if_pos cc]; exact QS_0 h
    · rw [if_neg cc, if_neg cc]; exact QS_0 h
  rw [if_neg k11, if_neg k11]
  by_cases k12 : a2 = 12
  · have e2 := m_br (M := P) (W := up2 (s 1) 0 3 (P 0 34)) hj6
    rw [hPd] at e2
    rw [if_pos k12, if_pos k12, e_br hj6, e2]
    exact QS_0 h
  rw [if_neg k12, if_neg k12]
  exact QS_0 h
-- a day, whatever turned is
theorem away_3 : awayW fi (up2 W 0 3 x) j = up2 (awayW fi W j) 0 3 (x + 1) := by
  show up2 (up2 (up2 (up2 W 0 3 x) 12 j (W 12 j + 1)) 0 3 (x + 1)) 11 j (imax 0 (W 11 j - fi)) = up2 (up2 (up2 (up2 W 12 j (W 12 j + 1)) 0 3 (W 0 3 + 1)) 11 j (imax 0 (W 11 j - fi))) 0 3 (x + 1)
  rw [up2_cm (c := 0) (c' := 12) (by decide), up2_tw, up2_cm (c := 0) (j := 3) (c' := 11) (x := x + 1) (by decide), up2_cm (c := 0) (j := 3) (c' := 11) (x := W 0 3 + 1) (by decide), up2_tw]
theorem take_3 {a : Int32} : takeW (up2 W 0 3 x) j a = up2 (takeW W j a) 0 3 x := by
  have e0 : takeW (up2 W 0 3 x) j a = up2 (up2 (up2 (up2 W 0 3 x) 9 j a) 0 0 (W 0 0 - a)) 10 j (kpW W j) := rfl
  have e1 : takeW W j a = up2 (up2 (up2 W 9 j a) 0 0 (W 0 0 - a)) 10 j (kpW W j) := rfl
  rw [e0, e1, up2_cm (c := 0) (c' := 9) (by decide), up2_ci (c := 0) (j := 3) (j' := 0) (by decide), up2_cm (c := 0) (j := 3) (c' := 10) (by decide)]
theorem one_3 (hrt : ∀ W x j, rt (up2 W 0 3 x) j = rt W j) : ∃ y, oneW rt mk ab fi (up2 W 0 3 x) j = up2 (oneW rt mk ab fi W j) 0 3 y := by
  unfold oneW
  show ∃ y, (if W 9 j ≤ 0 then (if nI j = ab then up2 W 0 3 x else if W 8 j ≤ 0 then up2 W 0 3 x else if W 0 1 - W 0 1 / W 8 j * W 8 j = 0 then askW mk fi (up2 W 0 3 x) j else up2 W 0 3 x) else keepW rt (up2 W 0 3 x) j) = _
  by_cases c1 : W 9 j ≤ 0
  · rw [if_pos c1, if_pos c1]
    by_cases c2 : nI j = ab
    · rw [if_pos c2, if_pos c2]; exact ⟨x, rfl⟩
    rw [if_neg c2, if_neg c2]
    by_cases c3 : W 8 j ≤ 0
    · rw [if_pos c3, if_pos c3]; exact ⟨x, rfl⟩
    rw [if_neg c3, if_neg c3]
    by_cases c4 : W 0 1 - W 0 1 / W 8 j * W 8 j = 0
    · rw [if_pos c4, if_pos c4]
      have e0 : askW mk fi (up2 W 0 3 x) j = if asN W mk j ≤ 0 then awayW fi (up2 W 0 3 x) j else if W 0 0 - asN W mk j < mk then awayW fi (up2 W 0 3 x) j else takeW (up2 W 0 3 x) j (asN W mk j) := rfl
      have e1 : askW mk fi W j = if asN W mk j ≤ 0 then awayW fi W j else if W 0 0 - asN W mk j < mk then awayW fi W j else takeW W j (asN W mk j) := rfl
      rw [e0, e1, away_3, take_3]
      split
      · exact ⟨_, rfl⟩
      · split
        · exact ⟨_, rfl⟩
        · exact ⟨_, rfl⟩
    · rw [if_neg c4, if_neg c4]; exact ⟨x, rfl⟩
  · rw [if_neg c1, if_neg c1]
    refine ⟨x, ?_⟩
    have hr := hrt W x j
    have e0 : keepW rt (up2 W 0 3 x) j = (if imax 0 (W 10 j - 1) ≤ 0 then (if stW (up2 (up2 (up2 W 0 3 x) 11 j (imin 99999 (W 11 j + rt W j * W 9 j / 10))) 10 j (imax 0 (W 10 j - 1))) j = 0 then up2 (riseW (up2 (up2 (up2 W 0 3 x) 11 j (imin 99999 (W 11 j + rt W j * W 9 j / 10))) 10 j (imax 0 (W 10 j - 1))) (brW W j)) 9 j 0 else up2 (up2 (up2 (up2 W 0 3 x) 11 j (imin 99999 (W 11 j + rt W j * W 9 j / 10))) 10 j (imax 0 (W 10 j - 1))) 10 j (kpW W j)) else up2 (up2 (up2 W 0 3 x) 11 j (imin 99999 (W 11 j + rt W j * W 9 j / 10))) 10 j (imax 0 (W 10 j - 1))) := by
      unfold keepW
      rw [hr]
      dsimp only
      rw [u_s]
      rfl
    have e1 : keepW rt W j = (if imax 0 (W 10 j - 1) ≤ 0 then (if stW (up2 (up2 W 11 j (imin 99999 (W 11 j + rt W j * W 9 j / 10))) 10 j (imax 0 (W 10 j - 1))) j = 0 then up2 (riseW (up2 (up2 W 11 j (imin 99999 (W 11 j + rt W j * W 9 j / 10))) 10 j (imax 0 (W 10 j - 1))) (brW W j)) 9 j 0 else up2 (up2 (up2 W 11 j (imin 99999 (W 11 j + rt W j * W 9 j / 10))) 10 j (imax 0 (W 10 j - 1))) 10 j (kpW W j)) else up2 (up2 W 11 j (imin 99999 (W 11 j + rt W j * W 9 j / 10))) 10 j (imax 0 (W 10 j - 1))) := by
      unfold keepW
      dsimp only
      rw [u_s]
      rfl
    rw [e0, e1]
    generalize imin 99999 (W 11 j + rt W j * W 9 j / 10) = o
    rw [up2_cm (c := 0) (c' := 11) (by decide), up2_cm (c := 0) (j := 3) (c' := 10) (by decide)]
    generalize up2 (up2 W 11 j o) 10 j (imax 0 (W 10 j - 1)) = V
    show (if imax 0 (W 10 j - 1) ≤ 0 then (if stW V j = 0 then up2 (up2 (up2 V 0 3 x) 0 0 (imin 9999 (V 0 0 + brW W j))) 9 j 0 else up2 (up2 V 0 3 x) 10 j (kpW W j)) else up2 V 0 3 x) = up2 (if imax 0 (W 10 j - 1) ≤ 0 then (if stW V j = 0 then up2 (up2 V 0 0 (imin 9999 (V 0 0 + brW W j))) 9 j 0 else up2 V 10 j (kpW W j)) else V) 0 3 x
    split
    · split
      · rw [up2_ci (c := 0) (j := 3) (j' := 0) (by decide), up2_cm (c := 0) (j := 3) (c' := 9) (by decide)]
      · rw [up2_cm (c := 0) (j := 3) (c' := 10) (by decide)]
    · rfl
theorem go_3 (hrt : ∀ W x j, rt (up2 W 0 3 x) j = rt W j) : ∀ k, ∃ y, goW rt mk ab fi k (up2 W 0 3 x) = up2 (goW rt mk ab fi k W) 0 3 y
  | 0 => ⟨x, rfl⟩
  | k + 1 => by
    obtain ⟨y, e⟩ := go_3 hrt k
    show ∃ z, oneW rt mk ab fi (goW rt mk ab fi k (up2 W 0 3 x)) (ix (goW rt mk ab fi k (up2 W 0 3 x) 13 k)) = up2 (oneW rt mk ab fi (goW rt mk ab fi k W) (ix (goW rt mk ab fi k W 13 k))) 0 3 z
    rw [e]
    exact one_3 hrt
theorem day_3 (hrt : ∀ W x j, rt (up2 W 0 3 x) j = rt W j) : ∃ y, dayW rt mk ab fi sp (up2 W 0 3 x) = up2 (dayW rt mk ab fi sp W) 0 3 y := by
  obtain ⟨y, e⟩ := go_3 (mk := mk) (ab := ab) (fi := fi) (W := W) (x := x) hrt (ix (W 0 2))
  refine ⟨y, ?_⟩
  unfold dayW
  rw [show (up2 W 0 3 x) 0 2 = W 0 2 from rfl, e]
  generalize goW rt mk ab fi (ix (W 0 2)) W = V
  show up2 (up2 (up2 V 0 3 y) 0 0 (imin 9999 (V 0 0 + sp))) 0 1 (V 0 1 + 1) = up2 (up2 (up2 V 0 0 (imin 9999 (V 0 0 + sp))) 0 1 (V 0 1 + 1)) 0 3 y
  rw [up2_ci (c := 0) (j := 3) (j' := 0) (by decide), up2_ci (c := 0) (j := 3) (j' := 1) (by decide)]
theorem it_3 (hrt : ∀ W x j, rt (up2 W 0 3 x) j = rt W j) : ∀ k, ∃ y, itW (dayW rt mk ab fi sp) k (up2 W 0 3 x) = up2 (itW (dayW rt mk ab fi sp) k W) 0 3 y
  | 0 => ⟨x, rfl⟩
  | k + 1 => by
    obtain ⟨y, e⟩ := it_3 hrt k
    show ∃ z, dayW rt mk ab fi sp (itW (dayW rt mk ab fi sp) k (up2 W 0 3 x)) = _
    rw [e]
    exact day_3 hrt
theorem it_ab2 {a : Int32} (hC : Cty V mk sp fi rt) (h : ∀ j, j < 6 → (nI j = ab ↔ nI j = a)) (hD : DI n d W) (k : Nat) : d + k < 2 ^ 28 → itW (dayW rt mk ab fi sp) k W = itW (dayW rt mk a fi sp) k W := by
  induction k with
  | zero =>
    intro _
    show W = W
    rfl
  | succ k ih =>
    intro hk
    show dayW rt mk ab fi sp (itW (dayW rt mk ab fi sp) k W) = dayW rt mk a fi sp (itW (dayW rt mk a fi sp) k W)
    rw [ih (by omega)]
    have := DI_it (F := dayW rt mk a fi sp) (dayDI hC hC.2.2.2.2.1) hD k (by omega)
    exact dayW_ab h (this.L (by omega))
theorem s_pass (h : RR s P lm) : QS s lm (f_X6_pass s a1) (f_X7_pass P a1) := by
  obtain ⟨⟨n, d, h1⟩, h2⟩ := id h
  obtain ⟨rid, mk, sp, fi, rt, hA, hrt⟩ := RR_AR h1 h2.1
  obtain ⟨w1, w2, w3, w4, w5, w6⟩ := id h1
  have hn := w3.1
  have hC := hA.2.2.2.2.2.2.2.2.1
  have hkd := hA.2.2.2.2.2.2.2.1
  have hr1 : rid ≠ 1 := fun e => by subst e; cases hkd
  unfold f_X6_pass f_X7_pass
  rw [e_asked, m_isDays, Option.bind_some, Option.bind_some]
  by_cases c : win a1 0 60 = 0
  · rw [if_pos c, if_pos c]
    exact QS_0 h
  obtain ⟨k, -, hk, rfl⟩ := win_r (b := 0) (c := 60) (by omega) (by omega) c
  rw [if_neg c, if_neg c, w5.1.r02]
  show QS s lm (if s 1 0 1 + nI k ≤ 9999 then _ else _) (if s 1 0 1 + nI k ≤ 9999 then _ else _)
  rw [w3.2.2.1, nI_add]
  by_cases c2 : nI (d + k) ≤ 9999
  · have hdk : d + k ≤ 9999 := by
      apply Decidable.byContradiction
      intro q
      exact absurd c2 (nI_ge (a := 9999) (b := d + k) (by omega) (by omega))
    rw [if_pos c2, if_pos c2, hA.2.2.2.2.2.2.1, Option.bind_some, if_pos hkd]
    -- the reference
    have hD3 : DI n d (up2 (s 1) 0 3 (P 0 34)) := ⟨w3.1, w3.2.1, w3.2.2.1, w3.2.2.2.1, w3.2.2.2.2.1, RI_0s w3.2.2.2.2.2.1 (by decide), w3.2.2.2.2.2.2⟩
    have hem : emk P mk = mk := by
      unfold emk
      rw [w5.2.1, if_pos (by decide)]
    obtain ⟨f', m1⟩ := m_goDays (k := k) (mk := mk) (sp := sp) (fi := fi) (rt := rt) (by omega) w5.1 hD3 (by omega) (by rw [w5.2.2.2]; exact c2) hC.2.2.2.2.1 (by rw [hem]; exact hC.2.2.2.2.1) hC.2.2.2.2.2.2.1 hC.2.2.2.2.2.1 hC.2.2.2.2.2.2.2 (AR_C hA)
    rw [hem, w5.2.2.1] at m1
    obtain ⟨y, m2⟩ := it_3 (mk := mk) (ab := -1) (fi := fi) (sp := sp) (W := s 1) (x := P 0 34) hrt k
    rw [m2] at m1
    -- the class
    obtain ⟨t, g1, g2, g3, g4⟩ := iter_I (body := fun t : Int32 × Mm => f_X6_pass_B35 (nI k) rid t.1 t.2) (fun i u => u.1 = nI i ∧ u.2 1 = itW (dayW rt mk (-5) fi sp) i (s 1) ∧ (∀ o, o ≠ 1 → o ≠ rid → u.2 o = s o) ∧ CEq (s rid) (u.2 rid)) (fun u => u 1 = itW (dayW rt mk (-5) fi sp) k (s 1) ∧ (∀ o, o ≠ 1 → o ≠ rid → u o = s o) ∧ CEq (s rid) (u rid)) k
      (fun i u hi hI => by
        obtain ⟨v, u⟩ := u
        obtain ⟨q1, q2, q3, q4⟩ := hI
        dsimp only at q1 q2 q3 q4
        subst q1
        show ∃ s', f_X6_pass_B35 (nI k) rid (nI i) u = _ ∧ _
        unfold f_X6_pass_B35
        have hDi := DI_it (F := dayW rt mk (-5) fi sp) (dayDI hC hC.2.2.2.2.1) w3 i (by omega)
        obtain ⟨D', d1, d2⟩ := e_day (W := u 1) (mk := mk) (ab := -5) (by rw [q2]; exact hDi.L (by omega)) hC.1 q4
        have hmk : (u rid) 0 0 = mk := by
          rw [← q4 0 (by decide)]
          exact hC.2.1
        rw [if_neg (nI_ge hi (by omega)), hmk, d1, bn2_w, nb_w, nI_1]
        refine ⟨_, rfl, rfl, ?_, fun o h1 h2 => ?_, ?_⟩
        · show setO (setO u 1 _) rid D' 1 = _
          rw [setO_n (fun e => hr1 e.symm), setO_s, q2, hC.2.2.1, hC.2.2.2.1]
          rfl
        · show setO (setO u 1 _) rid D' o = _
          rw [setO_n h2, setO_n h1, q3 o h1 h2]
        · show CEq _ (setO (setO u 1 _) rid D' rid)
          rw [setO_s]
          exact d2)
      (fun u hI => by
        obtain ⟨v, u⟩ := u
        obtain ⟨q1, q2, q3, q4⟩ := hI
        dsimp only at q1 q2 q3 q4
        subst q1
        refine ⟨u, ?_, q2, q3, q4⟩
        show f_X6_pass_B35 (nI k) rid (nI k) u = _
        unfold f_X6_pass_B35
        rw [if_pos (Int32.le_refl _)]) k 0 (0, s) (by omega) ⟨rfl, rfl, fun _ _ _ => rfl, CEq.rf⟩ 200 (by omega)
    rw [it_ab2 hC ab_1 w3 k (by omega)] at g2
    have hDk := DI_it (F := dayW rt mk (-1) fi sp) (dayDI hC hC.2.2.2.2.1) w3 k (by omega)
    have hNk := NZ_it (F := dayW rt mk (-1) fi sp) (dayDI hC hC.2.2.2.2.1) dayNZ w3 w1 k (by omega)
    unfold f_X6_pass_H35
    rw [g1, Option.bind_some, m1, Option.bind_some]
    unfold f_X6_pass_J60
    rw [g2]
    have hSW : SW s t := ⟨fun o o1 _ _ ok => g3 o o1 (fun e => ok (by rw [e]; exact hkd)), fun o ok => by
      by_cases e : o = rid
      · subst e
        exact g4
      · rw [g3 o (fun e2 => by subst e2; cases ok) e]
        exact CEq.rf⟩
    refine ⟨itW (dayW rt mk (-1) fi sp) k (s 1) 0 0, t, put (setO P 33 f') (up2 (itW (dayW rt mk (-1) fi sp) k (s 1)) 0 3 y), rfl, rfl, g3 17 (by decide) (fun e => by subst e; cases hkd), ⟨n, d + k, ?_⟩, RE5_f h2 hSW ⟨fun c hc => ?_, fun i hi => ?_⟩⟩
    · unfold WEL
      rw [g2, g3 2 (by decide) (fun e => by subst e; cases hkd), g3 4 (by decide) (fun e => by subst e; cases hkd)]
      refine ⟨hNk, w2, hDk, hdk, ⟨WV.put, w5.2.1, w5.2.2.1, w5.2.2.2⟩, ?_⟩
      refine HR_put ?_
      unfold HR
      exact w6
    · rw [put_n (by omega), setO_n (by omega)]
    · rw [put_0n (by omega) (by omega) (by omega) (by omega), setO_n (by decide)]
  · rw [if_neg c2, if_neg c2]
    exact QS_0 h
end Op
