/-! the pure side L: a part is read alike -/
section Pa
variable {s : Mm} {R P C C' : Pm} {rid L tb v1 lvl : Nat} {p p' fl z h l x : Int32} {g4 g5 g6 T : Nat → Int32} {j : Nat}
/-- a step more in the country that is read -/
theorem e_add {a b c : Int32} {k : Nat} (hH : RDH R P rid L tb v1) : (if kdo (ix ((cS s R rid (nI k) fl C) 6 0 4)) = 1 then Option.bind (f_X1_addStep ((cS s R rid (nI k) fl C) (ix ((cS s R rid (nI k) fl C) 6 0 4))) a b c) (fun p10 => nb (setO (cS s R rid (nI k) fl C) (ix ((cS s R rid (nI k) fl C) 6 0 4)) p10) (fun s11 => some s11)) else none) = Option.bind (f_X1_addStep C a b c) (fun X => some (cS s R rid (nI k) fl X)) := by
  obtain ⟨hr, hlt, hkd, hL, hR, hR4, hP, hT, htb, hv1⟩ := hH
  rw [cS_ct hr hR4 hlt, if_pos hkd, cS_r]
  simp only [nb_w, cS_wr]
theorem e_part {n k : Nat} (hH : RDH R P rid L tb v1) (hk : k ≤ L) (hl : lvl ≤ 4) : f_X3_readPart (n + 1) (cS s R rid (nI k) 0 C) (nI lvl) = if sg (R 4) L k = 33 ∧ lvl < 4 then Option.bind (f_X3_readPart n (cS s R rid (nI (k + 1)) 0 C) (nI (lvl + 1))) (fun s8 => if kdo (ix ((s8 6) 0 4)) = 1 then Option.bind (f_X1_addStep (s8 (ix ((s8 6) 0 4))) 3 0 0) (fun p10 => nb (setO s8 (ix ((s8 6) 0 4)) p10) (fun s11 => some s11)) else none) else if sg (R 4) L k = 40 ∧ lvl < 4 then Option.bind (f_X3_readEither (f_X3_readPart n) (cS s R rid (nI (k + 1)) 0 C) (nI (lvl + 1))) (fun s4 => Option.bind (f_X3_expect s4 41) (fun s5 => some s5)) else f_X3_readTest (cS s R rid (nI k) 0 C) := by
  obtain ⟨hr, hlt, hkd, hL, hR, hR4, hP, hT, htb, hv1⟩ := hH
  have hte : f_X3_readPart_J92 (f_X3_readPart n) (cS s R rid (nI k) 0 C) = f_X3_readTest (cS s R rid (nI k) 0 C) := by
    unfold f_X3_readPart_J92
    cases f_X3_readTest (cS s R rid (nI k) 0 C) <;> rfl
  have hfl : cS s R rid (nI k) 0 C 6 0 2 = 0 := by
    rw [cS_6 hr]
    rfl
  have hj : f_X3_readPart_J52 (f_X3_readPart n) (cS s R rid (nI k) 0 C) (nI lvl) = if sg (R 4) L k = 40 ∧ lvl < 4 then Option.bind (f_X3_readEither (f_X3_readPart n) (cS s R rid (nI (k + 1)) 0 C) (nI (lvl + 1))) (fun s4 => Option.bind (f_X3_expect s4 41) (fun s5 => some s5)) else f_X3_readTest (cS s R rid (nI k) 0 C) := by
    unfold f_X3_readPart_J52
    rw [e_sign hr hL hR (by omega), Option.bind_some, hte, nb_w, cS_at hr, nI_1]
    by_cases c : sg (R 4) L k = 40
    · rw [if_pos c]
      by_cases d : lvl < 4
      · rw [if_neg (show ¬ (4 : Int32) ≤ nI lvl from nI_ge (b := 4) d (by omega)), if_pos ⟨c, d⟩]
      · rw [if_pos (show (4 : Int32) ≤ nI lvl from nI_le (a := 4) (by omega) (by omega)), if_neg (fun w => d w.2)]
    · rw [if_neg c, if_neg (fun w => c w.1)]
  show f_X3_readPartS (f_X3_readPart n) (cS s R rid (nI k) 0 C) (nI lvl) = _
  unfold f_X3_readPartS
  rw [hfl, if_pos rfl, e_sign hr hL hR (by omega), Option.bind_some, nb_w, cS_at hr, nI_1, hj]
  by_cases c : sg (R 4) L k = 33
  · rw [if_pos c]
    by_cases d : lvl < 4
    · rw [if_neg (show ¬ (4 : Int32) ≤ nI lvl from nI_ge (b := 4) d (by omega)), if_pos ⟨c, d⟩]
    · rw [if_pos (show (4 : Int32) ≤ nI lvl from nI_le (a := 4) (by omega) (by omega)), if_neg (fun w => d w.2), if_neg (fun w => d w.2)]
  · rw [if_neg c, if_neg (show ¬ (sg (R 4) L k = 33 ∧ lvl < 4) from fun w => c w.1)]
/-- the reference where an operand is due -/
theorem m_oper {k q hh : Nat} (hH : RDH R P rid L tb v1) (hk : k ≤ L) (hl : lvl ≤ 4) (hh2 : hh ≤ 100) (hx : sg (R 4) L k = 33 ∨ sg (R 4) L k = 40) : f_X7_takesE_B22 (nI v1) 1 (dS P (nI k) z (nI q) (nI hh) (nI lvl) g4 g5 g6) = if lvl < 4 then some (.inl (1, dS P (nI (k + 1)) z (nI q) (nI (hh + 1)) (nI (lvl + 1)) g4 g5 (upd g6 hh (sg (R 4) L k)))) else some (.inr (0, dS P (nI k) z (nI q) (nI hh) (nI lvl) g4 g5 g6)) := by
  obtain ⟨hr, hlt, hkd, hL, hR, hR4, hP, hT, htb, hv1⟩ := hH
  have J : f_X7_takesE_J43 (dS P (nI k) z (nI q) (nI hh) (nI lvl) g4 g5 g6) (nI v1) 1 (sg (R 4) L k) = if lvl < 4 then some (.inl (1, dS P (nI (k + 1)) z (nI q) (nI (hh + 1)) (nI (lvl + 1)) g4 g5 (upd g6 hh (sg (R 4) L k)))) else some (.inr (0, dS P (nI k) z (nI q) (nI hh) (nI lvl) g4 g5 g6)) := by
    unfold f_X7_takesE_J43
    show (if nI lvl = 4 then _ else nb (up2 (dS P (nI k) z (nI q) (nI hh) (nI lvl) g4 g5 g6) 0 28 (nI lvl + 1)) _) = _
    by_cases d : lvl < 4
    · rw [if_neg (fun w => by have := nI_eq (a := lvl) (b := 4) (by omega) (by omega) |>.mp w; omega), if_pos d, nI_1, dS_28, nb_w]
      show (if inb (nI hh) 101 = true then nb (up2 (dS P (nI k) z (nI q) (nI hh) (nI (lvl + 1)) g4 g5 g6) 26 (ix (nI hh)) (sg (R 4) L k)) _ else none) = _
      rw [if_pos (inb_nI (by omega) (by decide)), ix_nI (by omega), dS_g6, nb_w, nb_w, nb_w]
      show some (Sum.inl (1, up2 (up2 (dS P (nI k) z (nI q) (nI hh) (nI (lvl + 1)) g4 g5 (upd g6 hh (sg (R 4) L k))) 0 27 (nI hh + 1)) 0 16 (up2 (dS P (nI k) z (nI q) (nI hh) (nI (lvl + 1)) g4 g5 (upd g6 hh (sg (R 4) L k))) 0 27 (nI hh + 1) 0 16 + 1))) = _
      rw [nI_1, dS_27, m_at]
    · have : lvl = 4 := by omega
      subst this
      rw [if_pos (show nI 4 = 4 from rfl), if_neg d]
      rfl
  unfold f_X7_takesE_B22
  rw [m_next hL hP (by omega), ← hT, Option.bind_some, if_neg (by decide), J]
  rcases hx with hx | hx
  · rw [if_pos hx]
  · rw [if_neg (by rw [hx]; decide), if_pos hx]
theorem m_operT {k q hh : Nat} (hH : RDH R P rid L tb v1) (hk : k ≤ L) (hx : ¬ sg (R 4) L k = 33) (hx2 : ¬ sg (R 4) L k = 40) : f_X7_takesE_B22 (nI v1) 1 (dS P (nI k) z (nI q) (nI hh) (nI lvl) g4 g5 g6) = bn2 (f_X7_takesTest (dS P (nI k) z (nI q) (nI hh) (nI lvl) g4 g5 g6)) (fun x19 P20 => (if x19 = 0 then wr (some (0, P20)) else some (.inl (0, P20)))) := by
  obtain ⟨hr, hlt, hkd, hL, hR, hR4, hP, hT, htb, hv1⟩ := hH
  unfold f_X7_takesE_B22
  rw [m_next hL hP (by omega), ← hT, Option.bind_some, if_neg (by decide), if_neg hx, if_neg hx2]
/-- a sign that begins no test -/
theorem e_testN {k : Nat} (hH : RDH R P rid L tb v1) (hk : k ≤ L) (hx : sg (R 4) L k = 33 ∨ sg (R 4) L k = 40) : f_X3_readTest (cS s R rid (nI k) 0 C) = some (cS s R rid (nI k) 1 C) := by
  obtain ⟨hr, hlt, hkd, hL, hR, hR4, hP, hT, htb, hv1⟩ := hH
  have hp : f_X3_placeOf (sg (R 4) L k) 5 = some (-1) := by
    rcases q_place (x := sg (R 4) L k) with ⟨i, hi, e1, e2⟩ | ⟨e1, -⟩
    · exfalso
      have e3 := e2 P
      have e4 : f_X7_place P (sg (R 4) L k) = some (-1) := by
        unfold f_X7_place
        rcases hx with hx | hx
        · rw [hx]; decide
        · rw [hx]; decide
      rw [e4] at e3
      have h3 := nI_pos (n := i) (by omega)
      rw [← Option.some.inj e3] at h3
      exact h3 (by decide)
    · exact e1
  unfold f_X3_readTest
  rw [e_sign hr hL hR (by omega), Option.bind_some, hp, Option.bind_some, if_neg (by decide), nb_w, cS_fl hr]
theorem CG_rf {u : Nat} (hu : C 0 4 = nI u) (h : u ≤ 100) : CG C C := ⟨⟨u, h, hu⟩, rfl⟩
theorem CG_addL {u : Nat} {E : List Int32} (hu : C 0 4 = nI u) (h : u + E.length ≤ 100) : CG C (addL C u E) := ⟨⟨_, h, addL_04 hu⟩, addL_0n (by decide)⟩
theorem FR_rf {k z' q h l : Nat} {z : Int32} {g4' g5' : Nat → Int32} (h5 : ∀ i, i < tb → g5' i = g5 i) (h4 : ∀ i, i ≠ v1 → g4' i = g4 i) {q h l : Int32} : FR P k tb v1 g4 g5 (dS P (nI k) z q h l g4' g5' g6) := ⟨_, _, _, _, _, _, _, rfl, h5, h4⟩
theorem tb_q {u : Nat} (hH : RDH R P rid L tb v1) (h : u < 100) : tb + u < 600 := by
  have := hH.2.2.2.2.2.2.2.2.1
  omega
theorem bangs_s {m : Nat} : bangs (m + 1) = -33 :: bangs m := rfl
/-- what waits is emitted -/
theorem m_flush {q hh : Nat} {o1 o2 : Bool} (hq : q + opN o1 o2 ≤ 600) (hh2 : hh + opN o1 o2 ≤ 101) (ho : opG o1 o2 hh g6) (ht : 0 < hh → g6 (hh - 1) = 40) : f_X7_settle (dS P p z (nI q) (nI (hh + opN o1 o2)) l g4 g5 g6) 124 = some (dS P p z (nI (q + (opL o1 o2).length)) (nI hh) l g4 (putL g5 q (opL o1 o2)) g6) := by
  have e0 : ∀ q' g', f_X7_settle_B0 124 (dS P p z (nI q') (nI hh) l g4 g' g6) = some (.inr (dS P p z (nI q') (nI hh) l g4 g' g6)) := fun q' g' => m_set0 (by omega) (fun h0 => by
    rw [ht h0]
    exact ⟨by decide, fun w => absurd w (by decide)⟩)
  unfold f_X7_settle f_X7_settle_H0
  obtain ⟨k1, k2⟩ := ho
  cases o1 with
  | false =>
    cases o2 with
    | false =>
      rw [show hh + opN false false = hh from rfl, iter_end (r := dS P p z (nI q) (nI hh) l g4 g5 g6) (by decide) (e0 q g5)]
      rfl
    | true =>
      have hq1 : q + 1 ≤ 600 := hq
      have hh1 : hh + 1 ≤ 101 := hh2
      have s1 := m_set1 (P := P) (p := p) (z := z) (l := l) (g4 := g4) (g5 := g5) (v := 124) (q := q) (y := hh) (by omega) (by omega) (k2 rfl) (Or.inl rfl)
      rw [show hh + opN false true = hh + 1 from rfl, iter_go (s' := dS P p z (nI (q + 1)) (nI hh) l g4 (upd g5 q (-38)) g6) (by decide) s1, iter_end (r := dS P p z (nI (q + 1)) (nI hh) l g4 (upd g5 q (-38)) g6) (by decide) (e0 _ _)]
      rfl
  | true =>
    have hh1 : hh + 1 ≤ 101 := Nat.le_trans (Nat.add_le_add_left (by cases o2 <;> decide) hh) hh2
    have s2 := fun q' g' hq' => m_set1 (P := P) (p := p) (z := z) (l := l) (g4 := g4) (g5 := g') (v := 124) (q := q') (y := hh) hq' (by omega) (k1 rfl) (Or.inr ⟨rfl, by decide⟩)
    cases o2 with
    | false =>
      have hq1 : q + 1 ≤ 600 := hq
      rw [show hh + opN true false = hh + 1 from rfl, iter_go (s' := dS P p z (nI (q + 1)) (nI hh) l g4 (upd g5 q (-124)) g6) (by decide) (s2 q g5 (by omega)), iter_end (r := dS P p z (nI (q + 1)) (nI hh) l g4 (upd g5 q (-124)) g6) (by decide) (e0 _ _)]
      rfl
    | true =>
      have hq1 : q + 2 ≤ 600 := hq
      have hh1 : hh + 2 ≤ 101 := hh2
      have s1 := m_set1 (P := P) (p := p) (z := z) (l := l) (g4 := g4) (g5 := g5) (v := 124) (q := q) (y := hh + 1) (by omega) (by omega) (k2 rfl) (Or.inl rfl)
      rw [show hh + opN true true = hh + 1 + 1 from rfl, iter_go (s' := dS P p z (nI (q + 1)) (nI (hh + 1)) l g4 (upd g5 q (-38)) g6) (by decide) s1, iter_go (s' := dS P p z (nI (q + 1 + 1)) (nI hh) l g4 (upd (upd g5 q (-38)) (q + 1) (-124)) g6) (by decide) (s2 (q + 1) _ (by omega)), iter_end (r := dS P p z (nI (q + 1 + 1)) (nI hh) l g4 (upd (upd g5 q (-38)) (q + 1) (-124)) g6) (by decide) (e0 _ _)]
      rfl
theorem opL_le {o1 o2 : Bool} : (opL o1 o2).length = opN o1 o2 ∧ opN o1 o2 ≤ 2 := by
  cases o1 <;> cases o2 <;> exact ⟨rfl, by decide⟩
/-- the reference behind an operand, where no operator stands -/
theorem m_after {k q hh ll : Nat} {o1 o2 : Bool} (hH : RDH R P rid L tb v1) (hk : k ≤ L) (hq : q + opN o1 o2 ≤ 600) (hh2 : hh + opN o1 o2 ≤ 101) (ho : opG o1 o2 hh g6) (ht : 0 < hh → g6 (hh - 1) = 40) (h38 : sg (R 4) L k ≠ 38) (h124 : sg (R 4) L k ≠ 124) : f_X7_takesE_B22 (nI v1) 0 (dS P (nI k) z (nI q) (nI (hh + opN o1 o2)) (nI (ll + 1)) g4 g5 g6) = if hh = 0 then some (.inr (1, dS P (nI k) z (nI (q + (opL o1 o2).length)) (nI hh) (nI (ll + 1)) (upd g4 v1 (nI (q + (opL o1 o2).length))) (putL g5 q (opL o1 o2)) g6)) else if sg (R 4) L k = 41 then Option.bind (f_X7_whole (dS P (nI (k + 1)) z (nI (q + (opL o1 o2).length)) (nI (hh - 1)) (nI ll) (upd g4 v1 (nI (q + (opL o1 o2).length))) (putL g5 q (opL o1 o2)) g6)) (fun P18 => some (.inl (0, P18))) else some (.inr (0, dS P (nI k) z (nI (q + (opL o1 o2).length)) (nI hh) (nI (ll + 1)) (upd g4 v1 (nI (q + (opL o1 o2).length))) (putL g5 q (opL o1 o2)) g6)) := by
  obtain ⟨hr, hlt, hkd, hL, hR, hR4, hP, hT, htb, hv1⟩ := hH
  unfold f_X7_takesE_B22
  rw [m_next hL hP (by omega), ← hT, Option.bind_some, if_pos rfl, if_neg h38, if_neg h124, m_flush hq hh2 ho ht, Option.bind_some, if_pos (inb_nI hv1 (by decide)), ix_nI (by omega)]
  generalize (opL o1 o2).length = w
  show (nb (up2 (dS P (nI k) z (nI (q + w)) (nI hh) (nI (ll + 1)) g4 (putL g5 q (opL o1 o2)) g6) 24 v1 (nI (q + w))) _) = _
  rw [dS_g4, nb_w]
  show (if nI hh = 0 then _ else _) = _
  by_cases c : hh = 0
  · subst c
    rw [if_pos (show nI 0 = 0 from rfl), if_pos rfl]
    rfl
  · obtain ⟨y, rfl⟩ : ∃ y, hh = y + 1 := ⟨hh - 1, by omega⟩
    rw [if_neg (nI_ne0 (by omega) (by omega)), if_neg c, show y + 1 - 1 = y by omega]
    by_cases d : sg (R 4) L k = 41
    · rw [if_pos d, if_pos d]
      show (nb (up2 (dS P (nI k) z (nI (q + w)) (nI (y + 1)) (nI (ll + 1)) (upd g4 v1 (nI (q + w))) (putL g5 q (opL o1 o2)) g6) 0 27 (nI (y + 1) - 1)) _) = _
      rw [nI_pred, dS_27, nb_w]
      show (nb (up2 (dS P (nI k) z (nI (q + w)) (nI y) (nI (ll + 1)) (upd g4 v1 (nI (q + w))) (putL g5 q (opL o1 o2)) g6) 0 28 (nI (ll + 1) - 1)) _) = _
      rw [nI_pred, dS_28, nb_w, m_at, nb_w]
    · rw [if_neg d, if_neg d]
      rfl
/-- the part, where what lies deeper is read alike -/
theorem q_part (hH : RDH R P rid L tb v1) (hl : lvl ≤ 4) (hS : lvl < 4 → PartS s R P rid L tb v1 (lvl + 1)) (hE : lvl < 4 → EithS s R P rid L tb v1 (lvl + 1)) : PartS s R P rid L tb v1 lvl := by
  intro fu hfu k u m hh C z g4 g5 g6 hk hu hb hm hg ht
  have hH' := hH
  obtain ⟨hr, hlt, hkd, hL, hR, hR4, hP, hT, htb, hv1⟩ := hH'
  obtain ⟨n, rfl⟩ : ∃ n, fu = n + 1 := ⟨fu - 1, by omega⟩
  have hCG := CG_rf (C := C) hu (by omega)
  by_cases hx : sg (R 4) L k = 33 ∨ sg (R 4) L k = 40
  · by_cases d : lvl < 4
    · have hk1 : k < L := sg_lt2 (T := R 4) (by rcases hx with hx | hx <;> rw [hx] <;> decide)
      have hst := reach_1 (v1 := v1) (a := (1, dS P (nI k) z (nI (tb + u)) (nI (hh + m)) (nI lvl) g4 g5 g6)) (by
        show f_X7_takesE_B22 (nI v1) 1 (dS P (nI k) z (nI (tb + u)) (nI (hh + m)) (nI lvl) g4 g5 g6) = _
        rw [m_oper hH hk hl (by omega) hx, if_pos d])
      rcases hx with hx | hx
      · -- a NOT
        rw [hx] at hst
        have cls := e_part (s := s) (C := C) (n := n) hH hk hl
        rw [if_pos ⟨hx, d⟩] at cls
        rcases hS d n (by omega) (k + 1) u (m + 1) hh C z g4 g5 (upd g6 (hh + m) 33) hk1 hu (by omega) (by omega) (fun i hi => by
          rw [upd_g]
          split
          · rfl
          · exact hg i (by omega)) (fun h0 => by rw [upd_g, if_neg (by omega)]; exact ht h0) with ⟨p', C', j, P', a1, a2, a3, a4, a5, a6, a7⟩ | ⟨p', E, j, z', g4', g6', a1, a2, a3, a4, a5, a6, a7, a8, a9⟩
        · left
          obtain ⟨C'', f1, f2⟩ := e_addStepG (a := 3) (b := 0) (c := 0) a3
          refine ⟨p', C'', 1 + j, P', by omega, a2, f2, ?_, by omega, a6, ends_t hst a7⟩
          rw [cls, a4, Option.bind_some, e_add hH, f1, Option.bind_some]
        · right
          refine ⟨p', E ++ [-33], 1 + j, z', g4', g6', by omega, a2, by rw [List.length_append]; show E.length + 1 ≤ _; omega, fun h b hb => ?_, ?_, by omega, fun i hi => ?_, a8, ?_⟩
          · refine hOK_app (h1 := h + 1) (a4 h b (by omega)) ?_
            exact hOK_1 (t := -33) (Or.inr (Or.inl rfl)) (by omega) (fun _ => by omega) (fun w => by rcases w with w | w <;> exact absurd w (by decide))
          · rw [cls, a5, Option.bind_some, e_add hH, e_addStep (addL_04 hu) (by omega), Option.bind_some, addL_app]
            rfl
          · rw [a7 i hi, upd_g, if_neg (by omega)]
          · have e1 : (E ++ [-33]) ++ bangs m = E ++ bangs (m + 1) := by
              rw [List.append_assoc]
              rfl
            have e2 : tb + u + (E ++ [-33]).length + m = tb + u + E.length + (m + 1) := by
              rw [List.length_append]
              show tb + u + (E.length + 1) + m = _
              omega
            rw [e1, e2, show lvl - m = lvl + 1 - (m + 1) by omega]
            exact reach_t hst a9
      · -- what stands in brackets
        rw [hx] at hst
        have cls := e_part (s := s) (C := C) (n := n) hH hk hl
        rw [if_neg (by rw [hx]; exact fun w => absurd w.1 (by decide)), if_pos ⟨hx, d⟩] at cls
        rcases hE d n (by omega) (k + 1) u (hh + m + 1) C z g4 g5 (upd g6 (hh + m) 40) hk1 hu (by omega) (fun _ => by rw [upd_g, if_pos (by omega)]) with ⟨p', C', j, P', a1, a2, a3, a4, a5, a6, a7⟩ | ⟨p', D, o1, o2, j, z', g4', g6', a1, a2, a3, a4, a5, b1, b2, a6, a7, b3, a8, a9⟩
        · left
          refine ⟨p', C', 1 + j, P', by omega, a2, a3, ?_, by omega, a6, ends_t hst a7⟩
          rw [cls, a4, Option.bind_some, e_expect hr hL hR (by omega), Option.bind_some, if_neg (fun w => absurd w.1 (by decide))]
        · -- the reference settles what waits, and looks for the bracket
          obtain ⟨w1, w2⟩ := opL_le (o1 := o1) (o2 := o2)
          have a3' := a3
          rw [List.length_append] at a3'
          have hg6 : ∀ i, i < hh + m → g6' i = g6 i := fun i hi => by rw [a7 i (by omega), upd_g, if_neg (by omega)]
          have haf := m_after (z := z') (g4 := g4') (g5 := putL g5 (tb + u) D) (ll := lvl) (q := tb + u + D.length) hH a2 (by omega) (by omega) b3 (fun _ => by rw [a7 _ (by omega), upd_g, if_pos (by omega)]) b1 b2
          rw [if_neg (by omega)] at haf
          have hE2 : putL (putL g5 (tb + u) D) (tb + u + D.length) (opL o1 o2) = putL g5 (tb + u) (D ++ opL o1 o2) := putL_app.symm
          have hq2 : tb + u + D.length + (opL o1 o2).length = tb + u + (D ++ opL o1 o2).length := by rw [List.length_append]; omega
          rw [hE2, hq2] at haf
          by_cases cb : sg (R 4) L p' = 41
          · right
            have hp1 : p' < L := sg_lt2 (T := R 4) (by rw [cb]; decide)
            rw [if_pos cb, show hh + m + 1 - 1 = hh + m by omega, m_whole' (by omega) (by omega) hm (by omega) (fun i hi => by rw [hg6 _ (by omega)]; exact hg i hi) (fun h0 => by rw [hg6 _ (by omega)]; exact ht h0), Option.bind_some] at haf
            refine ⟨p' + 1, D ++ opL o1 o2, 1 + (j + 1), z', upd g4' v1 (nI (tb + u + (D ++ opL o1 o2).length)), g6', by omega, hp1, by omega, fun h b hb => a4 h b (by omega), ?_, by omega, fun i hi => hg6 i (by omega), fun i hi => ?_, ?_⟩
            · rw [cls, a5, Option.bind_some, e_expect hr hL hR (by omega), Option.bind_some, if_pos ⟨rfl, cb⟩]
            · show upd g4' v1 (nI (tb + u + (D ++ opL o1 o2).length)) i = g4 i
              rw [upd_g, if_neg hi]
              exact a8 i hi
            · have e1 : putL g5 (tb + u) ((D ++ opL o1 o2) ++ bangs m) = putL (putL g5 (tb + u) (D ++ opL o1 o2)) (tb + u + (D ++ opL o1 o2).length) (bangs m) := putL_app
              rw [e1]
              exact reach_t hst (reach_t a9 (reach_1 haf))
          · left
            rw [if_neg cb] at haf
            refine ⟨p', addL C u (D ++ opL o1 o2), 1 + (j + 0), _, by omega, a2, CG_addL hu (by omega), ?_, by omega, FR_rf (g4' := upd g4' v1 (nI (tb + u + (D ++ opL o1 o2).length))) (g5' := putL g5 (tb + u) (D ++ opL o1 o2)) (z' := 0) (q := 0) (h := 0) (l := 0) (fun i hi => putL_lo (by omega)) (fun i hi => by rw [upd_g, if_neg hi]; exact a8 i hi), ends_t hst (ends_t a9 (ends_0 haf))⟩
            rw [cls, a5, Option.bind_some, e_expect hr hL hR (by omega), Option.bind_some, if_neg (fun w => cb w.2)]
    · left
      refine ⟨k, C, 0, _, Nat.le_refl _, hk, hCG, ?_, by omega, FR_rf (z' := 0) (q := 0) (h := 0) (l := 0) (fun _ _ => rfl) (fun _ _ => rfl), ends_0 (r := (0, dS P (nI k) z (nI (tb + u)) (nI (hh + m)) (nI lvl) g4 g5 g6)) ?_⟩
      · rw [e_part hH hk hl, if_neg (fun w => d w.2), if_neg (fun w => d w.2), e_testN hH hk hx]
      · show f_X7_takesE_B22 (nI v1) 1 (dS P (nI k) z (nI (tb + u)) (nI (hh + m)) (nI lvl) g4 g5 g6) = _
        rw [m_oper hH hk hl (by omega) hx, if_neg d]
  · have hx1 : ¬ sg (R 4) L k = 33 := fun w => hx (Or.inl w)
    have hx2 : ¬ sg (R 4) L k = 40 := fun w => hx (Or.inr w)
    have cls := e_part (s := s) (C := C) (n := n) hH hk hl
    rw [if_neg (fun w => hx1 w.1), if_neg (fun w => hx2 w.1)] at cls
    rcases q_test (s := s) (C := C) (u := u) hr hlt hkd hL hR hR4 hP hT hk hu (by omega) with ⟨p', C', a1, a2, a3, a4, a5⟩ | ⟨p', t, a, b, c, a1, a2, a3, a4, a5, a6⟩
    · left
      obtain ⟨z', a6⟩ := a5 z (nI (tb + u)) (nI (hh + m)) (nI lvl) g4 g5 g6
      refine ⟨p', C', 0, _, a1, a2, a3, cls.trans a4, by omega, FR_rf (z' := 0) (q := 0) (h := 0) (l := 0) (fun _ _ => rfl) (fun _ _ => rfl), ends_0 (r := (0, dS P (nI p') z' (nI (tb + u)) (nI (hh + m)) (nI lvl) g4 g5 g6)) ?_⟩
      show f_X7_takesE_B22 (nI v1) 1 (dS P (nI k) z (nI (tb + u)) (nI (hh + m)) (nI lvl) g4 g5 g6) = _
      rw [m_operT hH hk hx1 hx2, a6, bn2_w, if_pos rfl]
      rfl
    · right
      obtain ⟨z', a7⟩ := a6 z (tb + u) (nI (hh + m)) (nI lvl) g4 g5 g6 (by omega)
      rw [m_whole' (by omega) (by omega) hm (by omega) hg ht, Option.bind_some] at a7
      refine ⟨p', [t], 1, z', g4, g6, by omega, a2, by show 1 ≤ p' - k; omega, fun h b hb => ?_, ?_, by omega, fun _ _ => rfl, fun _ _ => rfl, reach_1 ?_⟩
      · have e1 : htN t h = h + 1 := if_pos a4
        rw [← e1]
        exact hOK_1 (tokR_O a3) (by omega) (fun w => absurd a4 (by rw [w]; decide)) (fun w => by rcases w with w | w <;> exact absurd a4 (by rw [w]; decide))
      · rw [cls, a5, stT_of a3 a4]
        rfl
      · show f_X7_takesE_B22 (nI v1) 1 (dS P (nI k) z (nI (tb + u)) (nI (hh + m)) (nI lvl) g4 g5 g6) = _
        rw [m_operT hH hk hx1 hx2, a7, bn2_w, if_neg (by decide)]
        rfl
end Pa
