/-! the pure side O: an E is read alike -/
section Ou
variable {s : Mm} {R P C : Pm} {rid L tb v1 lvl k u hh : Nat} {z : Int32} {g4 g5 g6 : Nat → Int32}
theorem opL_e {o1 o2 : Bool} : opL o1 o2 = andL o2 ++ (if o1 then [-124] else []) := rfl
/-- an E read to its end on both sides -/
def FIN (s : Mm) (R P : Pm) (rid L tb v1 lvl k u hh : Nat) (C : Pm) (g4 g5 g6 : Nat → Int32) (A : Int32 × Pm) (st : Mm) : Prop := ∃ p' D o1 o2 j z' g4' g6', k < p' ∧ p' ≤ L ∧ (D ++ opL o1 o2).length ≤ p' - k ∧ (∀ h b, h + 2 * (5 - lvl) + 1 ≤ b → hOK (D ++ opL o1 o2) b h (h + 1)) ∧ st = cS s R rid (nI p') 0 (addL C u (D ++ opL o1 o2)) ∧ sg (R 4) L p' ≠ 38 ∧ sg (R 4) L p' ≠ 124 ∧ j ≤ p' - k ∧ (∀ i, i < hh → g6' i = g6 i) ∧ opG o1 o2 hh g6' ∧ (∀ i, i ≠ v1 → g4' i = g4 i) ∧ reach v1 j A (0, dS P (nI p') z' (nI (tb + u + D.length)) (nI (hh + opN o1 o2)) (nI lvl) g4' (putL g5 (tb + u) D) g6')
/-- an operand is due on both sides, behind i times | -/
def ACT (s : Mm) (R P : Pm) (rid L tb v1 lvl k u hh : Nat) (C : Pm) (g4 g5 g6 : Nat → Int32) (A : Int32 × Pm) (i : Nat) (o1 : Bool) (st : Mm) : Prop := ∃ p' D j z' g4' g6', 2 * i + k ≤ p' ∧ p' ≤ L ∧ D.length + opN o1 false ≤ p' - k ∧ (∀ h b, h + 2 * (5 - lvl) + 1 ≤ b → hOK D b h (h + (if o1 then 1 else 0))) ∧ st = cS s R rid (nI p') 0 (addL C u D) ∧ j ≤ p' - k ∧ (∀ i, i < hh → g6' i = g6 i) ∧ opG o1 false hh g6' ∧ (∀ i, i ≠ v1 → g4' i = g4 i) ∧ reach v1 j A (1, dS P (nI p') z' (nI (tb + u + D.length)) (nI (hh + opN o1 false)) (nI lvl) g4' (putL g5 (tb + u) D) g6')
theorem e_J90 {rec : Mm → Int32 → Option Mm} {p : Nat} {fl v w : Int32} {X : Pm} (hH : RDH R P rid L tb v1) (hp : p ≤ L) : f_X3_readEither_J90 rec (cS s R rid (nI p) fl X) v w = some (.inl (if fl = 0 ∧ sg (R 4) L p = 124 then (1, w + 1, cS s R rid (nI (p + 1)) fl X) else (0, w + 1, cS s R rid (nI p) fl X))) := by
  obtain ⟨hr, hlt, hkd, hL, hR, hR4, hP, hT, htb, hv1⟩ := hH
  have h0 : setO (cS s R rid (nI p) fl X) 6 (up2 ((cS s R rid (nI p) fl X) 6) 0 1 ((cS s R rid (nI p) fl X) 6 0 1 + 0)) = cS s R rid (nI p) fl X := by
    rw [cS_6 hr]
    show setO (cS s R rid (nI p) fl X) 6 (up2 (rdr R (nI p) fl) 0 1 (nI p + 0)) = _
    rw [Int32.add_zero]
    exact cS_w6 hr rdr_p
  unfold f_X3_readEither_J90 f_X3_readEither_J110 f_X3_readEither_J111 f_X3_readEither_J126
  rw [if_pos rfl, if_neg (show ¬ (1 : Int32) = 0 by decide), nb_w, nb_w, h0, cS_at hr, show (cS s R rid (nI p) fl X) 6 0 2 = fl by rw [cS_6 hr]; rfl, e_sign hr hL hR (by omega), Option.bind_some]
  by_cases c : fl = 0
  · rw [if_pos c]
    by_cases d : sg (R 4) L p = 124
    · rw [if_pos d, if_pos ⟨c, d⟩]
    · rw [if_neg d, if_neg (fun w => d w.2)]
  · rw [if_neg c, if_neg (fun w => c w.1)]
theorem e_J76 {rec : Mm → Int32 → Option Mm} {p i : Nat} {fl v : Int32} {X : Pm} (hH : RDH R P rid L tb v1) (hi : i < 200) : f_X3_readEither_J76 rec (cS s R rid (nI p) fl X) v (nI i) = if i = 0 then f_X3_readEither_J90 rec (cS s R rid (nI p) fl X) v (nI i) else Option.bind (f_X1_addStep X 5 0 0) (fun X' => f_X3_readEither_J90 rec (cS s R rid (nI p) fl X') v (nI i)) := by
  obtain ⟨hr, hlt, hkd, hL, hR, hR4, hP, hT, htb, hv1⟩ := hH
  unfold f_X3_readEither_J76
  by_cases c : i = 0
  · subst c
    rw [if_pos (show nI 0 ≤ 0 from Int32.le_refl _), if_pos rfl]
  · rw [if_neg (nI_nle (by omega) (by omega)), if_neg c, cS_ct hr hR4 hlt, if_pos hkd, cS_r]
    simp only [nb_w, cS_wr]
theorem q_eith (hH : RDH R P rid L tb v1) (hl : lvl ≤ 4) (hS : PartS s R P rid L tb v1 lvl) : EithS s R P rid L tb v1 lvl := by
  intro fu hfu k u hh C z g4 g5 g6 hk hu hb ht
  have hH' := hH
  obtain ⟨hr, hlt, hkd, hL, hR, hR4, hP, hT, htb, hv1⟩ := hH'
  generalize hA : ((1 : Int32), dS P (nI k) z (nI (tb + u)) (nI hh) (nI lvl) g4 g5 g6) = A
  obtain ⟨st, g1, g2⟩ := iter_E (body := fun t : Int32 × Int32 × Mm => f_X3_readEither_B4 (f_X3_readPart fu) (nI lvl) t.1 t.2.1 t.2.2) (fun i t => t.2.1 = nI i ∧ ((t.1 = 0 ∧ (FTs s R P rid L tb v1 k C g4 g5 A t.2.2 ∨ FIN s R P rid L tb v1 lvl k u hh C g4 g5 g6 A t.2.2)) ∨ (t.1 = 1 ∧ ∃ o1, (o1 = true ↔ i ≠ 0) ∧ ACT s R P rid L tb v1 lvl k u hh C g4 g5 g6 A i o1 t.2.2))) (fun st => FTs s R P rid L tb v1 k C g4 g5 A st ∨ FIN s R P rid L tb v1 lvl k u hh C g4 g5 g6 A st) 100
    (fun i t hi hI => by
      obtain ⟨v2, v3, st⟩ := t
      obtain ⟨q1, q2⟩ := hI
      dsimp only at q1 q2
      subst q1
      show (i < 100 ∧ ∃ s', f_X3_readEither_B4 (f_X3_readPart fu) (nI lvl) v2 (nI i) st = _ ∧ _) ∨ ∃ r, f_X3_readEither_B4 (f_X3_readPart fu) (nI lvl) v2 (nI i) st = _ ∧ _
      rcases q2 with ⟨rfl, q2⟩ | ⟨rfl, o1, ho, q2⟩
      · right
        refine ⟨st, ?_, q2⟩
        unfold f_X3_readEither_B4
        rw [if_pos (show (0 : Int32) = 0 from rfl)]
        split <;> rfl
      · left
        obtain ⟨p', D, j, z', g4', g6', a1, a2, a3, a4, rfl, a6, a7, a8, a9, b1⟩ := q2
        have ho1 : opN o1 false ≤ 1 := by cases o1 <;> decide
        refine ⟨by omega, ?_⟩
        unfold f_X3_readEither_B4
        rw [if_neg (show ¬ (100 : Int32) ≤ nI i from nI_ge (b := 100) (by omega) (by omega)), if_neg (show ¬ (1 : Int32) = 0 by decide)]
        have after : ∀ st1, (FTs s R P rid L tb v1 k C g4 g5 A st1 ∨ ∃ p0, 2 * i + k < p0 ∧ OKs s R P rid L tb v1 lvl k u hh C g4 g5 g6 A o1 p0 false st1) → ∃ s' : Int32 × Int32 × Mm, f_X3_readEither_H22 (f_X3_readPart fu) st1 (nI lvl) (nI i) 0 = some (.inl s') ∧ s'.2.1 = nI (i + 1) ∧ ((s'.1 = 0 ∧ (FTs s R P rid L tb v1 k C g4 g5 A s'.2.2 ∨ FIN s R P rid L tb v1 lvl k u hh C g4 g5 g6 A s'.2.2)) ∨ (s'.1 = 1 ∧ ∃ o1, (o1 = true ↔ i + 1 ≠ 0) ∧ ACT s R P rid L tb v1 lvl k u hh C g4 g5 g6 A (i + 1) o1 s'.2.2)) := by
          intro st1 h1
          have hin : ∃ st2, iter (fun t : Int32 × Mm => f_X3_readEither_B22 (f_X3_readPart fu) (nI lvl) (nI i) t.1 t.2) 200 (0, st1) = some st2 ∧ (FTs s R P rid L tb v1 k C g4 g5 A st2 ∨ ∃ p' o2, 2 * i + k < p' ∧ OKs s R P rid L tb v1 lvl k u hh C g4 g5 g6 A o1 p' o2 st2 ∧ sg (R 4) L p' ≠ 38) := by
            rcases h1 with h1 | ⟨p0, h1, h2⟩
            · refine ⟨st1, iter_end (by decide) ?_, Or.inl h1⟩
              obtain ⟨p', C', j, P', c1, c2, c3, rfl, -⟩ := h1
              show f_X3_readEither_B22 (f_X3_readPart fu) (nI lvl) (nI i) 0 (cS s R rid (nI p') 1 C') = _
              unfold f_X3_readEither_B22
              rw [cS_6 hr]
              show (if 100 ≤ (0 : Int32) then _ else (if (1 : Int32) = 0 then _ else _)) = _
              rw [if_neg (show ¬ (1 : Int32) = 0 by decide)]
              split <;> rfl
            · obtain ⟨st2, k1, k2⟩ := q_inner (v3 := nI i) hH hl hS hfu hu hb ht h2
              refine ⟨st2, k1, ?_⟩
              rcases k2 with k2 | ⟨p', o2, k3, k4, k5⟩
              · exact Or.inl k2
              · exact Or.inr ⟨p', o2, by omega, k4, k5⟩
          obtain ⟨st2, k1, k2⟩ := hin
          unfold f_X3_readEither_H22
          rw [k1, Option.bind_some]
          rcases k2 with ⟨p1, C', j1, P', c1, c2, c3, rfl, c5, c6, c7⟩ | ⟨p1, o2, k3, ⟨D1, j1, z1, g41, g61, c1, c2, c3, c4, rfl, c6, c7, c8, c9, d1⟩, k5⟩
          · rw [e_J76 hH (by omega)]
            by_cases ci : i = 0
            · rw [if_pos ci, e_J90 hH c2, if_neg (fun w => absurd w.1 (by decide))]
              exact ⟨_, rfl, nI_1 _, Or.inl ⟨rfl, Or.inl ⟨p1, C', j1, P', c1, c2, c3, rfl, c5, c6, c7⟩⟩⟩
            · obtain ⟨C'', f1, f2⟩ := e_addStepG (a := 5) (b := 0) (c := 0) c3
              rw [if_neg ci, f1, Option.bind_some, e_J90 hH c2, if_neg (fun w => absurd w.1 (by decide))]
              exact ⟨_, rfl, nI_1 _, Or.inl ⟨rfl, Or.inl ⟨p1, C'', j1, P', c1, c2, f2, rfl, c5, c6, c7⟩⟩⟩
          · have hlen : (D1 ++ opL o1 o2).length = D1.length + opN o1 o2 := by rw [List.length_append, opL_le.1]
            have hlen2 : (D1 ++ andL o2).length + opN o1 false = D1.length + opN o1 o2 := by
              rw [List.length_append, ← andL_len (o1 := o1) (o2 := o2)]
              omega
            have hcl : f_X3_readEither_J76 (f_X3_readPart fu) (cS s R rid (nI p1) 0 (addL C u (D1 ++ andL o2))) (nI lvl) (nI i) = f_X3_readEither_J90 (f_X3_readPart fu) (cS s R rid (nI p1) 0 (addL C u (D1 ++ opL o1 o2))) (nI lvl) (nI i) := by
              rw [e_J76 hH (by omega)]
              by_cases ci : i = 0
              · have : o1 = false := by
                  cases o1 with
                  | false => rfl
                  | true => exact absurd ci (ho.mp rfl)
                subst this
                rw [if_pos ci, opL_e]
                rw [show andL o2 ++ (if false = true then [-124] else []) = andL o2 from List.append_nil _]
              · have : o1 = true := ho.mpr ci
                subst this
                have hn1 : opN true false = 1 := rfl
                rw [if_neg ci, e_addStep (addL_04 hu) (by omega), Option.bind_some, opL_e, ← List.append_assoc, addL_app (E1 := D1 ++ andL o2)]
                rfl
            have hok : ∀ h b, h + 2 * (5 - lvl) + 1 ≤ b → hOK (D1 ++ opL o1 o2) b h (h + 1) := by
              intro h b hb
              have := c4 h b hb
              cases o1 with
              | false =>
                rw [opL_e, show andL o2 ++ (if false = true then [-124] else []) = andL o2 from List.append_nil _]
                exact this
              | true =>
                rw [opL_e, ← List.append_assoc]
                exact hOK_app (h1 := h + 2) this (hOK_1 (t := -124) (b := b) (h := h + 2) (Or.inr (Or.inr (Or.inr rfl))) (by omega) (fun w => absurd w (by decide)) (fun _ => by omega))
            rw [hcl, e_J90 hH c2]
            by_cases cx : sg (R 4) L p1 = 124
            · have hp1 : p1 < L := sg_lt2 (T := R 4) (by rw [cx]; decide)
              rw [if_pos ⟨rfl, cx⟩]
              refine ⟨_, rfl, nI_1 _, Or.inr ⟨rfl, true, by simp, p1 + 1, D1 ++ opL o1 o2, j1 + 1, z1, g41, upd g61 hh 124, by omega, hp1, ?_, hok, rfl, by omega, fun i hi => ?_, ⟨fun _ => by rw [upd_g, if_pos rfl], fun w => absurd w (by decide)⟩, c9, ?_⟩⟩
              · have : opN true false = 1 := rfl
                omega
              · rw [upd_g, if_neg (by omega)]
                exact c7 i hi
              · have hm := m_or (z := z1) (l := nI lvl) (g4 := g41) (g5 := putL g5 (tb + u) D1) (q := tb + u + D1.length) hH c2 (by omega) (by omega) c8 (fun h0 => by rw [c7 _ (by omega)]; exact ht h0) cx
                rw [show tb + u + D1.length + (opL o1 o2).length = tb + u + (D1 ++ opL o1 o2).length by rw [List.length_append]; omega, show putL (putL g5 (tb + u) D1) (tb + u + D1.length) (opL o1 o2) = putL g5 (tb + u) (D1 ++ opL o1 o2) from putL_app.symm] at hm
                exact reach_t d1 (reach_1 hm)
            · rw [if_neg (fun w => cx w.2)]
              exact ⟨_, rfl, nI_1 _, Or.inl ⟨rfl, Or.inr ⟨p1, D1, o1, o2, j1, z1, g41, g61, c1, c2, by omega, hok, rfl, k5, cx, c6, c7, c8, c9, d1⟩⟩⟩
        rcases hS fu hfu p' (u + D.length) 0 (hh + opN o1 false) (addL C u D) z' g4' (putL g5 (tb + u) D) g6' a2 (addL_04 hu) (by omega) (by omega) (fun i hi => absurd hi (by omega)) (fun h0 => by
          cases o1 with
          | false => rw [show hh + opN false false - 1 = hh - 1 from rfl, a7 _ (by have : 0 < hh := h0; omega), ht h0]; decide
          | true => rw [show hh + opN true false - 1 = hh from rfl, a8.1 rfl]; decide) with ⟨p2, C', j2, P', e1, e2, e3, e4, e5, e6, e7⟩ | ⟨p2, E, j2, z2, g42, g62, e1, e2, e3, e4, e5, e6, e7, e8, e9⟩
        · rw [e4, Option.bind_some]
          refine after _ (Or.inl ⟨p2, C', j + j2, P', by omega, e2, ⟨e3.1, e3.2.trans (addL_0n (by decide))⟩, rfl, by omega, ?_, ?_⟩)
          · obtain ⟨w1, w2, w3, w4, w5, w6, w7, w8, w9, w10⟩ := e6
            exact ⟨w1, w2, w3, w4, w5, w6, w7, w8, fun i hi => (w9 i hi).trans (putL_lo (by omega)), fun i hi => (w10 i hi).trans (a9 i hi)⟩
          · rw [Nat.add_assoc] at b1
            exact ends_t b1 e7
        · rw [e5, Option.bind_some]
          refine after _ (Or.inr ⟨p2, by omega, D ++ E, j + j2, z2, g42, g62, by omega, e2, ?_, ?_, ?_, by omega, fun i hi => ?_, ⟨fun w => ?_, fun w => absurd w (by decide)⟩, fun i hi => (e8 i hi).trans (a9 i hi), ?_⟩)
          · rw [List.length_append]
            omega
          · intro h b hb
            rw [show andL false = [] from rfl, List.append_nil, show h + 1 + (if o1 = true then 1 else 0) = h + (if o1 = true then 1 else 0) + 1 by omega]
            exact hOK_app (a4 h b hb) (e4 _ b (by cases o1 <;> simp <;> omega))
          · rw [show andL false = [] from rfl, List.append_nil, addL_app]
          · rw [e7 i (by omega), a7 i hi]
          · subst w
            rw [e7 hh (Nat.lt_succ_self _)]
            exact a8.1 rfl
          · have e1' : tb + u + (D ++ E).length = tb + (u + D.length) + E.length + 0 := by rw [List.length_append]; omega
            have e2' : putL g5 (tb + u) (D ++ E) = putL (putL g5 (tb + u) D) (tb + (u + D.length)) (E ++ bangs 0) := by
              rw [show E ++ bangs 0 = E from List.append_nil E, putL_app, Nat.add_assoc]
            rw [e1', e2']
            rw [Nat.add_assoc] at b1
            exact reach_t b1 e9) 100 0 (1, 0, cS s R rid (nI k) 0 C) (by omega) ⟨rfl, Or.inr ⟨rfl, false, by simp, k, [], 0, z, g4, g6, by omega, hk, by show 0 + 0 ≤ k - k; omega, fun h b hb => rfl, rfl, by omega, fun _ _ => rfl, ⟨fun w => absurd w (by decide), fun w => absurd w (by decide)⟩, fun _ _ => rfl, by rw [← hA]; exact reach_0⟩⟩ 200 (by omega)
  have hcl : f_X3_readEither (f_X3_readPart fu) (cS s R rid (nI k) 0 C) (nI lvl) = some st := by
    unfold f_X3_readEither f_X3_readEither_H4
    rw [g1]
    rfl
  rw [hcl]
  rcases g2 with ⟨p', C', j, P', a1, a2, a3, rfl, a5, a6, a7⟩ | ⟨p', D, o1, o2, j, z', g4', g6', a1, a2, a3, a4, rfl, a5, a6, a7, a8, a9, b1, b2⟩
  · exact Or.inl ⟨p', C', j, P', a1, a2, a3, rfl, a5, a6, a7⟩
  · exact Or.inr ⟨p', D, o1, o2, j, z', g4', g6', a1, a2, a3, a4, rfl, a5, a6, a7, a8, a9, b1, b2⟩
end Ou
