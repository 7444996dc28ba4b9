/-! the pure side N: the class's inner loop in an E -/
section In
variable {s : Mm} {R P C : Pm} {rid L tb v1 lvl k u hh : Nat} {z : Int32} {g4 g5 g6 : Nat → Int32}
/-- the text has a fault, on both sides -/
def FTs (s : Mm) (R P : Pm) (rid L tb v1 k : Nat) (C : Pm) (g4 g5 : Nat → Int32) (A : Int32 × Pm) (st : Mm) : Prop := ∃ p' C' j P', k ≤ p' ∧ p' ≤ L ∧ CG C C' ∧ st = cS s R rid (nI p') 1 C' ∧ j ≤ p' - k ∧ FR P p' tb v1 g4 g5 P' ∧ ends v1 j A (0, P')
/-- behind an operand: the class has emitted the ANDs, the reference not the last one -/
def OKs (s : Mm) (R P : Pm) (rid L tb v1 lvl k u hh : Nat) (C : Pm) (g4 g5 g6 : Nat → Int32) (A : Int32 × Pm) (o1 : Bool) (p' : Nat) (o2 : Bool) (st : Mm) : Prop := ∃ D j z' g4' g6', k < p' ∧ p' ≤ L ∧ D.length + opN o1 o2 ≤ p' - k ∧ (∀ h b, h + 2 * (5 - lvl) + 1 ≤ b → hOK (D ++ andL o2) b h (h + 1 + (if o1 then 1 else 0))) ∧ st = cS s R rid (nI p') 0 (addL C u (D ++ andL o2)) ∧ j ≤ p' - k ∧ (∀ i, i < hh → g6' i = g6 i) ∧ opG o1 o2 hh g6' ∧ (∀ i, i ≠ v1 → g4' i = g4 i) ∧ reach v1 j A (0, dS P (nI p') z' (nI (tb + u + D.length)) (nI (hh + opN o1 o2)) (nI lvl) g4' (putL g5 (tb + u) D) g6')
theorem andL_len {o1 o2 : Bool} : (andL o2).length + opN o1 false = opN o1 o2 := by
  cases o1 <;> cases o2 <;> rfl
theorem q_inner (hH : RDH R P rid L tb v1) (hl : lvl ≤ 4) (hS : PartS s R P rid L tb v1 lvl) {fu : Nat} (hfu : 5 ≤ fu + lvl) (hu : C 0 4 = nI u) (hb : u + hh ≤ k) (ht : 0 < hh → g6 (hh - 1) = 40) {A : Int32 × Pm} {o1 : Bool} {v3 : Int32} {p0 : Nat} {st0 : Mm} (h0 : OKs s R P rid L tb v1 lvl k u hh C g4 g5 g6 A o1 p0 false st0) :
    ∃ st, iter (fun t : Int32 × Mm => f_X3_readEither_B22 (f_X3_readPart fu) (nI lvl) v3 t.1 t.2) 200 (0, st0) = some st ∧ (FTs s R P rid L tb v1 k C g4 g5 A st ∨ ∃ p' o2, p0 ≤ p' ∧ OKs s R P rid L tb v1 lvl k u hh C g4 g5 g6 A o1 p' o2 st ∧ sg (R 4) L p' ≠ 38) := by
  have hH' := hH
  obtain ⟨hr, hlt, hkd, hL, hR, hR4, hP, hT, htb, hv1⟩ := hH'
  obtain ⟨r, g1, g2⟩ := iter_E (body := fun t : Int32 × Mm => f_X3_readEither_B22 (f_X3_readPart fu) (nI lvl) v3 t.1 t.2) (fun i t => t.1 = nI i ∧ (FTs s R P rid L tb v1 k C g4 g5 A t.2 ∨ ∃ p' o2, i + 1 ≤ p' ∧ p0 ≤ p' ∧ OKs s R P rid L tb v1 lvl k u hh C g4 g5 g6 A o1 p' o2 t.2)) (fun st => FTs s R P rid L tb v1 k C g4 g5 A st ∨ ∃ p' o2, p0 ≤ p' ∧ OKs s R P rid L tb v1 lvl k u hh C g4 g5 g6 A o1 p' o2 st ∧ sg (R 4) L p' ≠ 38) 100
    (fun i t hi hI => by
      obtain ⟨v, st⟩ := t
      obtain ⟨q1, q2⟩ := hI
      dsimp only at q1 q2
      subst q1
      show (i < 100 ∧ ∃ s', f_X3_readEither_B22 (f_X3_readPart fu) (nI lvl) v3 (nI i) st = _ ∧ _) ∨ ∃ r, f_X3_readEither_B22 (f_X3_readPart fu) (nI lvl) v3 (nI i) st = _ ∧ _
      rcases q2 with q2 | ⟨p', o2, q3, q3', q2⟩
      · right
        refine ⟨st, ?_, Or.inl q2⟩
        obtain ⟨p', C', j, P', a1, a2, a3, rfl, -⟩ := q2
        unfold f_X3_readEither_B22
        rw [cS_6 hr]
        show (if 100 ≤ nI i then _ else (if (1 : Int32) = 0 then _ else _)) = _
        rw [if_neg (show ¬ (1 : Int32) = 0 by decide)]
        split <;> rfl
      · by_cases c : sg (R 4) L p' = 38
        · left
          have q2' := q2
          obtain ⟨D, j, z', g4', g6', a1, a2, a3, a4, rfl, a6, a7, a8, a9, b1⟩ := q2
          have hp1 : p' < L := sg_lt2 (T := R 4) (by rw [c]; decide)
          refine ⟨by omega, ?_⟩
          have hlen : (D ++ andL o2).length + opN o1 false = D.length + opN o1 o2 := by
            rw [List.length_append, ← andL_len (o1 := o1) (o2 := o2)]
            omega
          have hst := reach_1 (v1 := v1) (a := (0, dS P (nI p') z' (nI (tb + u + D.length)) (nI (hh + opN o1 o2)) (nI lvl) g4' (putL g5 (tb + u) D) g6')) (m_and (l := nI lvl) hH a2 (by omega) (by omega) a8 (fun h0 => by rw [a7 _ (by omega)]; exact ht h0) c)
          rw [show tb + u + D.length + (andL o2).length = tb + (u + (D ++ andL o2).length) by rw [List.length_append]; omega, show putL (putL g5 (tb + u) D) (tb + u + D.length) (andL o2) = putL g5 (tb + u) (D ++ andL o2) from putL_app.symm] at hst
          unfold f_X3_readEither_B22
          rw [if_neg (show ¬ (100 : Int32) ≤ nI i from nI_ge (b := 100) (by omega) (by omega)), show cS s R rid (nI p') 0 (addL C u (D ++ andL o2)) 6 0 2 = 0 by rw [cS_6 hr]; rfl, if_pos rfl, e_sign hr hL hR (by omega), Option.bind_some, if_pos c, cS_at hr, nb_w]
          rcases hS fu hfu (p' + 1) (u + (D ++ andL o2).length) 0 (hh + opN o1 false + 1) (addL C u (D ++ andL o2)) z' g4' (putL g5 (tb + u) (D ++ andL o2)) (upd g6' (hh + opN o1 false) 38) hp1 (addL_04 hu) (by omega) (by omega) (fun i hi => absurd hi (by omega)) (fun _ => by rw [upd_g, if_pos (by omega)]; decide) with ⟨p2, C', j2, P', e1, e2, e3, e4, e5, e6, e7⟩ | ⟨p2, E, j2, z2, g42, g62, e1, e2, e3, e4, e5, e6, e7, e8, e9⟩
          · obtain ⟨C'', f1, f2⟩ := e_addStepG (a := 4) (b := 0) (c := 0) e3
            rw [e4, Option.bind_some, cS_ct hr hR4 hlt, if_pos hkd, cS_r, f1, Option.bind_some, nb_w, cS_wr]
            refine ⟨_, rfl, nI_1 _, Or.inl ⟨p2, C'', j + (1 + j2), P', by omega, e2, ⟨f2.1, f2.2.trans (addL_0n (by decide))⟩, rfl, by omega, ?_, ?_⟩⟩
            · obtain ⟨w1, w2, w3, w4, w5, w6, w7, w8, w9, w10⟩ := e6
              exact ⟨w1, w2, w3, w4, w5, w6, w7, w8, fun i hi => (w9 i hi).trans (putL_lo (by omega)), fun i hi => (w10 i hi).trans (a9 i hi)⟩
            · exact ends_t b1 (ends_t hst e7)
          · have hlen2 : ((D ++ andL o2) ++ E).length = (D ++ andL o2).length + E.length := List.length_append
            rw [e5, Option.bind_some, cS_ct hr hR4 hlt, if_pos hkd, cS_r, e_addStep (addL_04 (addL_04 hu)) (by omega), Option.bind_some, nb_w, cS_wr]
            refine ⟨_, rfl, nI_1 _, Or.inr ⟨p2, true, by omega, by omega, (D ++ andL o2) ++ E, j + (1 + j2), z2, g42, g62, by omega, e2, ?_, ?_, ?_, by omega, fun i hi => ?_, ⟨fun w => ?_, fun _ => ?_⟩, fun i hi => (e8 i hi).trans (a9 i hi), ?_⟩⟩
            · have : opN o1 true = opN o1 false + 1 := by cases o1 <;> rfl
              omega
            · intro h b hb
              have hE := a4 h b hb
              have hF := e4 (h + 1 + (if o1 then 1 else 0)) b (by cases o1 <;> simp <;> omega)
              refine hOK_app (hOK_app hE hF) ?_
              have ht2 : htN (-38) (h + 1 + (if o1 then 1 else 0) + 1) = h + 1 + (if o1 then 1 else 0) := by
                unfold htN
                rw [if_neg (by decide), if_neg (by decide)]
                omega
              have := hOK_1 (t := -38) (b := b) (h := h + 1 + (if o1 then 1 else 0) + 1) (Or.inr (Or.inr (Or.inl rfl))) (by cases o1 <;> simp <;> omega) (fun w => absurd w (by decide)) (fun _ => by omega)
              rw [ht2] at this
              exact this
            · have eA : addL C u ((D ++ andL o2) ++ E ++ andL true) = stT (addL (addL C u (D ++ andL o2)) (u + (D ++ andL o2).length) E) (u + (D ++ andL o2).length + E.length) (-38) := by
                rw [addL_app (E1 := (D ++ andL o2) ++ E), addL_app (E1 := D ++ andL o2) (E2 := E), hlen2, ← Nat.add_assoc]
                rfl
              rw [eA]
              rfl
            · rw [e7 i (by omega), upd_g, if_neg (by omega), a7 i hi]
            · subst w
              rw [e7 hh (by show hh < hh + 1 + 1; omega), upd_g, if_neg (by show ¬ hh = hh + 1; omega)]
              exact a8.1 rfl
            · rw [e7 _ (by cases o1 <;> exact Nat.lt_succ_self _), upd_g, if_pos (by cases o1 <;> rfl)]
            · have e1' : tb + u + ((D ++ andL o2) ++ E).length = tb + (u + (D ++ andL o2).length) + E.length + 0 := by rw [hlen2]; omega
              have e2' : putL g5 (tb + u) ((D ++ andL o2) ++ E) = putL (putL g5 (tb + u) (D ++ andL o2)) (tb + (u + (D ++ andL o2).length)) (E ++ bangs 0) := by
                rw [show E ++ bangs 0 = E from List.append_nil E, putL_app, Nat.add_assoc]
              have e3' : hh + opN o1 true = hh + opN o1 false + 1 := by cases o1 <;> rfl
              rw [e1', e2', e3']
              exact reach_t b1 (reach_t hst e9)
        · right
          refine ⟨st, ?_, Or.inr ⟨p', o2, q3', q2, c⟩⟩
          obtain ⟨D, j, z', g4', g6', a1, a2, a3, a4, rfl, -⟩ := q2
          unfold f_X3_readEither_B22
          rw [show cS s R rid (nI p') 0 (addL C u (D ++ andL o2)) 6 0 2 = 0 by rw [cS_6 hr]; rfl, if_pos rfl, e_sign hr hL hR (by omega), Option.bind_some, if_neg c]
          split <;> rfl) 100 0 (0, st0) (by omega) ⟨rfl, Or.inr ⟨p0, false, by obtain ⟨D, j, z', g4', g6', a1, -⟩ := h0; omega, Nat.le_refl _, h0⟩⟩ 200 (by omega)
  exact ⟨r, g1, g2⟩
end In
