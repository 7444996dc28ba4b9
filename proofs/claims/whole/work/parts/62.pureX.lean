/-! the pure side X: the text, on both sides -/
def tlB (f n : Int32) (P2 : Pm) : Option ((Int32 × Pm) ⊕ (Int32 × Pm)) := if inb f 6 = true then nb (up2 P2 20 (ix f) n) (fun P4 => (if (P4 0 16) = (P4 0 15) then wr (some (1, P4)) else (if n = 10 then wr (some (0, P4)) else bn2 (f_X7_takes P4 59) (fun x5 P6 => (if x5 = 0 then wr (some (0, P6)) else some (.inl (n, P6))))))) else none
def tlM (f M : Nat) (x : Option ((Int32 × Pm) ⊕ (Int32 × Pm))) : Option (Int32 × Pm) := match x with | none => none | some (.inl t) => iter (fun t => f_X7_goesText_B15 (nI f) t.1 t.2) M t | some (.inr r) => some r
def tail (f M : Nat) (n : Int32) (P : Pm) : Option (Int32 × Pm) := tlM f M (tlB (nI f) n P)
theorem tlB_e {f n : Int32} {P : Pm} : f_X7_goesText_B15 f n P = bn2 (f_X7_takesClause P (10 * f + n)) (fun x1 P2 => (if x1 = 0 then wr (some (0, P2)) else tlB f (n + 1) P2)) := rfl
theorem tail_e {f M : Nat} {n : Int32} {P P2 : Pm} {x : Int32} (h : f_X7_takesClause P (10 * nI f + n) = some (x, P2)) (hx : ¬ x = 0) : iter (fun t => f_X7_goesText_B15 (nI f) t.1 t.2) (M + 1) (n, P) = tail f M (n + 1) P2 := by
  have e : f_X7_goesText_B15 (nI f) n P = tlB (nI f) (n + 1) P2 := by rw [tlB_e, h, bn2_w, if_neg hx]
  rw [iter_s]
  dsimp only
  unfold tail
  rw [e]
  cases tlB (nI f) (n + 1) P2 with
  | none => rfl
  | some x => cases x <;> rfl
section Tx
variable {s : Mm} {R P P' C : Pm} {rid L f k u n v1 v1' tb : Nat}
theorem RDH_v (hH : RDH R P rid L tb v1) (h : v1' < 60) : RDH R P rid L tb v1' := by
  obtain ⟨hr, hlt, hkd, hL, hR, hR4, hP, hT, htb, hv1⟩ := hH
  exact ⟨hr, hlt, hkd, hL, hR, hR4, hP, hT, htb, h⟩
theorem RDH_FQ (hH : RDH R P rid L tb v1) (h : FQ f P P') : RDH R P' rid L tb v1 := by
  obtain ⟨hr, hlt, hkd, hL, hR, hR4, hP, hT, htb, hv1⟩ := hH
  exact ⟨hr, hlt, hkd, hL, hR, hR4, (h.2.1 15 (by omega)).trans hP, hT.trans (h.1 19 (by omega) (by omega)).symm, htb, hv1⟩
theorem LET_FQ (hL : LET P) (h : FQ f P P') : LET P' := by
  unfold LET
  rw [h.1 30 (by omega) (by omega)]
  exact hL
theorem FQ_20 {x : Int32} : FQ f P (up2 P 20 f x) := ⟨fun c a b => u_c (by omega), fun i _ => congrFun (u_c (by decide)) i, fun c i a _ => congrFun (u_c (by omega)) i, fun i _ => congrFun (u_c (by decide)) i, fun i hi => u_ne (Or.inr (by omega))⟩
theorem FQ_0 {x : Int32} {j : Nat} (hj : j = 16 ∨ j = 26) : FQ f P (up2 P 0 j x) := ⟨fun c a b => u_c a, fun i hi => u_ne (Or.inr (by omega)), fun c i a _ => congrFun (u_c (by omega)) i, fun i _ => congrFun (u_c (by decide)) i, fun i _ => congrFun (u_c (by decide)) i⟩
/-- a sign taken, wherever the reference stands -/
theorem m_takes2 {a : Int32} (hL : L ≤ 100) (hP : P 0 15 = nI L) (hk : k ≤ 100) (h16 : P 0 16 = nI k) : f_X7_takes P a = some (if sg (P 19) L k = a then (1, up2 P 0 16 (nI (k + 1))) else (0, P)) := by
  have hd : dS P (nI k) (P 0 17) (P 0 26) (P 0 27) (P 0 28) (P 24) (P 25) (P 26) = P := by
    rw [← h16]
    exact dS_i
  have h1 := m_takes (P := P) (z := P 0 17) (q := P 0 26) (h := P 0 27) (l := P 0 28) (g4 := P 24) (g5 := P 25) (g6 := P 26) (a := a) hL hP hk
  have h2 : dS P (nI (k + 1)) (P 0 17) (P 0 26) (P 0 27) (P 0 28) (P 24) (P 25) (P 26) = up2 P 0 16 (nI (k + 1)) := by
    rw [← dS_16 (p := nI k) (x := nI (k + 1)), hd]
  rw [hd, h2] at h1
  exact h1
/-- what a text comes to, on both sides -/
def TXR (s : Mm) (R : Pm) (rid f : Nat) (P : Pm) (x : Option (Int32 × Mm)) (y : Option (Int32 × Pm)) : Prop := ∃ r s' g P', x = some (r, s') ∧ y = some (g, P') ∧ FQ f P P' ∧ ∃ p' fl' C', s' = cS s R rid p' fl' C' ∧ ((g = 1 ∧ r = -1 ∧ ∃ L' en, P' 20 f = nI L' ∧ CLS C' (P' 21) (P' 22) (P' 23) (P' 24) (P' 25) (10 * f) (100 * f) en L') ∨ (g = 0 ∧ ∃ p, p ≤ 100 ∧ r = nI p ∧ P' 0 16 = nI p))
theorem J70_0 (hr : rid ≠ 6) (hR : R 0 0 = nI L) (hL : L ≤ 100) (hk : k ≤ L) : f_X3_readInto_J70 (cS s R rid (nI k) 0 C) = some (if L = k then -1 else nI k, cS s R rid (nI k) 0 C) := by
  unfold f_X3_readInto_J70 f_X3_readInto_J88
  rw [cS_6 hr]
  show (if (0 : Int32) = 0 then (if R 0 0 ≤ nI k then _ else some (nI k, cS s R rid (nI k) 0 C)) else _) = _
  rw [if_pos rfl, hR]
  by_cases c : L = k
  · rw [if_pos c, if_pos (nI_le (by omega) (by omega))]
  · rw [if_neg c, if_neg (nI_ge (by omega) (by omega))]
theorem J70_1 (hr : rid ≠ 6) : f_X3_readInto_J70 (cS s R rid (nI k) 1 C) = some (nI k, cS s R rid (nI k) 1 C) := by
  unfold f_X3_readInto_J70 f_X3_readInto_J88
  rw [cS_6 hr]
  rfl
theorem B28_1 {m : Int32} (hr : rid ≠ 6) : f_X3_readInto_B28 m (cS s R rid (nI k) 1 C) = some (.inr (cS s R rid (nI k) 1 C)) := by
  unfold f_X3_readInto_B28
  have hf : (cS s R rid (nI k) 1 C) 6 0 2 = 1 := by rw [cS_6 hr]; rfl
  rw [hf, if_neg (show ¬ (1 : Int32) = 0 by decide)]
  split <;> rfl
theorem B28_0 {m : Int32} (hr : rid ≠ 6) (hL : L ≤ 100) (hR : R 0 0 = nI L) (hk : k ≤ L) (h : 10 ≤ m ∨ sg (R 4) L k ≠ 59) : f_X3_readInto_B28 m (cS s R rid (nI k) 0 C) = some (.inr (cS s R rid (nI k) 0 C)) := by
  unfold f_X3_readInto_B28
  have hf : (cS s R rid (nI k) 0 C) 6 0 2 = 0 := by rw [cS_6 hr]; rfl
  by_cases c : 10 ≤ m
  · rw [if_pos c]
  · rw [if_neg c, hf, if_pos rfl, e_sign hr hL hR (by omega), Option.bind_some, if_neg (h.elim (fun w => absurd w c) id)]
theorem q_textL (hf : f < 6) : ∀ d n, n + d = 10 → 1 ≤ n → ∀ (C P : Pm) (k u : Nat), RDH R P rid L (100 * f) (10 * f) → LET P → RC C P f L k u n → ∀ N M, d < N → d < M →
    TXR s R rid f P (Option.bind (iter (fun t => f_X3_readInto_B28 t.1 t.2) N (nI n, cS s R rid (nI k) 0 C)) (fun s => f_X3_readInto_J70 s)) (tail f M (nI n) P) := by
  intro d
  induction d with
  | zero =>
    intro n hn h1 C P k u hH hLe hRC N M hN hM
    obtain ⟨hr, hlt, hkd, hL, hR, hR4, hP, hT, htb, hv1⟩ := hH
    obtain ⟨hk, r16, r26, r4, huk, en, hC, hen, heu⟩ := hRC
    have h10 : n = 10 := by omega
    rw [iter_end (r := cS s R rid (nI k) 0 C) hN (B28_0 hr hL hR hk (Or.inl (show (10 : Int32) ≤ nI n by rw [h10]; decide))), Option.bind_some, J70_0 hr hR hL hk]
    unfold tail tlB
    rw [if_pos (inb_nI hf (by decide)), nb_w, ix_nI (by omega)]
    show TXR s R rid f P _ (tlM f M (if P 0 16 = P 0 15 then wr (some (1, up2 P 20 f (nI n))) else if nI n = 10 then wr (some (0, up2 P 20 f (nI n))) else _))
    rw [r16, hP, if_pos (show nI n = 10 by rw [h10]; rfl)]
    by_cases c : L = k
    · subst c
      rw [if_pos rfl, if_pos rfl]
      exact ⟨_, _, _, _, rfl, rfl, FQ_20, _, _, _, rfl, Or.inl ⟨rfl, rfl, n, en, u_s, hC⟩⟩
    · rw [if_neg c, if_neg (fun w => c (nIeq w (by omega) (by omega)).symm)]
      exact ⟨_, _, _, _, rfl, rfl, FQ_20, _, _, _, rfl, Or.inr ⟨rfl, k, by omega, rfl, r16⟩⟩
  | succ d ih =>
    intro n hn h1 C P k u hH hLe hRC N M hN hM
    obtain ⟨hr, hlt, hkd, hL, hR, hR4, hP, hT, htb, hv1⟩ := id hH
    obtain ⟨hk, r16, r26, r4, huk, en, hC, hen, heu⟩ := id hRC
    have n10 : ¬ nI n = 10 := fun w => by
      have := nIeq (b := 10) w (by omega) (by omega)
      omega
    have hF4 : FQ f P (up2 P 20 f (nI n)) := FQ_20
    have hmt := m_takes2 (P := up2 P 20 f (nI n)) (a := 59) (k := k) hL hP (by omega) r16
    rw [show up2 P 20 f (nI n) 19 = R 4 from hT.symm] at hmt
    unfold tail tlB
    rw [if_pos (inb_nI hf (by decide)), nb_w, ix_nI (by omega), hmt]
    show TXR s R rid f P _ (tlM f M (if P 0 16 = P 0 15 then wr (some (1, up2 P 20 f (nI n))) else if nI n = 10 then wr (some (0, up2 P 20 f (nI n))) else _))
    rw [r16, hP, if_neg n10]
    by_cases c : L = k
    · have hs : sg (R 4) L k ≠ 59 := by
        unfold sg
        rw [if_pos (by omega)]
        decide
      rw [iter_end (r := cS s R rid (nI k) 0 C) (by omega) (B28_0 hr hL hR hk (Or.inr hs)), Option.bind_some, J70_0 hr hR hL hk]
      subst c
      rw [if_pos rfl, if_pos rfl]
      exact ⟨_, _, _, _, rfl, rfl, FQ_20, _, _, _, rfl, Or.inl ⟨rfl, rfl, n, en, u_s, hC⟩⟩
    · rw [if_neg (fun w => c (nIeq w (by omega) (by omega)).symm)]
      by_cases cs : sg (R 4) L k = 59
      · have hkL : k < L := sg_lt2 (T := R 4) (by rw [cs]; decide)
        rw [if_pos cs, bn2_w, if_neg (show ¬ (1 : Int32) = 0 by decide)]
        have hF5 : FQ f P (up2 (up2 P 20 f (nI n)) 0 16 (nI (k + 1))) := hF4.tr (FQ_0 (Or.inl rfl))
        generalize hP5 : up2 (up2 P 20 f (nI n)) 0 16 (nI (k + 1)) = P5 at hF5 ⊢
        have hH5 : RDH R P5 rid L (100 * f) (10 * f) := RDH_FQ hH hF5
        have hL5 : LET P5 := LET_FQ hLe hF5
        have hRC5 : RC C P5 f L (k + 1) u n := by
          refine ⟨hkL, ?_, ?_, r4, by omega, en, ?_, ?_, ?_⟩
          · rw [← hP5, u_s]
          · rw [← hP5, u_ne (Or.inr (by decide)), u_c (by decide)]
            exact r26
          · rw [← hP5]
            exact hC
          · rw [← hP5]
            exact hen
          · rw [← hP5]
            exact heu
        have hB : ∀ X, f_X3_readClause (cS s R rid (nI (k + 1)) 0 C) = some X → f_X3_readInto_B28 (nI n) (cS s R rid (nI k) 0 C) = some (.inl (nI (n + 1), X)) := by
          intro X hX
          unfold f_X3_readInto_B28
          have hf : (cS s R rid (nI k) 0 C) 6 0 2 = 0 := by rw [cS_6 hr]; rfl
          rw [if_neg (show ¬ (10 : Int32) ≤ nI n from nI_ge (b := 10) (by omega) (by omega)), hf, if_pos rfl, e_sign hr hL hR (by omega), Option.bind_some, if_pos cs, nb_w, cS_at hr, hX, Option.bind_some, nI_1]
        obtain ⟨M', rfl⟩ : ∃ M', M = M' + 1 := ⟨M - 1, by omega⟩
        have e10 : (10 : Int32) * nI f + nI n = nI (10 * f + n) := by
          rw [show (10 : Int32) = nI 10 from rfl, pk_mul, nI_add]
        show TXR s R rid f P _ (iter (fun t => f_X7_goesText_B15 (nI f) t.1 t.2) (M' + 1) (nI n, P5))
        rcases q_clause (s := s) (RDH_v hH5 (by omega)) hf (by omega) hL5 hRC5 with ⟨p', C', P', a1, a2, a3, a4, a5⟩ | ⟨p', u', C', P', a2, a3, a5, a6⟩
        · rw [iter_go (s' := (nI (n + 1), cS s R rid (nI p') 1 C')) (by omega) (hB _ a2), iter_end (r := cS s R rid (nI p') 1 C') (by omega) (B28_1 hr), Option.bind_some, J70_1 hr, iter_end (r := (0, P')) (by omega) (by
            show f_X7_goesText_B15 (nI f) (nI n) P5 = _
            rw [tlB_e, e10, a3, bn2_w, if_pos rfl]
            rfl)]
          exact ⟨_, _, _, _, rfl, rfl, hF5.tr a5, _, _, _, rfl, Or.inr ⟨rfl, p', by omega, rfl, a4⟩⟩
        · rw [iter_go (s' := (nI (n + 1), cS s R rid (nI p') 0 C')) (by omega) (hB _ a2), tail_e (by rw [e10]; exact a3) (show ¬ (1 : Int32) = 0 by decide), nI_1]
          obtain ⟨r, s', g, P'', d1, d2, d3, d4⟩ := ih (n + 1) (by omega) (by omega) C' P' p' u' (RDH_FQ hH5 a5) (LET_FQ hL5 a5) a6 (N - 1) M' (by omega) (by omega)
          exact ⟨r, s', g, P'', d1, d2, (hF5.tr a5).tr d3, d4⟩
      · rw [if_neg cs, bn2_w, if_pos rfl, iter_end (r := cS s R rid (nI k) 0 C) (by omega) (B28_0 hr hL hR hk (Or.inr cs)), Option.bind_some, J70_0 hr hR hL hk, if_neg c]
        exact ⟨_, _, _, _, rfl, rfl, FQ_20, _, _, _, rfl, Or.inr ⟨rfl, k, by omega, rfl, r16⟩⟩
theorem rdr_i : rdr R (R 0 1) (R 0 2) = R := by
  funext c
  unfold rdr
  by_cases h : c = 0
  · subst h
    rw [if_pos rfl]
    funext i
    by_cases h1 : i = 1
    · rw [if_pos h1, h1]
    · rw [if_neg h1]
      by_cases h2 : i = 2
      · rw [if_pos h2, h2]
      · rw [if_neg h2]
  · rw [if_neg h]
/-- a country cleared -/
def clrC (C : Pm) : Pm := up2 (up2 (up2 (up2 (up2 C 0 0 10) 0 1 0) 0 2 0) 0 3 0) 0 4 0
theorem kdC {f : Nat} (hf : f < 6) : kdo (8 + f) = 1 := by
  rcases (show f = 0 ∨ f = 1 ∨ f = 2 ∨ f = 3 ∨ f = 4 ∨ f = 5 by omega) with h | h | h | h | h | h <;> subst h <;> rfl
/-- a text is read alike -/
theorem q_read (hf : f < 6) (hL : L ≤ 100) (hR : s 6 0 0 = nI L) (hP : P 0 15 = nI L) (hT : s 6 4 = P 19) (hLe : LET P) : TXR s (up2 (s 6) 0 4 (nI (8 + f))) (8 + f) f P (f_X3_readInto s (8 + f)) (f_X7_goesText P (nI f)) := by
  have hkd := kdC hf
  have hr : 8 + f ≠ 6 := by omega
  have hx : ix (nI (8 + f)) = 8 + f := ix_nI (by omega)
  generalize hRR : up2 (s 6) 0 4 (nI (8 + f)) = R
  have hR0 : R 0 0 = nI L := by rw [← hRR, u_ne (Or.inr (by decide))]; exact hR
  have hR4 : R 0 4 = nI (8 + f) := by rw [← hRR, u_s]
  have hR19 : R 4 = P 19 := by rw [← hRR, u_c (by decide)]; exact hT
  have es : f_X3_readInto s (8 + f) = Option.bind (f_X3_readClause (cS s R (8 + f) (nI 0) 0 (clrC (s (8 + f))))) (fun s10 => f_X3_readInto_H28 s10 1) := by
    unfold f_X3_readInto
    rw [nb_w, hRR, setO_s, hR4, hx, if_pos hkd, setO_n hr]
    show Option.bind (some (clrC (s (8 + f)))) _ = _
    rw [Option.bind_some, nb_w, nb_w, nb_w]
    have e1 : setO (setO s 6 R) (8 + f) (clrC (s (8 + f))) = cS s R (8 + f) (R 0 1) (R 0 2) (clrC (s (8 + f))) := by
      unfold cS
      rw [rdr_i]
    rw [e1]
    have e2 : setO (cS s R (8 + f) (R 0 1) (R 0 2) (clrC (s (8 + f)))) 6 (up2 ((cS s R (8 + f) (R 0 1) (R 0 2) (clrC (s (8 + f)))) 6) 0 1 0) = cS s R (8 + f) (nI 0) (R 0 2) (clrC (s (8 + f))) := by
      rw [cS_6 hr]
      exact cS_w6 hr rdr_p
    rw [e2]
    have e3 : setO (cS s R (8 + f) (nI 0) (R 0 2) (clrC (s (8 + f)))) 6 (up2 ((cS s R (8 + f) (nI 0) (R 0 2) (clrC (s (8 + f)))) 6) 0 2 0) = cS s R (8 + f) (nI 0) 0 (clrC (s (8 + f))) := cS_fl hr
    rw [e3]
  have em : f_X7_goesText P (nI f) = f_X7_goesText_H15 (up2 (up2 P 0 16 (nI 0)) 0 26 (nI (100 * f + 0))) (nI f) (nI 0) := by
    unfold f_X7_goesText
    rw [nb_w, nb_w, show (100 : Int32) = nI 100 from rfl, pk_mul]
    rfl
  have hF : FQ f P (up2 (up2 P 0 16 (nI 0)) 0 26 (nI (100 * f + 0))) := (FQ_0 (Or.inl rfl)).tr (FQ_0 (Or.inr rfl))
  rw [es, em]
  generalize hP1 : up2 (up2 P 0 16 (nI 0)) 0 26 (nI (100 * f + 0)) = P1 at hF ⊢
  have hH : RDH R P1 (8 + f) L (100 * f) (10 * f) := RDH_FQ (P := P) ⟨hr, by omega, hkd, hL, hR0, hR4, hP, hR19, by omega, by omega⟩ hF
  have hL1 : LET P1 := LET_FQ hLe hF
  have hRC : RC (clrC (s (8 + f))) P1 f L 0 0 0 := by
    refine ⟨by omega, ?_, ?_, rfl, by omega, fun _ => 0, ⟨by omega, by omega, by omega, fun i hi => absurd hi (by omega), rfl, rfl, fun i hi => absurd hi (by omega), rfl, rfl, rfl⟩, fun j _ => Nat.le_refl _, rfl⟩
    · rw [← hP1, u_ne (Or.inr (by decide)), u_s]
    · rw [← hP1, u_s]
  have e10 : (10 : Int32) * nI f + nI 0 = nI (10 * f + 0) := by
    rw [show (10 : Int32) = nI 10 from rfl, pk_mul, nI_add]
  unfold f_X7_goesText_H15
  rcases q_clause (s := s) (n := 0) (RDH_v hH (by omega)) hf (by omega) hL1 hRC with ⟨p', C', P', a1, a2, a3, a4, a5⟩ | ⟨p', u', C', P', a2, a3, a5, a6⟩
  · rw [a2, Option.bind_some]
    unfold f_X3_readInto_H28
    rw [iter_end (r := cS s R (8 + f) (nI p') 1 C') (by decide) (B28_1 hr), Option.bind_some, J70_1 hr, iter_end (r := (0, P')) (by decide) (by
      show f_X7_goesText_B15 (nI f) (nI 0) P1 = _
      rw [tlB_e, e10, a3, bn2_w, if_pos rfl]
      rfl)]
    exact ⟨_, _, _, _, rfl, rfl, hF.tr a5, _, _, _, rfl, Or.inr ⟨rfl, p', by omega, rfl, a4⟩⟩
  · rw [a2, Option.bind_some, tail_e (M := 199) (by rw [e10]; exact a3) (show ¬ (1 : Int32) = 0 by decide), nI_1]
    unfold f_X3_readInto_H28
    obtain ⟨r, s', g, P'', d1, d2, d3, d4⟩ := q_textL (s := s) (R := R) (rid := 8 + f) (L := L) hf 9 1 rfl (by omega) C' P' p' u' (RDH_FQ hH a5) (LET_FQ hL1 a5) a6 200 199 (by omega) (by omega)
    exact ⟨r, s', g, P'', d1, d2, (hF.tr a5).tr d3, d4⟩
end Tx
