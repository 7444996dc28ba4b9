/-! the pure side W: a clause, on both sides -/
/-- what stays while country f is read -/
def FQ (f : Nat) (P P' : Pm) : Prop := (∀ c, c ≠ 0 → (c < 20 ∨ 26 < c) → P' c = P c) ∧ (∀ i, ¬ (i = 16 ∨ i = 17 ∨ i = 26 ∨ i = 27 ∨ i = 28) → P' 0 i = P 0 i) ∧ (∀ c i, (c = 21 ∨ c = 22 ∨ c = 23 ∨ c = 24) → i < 10 * f → P' c i = P c i) ∧ (∀ i, i < 100 * f → P' 25 i = P 25 i) ∧ ∀ i, i < f → P' 20 i = P 20 i
theorem FQ.rf {f : Nat} {P : Pm} : FQ f P P := ⟨fun _ _ _ => rfl, fun _ _ => rfl, fun _ _ _ _ => rfl, fun _ _ => rfl, fun _ _ => rfl⟩
theorem FQ.tr {f : Nat} {P Q S : Pm} (h : FQ f P Q) (h2 : FQ f Q S) : FQ f P S := ⟨fun c a b => (h2.1 c a b).trans (h.1 c a b), fun i a => (h2.2.1 i a).trans (h.2.1 i a), fun c i a b => (h2.2.2.1 c i a b).trans (h.2.2.1 c i a b), fun i a => (h2.2.2.2.1 i a).trans (h.2.2.2.1 i a), fun i a => (h2.2.2.2.2 i a).trans (h.2.2.2.2 i a)⟩
/-- n clauses are read, on both sides: k is the place -/
def RC (C P : Pm) (f L k u n : Nat) : Prop := k ≤ L ∧ P 0 16 = nI k ∧ P 0 26 = nI (100 * f + u) ∧ C 0 4 = nI u ∧ u ≤ k ∧ ∃ en : Nat → Nat, CLS C (P 21) (P 22) (P 23) (P 24) (P 25) (10 * f) (100 * f) en n ∧ (∀ j, j ≤ pcS (P 21) (10 * f) n → en j ≤ u) ∧ en (pcS (P 21) (10 * f) n) = u
section Cl
variable {s : Mm} {R P C C0 C' : Pm} {rid L f k u n : Nat}
theorem FQ_d {P3 : Pm} {p z q h l : Int32} {g4 g5 g6 : Nat → Int32} {c : Nat} (hc : 10 * f ≤ c) (h3 : ∀ d, d ≠ 21 → d ≠ 22 → d ≠ 23 → P3 d = P d) (h4 : ∀ d i, i ≠ c → P3 d i = P d i) (h5 : ∀ i, i ≠ c → g4 i = P 24 i) (h6 : ∀ i, i < 100 * f → g5 i = P 25 i) : FQ f P (dS P3 p z q h l g4 g5 g6) := by
  refine ⟨fun d a b => ?_, fun i a => ?_, fun d i a b => ?_, fun i a => h6 i a, fun i a => ?_⟩
  · rw [dS_n a (by omega) (by omega) (by omega), h3 d (by omega) (by omega) (by omega)]
  · rw [dS_0, if_neg (by omega), if_neg (by omega), if_neg (by omega), if_neg (by omega), if_neg (by omega), h3 0 (by decide) (by decide) (by decide)]
  · rcases a with rfl | rfl | rfl | rfl
    · exact h4 21 i (by omega)
    · exact h4 22 i (by omega)
    · exact h4 23 i (by omega)
    · exact h5 i (by omega)
  · rw [dS_n (by decide) (by decide) (by decide) (by decide), h3 20 (by decide) (by decide) (by decide)]
theorem u_ne {P : Pm} {c c' j i : Nat} {x : Int32} (h : c' ≠ c ∨ i ≠ j) : up2 P c j x c' i = P c' i := by
  rw [up2_g]
  split
  · rename_i e
    rw [upd_g, if_neg (fun w => h.elim (fun q => q e) (fun q => q w)), e]
  · rfl
theorem u_c {P : Pm} {c c' j : Nat} {x : Int32} (h : c' ≠ c) : up2 P c j x c' = P c' := by rw [up2_g, if_neg h]
theorem u_s {P : Pm} {c j : Nat} {x : Int32} : up2 P c j x c j = x := by rw [up2_g, if_pos rfl, upd_g, if_pos rfl]
theorem q_clause (hH : RDH R P rid L (100 * f) (10 * f + n)) (hf : f < 6) (hn : n < 10) (hLe : LET P) (hRC : RC C P f L k u n) :
    (∃ p' C' P', p' ≤ L ∧ f_X3_readClause (cS s R rid (nI k) 0 C) = some (cS s R rid (nI p') 1 C') ∧ f_X7_takesClause P (nI (10 * f + n)) = some (0, P') ∧ P' 0 16 = nI p' ∧ FQ f P P') ∨
    (∃ p' u' C' P', f_X3_readClause (cS s R rid (nI k) 0 C) = some (cS s R rid (nI p') 0 C') ∧ f_X7_takesClause P (nI (10 * f + n)) = some (1, P') ∧ FQ f P P' ∧ RC C' P' f L p' u' (n + 1)) := by
  obtain ⟨hk, r16, r26, r4, huk, en, hC, hen, heu⟩ := hRC
  have hL := hH.2.2.2.1
  have hP := hH.2.2.2.2.2.2.1
  have hT := hH.2.2.2.2.2.2.2.1
  have hr := hH.1
  have hRL := hH.2.2.2.2.1
  generalize hc : 10 * f + n = c at hH ⊢
  have hc60 : inb (nI c) 60 = true := inb_nI (by omega) (by decide)
  have hcx : ix (nI c) = c := ix_nI (by omega)
  have hpc : pcS (P 21) (10 * f) n ≤ n := pcS_le
  have c03 : C 0 3 = nI (pcS (P 21) (10 * f) n) := hC.2.2.2.2.2.1
  have hPd : P = dS P (nI k) (P 0 17) (nI (100 * f + u)) (P 0 27) (P 0 28) (P 24) (P 25) (P 26) := by
    rw [← r16, ← r26]
    exact dS_i.symm
  obtain ⟨w, qk, p1, f1, f2, f3, f4, f5⟩ := q_head (s := s) (C := C) hH hLe hk
  have e0 : f_X3_readClause (cS s R rid (nI k) 0 C) = Option.bind (f_X3_expectWord (cS s R rid (nI k) 0 C) w) (fun s6 => bn2 (f_X3_readNumber s6) (fun x7 s8 => clN (sg (R 4) L k) x7 s8)) := by
    rw [e_clause, e_sign hr hL hRL (by omega), Option.bind_some, f1, Option.bind_some, if_pos f2]
  have m0 : ∀ x P1, f_X7_takesHead P (nI c) = some (x, P1) → f_X7_takesClause P (nI c) = (if x = 0 then some (0, P1) else bn2 (f_X7_takesNumber P1) (fun x3 P4 => (if x3 = 0 then some (0, P4) else (if inb (nI c) 60 = true then nb (up2 P4 22 (ix (nI c)) (P4 0 17)) (fun P6 => (if inb (nI c) 60 = true then (if 2 ≤ (P6 21 (ix (nI c))) then f_X7_takesClause_J54 P6 else bn2 (f_X7_takes P6 32) (fun x8 P9 => (if x8 = 0 then some (0, P9) else bn2 (f_X7_takesE P9 (nI c)) (fun x10 P11 => (if x10 = 0 then some (0, P11) else f_X7_takesClause_J54 P11))))) else none)) else none)))) := by
    intro x P1 h
    unfold f_X7_takesClause
    rw [h, bn2_w]
  rcases f5 with ⟨g1, g2⟩ | ⟨g1, g2, ⟨wn, wa, hW⟩, g3⟩
  · -- the word has a fault
    left
    have g2' := g2 (P 0 17) (nI (100 * f + u)) (P 0 27) (P 0 28) (P 24) (P 25) (P 26)
    rw [← hPd] at g2'
    obtain ⟨C', d1⟩ := clN_1 (s := s) (x := sg (R 4) L k) (x7 := 0) hH f3 c03 (by omega)
    refine ⟨p1, C', _, f3, ?_, (m0 _ _ g2').trans (if_pos rfl), rfl, FQ_d (c := c) (by omega) (fun d a1 _ _ => u_c a1) (fun d i hi => u_ne (Or.inr hi)) (fun _ _ => rfl) (fun _ _ => rfl)⟩
    rw [e0, g1, Option.bind_some, e_num1 hr, bn2_w, d1]
  · have g3' := g3 (P 0 17) (nI (100 * f + u)) (P 0 27) (P 0 28) (P 24) (P 25) (P 26)
    rw [← hPd] at g3'
    have hH1 : RDH R (up2 P 21 c (nI qk)) rid L (100 * f) c := RDH_up hH (by decide) (by decide)
    obtain ⟨z', n1, n2⟩ := m_num (P := up2 P 21 c (nI qk)) (z := P 0 17) (q := nI (100 * f + u)) (h := P 0 27) (l := P 0 28) (g4 := P 24) (g5 := P 25) (g6 := P 26) hL hH1.2.2.2.2.2.2.1 f3
    have n0 := e_num (s := s) (C := C) hr hL hRL f3
    rw [← hH1.2.2.2.2.2.2.2.1] at n1 n2
    have hV := nuV_le (T := R 4) (L := L) (k := p1)
    obtain ⟨hE1, hE2⟩ := nuE_le (T := R 4) (L := L) f3
    rw [e0, g1, Option.bind_some, n0, bn2_w, m0 _ _ g3', if_neg (show ¬ (1 : Int32) = 0 by decide), n1, bn2_w]
    generalize nuV (R 4) L p1 = v at *
    generalize nuE (R 4) L p1 = p2 at *
    by_cases cz : p2 = p1
    · -- no number
      left
      subst cz
      rw [if_pos rfl, if_pos rfl, if_pos rfl]
      obtain ⟨C', d1⟩ := clN_1 (s := s) (x := sg (R 4) L k) (x7 := nI v) hH f3 c03 (by omega)
      exact ⟨p2, C', _, f3, d1, rfl, rfl, FQ_d (c := c) (by omega) (fun d a1 _ _ => u_c a1) (fun d i hi => u_ne (Or.inr hi)) (fun _ _ => rfl) (fun _ _ => rfl)⟩
    · have n3 := n2 cz
      subst n3
      rw [if_neg cz, if_neg cz, if_neg (show ¬ (1 : Int32) = 0 by decide), if_pos hc60, hcx, nb_w]
      show _ ∨ _
      have hup : up2 (dS (up2 P 21 c (nI qk)) (nI p2) (nI v) (nI (100 * f + u)) (P 0 27) (P 0 28) (P 24) (P 25) (P 26)) 22 c (dS (up2 P 21 c (nI qk)) (nI p2) (nI v) (nI (100 * f + u)) (P 0 27) (P 0 28) (P 24) (P 25) (P 26) 0 17) = dS (up2 (up2 P 21 c (nI qk)) 22 c (nI v)) (nI p2) (nI v) (nI (100 * f + u)) (P 0 27) (P 0 28) (P 24) (P 25) (P 26) := dS_up (by decide) (by decide) (by decide) (by decide)
      rw [hup, if_pos hc60]
      generalize hP2 : up2 (up2 P 21 c (nI qk)) 22 c (nI v) = P2
      have p21 : ∀ d, d ≠ 21 → d ≠ 22 → P2 d = P d := fun d a b => by rw [← hP2, u_c b, u_c a]
      have p2i : ∀ d i, i ≠ c → P2 d i = P d i := fun d i a => by rw [← hP2, u_ne (Or.inr a), u_ne (Or.inr a)]
      have p2a : P2 21 c = nI qk := by rw [← hP2, u_c (by decide), u_s]
      have p2b : P2 22 c = nI v := by rw [← hP2, u_s]
      have hH2 : RDH R P2 rid L (100 * f) c := by rw [← hP2]; exact RDH_up (RDH_up hH (by decide) (by decide)) (by decide) (by decide)
      rw [show dS P2 (nI p2) (nI v) (nI (100 * f + u)) (P 0 27) (P 0 28) (P 24) (P 25) (P 26) 21 c = nI qk from p2a]
      by_cases cq : 2 ≤ qk
      · -- a number's clause
        right
        rw [if_pos (show (2 : Int32) ≤ nI qk from nI_le (a := 2) cq (by omega))]
        have hi : ∃ i, ((sg (R 4) L k = 102 ∧ i = 2) ∨ (sg (R 4) L k = 109 ∧ i = 0) ∨ (sg (R 4) L k = 115 ∧ i = 1)) ∧ i + 2 = (if qk = 2 then 2 else if qk = 3 then 3 else 4) ∧ i < 3 := by
          rcases hW with ⟨e, -, -, -, rfl⟩ | ⟨e, -, -, -, rfl⟩ | ⟨e, -, -, -, rfl⟩ | ⟨e, -, -, -, rfl⟩ | ⟨e, -, -, -, rfl⟩
          · exact absurd cq (by decide)
          · exact ⟨0, Or.inr (Or.inl ⟨e, rfl⟩), rfl, by omega⟩
          · exact ⟨1, Or.inr (Or.inr ⟨e, rfl⟩), rfl, by omega⟩
          · exact ⟨2, Or.inl ⟨e, rfl⟩, rfl, by omega⟩
          · exact absurd cq (by decide)
        obtain ⟨i, hi1, hi2, hi3⟩ := hi
        have hqi : qk = i + 2 := by
          rcases (show qk = 2 ∨ qk = 3 ∨ qk = 4 by omega) with e | e | e <;> subst e <;> simp at hi2 <;> omega
        have hp2n : pcS (P2 21) (10 * f) (n + 1) = pcS (P 21) (10 * f) n := by
          show (if 1 < P2 21 (10 * f + n) then pcS (P2 21) (10 * f) n else _) = _
          rw [hc, p2a, if_pos (show (1 : Int32) < nI qk from nI_lt (a := 1) (by omega) (by omega)), pcS_c n (fun j hj => p2i 21 _ (by omega))]
        refine ⟨p2, u, up2 C 0 i (nI v), _, clN_set hH hi1, rfl, FQ_d (c := c) (by omega) (fun d a1 a2 _ => p21 d a1 a2) p2i (fun _ _ => rfl) (fun _ _ => rfl), hE2, rfl, rfl, ?_, by omega, en, ?_, ?_, ?_⟩
        · rw [u_ne (Or.inr (by omega))]
          exact r4
        · show CLS _ (P2 21) (P2 22) (P2 23) (P 24) (P 25) _ _ _ _
          have ne : ∀ x : Nat, x ≤ 4 → x ≠ qk → ¬ nI qk = nI x := fun x hx h e => h (nIeq e (by omega) (by omega)).symm
          refine CLS_s hC hn hen (fun j hj => p2i 21 _ (by omega)) (fun j hj => p2i 22 _ (by omega)) (fun j hj => p2i 23 _ (by omega)) (fun _ _ => rfl) (fun _ _ => rfl) ?_ ?_ (fun _ _ => rfl) ?_ (fun j hj => ⟨congrFun (u_c (by decide)) j, congrFun (u_c (by decide)) j⟩) (fun j hj => ⟨congrFun (u_c (by decide)) j, congrFun (u_c (by decide)) j, congrFun (u_c (by decide)) j⟩) ?_ ?_ ?_ ?_
          · rw [hc, p2a]
            exact ⟨qk, f4, rfl⟩
          · rw [hc, p2b]
            exact ⟨v, hV, rfl⟩
          · rw [u_ne (Or.inr (by omega)), hp2n]
            exact c03
          · rw [hc, p2a]
            exact fun w => absurd (show (1 : Int32) < nI qk from nI_lt (a := 1) (by omega) (by omega)) w
          · rw [hc, p2a, p2b]
            by_cases ci : i = 0
            · subst ci
              rw [u_s, if_pos (by rw [hqi]; rfl)]
            · rw [u_ne (Or.inr (fun w => ci w.symm)), if_neg (show ¬ nI qk = 2 from ne 2 (by omega) (by omega))]
          · rw [hc, p2a, p2b]
            by_cases ci : i = 1
            · subst ci
              rw [u_s, if_pos (by rw [hqi]; rfl)]
            · rw [u_ne (Or.inr (fun w => ci w.symm)), if_neg (show ¬ nI qk = 3 from ne 3 (by omega) (by omega))]
          · rw [hc, p2a, p2b]
            by_cases ci : i = 2
            · subst ci
              rw [u_s, if_pos (by rw [hqi]; rfl)]
            · rw [u_ne (Or.inr (fun w => ci w.symm)), if_neg (show ¬ nI qk = 4 from ne 4 (by omega) (by omega))]
        · rw [show dS P2 (nI p2) (nI v) (nI (100 * f + u)) (P 0 27) (P 0 28) (P 24) (P 25) (P 26) 21 = P2 21 from rfl, hp2n]
          exact hen
        · rw [show dS P2 (nI p2) (nI v) (nI (100 * f + u)) (P 0 27) (P 0 28) (P 24) (P 25) (P 26) 21 = P2 21 from rfl, hp2n]
          exact heu
      · -- a price
        rw [if_neg (show ¬ (2 : Int32) ≤ nI qk from nI_ge (b := 2) (by omega) (by omega))]
        have hnx : ¬ sg (R 4) L k = 102 ∧ ¬ sg (R 4) L k = 109 ∧ ¬ sg (R 4) L k = 115 ∧ (sg (R 4) L k = 100 ↔ qk = 0) := by
          rcases hW with ⟨e, -, -, -, rfl⟩ | ⟨e, -, -, -, rfl⟩ | ⟨e, -, -, -, rfl⟩ | ⟨e, -, -, -, rfl⟩ | ⟨e, -, -, -, rfl⟩
          · rw [e]; decide
          · exact absurd (by decide) cq
          · exact absurd (by decide) cq
          · exact absurd (by decide) cq
          · rw [e]; decide
        obtain ⟨x1, x2, x3, x4⟩ := hnx
        have hx := e_expect (s := s) (fl := 0) (C := C) (a := 32) (k := p2) hr hL hRL (by omega)
        have mx := m_takes (P := P2) (z := nI v) (q := nI (100 * f + u)) (h := P 0 27) (l := P 0 28) (g4 := P 24) (g5 := P 25) (g6 := P 26) (a := 32) (k := p2) hL hH2.2.2.2.2.2.2.1 (by omega)
        rw [← hH2.2.2.2.2.2.2.2.1] at mx
        rw [mx]
        by_cases cb : sg (R 4) L p2 = 32
        · rw [if_pos ⟨rfl, cb⟩] at hx
          rw [if_pos cb, bn2_w, if_neg (show ¬ (1 : Int32) = 0 by decide)]
          have hp3 : p2 < L := sg_lt2 (T := R 4) (by rw [cb]; decide)
          have hE : f_X7_takesE (dS P2 (nI (p2 + 1)) (nI v) (nI (100 * f + u)) (P 0 27) (P 0 28) (P 24) (P 25) (P 26)) (nI c) = f_X7_takesE_H22 (dS (up2 P2 23 c (nI (100 * f + u))) (nI (p2 + 1)) (nI v) (nI (100 * f + u)) 0 0 (P 24) (P 25) (P 26)) (nI c) 1 := by
            unfold f_X7_takesE
            rw [nb_w, dS_27, nb_w, dS_28, if_pos hc60, hcx]
            show nb (up2 (dS P2 (nI (p2 + 1)) (nI v) (nI (100 * f + u)) 0 0 (P 24) (P 25) (P 26)) 23 c (nI (100 * f + u))) _ = _
            rw [dS_up (by decide) (by decide) (by decide) (by decide), nb_w]
          rw [hE]
          generalize hP3 : up2 P2 23 c (nI (100 * f + u)) = P3
          have p3a : ∀ d, d ≠ 21 → d ≠ 22 → d ≠ 23 → P3 d = P d := fun d a b e => by rw [← hP3, u_c e, p21 d a b]
          have p3i : ∀ d i, i ≠ c → P3 d i = P d i := fun d i a => by rw [← hP3, u_ne (Or.inr a), p2i d i a]
          have p321 : P3 21 c = nI qk := by rw [← hP3, u_c (by decide), p2a]
          have p322 : P3 22 c = nI v := by rw [← hP3, u_c (by decide), p2b]
          have p323 : P3 23 c = nI (100 * f + u) := by rw [← hP3, u_s]
          have hH3 : RDH R P3 rid L (100 * f) c := by rw [← hP3]; exact RDH_up hH2 (by decide) (by decide)
          rcases q_E (s := s) (z := nI v) (g4 := P 24) (g5 := P 25) (g6 := P 26) (k := p2 + 1) hH3 hp3 r4 (by omega) with ⟨p', C', P', b1, b2, b3, b4, b5, b6⟩ | ⟨p', E, z', g4', g6', b1, b2, b3, b4, b5, b6, b7, b8, b9, d0⟩
          · left
            obtain ⟨C'', d1⟩ := e_J112G (s := s) (R := R) (rid := rid) (p := nI p') (fl := 1) (x := if sg (R 4) L k = 100 then nI v else -nI v) (b3.2.trans c03) (by omega)
            obtain ⟨y1, y2, y3, y4, y5, y6, y7, rfl, y9, y8⟩ := b5
            refine ⟨p', C'', dS P3 (nI p') y1 y2 y3 y4 y5 y6 y7, b2, (clN_pr hH x1 x2 x3 hx b4).trans d1, ?_, rfl, FQ_d (c := c) (by omega) p3a p3i y8 y9⟩
            rw [b6, bn2_w, if_pos rfl]
          · right
            have hm : pcS (P 21) (10 * f) n < 10 := by omega
            have l03 : addL C u E 0 3 = nI (pcS (P 21) (10 * f) n) := (addL_0n (by decide)).trans c03
            have l04 : addL C u E 0 4 = nI (u + E.length) := addL_04 r4
            have d1 := e_J112 (s := s) (p := nI p') (fl := 0) (x := if sg (R 4) L k = 100 then nI v else -nI v) hH l03 hm
            have hpn : pcS (P3 21) (10 * f) n = pcS (P 21) (10 * f) n := pcS_c n (fun j hj => p3i 21 _ (by omega))
            have hp3n : pcS (P3 21) (10 * f) (n + 1) = pcS (P 21) (10 * f) n + 1 := by
              show (if 1 < P3 21 (10 * f + n) then pcS (P3 21) (10 * f) n else pcS (P3 21) (10 * f) n + 1) = _
              rw [hc, p321, if_neg (show ¬ (1 : Int32) < nI qk from nI_nlt (a := 1) (b := qk) (by omega) (by omega)), hpn]
            refine ⟨p', u + E.length, _, dS P3 (nI p') z' (nI (100 * f + u + E.length)) 0 0 g4' (putL (P 25) (100 * f + u) E) g6', (clN_pr hH x1 x2 x3 hx b5).trans d1, ?_, FQ_d (c := c) (by omega) p3a p3i (fun i hi => b9 i hi) (fun i hi => putL_lo (by omega)), b2, rfl, ?_, ?_, by omega, fun j => if j ≤ pcS (P 21) (10 * f) n then en j else u + E.length, ?_, ?_, ?_⟩
            · rw [d0, bn2_w, if_neg (show ¬ (1 : Int32) = 0 by decide)]
              rfl
            · show nI (100 * f + u + E.length) = _
              rw [Nat.add_assoc]
            · show prc (addL C u E) (pcS (P 21) (10 * f) n) _ 0 4 = _
              unfold prc
              rw [u_ne (Or.inr (by decide)), u_c (by decide), u_c (by decide)]
              exact l04
            · show CLS _ (P3 21) (P3 22) (P3 23) g4' (putL (P 25) (100 * f + u) E) _ _ _ _
              have ne : ∀ x : Nat, 2 ≤ x → x ≤ 4 → ¬ nI qk = nI x := fun x hx hx2 e => by
                have := nIeq e (by omega) (by omega)
                omega
              have pk : ∀ (d j : Nat), d ≠ 0 → d ≠ 6 → d ≠ 7 → prc (addL C u E) (pcS (P 21) (10 * f) n) (if sg (R 4) L k = 100 then nI v else -nI v) d j = addL C u E d j := fun d j a b e => by
                unfold prc
                rw [u_c a, u_c e, u_c b]
              have p0 : ∀ j, j ≠ 3 → prc (addL C u E) (pcS (P 21) (10 * f) n) (if sg (R 4) L k = 100 then nI v else -nI v) 0 j = addL C u E 0 j := fun j a => by
                unfold prc
                rw [u_ne (Or.inr a), u_c (by decide), u_c (by decide)]
              refine CLS_s hC hn hen (fun j hj => p3i 21 _ (by omega)) (fun j hj => p3i 22 _ (by omega)) (fun j hj => p3i 23 _ (by omega)) (fun j hj => b9 _ (by omega)) (fun j hj => putL_lo hj) ?_ ?_ (fun j hj => if_pos hj) ?_ (fun j hj => ?_) (fun j hj => ?_) (fun _ => ?_) ?_ ?_ ?_
              · rw [hc, p321]
                exact ⟨qk, f4, rfl⟩
              · rw [hc, p322]
                exact ⟨v, hV, rfl⟩
              · rw [hp3n]
                unfold prc
                rw [u_s]
              · unfold prc
                refine ⟨?_, ?_⟩
                · rw [u_c (by decide), u_c (by decide), u_ne (Or.inr (by omega)), addL_n (by decide) (by decide) (by decide) (by decide)]
                · rw [u_c (by decide), u_ne (Or.inr (by omega)), u_c (by decide), addL_n (by decide) (by decide) (by decide) (by decide)]
              · rw [pk 8 j (by decide) (by decide) (by decide), pk 9 j (by decide) (by decide) (by decide), pk 10 j (by decide) (by decide) (by decide), addL_lo (by decide) hj, addL_lo (by decide) hj, addL_lo (by decide) hj]
                exact ⟨rfl, rfl, rfl⟩
              · rw [if_pos (Nat.le_refl _), if_neg (show ¬ pcS (P 21) (10 * f) n + 1 ≤ pcS (P 21) (10 * f) n by omega), hc]
                rw [heu]
                obtain ⟨t1, t2⟩ := hOK_S (tk := fun i => putL (P 25) (100 * f + u) E (100 * f + u + i)) (b4 0 20 (by omega)) (fun i hi => putL_in hi)
                refine ⟨by omega, by omega, p323, ?_, ?_, ?_, fun i hi => ?_, ?_⟩
                · rw [b8, Nat.add_assoc]
                · rw [p321, p322]
                  unfold prc
                  rw [u_c (by decide), u_c (by decide), u_s]
                  by_cases cc : qk = 0
                  · rw [if_pos (x4.mpr cc), if_pos (by rw [cc]; rfl)]
                  · rw [if_neg (fun w => cc (x4.mp w)), if_neg (nI_ne0 (by omega) (by omega))]
                · unfold prc
                  rw [u_c (by decide), u_s]
                  exact l04
                · have hi' : i < E.length := by omega
                  rw [pk 8 _ (by decide) (by decide) (by decide), pk 9 _ (by decide) (by decide) (by decide), pk 10 _ (by decide) (by decide) (by decide), (addL_in hi').1, (addL_in hi').2.1, (addL_in hi').2.2, putL_in hi']
                  have := (t2 i hi').1
                  rw [putL_in hi'] at this
                  exact tokR_c this
                · rw [show u + E.length - u = E.length by omega]
                  exact ⟨t1, fun j hj => (t2 j hj).2⟩
              · rw [p0 0 (by decide), addL_0n (by decide), hc, p321, if_neg (show ¬ nI qk = 2 from ne 2 (by omega) (by omega))]
              · rw [p0 1 (by decide), addL_0n (by decide), hc, p321, if_neg (show ¬ nI qk = 3 from ne 3 (by omega) (by omega))]
              · rw [p0 2 (by decide), addL_0n (by decide), hc, p321, if_neg (show ¬ nI qk = 4 from ne 4 (by omega) (by omega))]
            · intro j hj
              show (if j ≤ pcS (P 21) (10 * f) n then en j else u + E.length) ≤ u + E.length
              split
              · have := hen j (by assumption)
                omega
              · omega
            · show (if pcS (P3 21) (10 * f) (n + 1) ≤ pcS (P 21) (10 * f) n then en (pcS (P3 21) (10 * f) (n + 1)) else u + E.length) = u + E.length
              rw [hp3n, if_neg (by omega)]
        · left
          rw [if_neg (fun w => cb w.2)] at hx
          rw [if_neg cb, bn2_w, if_pos rfl]
          obtain ⟨C', d1⟩ := e_J112G (s := s) (R := R) (rid := rid) (p := nI p2) (fl := 1) (x := if sg (R 4) L k = 100 then nI v else -nI v) c03 (by omega)
          exact ⟨p2, C', _, hE2, (clN_pr hH x1 x2 x3 hx (e_eith1 hH hE2)).trans d1, rfl, rfl, FQ_d (c := c) (by omega) (fun d a1 a2 _ => p21 d a1 a2) p2i (fun _ _ => rfl) (fun _ _ => rfl)⟩
end Cl
