/-! the pure side U: a clause: the class's pieces -/
section Cl
variable {s : Mm} {R P C C0 C' : Pm} {rid L tb v1 : Nat} {z l p q h fl x x7 : Int32} {g4 g5 g6 : Nat → Int32}
/-- the class: a number where there is a fault already -/
theorem e_num1 {k : Nat} (hr : rid ≠ 6) : f_X3_readNumber (cS s R rid (nI k) 1 C) = some (0, cS s R rid (nI k) 1 C) := by
  have hf : (cS s R rid (nI k) 1 C) 6 0 2 = 1 := by rw [cS_6 hr]; rfl
  unfold f_X3_readNumber f_X3_readNumber_H4
  rw [iter_end (r := (0, 0, cS s R rid (nI k) 1 C)) (by decide) (by
    show f_X3_readNumber_B4 0 0 (cS s R rid (nI k) 1 C) = _
    unfold f_X3_readNumber_B4
    rw [if_neg (show ¬ (2 : Int32) ≤ 0 by decide), hf, if_neg (show ¬ (1 : Int32) = 0 by decide)]), bn3_w]
  unfold f_X3_readNumber_J63 f_X3_readNumber_J75 f_X3_readNumber_J80
  rw [hf, if_neg (show ¬ (1 : Int32) = 0 by decide), if_pos (show (1 : Int32) = 0 ∨ (1 : Int32) = 1 from Or.inr rfl), nb_w, cS_fl hr]
theorem e_part1 {n k : Nat} (hr : rid ≠ 6) : f_X3_readPart (n + 1) (cS s R rid (nI k) 1 C) x = some (cS s R rid (nI k) 1 C) := by
  have hf : (cS s R rid (nI k) 1 C) 6 0 2 = 1 := by rw [cS_6 hr]; rfl
  show f_X3_readPartS (f_X3_readPart n) (cS s R rid (nI k) 1 C) x = _
  unfold f_X3_readPartS
  rw [hf, if_neg (show ¬ (1 : Int32) = 0 by decide)]
/-- the class: an E where there is a fault already -/
theorem e_eith1 {k : Nat} (hH : RDH R P rid L tb v1) (hk : k ≤ L) : f_X3_readEither (f_X3_readPart 40) (cS s R rid (nI k) 1 C) 0 = some (cS s R rid (nI k) 1 C) := by
  have hr := hH.1
  have hf : (cS s R rid (nI k) 1 C) 6 0 2 = 1 := by rw [cS_6 hr]; rfl
  have h22 : iter (fun t => f_X3_readEither_B22 (f_X3_readPart 40) 0 0 t.1 t.2) 200 (0, cS s R rid (nI k) 1 C) = some (cS s R rid (nI k) 1 C) := by
    refine iter_end (by decide) ?_
    show f_X3_readEither_B22 (f_X3_readPart 40) 0 0 0 (cS s R rid (nI k) 1 C) = _
    unfold f_X3_readEither_B22
    rw [if_neg (show ¬ (100 : Int32) ≤ 0 by decide), hf, if_neg (show ¬ (1 : Int32) = 0 by decide)]
  have h1 : f_X3_readEither_B4 (f_X3_readPart 40) 0 1 0 (cS s R rid (nI k) 1 C) = some (.inl (0, 1, cS s R rid (nI k) 1 C)) := by
    unfold f_X3_readEither_B4
    rw [if_neg (show ¬ (100 : Int32) ≤ 0 by decide), if_neg (show ¬ (1 : Int32) = 0 by decide), e_part1 hr, Option.bind_some]
    unfold f_X3_readEither_H22
    rw [h22, Option.bind_some, show (0 : Int32) = nI 0 from rfl, e_J76 hH (by omega), if_pos rfl, e_J90 hH hk, if_neg (fun w => absurd w.1 (by decide))]
    rfl
  have h2 : f_X3_readEither_B4 (f_X3_readPart 40) 0 0 1 (cS s R rid (nI k) 1 C) = some (.inr (cS s R rid (nI k) 1 C)) := by
    unfold f_X3_readEither_B4
    rw [if_neg (show ¬ (100 : Int32) ≤ 1 by decide), if_pos rfl]
  unfold f_X3_readEither f_X3_readEither_H4
  rw [iter_go (s' := (0, 1, cS s R rid (nI k) 1 C)) (by decide) h1, iter_end (r := cS s R rid (nI k) 1 C) (by decide) h2]
  rfl
/-- a price added -/
def prc (C : Pm) (m : Nat) (x : Int32) : Pm := up2 (up2 (up2 C 6 m x) 7 m (C 0 4)) 0 3 (nI (m + 1))
theorem e_price {m : Nat} (h : C 0 3 = nI m) (hm : m < 10) : f_X1_addPrice C x = some (prc C m x) := by
  have h1 : inb (nI m) 10 = true := inb_nI hm (by decide)
  have h2 : ix (nI m) = m := ix_nI (by omega)
  unfold f_X1_addPrice
  rw [h, if_neg (show ¬ (10 : Int32) ≤ nI m from nI_ge (b := 10) hm (by omega)), if_pos h1, nb_w, h2]
  show (if inb (C 0 3) 10 = true then nb (up2 (up2 C 6 m x) 7 (ix (C 0 3)) (C 0 4)) (fun P4 => nb (up2 P4 0 3 ((P4 0 3) + 1)) (fun P5 => some P5)) else none) = _
  rw [h, if_pos h1, nb_w, nb_w, h2]
  show some (up2 (up2 (up2 C 6 m x) 7 m (C 0 4)) 0 3 (C 0 3 + 1)) = _
  rw [h, nI_1]
  rfl
theorem e_priceG {m : Nat} (h : C 0 3 = nI m) (hm : m ≤ 10) : ∃ C', f_X1_addPrice C x = some C' := by
  by_cases c : m = 10
  · refine ⟨C, ?_⟩
    unfold f_X1_addPrice
    rw [h, c, if_pos (show (10 : Int32) ≤ nI 10 from Int32.le_refl _)]
  · exact ⟨_, e_price h (by omega)⟩
/-- a clause behind its number; behind its word -/
def clN (x3 x7 : Int32) (s8 : Mm) : Option Mm := (if x3 = 102 then (if kdo (ix ((s8 6) 0 4)) = 1 then nb (setO s8 (ix ((s8 6) 0 4)) (up2 (s8 (ix ((s8 6) 0 4))) 0 2 x7)) (fun s10 => some s10) else none) else (if x3 = 109 then (if kdo (ix ((s8 6) 0 4)) = 1 then nb (setO s8 (ix ((s8 6) 0 4)) (up2 (s8 (ix ((s8 6) 0 4))) 0 0 x7)) (fun s12 => some s12) else none) else (if x3 = 115 then (if kdo (ix ((s8 6) 0 4)) = 1 then nb (setO s8 (ix ((s8 6) 0 4)) (up2 (s8 (ix ((s8 6) 0 4))) 0 1 x7)) (fun s14 => some s14) else none) else Option.bind (f_X3_expect s8 32) (fun s15 => Option.bind (f_X3_readEither (f_X3_readPart 40) s15 0) (fun s16 => (if kdo (ix ((s16 6) 0 4)) = 1 then (if x3 = 100 then f_X3_readClause_J112 s16 x7 (ix ((s16 6) 0 4)) else f_X3_readClause_J112 s16 (-x7) (ix ((s16 6) 0 4))) else none))))))
theorem e_clause {st : Mm} : f_X3_readClause st = Option.bind (f_X3_sign st) (fun x3 => Option.bind (f_X3_wordOf x3) (fun x4 => (if x4 < 7 then Option.bind (f_X3_expectWord st x4) (fun s6 => bn2 (f_X3_readNumber s6) (fun x7 s8 => clN x3 x7 s8)) else none))) := rfl
theorem clN_set {i : Nat} (hH : RDH R P rid L tb v1) (hx : (x = 102 ∧ i = 2) ∨ (x = 109 ∧ i = 0) ∨ (x = 115 ∧ i = 1)) : clN x x7 (cS s R rid p fl C) = some (cS s R rid p fl (up2 C 0 i x7)) := by
  obtain ⟨hr, hlt, hkd, hL, hR, hR4, hP, hT, htb, hv1⟩ := hH
  unfold clN
  rw [cS_ct hr hR4 hlt, if_pos hkd, cS_r]
  rcases hx with ⟨rfl, rfl⟩ | ⟨rfl, rfl⟩ | ⟨rfl, rfl⟩
  · rw [if_pos rfl, nb_w, cS_wr]
  · rw [if_neg (by decide), if_pos rfl, if_pos hkd, nb_w, cS_wr]
  · rw [if_neg (by decide), if_neg (by decide), if_pos rfl, if_pos hkd, nb_w, cS_wr]
/-- behind its E -/
theorem e_J112 {m : Nat} (hH : RDH R P rid L tb v1) (h : C 0 3 = nI m) (hm : m < 10) : f_X3_readClause_J112 (cS s R rid p fl C) x rid = some (cS s R rid p fl (prc C m x)) := by
  unfold f_X3_readClause_J112
  rw [cS_r, e_price h hm, Option.bind_some, nb_w, cS_wr]
theorem e_J112G {m : Nat} (h : C 0 3 = nI m) (hm : m ≤ 10) : ∃ C', f_X3_readClause_J112 (cS s R rid p fl C) x rid = some (cS s R rid p fl C') := by
  obtain ⟨C', e⟩ := e_priceG (x := x) h hm
  refine ⟨C', ?_⟩
  unfold f_X3_readClause_J112
  rw [cS_r, e, Option.bind_some, nb_w, cS_wr]
theorem clN_pr (hH : RDH R P rid L tb v1) (h1 : ¬ x = 102) (h2 : ¬ x = 109) (h3 : ¬ x = 115) {st st' : Mm} (e1 : f_X3_expect st 32 = some st') (e2 : f_X3_readEither (f_X3_readPart 40) st' 0 = some (cS s R rid p fl C)) : clN x x7 st = f_X3_readClause_J112 (cS s R rid p fl C) (if x = 100 then x7 else -x7) rid := by
  obtain ⟨hr, hlt, hkd, hL, hR, hR4, hP, hT, htb, hv1⟩ := hH
  unfold clN
  rw [if_neg h1, if_neg h2, if_neg h3, e1, Option.bind_some, e2, Option.bind_some, cS_ct hr hR4 hlt, if_pos hkd]
  split <;> rfl
/-- behind a fault nothing is read -/
theorem clN_1 {k m : Nat} (hH : RDH R P rid L tb v1) (hk : k ≤ L) (h : C 0 3 = nI m) (hm : m ≤ 10) : ∃ C', clN x x7 (cS s R rid (nI k) 1 C) = some (cS s R rid (nI k) 1 C') := by
  by_cases h1 : x = 102
  · exact ⟨_, clN_set hH (Or.inl ⟨h1, rfl⟩)⟩
  by_cases h2 : x = 109
  · exact ⟨_, clN_set hH (Or.inr (Or.inl ⟨h2, rfl⟩))⟩
  by_cases h3 : x = 115
  · exact ⟨_, clN_set hH (Or.inr (Or.inr ⟨h3, rfl⟩))⟩
  obtain ⟨C', e⟩ := e_J112G (s := s) (R := R) (rid := rid) (p := nI k) (fl := 1) (x := if x = 100 then x7 else -x7) h hm
  refine ⟨C', ?_⟩
  have hE : f_X3_expect (cS s R rid (nI k) 1 C) 32 = some (cS s R rid (nI k) 1 C) := by
    rw [e_expect hH.1 hH.2.2.2.1 hH.2.2.2.2.1 (by have := hH.2.2.2.1; omega), if_neg (fun w => absurd w.1 (by decide))]
  rw [clN_pr hH h1 h2 h3 hE (e_eith1 hH hk), e]
/-- the words: which, how long, where in the reference, its kind -/
def WRD (x : Int32) (w n a : Nat) (q : Nat) : Prop := (x = 99 ∧ w = 0 ∧ n = 5 ∧ a = 4 ∧ q = 1) ∨ (x = 109 ∧ w = 1 ∧ n = 4 ∧ a = 9 ∧ q = 2) ∨ (x = 115 ∧ w = 2 ∧ n = 6 ∧ a = 13 ∧ q = 3) ∨ (x = 102 ∧ w = 3 ∧ n = 4 ∧ a = 19 ∧ q = 4) ∨ (x = 100 ∧ w = 4 ∧ n = 4 ∧ a = 0 ∧ q = 0)
/-- the reference's letters -/
def LET (P : Pm) : Prop := ∀ x w n a q, WRD x w n a q → ∀ i, i < n → P 30 (a + i) = sChr w i
end Cl
