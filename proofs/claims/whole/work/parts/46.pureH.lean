/-! the pure side H: the text as it is read, on both sides -/
/-- the class's reader at p -/
def rdr (R : Pm) (p fl : Int32) : Pm := fun c => if c = 0 then (fun i => if i = 1 then p else if i = 2 then fl else R 0 i) else R c
/-- the class's memory while a country is read into rid -/
def cS (s : Mm) (R : Pm) (rid : Nat) (p fl : Int32) (C : Pm) : Mm := setO (setO s 6 (rdr R p fl)) rid C
/-- the reference while a country is read -/
def dS (P : Pm) (p z q h l : Int32) (g4 g5 g6 : Nat → Int32) : Pm := fun c => if c = 0 then (fun i => if i = 16 then p else if i = 17 then z else if i = 26 then q else if i = 27 then h else if i = 28 then l else P 0 i) else if c = 24 then g4 else if c = 25 then g5 else if c = 26 then g6 else P c
theorem iter_go {S ρ : Type} {body : S → Option (S ⊕ ρ)} {n : Nat} {s s' : S} (hn : 0 < n) (h : body s = some (.inl s')) : iter body n s = iter body (n - 1) s' := by
  obtain ⟨m, rfl⟩ : ∃ m, n = m + 1 := ⟨n - 1, by omega⟩
  rw [iter_s, h]
  rfl
theorem iter_end {S ρ : Type} {body : S → Option (S ⊕ ρ)} {n : Nat} {s : S} {r : ρ} (hn : 0 < n) (h : body s = some (.inr r)) : iter body n s = some r := by
  obtain ⟨m, rfl⟩ : ∃ m, n = m + 1 := ⟨n - 1, by omega⟩
  rw [iter_s, h]
section Rd
variable {s : Mm} {R P C C' : Pm} {rid L : Nat} {p p' fl z q h l x : Int32} {g4 g5 g6 : Nat → Int32} {j : Nat}
theorem rdr_p : up2 (rdr R p fl) 0 1 x = rdr R x fl := by
  funext c
  by_cases hc : c = 0
  · subst hc
    rw [up2_g, if_pos rfl]
    funext i
    rw [upd_g]
    unfold rdr
    rw [if_pos rfl, if_pos rfl]
    by_cases hi : i = 1
    · rw [if_pos hi, if_pos hi]
    · rw [if_neg hi, if_neg hi, if_neg hi]
  · rw [up2_g, if_neg hc]
    unfold rdr
    rw [if_neg hc, if_neg hc]
theorem rdr_f : up2 (rdr R p fl) 0 2 x = rdr R p x := by
  funext c
  by_cases hc : c = 0
  · subst hc
    rw [up2_g, if_pos rfl]
    funext i
    rw [upd_g]
    unfold rdr
    rw [if_pos rfl, if_pos rfl]
    by_cases hi : i = 2
    · subst hi
      rfl
    · rw [if_neg hi, if_neg hi, if_neg hi]
  · rw [up2_g, if_neg hc]
    unfold rdr
    rw [if_neg hc, if_neg hc]
theorem cS_6 (hr : rid ≠ 6) : cS s R rid p fl C 6 = rdr R p fl := by
  unfold cS
  rw [setO_n (fun e => hr e.symm), setO_s]
theorem cS_r : cS s R rid p fl C rid = C := setO_s
theorem cS_n {o : Nat} (h6 : o ≠ 6) (hr : o ≠ rid) : cS s R rid p fl C o = s o := by
  unfold cS
  rw [setO_n hr, setO_n h6]
theorem cS_w6 (hr : rid ≠ 6) {X : Pm} {p' fl' : Int32} (hX : X = rdr R p' fl') : setO (cS s R rid p fl C) 6 X = cS s R rid p' fl' C := by
  subst hX
  funext o
  by_cases h6 : o = 6
  · subst h6
    rw [setO_s, cS_6 hr]
  · rw [setO_n h6]
    by_cases hr2 : o = rid
    · subst hr2
      rw [cS_r, cS_r]
    · rw [cS_n h6 hr2, cS_n h6 hr2]
theorem cS_wr : setO (cS s R rid p fl C) rid C' = cS s R rid p fl C' := by
  funext o
  by_cases h : o = rid
  · subst h
    rw [setO_s, cS_r]
  · rw [setO_n h]
    unfold cS
    rw [setO_n h, setO_n h]
theorem dS_0 {i : Nat} : dS P p z q h l g4 g5 g6 0 i = if i = 16 then p else if i = 17 then z else if i = 26 then q else if i = 27 then h else if i = 28 then l else P 0 i := rfl
theorem dS_n {c : Nat} (h0 : c ≠ 0) (h4 : c ≠ 24) (h5 : c ≠ 25) (h6 : c ≠ 26) : dS P p z q h l g4 g5 g6 c = P c := by
  unfold dS
  rw [if_neg h0, if_neg h4, if_neg h5, if_neg h6]
theorem dS_w0 {i : Nat} {p' z' q' h' l' : Int32} (hi : ∀ k, (if k = i then x else dS P p z q h l g4 g5 g6 0 k) = dS P p' z' q' h' l' g4 g5 g6 0 k) : up2 (dS P p z q h l g4 g5 g6) 0 i x = dS P p' z' q' h' l' g4 g5 g6 := by
  funext c
  by_cases hc : c = 0
  · subst hc
    rw [up2_g, if_pos rfl]
    funext k
    rw [upd_g]
    exact hi k
  · rw [up2_g, if_neg hc]
    unfold dS
    rw [if_neg hc, if_neg hc]
theorem dS_16 : up2 (dS P p z q h l g4 g5 g6) 0 16 x = dS P x z q h l g4 g5 g6 := dS_w0 (fun k => by
  rw [dS_0, dS_0]
  by_cases hk : k = 16
  · rw [if_pos hk, if_pos hk]
  · rw [if_neg hk, if_neg hk, if_neg hk])
theorem dS_17 : up2 (dS P p z q h l g4 g5 g6) 0 17 x = dS P p x q h l g4 g5 g6 := dS_w0 (fun k => by
  rw [dS_0, dS_0]
  by_cases hk : k = 17
  · subst hk
    rfl
  · rw [if_neg hk, if_neg hk, if_neg hk])
theorem dS_26 : up2 (dS P p z q h l g4 g5 g6) 0 26 x = dS P p z x h l g4 g5 g6 := dS_w0 (fun k => by
  rw [dS_0, dS_0]
  by_cases hk : k = 26
  · subst hk
    rfl
  · rw [if_neg hk, if_neg hk, if_neg hk])
theorem dS_27 : up2 (dS P p z q h l g4 g5 g6) 0 27 x = dS P p z q x l g4 g5 g6 := dS_w0 (fun k => by
  rw [dS_0, dS_0]
  by_cases hk : k = 27
  · subst hk
    rfl
  · rw [if_neg hk, if_neg hk, if_neg hk])
theorem dS_28 : up2 (dS P p z q h l g4 g5 g6) 0 28 x = dS P p z q h x g4 g5 g6 := dS_w0 (fun k => by
  rw [dS_0, dS_0]
  by_cases hk : k = 28
  · subst hk
    rfl
  · rw [if_neg hk, if_neg hk, if_neg hk])
theorem dS_g4 : up2 (dS P p z q h l g4 g5 g6) 24 j x = dS P p z q h l (upd g4 j x) g5 g6 := by
  funext c
  by_cases hc : c = 24
  · subst hc
    rfl
  · rw [up2_g, if_neg hc]
    by_cases h0 : c = 0
    · subst h0
      rfl
    · unfold dS
      rw [if_neg h0, if_neg h0, if_neg hc, if_neg hc]
theorem dS_g5 : up2 (dS P p z q h l g4 g5 g6) 25 j x = dS P p z q h l g4 (upd g5 j x) g6 := by
  funext c
  by_cases hc : c = 25
  · subst hc
    rfl
  · rw [up2_g, if_neg hc]
    by_cases h0 : c = 0
    · subst h0
      rfl
    · unfold dS
      rw [if_neg h0, if_neg h0]
      by_cases h4 : c = 24
      · rw [if_pos h4, if_pos h4]
      · rw [if_neg h4, if_neg h4, if_neg hc, if_neg hc]
theorem dS_g6 : up2 (dS P p z q h l g4 g5 g6) 26 j x = dS P p z q h l g4 g5 (upd g6 j x) := by
  funext c
  by_cases hc : c = 26
  · subst hc
    rfl
  · rw [up2_g, if_neg hc]
    by_cases h0 : c = 0
    · subst h0
      rfl
    · unfold dS
      rw [if_neg h0, if_neg h0]
      by_cases h4 : c = 24
      · rw [if_pos h4, if_pos h4]
      · rw [if_neg h4, if_neg h4]
        by_cases h5 : c = 25
        · rw [if_pos h5, if_pos h5]
        · rw [if_neg h5, if_neg h5, if_neg hc, if_neg hc]
/-- the text: L signs of T -/
def sg (T : Nat → Int32) (L p : Nat) : Int32 := if L ≤ p then -1 else T p
theorem e_sign {k : Nat} (hr : rid ≠ 6) (hL : L ≤ 100) (hR : R 0 0 = nI L) (hk : k ≤ 100) : f_X3_sign (cS s R rid (nI k) fl C) = some (sg (R 4) L k) := by
  unfold f_X3_sign sg
  rw [cS_6 hr]
  show (if R 0 0 ≤ nI k then _ else if 100 ≤ nI k then _ else if inb (nI k) 100 = true then some (R 4 (ix (nI k))) else none) = _
  rw [hR]
  by_cases c : L ≤ k
  · rw [if_pos (nI_le c (by omega)), if_pos c]
  · rw [if_neg (nI_ge (by omega) (by omega)), if_neg c, if_neg (show ¬ (100 : Int32) ≤ nI k from nI_ge (b := 100) (by omega) (by omega)), if_pos (inb_nI (by omega) (by decide)), ix_nI (by omega)]
theorem m_next {k : Nat} (hL : L ≤ 100) (hP : P 0 15 = nI L) (hk : k ≤ 100) : f_X7_next (dS P (nI k) z q h l g4 g5 g6) = some (sg (P 19) L k) := by
  unfold f_X7_next sg
  show (if P 0 15 ≤ nI k then _ else if inb (nI k) 100 = true then some (P 19 (ix (nI k))) else none) = _
  rw [hP]
  by_cases c : L ≤ k
  · rw [if_pos (nI_le c (by omega)), if_pos c]
  · rw [if_neg (nI_ge (by omega) (by omega)), if_neg c, if_pos (inb_nI (by omega) (by decide)), ix_nI (by omega)]
/-- the class: a sign is expected -/
theorem e_expect {k : Nat} {a : Int32} (hr : rid ≠ 6) (hL : L ≤ 100) (hR : R 0 0 = nI L) (hk : k ≤ 100) : f_X3_expect (cS s R rid (nI k) fl C) a = some (if fl = 0 ∧ sg (R 4) L k = a then cS s R rid (nI (k + 1)) fl C else cS s R rid (nI k) 1 C) := by
  unfold f_X3_expect f_X3_expect_J15
  have e1 : setO (cS s R rid (nI k) fl C) 6 (up2 (rdr R (nI k) fl) 0 2 1) = cS s R rid (nI k) 1 C := cS_w6 hr rdr_f
  have e2 : setO (cS s R rid (nI k) fl C) 6 (up2 (rdr R (nI k) fl) 0 1 (nI k + 1)) = cS s R rid (nI (k + 1)) fl C := by
    rw [nI_1]
    exact cS_w6 hr rdr_p
  rw [cS_6 hr, nb_w, e1, e_sign hr hL hR hk, Option.bind_some, nb_w]
  show (if fl = 0 then (if sg (R 4) L k = a then some (setO (cS s R rid (nI k) fl C) 6 (up2 (rdr R (nI k) fl) 0 1 (nI k + 1))) else _) else _) = _
  rw [e2]
  by_cases c : fl = 0
  · rw [if_pos c]
    by_cases d : sg (R 4) L k = a
    · rw [if_pos d, if_pos ⟨c, d⟩]
    · rw [if_neg d, if_neg (fun w => d w.2)]
  · rw [if_neg c, if_neg (fun w => c w.1)]
/-- the reference: a sign is taken -/
theorem m_takes {k : Nat} {a : Int32} (hL : L ≤ 100) (hP : P 0 15 = nI L) (hk : k ≤ 100) : f_X7_takes (dS P (nI k) z q h l g4 g5 g6) a = some (if sg (P 19) L k = a then (1, dS P (nI (k + 1)) z q h l g4 g5 g6) else (0, dS P (nI k) z q h l g4 g5 g6)) := by
  unfold f_X7_takes
  have e2 : up2 (dS P (nI k) z q h l g4 g5 g6) 0 16 (nI k + 1) = dS P (nI (k + 1)) z q h l g4 g5 g6 := by rw [nI_1, dS_16]
  rw [m_next hL hP hk, Option.bind_some, nb_w]
  show (if sg (P 19) L k = a then some (1, up2 (dS P (nI k) z q h l g4 g5 g6) 0 16 (nI k + 1)) else _) = _
  rw [e2]
  by_cases d : sg (P 19) L k = a
  · rw [if_pos d, if_pos d]
  · rw [if_neg d, if_neg d]
/-- the class: a number; where it ends, whether there is none -/
def isDg (x : Int32) : Prop := ¬ x < 48 ∧ ¬ 57 < x
theorem isDg_r {x : Int32} (h : isDg x) : ∃ k, k ≤ 9 ∧ x = nI (48 + k) := by
  obtain ⟨k, hk, rfl⟩ := nI_of (x := x) (fun q => h.1 (Int32.lt_trans q (by decide)))
  have h1 : 48 ≤ k := by
    apply Decidable.byContradiction
    intro q
    exact h.1 (nI_lt (a := k) (b := 48) (by omega) (by omega))
  have h2 : k ≤ 57 := by
    apply Decidable.byContradiction
    intro q
    exact h.2 (nI_lt (a := 57) (b := k) (by omega) (by omega))
  exact ⟨k - 48, by omega, by congr 1; omega⟩
end Rd
/-- what a number at k is: its value, where it ends (there is none where it ends at once) -/
def nuV (T : Nat → Int32) (L k : Nat) : Nat := if sg T L k < 48 ∨ 57 < sg T L k then 0 else if sg T L (k + 1) < 48 ∨ 57 < sg T L (k + 1) then ix (sg T L k) - 48 else 10 * (ix (sg T L k) - 48) + (ix (sg T L (k + 1)) - 48)
def nuE (T : Nat → Int32) (L k : Nat) : Nat := if sg T L k < 48 ∨ 57 < sg T L k then k else if sg T L (k + 1) < 48 ∨ 57 < sg T L (k + 1) then k + 1 else k + 2
section Nu
variable {s : Mm} {R P C C' : Pm} {rid L : Nat} {p p' fl z q h l x : Int32} {g4 g5 g6 T : Nat → Int32} {j : Nat}
theorem sg_lt {k : Nat} (h : ¬ (sg T L k < 48 ∨ 57 < sg T L k)) : k < L := by
  apply Decidable.byContradiction
  intro c
  apply h
  unfold sg
  rw [if_pos (by omega)]
  exact Or.inl (by decide)
theorem nuE_le {k : Nat} (hk : k ≤ L) : k ≤ nuE T L k ∧ nuE T L k ≤ L := by
  unfold nuE
  split
  · exact ⟨Nat.le_refl _, hk⟩
  · have h1 := sg_lt (by assumption)
    split
    · exact ⟨by omega, by omega⟩
    · have h2 := sg_lt (by assumption)
      exact ⟨by omega, by omega⟩
theorem nuV_le {k : Nat} : nuV T L k ≤ 99 := by
  unfold nuV
  split
  · omega
  · rename_i h1
    obtain ⟨a, ha, ea⟩ := isDg_r (x := sg T L k) ⟨fun w => h1 (Or.inl w), fun w => h1 (Or.inr w)⟩
    split
    · rw [ea, ix_nI (by omega)]
      omega
    · rename_i h2
      obtain ⟨b, hb, eb⟩ := isDg_r (x := sg T L (k + 1)) ⟨fun w => h2 (Or.inl w), fun w => h2 (Or.inr w)⟩
      rw [ea, eb, ix_nI (by omega), ix_nI (by omega)]
      omega
theorem e_num {k : Nat} (hr : rid ≠ 6) (hL : L ≤ 100) (hR : R 0 0 = nI L) (hk : k ≤ L) : f_X3_readNumber (cS s R rid (nI k) 0 C) = some (nI (nuV (R 4) L k), cS s R rid (nI (nuE (R 4) L k)) (if nuE (R 4) L k = k then 1 else 0) C) := by
  have stop : ∀ (v n k' : Nat), k' ≤ L → n < 2 → (sg (R 4) L k' < 48 ∨ 57 < sg (R 4) L k') → f_X3_readNumber_B4 (nI v) (nI n) (cS s R rid (nI k') 0 C) = some (.inr (nI v, nI n, cS s R rid (nI k') 0 C)) := by
    intro v n k' hk' hn hs
    unfold f_X3_readNumber_B4
    rw [if_neg (show ¬ (2 : Int32) ≤ nI n from nI_ge (b := 2) hn (by omega)), cS_6 hr, e_sign hr hL hR (by omega)]
    show (if (0 : Int32) = 0 then (if sg (R 4) L k' < 48 then _ else (if 57 < sg (R 4) L k' then _ else _)) else _) = _
    rw [if_pos rfl]
    rcases hs with hs | hs
    · rw [if_pos hs]
    · by_cases c : sg (R 4) L k' < 48
      · rw [if_pos c]
      · rw [if_neg c, if_pos hs]
  have go : ∀ (v n k' : Nat), v < 100 → k' ≤ L → n < 2 → ¬ (sg (R 4) L k' < 48 ∨ 57 < sg (R 4) L k') → f_X3_readNumber_B4 (nI v) (nI n) (cS s R rid (nI k') 0 C) = some (.inl (nI (10 * v + (ix (sg (R 4) L k') - 48)), nI (n + 1), cS s R rid (nI (k' + 1)) 0 C)) := by
    intro v n k' hv hk' hn hs
    obtain ⟨a, ha, ea⟩ := isDg_r (x := sg (R 4) L k') ⟨fun w => hs (Or.inl w), fun w => hs (Or.inr w)⟩
    have e2 : setO (cS s R rid (nI k') 0 C) 6 (up2 (rdr R (nI k') 0) 0 1 (nI k' + 1)) = cS s R rid (nI (k' + 1)) 0 C := by
      rw [nI_1]
      exact cS_w6 hr rdr_p
    unfold f_X3_readNumber_B4
    rw [if_neg (show ¬ (2 : Int32) ≤ nI n from nI_ge (b := 2) hn (by omega)), cS_6 hr, e_sign hr hL hR (by omega)]
    show (if (0 : Int32) = 0 then (if sg (R 4) L k' < 48 then _ else (if 57 < sg (R 4) L k' then _ else some (Sum.inl (nI v * 10 + sg (R 4) L k' - 48, nI n + 1, setO (cS s R rid (nI k') 0 C) 6 (up2 (rdr R (nI k') 0) 0 1 (nI k' + 1)))))) else _) = _
    rw [if_pos rfl, if_neg (fun w => hs (Or.inl w)), if_neg (fun w => hs (Or.inr w)), e2, nI_1, ea, ix_nI (by omega), show (10 : Int32) = nI 10 from rfl, pk_mul, nI_add, show (48 : Int32) = nI 48 from rfl, pk_sub (by omega)]
    congr 4
    omega
  have fin : ∀ (v n k' : Nat), n ≤ 2 → f_X3_readNumber_J63 (cS s R rid (nI k') 0 C) (nI v) (nI n) = some (nI v, cS s R rid (nI k') (if n = 0 then 1 else 0) C) := by
    intro v n k' hn
    have e1 : ∀ w, setO (cS s R rid (nI k') 0 C) 6 (up2 (rdr R (nI k') 0) 0 2 w) = cS s R rid (nI k') w C := fun w => cS_w6 hr rdr_f
    unfold f_X3_readNumber_J63 f_X3_readNumber_J75 f_X3_readNumber_J80
    rw [cS_6 hr]
    show (if (0 : Int32) = 0 then (if nI n = 0 then (if (1 : Int32) = 0 ∨ (1 : Int32) = 1 then some (nI v, setO (cS s R rid (nI k') 0 C) 6 (up2 (rdr R (nI k') 0) 0 2 1)) else none) else (if (0 : Int32) = 0 ∨ (0 : Int32) = 1 then some (nI v, setO (cS s R rid (nI k') 0 C) 6 (up2 (rdr R (nI k') 0) 0 2 0)) else none)) else _) = _
    rw [if_pos rfl, e1, e1, if_pos (show (1 : Int32) = 0 ∨ (1 : Int32) = 1 from Or.inr rfl), if_pos (show (0 : Int32) = 0 ∨ (0 : Int32) = 1 from Or.inl rfl)]
    by_cases c : n = 0
    · subst c
      rw [if_pos (show nI 0 = 0 from rfl), if_pos rfl]
    · rw [if_neg (nI_ne0 (by omega) (by omega)), if_neg c]
  have two : ∀ (v k' : Nat), f_X3_readNumber_B4 (nI v) (nI 2) (cS s R rid (nI k') 0 C) = some (.inr (nI v, nI 2, cS s R rid (nI k') 0 C)) := by
    intro v k'
    unfold f_X3_readNumber_B4
    rw [if_pos (show (2 : Int32) ≤ nI 2 from Int32.le_refl _)]
  unfold f_X3_readNumber f_X3_readNumber_H4
  unfold nuV nuE
  by_cases c1 : sg (R 4) L k < 48 ∨ 57 < sg (R 4) L k
  · rw [if_pos c1, if_pos c1, if_pos rfl, iter_end (r := (nI 0, nI 0, cS s R rid (nI k) 0 C)) (by decide) (stop 0 0 k hk (by omega) c1), bn3_w, fin 0 0 k (by omega), if_pos rfl]
  · have hk1 := sg_lt c1
    obtain ⟨a, ha, ea⟩ := isDg_r (x := sg (R 4) L k) ⟨fun w => c1 (Or.inl w), fun w => c1 (Or.inr w)⟩
    have g1 := go 0 0 k (by omega) hk (by omega) c1
    rw [show 10 * 0 + (ix (sg (R 4) L k) - 48) = ix (sg (R 4) L k) - 48 by omega] at g1
    rw [if_neg c1, if_neg c1, iter_go (s' := (nI (ix (sg (R 4) L k) - 48), nI (0 + 1), cS s R rid (nI (k + 1)) 0 C)) (by decide) g1]
    by_cases c2 : sg (R 4) L (k + 1) < 48 ∨ 57 < sg (R 4) L (k + 1)
    · rw [if_pos c2, if_pos c2, if_neg (by omega), iter_end (r := (nI (ix (sg (R 4) L k) - 48), nI 1, cS s R rid (nI (k + 1)) 0 C)) (by decide) (stop _ 1 (k + 1) (by omega) (by omega) c2), bn3_w, fin _ 1 (k + 1) (by omega), if_neg (by omega)]
    · rw [if_neg c2, if_neg c2, if_neg (by omega), iter_go (s' := (nI (10 * (ix (sg (R 4) L k) - 48) + (ix (sg (R 4) L (k + 1)) - 48)), nI (1 + 1), cS s R rid (nI (k + 1 + 1)) 0 C)) (by decide) (go _ 1 (k + 1) (by rw [ea, ix_nI (by omega)]; omega) (by omega) (by omega) c2), iter_end (r := (nI (10 * (ix (sg (R 4) L k) - 48) + (ix (sg (R 4) L (k + 1)) - 48)), nI 2, cS s R rid (nI (k + 2)) 0 C)) (by decide) (two _ (k + 2)), bn3_w, fin _ 2 (k + 2) (by omega), if_neg (by omega)]
end Nu
