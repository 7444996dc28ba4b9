/-! the pure side 8: what is asked: on, lowest, first, mean -/
/-- is it within -/
def win (a b c : Int32) : Int32 := if a < b then 0 else if c < a then 0 else 1
theorem win_01 {a b c : Int32} : win a b c = 0 ∨ win a b c = 1 := by
  unfold win
  split
  · exact Or.inl rfl
  · split
    · exact Or.inl rfl
    · exact Or.inr rfl
theorem e_win {a b c : Int32} : f_X6_within a b c = some (win a b c) := by
  unfold f_X6_within win
  split
  · rfl
  · split <;> rfl
theorem m_win {P : Pm} {a b c : Int32} : f_X7_in P a b c = some (win a b c) := by
  unfold f_X7_in win
  split
  · rfl
  · split <;> rfl
theorem e_asked {a : Int32} : f_X6_askedDays a = some (win a 0 60) := by
  unfold f_X6_askedDays
  rw [e_win, Option.bind_some, if_pos win_01]
theorem m_isDays {P : Pm} {a : Int32} : f_X7_isDays P a = some (win a 0 60) := by
  unfold f_X7_isDays
  rw [m_win, Option.bind_some, if_pos win_01]
theorem e_known {s : Mm} {a : Int32} : f_X6_known s a = some (win a 0 (s 1 0 2 - 1)) := by
  unfold f_X6_known
  rw [e_win, Option.bind_some, if_pos win_01]
theorem m_isB {P : Pm} {a : Int32} : f_X7_isBorrower P a = some (win a 0 (P 0 1 - 1)) := by
  unfold f_X7_isBorrower
  rw [m_win, Option.bind_some, if_pos win_01]
theorem nIof {x : Int32} (h : ¬ x < 0) : ∃ k, k < 2 ^ 31 ∧ x = nI k := by
  have h0 : 0 ≤ x := Int32.not_lt.mp h
  have h1 : (0 : Int) ≤ x.toInt := by have := Int32.le_iff_toInt_le.mp h0; simpa using this
  have h2 := Int32.toInt_lt x
  refine ⟨x.toInt.toNat, by omega, Int32.toInt_inj.mp ?_⟩
  rw [nI_toInt (by omega)]
  omega
theorem win_r {a : Int32} {b c : Nat} (hc : c < 2 ^ 31) (hb : b ≤ c) (h : win a (nI b) (nI c) ≠ 0) : ∃ k, b ≤ k ∧ k ≤ c ∧ a = nI k := by
  unfold win at h
  by_cases h1 : a < nI b
  · rw [if_pos h1] at h
    exact absurd rfl h
  · rw [if_neg h1] at h
    by_cases h2 : nI c < a
    · rw [if_pos h2] at h
      exact absurd rfl h
    · have g1 := Int32.le_trans (nI_pos' (n := b) (by omega)) (Int32.not_lt.mp h1)
      obtain ⟨k, hk, rfl⟩ := nIof (Int32.not_lt.mpr g1)
      refine ⟨k, ?_, ?_, rfl⟩
      · apply Decidable.byContradiction
        intro q
        exact h1 (nI_lt (by omega) (by omega))
      · apply Decidable.byContradiction
        intro q
        exact h2 (nI_lt (by omega) (by omega))
theorem win_y {k b c : Nat} (hc : c < 2 ^ 31) (h1 : b ≤ k) (h2 : k ≤ c) : win (nI k) (nI b) (nI c) = 1 := by
  unfold win
  rw [if_neg (nI_nlt h1 (by omega)), if_neg (nI_nlt h2 (by omega))]
/-- who is known -/
theorem known_r {a : Int32} {n : Nat} (hn : n ≤ 6) (h : win a 0 (nI n - 1) ≠ 0) : ∃ j, j < n ∧ a = nI j := by
  cases n with
  | zero =>
    exfalso
    apply h
    unfold win
    by_cases c : a < 0
    · rw [if_pos c]
    · rw [if_neg c, if_pos]
      have e : nI 0 - 1 = -1 := rfl
      rw [e]
      exact Int32.lt_of_lt_of_le (show (-1 : Int32) < 0 by decide) (Int32.not_lt.mp c)
  | succ n =>
    rw [nI_pred] at h
    obtain ⟨k, h1, h2, h3⟩ := win_r (b := 0) (by omega) (by omega) h
    exact ⟨k, by omega, h3⟩
theorem known_y {j n : Nat} (hn : n ≤ 6) (h : j < n) : win (nI j) 0 (nI n - 1) = 1 := by
  obtain ⟨m, rfl⟩ : ∃ m, n = m + 1 := ⟨n - 1, by omega⟩
  rw [nI_pred]
  exact win_y (b := 0) (by omega) (by omega) (by omega)
theorem known_s {a : Int32} {n c : Nat} (hn : n ≤ 6) (hc : 0 < c) (hc2 : c < 100) : win (a - nI c) 0 (nI n - 1) = win a (nI c) (nI (c - 1) + nI n) := by
  have e : nI (c - 1) + nI n = nI (c - 1 + n) := nI_add _ _
  rw [e]
  by_cases h : win (a - nI c) 0 (nI n - 1) = 0
  · rw [h]
    rcases win_01 (a := a) (b := nI c) (c := nI (c - 1 + n)) with g | g
    · rw [g]
    · exfalso
      by_cases hn0 : n = 0
      · subst hn0
        unfold win at g
        by_cases q : a < nI c
        · rw [if_pos q] at g; exact absurd g (by decide)
        · rw [if_neg q, if_pos (Int32.lt_of_lt_of_le (nI_lt (show c - 1 + 0 < c by omega) (by omega)) (Int32.not_lt.mp q))] at g
          exact absurd g (by decide)
      · obtain ⟨k, h1, h2, h3⟩ := win_r (a := a) (b := c) (c := c - 1 + n) (by omega) (by omega) (by rw [g]; decide)
        rw [h3, pk_sub h1, known_y hn (by omega)] at h
        exact absurd h (by decide)
  · obtain ⟨j, h1, h2⟩ := known_r hn h
    have ea : a = nI (j + c) := by
      rw [← nI_add, ← h2]
      exact (Int32.sub_add_cancel a (nI c)).symm
    rw [h2, ea, known_y hn h1, win_y (by omega) (by omega) (by omega)]
/-- an asking's end on both sides -/
def AS (s : Mm) (P W : Pm) (t : Mm) (Q : Pm) : Prop := SB s t ∧ NZ (t 2) ∧ MB P Q ∧ Rest Q W
theorem AS.tr {s t u : Mm} {P Q R W : Pm} (h : AS s P W t Q) (h2 : AS t Q W u R) : AS s P W u R := ⟨h.1.tr h2.1, h2.2.1, h.2.2.1.tr h2.2.2.1, h2.2.2.2⟩
/-- both sides answer alike -/
def QA {α : Type} (s : Mm) (P W : Pm) (x : Option (α × Mm)) (y : Option (α × Pm)) : Prop := ∃ r t Q, x = some (r, t) ∧ y = some (r, Q) ∧ AS s P W t Q
section Ask
variable {s t : Mm} {P Q W V U : Pm} {n d e rid : Nat} {mk sp fi x y m ab a1 a2 : Int32} {rt : Pm → Nat → Int32}
theorem AR.go (h : AR n d rid mk sp fi rt s P W) (h2 : AS s P W t Q) : AR n d rid mk sp fi rt t Q W := AR_to h h2.1 h2.2.1 h2.2.2.1 h2.2.2.2
theorem AR.as (h : AR n d rid mk sp fi rt s P W) : AS s P W s P := ⟨SB.rf, h.2.1, MB.rf, h.2.2.2.2.2.1⟩
theorem AR.hn (h : AR n d rid mk sp fi rt s P W) : n ≤ 6 := h.2.2.2.1.1
theorem AR.e2 (h : AR n d rid mk sp fi rt s P W) : s 1 0 2 = nI n := by rw [h.2.2.1]; exact h.2.2.2.1.2.1
theorem AR.m1 (h : AR n d rid mk sp fi rt s P W) : P 0 1 = nI n := by rw [h.2.2.2.2.2.1.1.r01]; exact h.2.2.2.1.2.1
theorem tt_day (h : AR n d rid mk sp fi rt s P W) (hT : TT s t P Q W V (-1) (-1)) (hW : TW n e W V) (he : e < 20000) : ∃ t' Q', f_X6_goTrial t 1 = some t' ∧ f_X7_goDay Q = some Q' ∧ TT s t' P Q' W (dayW rt mk (-1) fi sp V) (-1) (-1) := by
  obtain ⟨t', g1, g2, g3⟩ := c_goTrial h (k := 1) (by omega) hT.1 hT.2.1 hW he
  obtain ⟨Q', g4, g5, g6, g7⟩ := r_goDay h hT.2.2.1 hT.2.2.2.1 hT.2.2.2.2 (if_pos (by decide)) (AR_RU h).1 hW (by omega)
  exact ⟨t', Q', g1, g4, g2, g3, g5, g6, g7⟩
theorem tt_days (h : AR n d rid mk sp fi rt s P W) {k : Nat} (hk : k ≤ 61) (hT : TT s t P Q W V (-1) (-1)) (hW : TW n e W V) (he : e < 20000) : ∃ t' Q', f_X6_goTrial t (nI k) = some t' ∧ f_X7_goDays Q (nI k) = some Q' ∧ TT s t' P Q' W (itW (dayW rt mk (-1) fi sp) k V) (-1) (-1) := by
  obtain ⟨t', g1, g2, g3⟩ := c_goTrial h hk hT.1 hT.2.1 hW he
  obtain ⟨Q', g4, g5, g6, g7⟩ := r_goDays h hk hT.2.2.1 hT.2.2.2.1 hT.2.2.2.2 (if_pos (by decide)) (AR_RU h).1 hW he
  exact ⟨t', Q', g1, g4, g2, g3, g5, g6, g7⟩
theorem tt_end (h : AR n d rid mk sp fi rt s P W) (hT : TT s t P Q W V x y) (hW : TW n e W V) : ∃ P', f_X7_putBack Q = some P' ∧ AS s P W t P' := by
  obtain ⟨P', g1, g2, g3⟩ := r_end h hT.2.2.1 hW
  exact ⟨P', g1, hT.1, by rw [hT.2.1]; exact hW.2.1, g3, g2⟩
/-- what all owe -/
theorem e_owes (hD : DI n d V) : ∃ q, q ≤ 599994 ∧ f_X5_owesOfAll V = some (nI q) ∧ ∀ Q, WV Q V → f_X7_allOwes Q = some (nI q) := by
  have hn := hD.1
  obtain ⟨r, h1, q, hq, rfl⟩ := iter_I (body := fun t : Int32 × Int32 => f_X5_owesOfAll_B4 V t.1 t.2) (fun i t => t.2 = nI i ∧ rg t.1 (i * 99999)) (fun r => rg r (n * 99999)) n
    (fun i t hi hI => by
      obtain ⟨v, u⟩ := t
      obtain ⟨hv, hu⟩ := hI
      dsimp only at hv hu
      subst hv
      show ∃ s', f_X5_owesOfAll_B4 V v (nI i) = _ ∧ _
      unfold f_X5_owesOfAll_B4
      rw [hD.2.1, if_neg (nI_ge hi (by omega)), if_pos (inb_nI (show i < 6 by omega) (by decide)), ix_nI (by omega), nI_1]
      refine ⟨_, rfl, rfl, ?_⟩
      have := rg_add hu (hD.2.2.2.2.2.1.2.1 i (by omega)).2.2.2.2.2.2
      rw [Nat.add_mul, Nat.one_mul]
      exact this)
    (fun t hI => by
      obtain ⟨v, u⟩ := t
      obtain ⟨hv, hu⟩ := hI
      dsimp only at hv hu
      subst hv
      refine ⟨v, ?_, hu⟩
      show f_X5_owesOfAll_B4 V v (nI n) = _
      unfold f_X5_owesOfAll_B4
      rw [hD.2.1, if_pos (Int32.le_refl _)]) n 0 (0, 0) (by omega) ⟨rfl, 0, by omega, rfl⟩ 200 (by omega)
  have hb : q ≤ 599994 := Nat.le_trans hq (by omega)
  refine ⟨q, hb, ?_, fun Q hQ => ?_⟩
  · unfold f_X5_owesOfAll f_X5_owesOfAll_H4
    rw [h1]
    rfl
  · unfold f_X7_allOwes f_X7_allOwes_H4
    have eb : (fun t : Int32 × Int32 => f_X7_allOwes_B4 Q t.1 t.2) = fun t : Int32 × Int32 => f_X5_owesOfAll_B4 V t.1 t.2 := by
      funext t
      unfold f_X7_allOwes_B4 f_X5_owesOfAll_B4
      rw [hQ.r01, hQ.r10]
    rw [eb, h1]
    rfl
theorem q_on (h : AR n d rid mk sp fi rt s P W) : QA s P W (f_X6_on s a1 a2) (f_X7_on P a1 a2) := by
  have hn := h.hn
  have e10 : (f_X6_known s (a2 - 10)) = some (win a2 10 (9 + P 0 1)) := by rw [e_known, h.e2, h.m1]; exact congrArg some (known_s (c := 10) hn (by omega) (by omega))
  have e20 : ∀ t, t 1 0 2 = nI n → (f_X6_known t (a2 - 20)) = some (win a2 20 (19 + nI n)) := fun t ht => by rw [e_known, ht]; exact congrArg some (known_s (c := 20) hn (by omega) (by omega))
  have main : (win a2 0 2 ≠ 0 ∨ win a2 10 (9 + nI n) ≠ 0 ∨ win a2 20 (19 + nI n) ≠ 0) → QA s P W (f_X6_on_J43 s a1 a2) (f_X7_on_J46 P a1 a2) := by
    intro ha
    unfold f_X6_on_J43 f_X7_on_J46
    rw [e_asked, m_isDays, Option.bind_some, Option.bind_some]
    by_cases c : win a1 0 60 = 0
    · rw [if_pos c, if_pos c]
      exact ⟨_, s, P, rfl, rfl, h.as⟩
    rw [if_neg c, if_neg c]
    obtain ⟨k, -, hk, rfl⟩ := win_r (b := 0) (c := 60) (by omega) (by omega) c
    have hd := h.2.2.2.2.1
    obtain ⟨t, Q, g1, g2, hT, hW⟩ := tt_start h
    rw [g1, g2, Option.bind_some, Option.bind_some]
    obtain ⟨t', Q', g3, g4, hT'⟩ := tt_days h (k := k) (by omega) hT hW (by omega)
    rw [g3, g4, Option.bind_some, Option.bind_some]
    have hW' := TW_it (ab := -1) (AR_RU h) (AR_RU h).1 hW k (by omega)
    obtain ⟨P', g5, hA⟩ := tt_end h hT' hW'
    have fin : ∀ r, QA s P W (some (r, t')) (f_X7_on_J128 Q' r) := fun r => ⟨r, t', P', rfl, by unfold f_X7_on_J128; rw [g5, Option.bind_some], hA⟩
    have hQ := hT'.2.2.1.1
    by_cases c0 : a2 = 0
    · rw [if_pos c0, if_pos c0, hT'.2.1, hQ.r00]
      exact fin _
    rw [if_neg c0, if_neg c0]
    by_cases c1 : a2 = 1
    · rw [if_pos c1, if_pos c1, hT'.2.1, hQ.r034]
      exact fin _
    rw [if_neg c1, if_neg c1]
    by_cases c2 : a2 = 2
    · obtain ⟨q, -, o1, o2⟩ := e_owes hW'.1
      rw [if_pos c2, if_pos c2, hT'.2.1, o1, o2 Q' hQ, Option.bind_some, Option.bind_some]
      exact fin _
    rw [if_neg c2, if_neg c2, e_known, hT'.1.1 1 (by decide) (by decide), h.e2, show (10 : Int32) = nI 10 from rfl, known_s (a := a2) (c := 10) hn (by omega) (by omega), Option.bind_some]
    have hx0 : win a2 0 2 = 0 := by
      rcases win_01 (a := a2) (b := 0) (c := 2) with g | g
      · exact g
      · obtain ⟨j, -, hj, e⟩ := win_r (a := a2) (b := 0) (c := 2) (by omega) (by omega) (by show win a2 0 2 ≠ 0; rw [g]; decide)
        rcases (show j = 0 ∨ j = 1 ∨ j = 2 by omega) with q | q | q <;> subst q
        · exact absurd e c0
        · exact absurd e c1
        · exact absurd e c2
    by_cases c10 : win a2 (nI 10) (nI (10 - 1) + nI n) = 0
    · rw [if_pos c10]
      have c20 : win a2 20 (19 + nI n) ≠ 0 := by
        rcases ha with g | g | g
        · exact absurd hx0 g
        · exact absurd c10 g
        · exact g
      have e19 : (19 : Int32) + nI n = nI (19 + n) := nI_add 19 n
      rw [e19] at c20
      by_cases hn0 : n = 0
      · subst hn0
        exfalso
        obtain ⟨j, hj, -⟩ := known_r (a := a2 - nI 20) (n := 0) (by omega) (by
          rw [known_s (c := 20) (by omega) (by omega) (by omega)]
          exact c20)
        omega
      obtain ⟨j, h1, h2, rfl⟩ := win_r (b := 20) (by omega) (by omega) c20
      rw [if_pos (show (20 : Int32) ≤ nI j from nI_le (a := 20) h1 (by omega))]
      have es : nI j - 20 = nI (j - 20) := pk_sub h1
      rw [es, if_pos (inb_nI (show j - 20 < 6 by omega) (by decide)), if_pos (inb_nI (show j - 20 < 6 by omega) (by decide)), hT'.2.1, hQ.r10]
      exact fin _
    · rw [if_neg c10]
      rw [nI_add] at c10
      by_cases hn0 : n = 0
      · subst hn0
        exfalso
        obtain ⟨j, hj, -⟩ := known_r (a := a2 - nI 10) (n := 0) (by omega) (by
          rw [known_s (c := 10) (by omega) (by omega) (by omega), nI_add]
          exact c10)
        omega
      obtain ⟨j, h1, h2, rfl⟩ := win_r (b := 10) (by omega) (by omega) c10
      rw [if_neg (show ¬ (20 : Int32) ≤ nI j from nI_ge (b := 20) (by omega) (by omega))]
      have es : nI j - nI 10 = nI (j - 10) := pk_sub h1
      rw [es, if_pos (inb_nI (show j - 10 < 6 by omega) (by decide)), if_pos (inb_nI (show j - 10 < 6 by omega) (by decide)), hT'.2.1, hQ.r8]
      exact fin _
  unfold f_X6_on f_X7_on f_X6_on_J22 f_X6_on_J27
  rw [e10, e20 s h.e2, e_win, m_win, m_win, m_win, h.m1]
  simp only [Option.bind_some]
  by_cases w0 : win a2 0 2 = 0
  · by_cases w1 : win a2 10 (9 + nI n) = 0
    · by_cases w2 : win a2 20 (19 + nI n) = 0
      · rw [if_pos w1, if_pos w2, if_pos w0, if_pos w0, if_pos w1, if_pos w2]
        first | rw [if_pos rfl] | rw [if_pos trivial]
        exact ⟨_, s, P, rfl, rfl, h.as⟩
      · rw [if_pos w1, if_neg w2, if_pos w0, if_pos w0, if_pos w1, if_neg w2]
        first | rw [if_neg (show ¬ (1 : Int32) = 0 by decide)] | rw [if_neg not_false]
        exact main (Or.inr (Or.inr w2))
    · rw [if_neg w1, if_pos w0, if_pos w0, if_neg w1]
      first | rw [if_neg (show ¬ (1 : Int32) = 0 by decide)] | rw [if_neg not_false]
      exact main (Or.inr (Or.inl w1))
  · have g := main (Or.inl w0)
    rw [if_neg w0, if_neg w0, if_neg w0]
    split
    · split
      · exact g
      · exact g
    · exact g
end Ask
