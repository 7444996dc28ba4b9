/-! the pure side I: a test, on both sides; what is pending in the reference -/
def putL : (Nat → Int32) → Nat → List Int32 → Nat → Int32
  | g, _, [] => g
  | g, q, t :: E => putL (upd g q t) (q + 1) E
theorem putL_app {E1 E2 : List Int32} : ∀ {g : Nat → Int32} {q : Nat}, putL g q (E1 ++ E2) = putL (putL g q E1) (q + E1.length) E2 := by
  induction E1 with
  | nil => intro g q; rfl
  | cons t E1 ih =>
    intro g q
    show putL (upd g q t) (q + 1) (E1 ++ E2) = putL (putL (upd g q t) (q + 1) E1) (q + (E1.length + 1)) E2
    rw [ih]
    congr 1
    omega
theorem putL_lo {E : List Int32} : ∀ {g : Nat → Int32} {q i : Nat}, i < q → putL g q E i = g i := by
  induction E with
  | nil => intro g q i _; rfl
  | cons t E ih =>
    intro g q i hi
    show putL (upd g q t) (q + 1) E i = g i
    rw [ih (by omega), upd_g, if_neg (by omega)]
theorem putL_in {E : List Int32} : ∀ {g : Nat → Int32} {q i : Nat}, i < E.length → putL g q E (q + i) = E.getD i 0 := by
  induction E with
  | nil => intro g q i hi; exact absurd hi (by simp)
  | cons t E ih =>
    intro g q i hi
    show putL (upd g q t) (q + 1) E (q + i) = _
    cases i with
    | zero =>
      rw [putL_lo (by omega), upd_g, if_pos (by omega)]
      rfl
    | succ i =>
      rw [show q + (i + 1) = q + 1 + i by omega, ih (by simpa using hi)]
      rfl
section Te
variable {s : Mm} {R P C C' : Pm} {rid L : Nat} {p p' fl z q h l x : Int32} {g4 g5 g6 T : Nat → Int32} {j : Nat}
theorem win_dg {y : Int32} : win y 48 57 = 0 ↔ (y < 48 ∨ 57 < y) := by
  unfold win
  by_cases c : y < 48
  · rw [if_pos c]
    exact ⟨fun _ => Or.inl c, fun _ => rfl⟩
  · rw [if_neg c]
    by_cases d : 57 < y
    · rw [if_pos d]
      exact ⟨fun _ => Or.inr d, fun _ => rfl⟩
    · rw [if_neg d]
      exact ⟨fun w => absurd w (by decide), fun w => w.elim (fun w => absurd w c) (fun w => absurd w d)⟩
theorem m_isDg {k : Nat} (hL : L ≤ 100) (hP : P 0 15 = nI L) (hk : k ≤ 100) : f_X7_isDigit (dS P (nI k) z q h l g4 g5 g6) = some (win (sg (P 19) L k) 48 57) := by
  unfold f_X7_isDigit
  rw [m_next hL hP hk, Option.bind_some, m_win, Option.bind_some, if_pos win_01]
theorem m_num {k : Nat} (hL : L ≤ 100) (hP : P 0 15 = nI L) (hk : k ≤ L) : ∃ z', f_X7_takesNumber (dS P (nI k) z q h l g4 g5 g6) = some (if nuE (P 19) L k = k then 0 else 1, dS P (nI (nuE (P 19) L k)) z' q h l g4 g5 g6) ∧ (nuE (P 19) L k ≠ k → z' = nI (nuV (P 19) L k)) := by
  have stop : ∀ (v n k' : Nat), k' ≤ L → n < 2 → (sg (P 19) L k' < 48 ∨ 57 < sg (P 19) L k') → f_X7_takesNumber_B16 (nI n) (dS P (nI k') (nI v) q h l g4 g5 g6) = some (.inr (dS P (nI k') (nI v) q h l g4 g5 g6)) := by
    intro v n k' hk' hn hs
    unfold f_X7_takesNumber_B16
    rw [if_neg (show ¬ (2 : Int32) ≤ nI n from nI_ge (b := 2) hn (by omega)), m_isDg hL hP (by omega), Option.bind_some, if_pos (win_dg.mpr hs)]
  have go : ∀ (v n k' : Nat), v < 100 → k' ≤ L → n < 2 → ¬ (sg (P 19) L k' < 48 ∨ 57 < sg (P 19) L k') → f_X7_takesNumber_B16 (nI n) (dS P (nI k') (nI v) q h l g4 g5 g6) = some (.inl (nI (n + 1), dS P (nI (k' + 1)) (nI (10 * v + (ix (sg (P 19) L k') - 48))) q h l g4 g5 g6)) := by
    intro v n k' hv hk' hn hs
    obtain ⟨a, ha, ea⟩ := isDg_r (x := sg (P 19) L k') ⟨fun w => hs (Or.inl w), fun w => hs (Or.inr w)⟩
    have e0 : 10 * nI v + sg (P 19) L k' - 48 = nI (10 * v + (ix (sg (P 19) L k') - 48)) := by
      rw [ea, ix_nI (by omega), show (10 : Int32) = nI 10 from rfl, pk_mul, nI_add, show (48 : Int32) = nI 48 from rfl, pk_sub (by omega)]
      congr 1
      omega
    unfold f_X7_takesNumber_B16
    rw [if_neg (show ¬ (2 : Int32) ≤ nI n from nI_ge (b := 2) hn (by omega)), m_isDg hL hP (by omega), Option.bind_some, if_neg (fun w => hs (win_dg.mp w)), m_next hL hP (by omega), Option.bind_some, nb_w, nb_w]
    show some (Sum.inl (nI n + 1, up2 (up2 (dS P (nI k') (nI v) q h l g4 g5 g6) 0 17 (10 * nI v + sg (P 19) L k' - 48)) 0 16 (up2 (dS P (nI k') (nI v) q h l g4 g5 g6) 0 17 (10 * nI v + sg (P 19) L k' - 48) 0 16 + 1))) = _
    rw [dS_17, e0]
    show some (Sum.inl (nI n + 1, up2 (dS P (nI k') (nI (10 * v + (ix (sg (P 19) L k') - 48))) q h l g4 g5 g6) 0 16 (nI k' + 1))) = _
    rw [dS_16, nI_1, nI_1]
  have two : ∀ (v k' : Nat), f_X7_takesNumber_B16 (nI 2) (dS P (nI k') (nI v) q h l g4 g5 g6) = some (.inr (dS P (nI k') (nI v) q h l g4 g5 g6)) := by
    intro v k'
    unfold f_X7_takesNumber_B16
    rw [if_pos (show (2 : Int32) ≤ nI 2 from Int32.le_refl _)]
  unfold f_X7_takesNumber
  rw [m_isDg hL hP (by omega), Option.bind_some]
  unfold nuV nuE
  by_cases c1 : sg (P 19) L k < 48 ∨ 57 < sg (P 19) L k
  · rw [if_pos c1, if_pos c1, if_pos (win_dg.mpr c1), if_pos rfl]
    exact ⟨z, rfl, fun w => absurd rfl w⟩
  · have hk1 := sg_lt c1
    obtain ⟨a, ha, ea⟩ := isDg_r (x := sg (P 19) L k) ⟨fun w => c1 (Or.inl w), fun w => c1 (Or.inr w)⟩
    have g1 := go 0 0 k (by omega) hk (by omega) c1
    rw [show 10 * 0 + (ix (sg (P 19) L k) - 48) = ix (sg (P 19) L k) - 48 by omega] at g1
    unfold f_X7_takesNumber_H16
    rw [if_neg c1, if_neg c1, if_neg (fun w => c1 (win_dg.mp w)), nb_w, dS_17, iter_go (s' := (nI (0 + 1), dS P (nI (k + 1)) (nI (ix (sg (P 19) L k) - 48)) q h l g4 g5 g6)) (by decide) g1]
    by_cases c2 : sg (P 19) L (k + 1) < 48 ∨ 57 < sg (P 19) L (k + 1)
    · rw [if_pos c2, if_pos c2, if_neg (by omega), iter_end (r := dS P (nI (k + 1)) (nI (ix (sg (P 19) L k) - 48)) q h l g4 g5 g6) (by decide) (stop _ 1 (k + 1) (by omega) (by omega) c2)]
      exact ⟨_, rfl, fun _ => rfl⟩
    · rw [if_neg c2, if_neg c2, if_neg (by omega), iter_go (s' := (nI (1 + 1), dS P (nI (k + 1 + 1)) (nI (10 * (ix (sg (P 19) L k) - 48) + (ix (sg (P 19) L (k + 1)) - 48))) q h l g4 g5 g6)) (by decide) (go _ 1 (k + 1) (by rw [ea, ix_nI (by omega)]; omega) (by omega) (by omega) c2), iter_end (r := dS P (nI (k + 2)) (nI (10 * (ix (sg (P 19) L k) - 48) + (ix (sg (P 19) L (k + 1)) - 48))) q h l g4 g5 g6) (by decide) (two _ (k + 2))]
      exact ⟨_, rfl, fun _ => rfl⟩
/-- the class: a sign's place in a word -/
theorem e_place {w n : Nat} (hn : n ≤ 100) (hw : sLn.getD w 0 = n) : ∃ r, f_X3_placeOf x w = some r ∧ ((∃ i, i < n ∧ r = nI i ∧ sChr w i = x) ∨ (r = -1 ∧ ∀ i, i < n → sChr w i ≠ x)) := by
  obtain ⟨r, h1, h2⟩ := iter_E (body := fun t : Int32 => f_X3_placeOf_B2 x w t) (fun i u => u = nI i ∧ ∀ k, k < i → sChr w k ≠ x) (fun r => (∃ i, i < n ∧ r = nI i ∧ sChr w i = x) ∨ (r = -1 ∧ ∀ i, i < n → sChr w i ≠ x)) n
    (fun i u hi hI => by
      obtain ⟨rfl, hk⟩ := hI
      show (i < n ∧ ∃ s', f_X3_placeOf_B2 x w (nI i) = _ ∧ _) ∨ ∃ r, f_X3_placeOf_B2 x w (nI i) = _ ∧ _
      unfold f_X3_placeOf_B2 sLen
      rw [hw]
      by_cases c : i = n
      · subst c
        right
        rw [if_pos (Int32.le_refl _)]
        exact ⟨-1, rfl, Or.inr ⟨rfl, hk⟩⟩
      · rw [if_neg (nI_ge (by omega) (by omega)), if_pos (inb_nI (by omega) (by omega)), ix_nI (by omega)]
        by_cases d : sChr w i = x
        · right
          rw [if_pos d]
          exact ⟨nI i, rfl, Or.inl ⟨i, by omega, rfl, d⟩⟩
        · left
          rw [if_neg d]
          refine ⟨by omega, _, rfl, nI_1 _, fun k hk2 => ?_⟩
          by_cases e : k = i
          · rw [e]; exact d
          · exact hk k (by omega)) n 0 0 (by omega) ⟨rfl, fun k hk => absurd hk (by omega)⟩ 200 (by omega)
  exact ⟨r, h1, h2⟩
/-- a letter's place, alike -/
theorem q_place : (∃ i, i < 6 ∧ f_X3_placeOf x 5 = some (nI i) ∧ ∀ M, f_X7_place M x = some (nI i)) ∨ (f_X3_placeOf x 5 = some (-1) ∧ ∀ M, f_X7_place M x = some (-1)) := by
  obtain ⟨r, h1, h2⟩ := e_place (x := x) (w := 5) (n := 6) (by omega) rfl
  rcases h2 with ⟨i, hi, rfl, hx⟩ | ⟨rfl, hx⟩
  · left
    refine ⟨i, hi, h1, fun M => ?_⟩
    subst hx
    unfold f_X7_place
    rcases (show i = 0 ∨ i = 1 ∨ i = 2 ∨ i = 3 ∨ i = 4 ∨ i = 5 by omega) with h | h | h | h | h | h <;> subst h <;> decide
  · right
    refine ⟨h1, fun M => ?_⟩
    unfold f_X7_place
    rw [if_neg (fun w => hx 0 (by omega) (by rw [w]; decide)), if_neg (fun w => hx 5 (by omega) (by rw [w]; decide)), if_neg (fun w => hx 3 (by omega) (by rw [w]; decide)), if_neg (fun w => hx 1 (by omega) (by rw [w]; decide)), if_neg (fun w => hx 4 (by omega) (by rw [w]; decide)), if_neg (fun w => hx 2 (by omega) (by rw [w]; decide))]
theorem q_comp : (∃ i, i < 3 ∧ f_X3_placeOf x 6 = some (nI i) ∧ win x 60 62 = 1 ∧ x = nI (60 + i)) ∨ (f_X3_placeOf x 6 = some (-1) ∧ win x 60 62 = 0) := by
  obtain ⟨r, h1, h2⟩ := e_place (x := x) (w := 6) (n := 3) (by omega) rfl
  rcases h2 with ⟨i, hi, rfl, hx⟩ | ⟨rfl, hx⟩
  · left
    subst hx
    refine ⟨i, hi, h1, ?_⟩
    rcases (show i = 0 ∨ i = 1 ∨ i = 2 by omega) with h | h | h <;> subst h <;> decide
  · right
    refine ⟨h1, ?_⟩
    rcases win_01 (a := x) (b := 60) (c := 62) with g | g
    · exact g
    · exfalso
      obtain ⟨k, k1, k2, k3⟩ := win_r (a := x) (b := 60) (c := 62) (by omega) (by omega) (by show win x 60 62 ≠ 0; rw [g]; decide)
      rcases (show k = 60 ∨ k = 61 ∨ k = 62 by omega) with e | e | e
      · exact hx 0 (by omega) (by rw [k3, e]; decide)
      · exact hx 1 (by omega) (by rw [k3, e]; decide)
      · exact hx 2 (by omega) (by rw [k3, e]; decide)
/-- a step added to the class's country -/
def stp (C : Pm) (u : Nat) (a b c : Int32) : Pm := up2 (up2 (up2 (up2 C 8 u a) 9 u b) 10 u c) 0 4 (nI (u + 1))
theorem e_addStep {u : Nat} {a b c : Int32} (hu : C 0 4 = nI u) (h : u < 100) : f_X1_addStep C a b c = some (stp C u a b c) := by
  have h1 : inb (nI u) 100 = true := inb_nI h (by decide)
  have h2 : ix (nI u) = u := ix_nI (by omega)
  unfold f_X1_addStep
  rw [hu, if_neg (show ¬ (100 : Int32) ≤ nI u from nI_ge (b := 100) h (by omega)), if_pos h1, nb_w, h2]
  show (if inb (C 0 4) 100 = true then nb (up2 (up2 C 8 u a) 9 (ix (C 0 4)) b) _ else none) = _
  rw [hu, if_pos h1, nb_w, h2]
  show (if inb (C 0 4) 100 = true then nb (up2 (up2 (up2 C 8 u a) 9 u b) 10 (ix (C 0 4)) c) (fun P6 => nb (up2 P6 0 4 (P6 0 4 + 1)) (fun P7 => some P7)) else none) = _
  rw [hu, if_pos h1, nb_w, nb_w, h2]
  show some (up2 (up2 (up2 (up2 C 8 u a) 9 u b) 10 u c) 0 4 (C 0 4 + 1)) = _
  rw [hu, nI_1]
  rfl
/-- whatever the country is when the text has a fault: its counts stand -/
def CG (C C' : Pm) : Prop := (∃ u, u ≤ 100 ∧ C' 0 4 = nI u) ∧ C' 0 3 = C 0 3
theorem e_addStepG {a b c : Int32} (h : CG C C') : ∃ C'', f_X1_addStep C' a b c = some C'' ∧ CG C C'' := by
  obtain ⟨⟨u, hu, e⟩, h3⟩ := h
  by_cases q : u = 100
  · refine ⟨C', ?_, ⟨u, hu, e⟩, h3⟩
    unfold f_X1_addStep
    rw [e, q, if_pos (show (100 : Int32) ≤ nI 100 from Int32.le_refl _)]
  · exact ⟨_, e_addStep e (by omega), ⟨u + 1, by omega, rfl⟩, h3⟩
end Te
