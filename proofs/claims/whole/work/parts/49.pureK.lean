/-! the pure side K: reading in step: what is claimed -/
def cA (t : Int32) : Int32 := if 0 ≤ t then nI (ix t / 100 % 10) else if t = -33 then 3 else if t = -38 then 4 else 5
def cB (t : Int32) : Int32 := if 0 ≤ t then nI (ix t / 1000) else 0
def cC (t : Int32) : Int32 := if 0 ≤ t then nI (ix t % 100) else 0
def stT (C : Pm) (u : Nat) (t : Int32) : Pm := stp C u (cA t) (cB t) (cC t)
def addL : Pm → Nat → List Int32 → Pm
  | C, _, [] => C
  | C, u, t :: E => addL (stT C u t) (u + 1) E
theorem stT_of {C : Pm} {u : Nat} {a b c t : Int32} (h : tokR a b c t) (h0 : 0 ≤ t) : stp C u a b c = stT C u t := by
  rcases h with ⟨f, s, x, h1, h2, h3, rfl, rfl, rfl, rfl⟩ | ⟨rfl, -⟩ | ⟨rfl, -⟩ | ⟨rfl, -⟩
  · obtain ⟨t1, t2, t3, t4⟩ := tok_t h1 h2 h3
    unfold stT cA cB cC
    rw [if_pos t1, if_pos t1, if_pos t1, t2, t3, t4]
  · exact absurd h0 (by decide)
  · exact absurd h0 (by decide)
  · exact absurd h0 (by decide)
theorem addL_app {E1 E2 : List Int32} : ∀ {C : Pm} {u : Nat}, addL C u (E1 ++ E2) = addL (addL C u E1) (u + E1.length) E2 := by
  induction E1 with
  | nil => intro C u; rfl
  | cons t E1 ih =>
    intro C u
    show addL (stT C u t) (u + 1) (E1 ++ E2) = addL (addL (stT C u t) (u + 1) E1) (u + (E1.length + 1)) E2
    rw [ih]
    congr 1
    omega
theorem addL_04 {E : List Int32} : ∀ {C : Pm} {u : Nat}, C 0 4 = nI u → addL C u E 0 4 = nI (u + E.length) := by
  induction E with
  | nil => intro C u h; exact h
  | cons t E ih =>
    intro C u h
    show addL (stT C u t) (u + 1) E 0 4 = nI (u + (E.length + 1))
    rw [ih (C := stT C u t) (u := u + 1) rfl]
    congr 1
    omega
/-- what the steps leave: all but the counter and the steps -/
theorem addL_n {E : List Int32} : ∀ {C : Pm} {u c : Nat}, c ≠ 0 → c ≠ 8 → c ≠ 9 → c ≠ 10 → addL C u E c = C c := by
  induction E with
  | nil => intro C u c _ _ _ _; rfl
  | cons t E ih =>
    intro C u c h0 h8 h9 h10
    show addL (stT C u t) (u + 1) E c = C c
    rw [ih h0 h8 h9 h10]
    unfold stT stp
    rw [up2_g, if_neg h0, up2_g, if_neg h10, up2_g, if_neg h9, up2_g, if_neg h8]
theorem addL_0n {E : List Int32} : ∀ {C : Pm} {u i : Nat}, i ≠ 4 → addL C u E 0 i = C 0 i := by
  induction E with
  | nil => intro C u i _; rfl
  | cons t E ih =>
    intro C u i h
    show addL (stT C u t) (u + 1) E 0 i = C 0 i
    rw [ih h]
    unfold stT stp
    rw [up2_g, if_pos rfl, upd_g, if_neg h]
    rfl
theorem addL_lo {E : List Int32} : ∀ {C : Pm} {u c i : Nat}, c ≠ 0 → i < u → addL C u E c i = C c i := by
  induction E with
  | nil => intro C u c i _ _; rfl
  | cons t E ih =>
    intro C u c i h0 hi
    show addL (stT C u t) (u + 1) E c i = C c i
    rw [ih h0 (by omega)]
    unfold stT stp
    rw [up2_g, if_neg h0]
    have k : ∀ (X : Pm) (d : Nat) (y : Int32), up2 X d u y c i = X c i := fun X d y => by
      rw [up2_g]
      split
      · rename_i e
        rw [upd_g, if_neg (by omega), e]
      · rfl
    rw [k, k, k]
theorem addL_in {E : List Int32} : ∀ {C : Pm} {u i : Nat}, i < E.length → addL C u E 8 (u + i) = cA (E.getD i 0) ∧ addL C u E 9 (u + i) = cB (E.getD i 0) ∧ addL C u E 10 (u + i) = cC (E.getD i 0) := by
  induction E with
  | nil => intro C u i hi; exact absurd hi (by simp)
  | cons t E ih =>
    intro C u i hi
    show addL (stT C u t) (u + 1) E 8 (u + i) = _ ∧ addL (stT C u t) (u + 1) E 9 (u + i) = _ ∧ addL (stT C u t) (u + 1) E 10 (u + i) = _
    cases i with
    | zero =>
      rw [addL_lo (by decide) (by omega), addL_lo (by decide) (by omega), addL_lo (by decide) (by omega)]
      unfold stT stp
      refine ⟨?_, ?_, ?_⟩
      · show upd (C 8) u (cA t) u = _
        rw [upd_g, if_pos rfl]
        rfl
      · show upd (C 9) u (cB t) u = _
        rw [upd_g, if_pos rfl]
        rfl
      · show upd (C 10) u (cC t) u = _
        rw [upd_g, if_pos rfl]
        rfl
    | succ i =>
      rw [show u + (i + 1) = u + 1 + i by omega]
      exact ih (by simpa using hi)
theorem tokR_c {t : Int32} (h : tokO t) : tokR (cA t) (cB t) (cC t) t := by
  rcases h with ⟨f, s, x, h1, h2, h3, rfl⟩ | rfl | rfl | rfl
  · obtain ⟨t1, t2, t3, t4⟩ := tok_t h1 h2 h3
    unfold cA cB cC
    rw [if_pos t1, if_pos t1, if_pos t1, t2, t3, t4]
    exact Or.inl ⟨f, s, x, h1, h2, h3, rfl, rfl, rfl, rfl⟩
  · exact Or.inr (Or.inl ⟨rfl, by decide, by decide⟩)
  · exact Or.inr (Or.inr (Or.inl ⟨rfl, by decide, by decide⟩))
  · exact Or.inr (Or.inr (Or.inr ⟨rfl, by decide, by decide⟩))
/-- tokens that take the pile from h to h', within b -/
def hOK : List Int32 → Nat → Nat → Nat → Prop
  | [], _, h, h' => h' = h
  | t :: E, b, h, h' => tokO t ∧ h ≤ b ∧ (t = -33 → 1 ≤ h) ∧ (t = -38 ∨ t = -124 → 2 ≤ h) ∧ hOK E b (htN t h) h'
theorem hOK_app {E1 E2 : List Int32} {b : Nat} : ∀ {h h1 h2 : Nat}, hOK E1 b h h1 → hOK E2 b h1 h2 → hOK (E1 ++ E2) b h h2 := by
  induction E1 with
  | nil =>
    intro h h1 h2 a c
    have : h1 = h := a
    subst this
    exact c
  | cons t E1 ih =>
    intro h h1 h2 a c
    exact ⟨a.1, a.2.1, a.2.2.1, a.2.2.2.1, ih a.2.2.2.2 c⟩
theorem hOK_1 {t : Int32} {b h : Nat} (ht : tokO t) (hb : h ≤ b) (h1 : t = -33 → 1 ≤ h) (h2 : t = -38 ∨ t = -124 → 2 ≤ h) : hOK [t] b h (htN t h) := ⟨ht, hb, h1, h2, rfl⟩
theorem hOK_S {E : List Int32} {tk : Nat → Int32} {b h' : Nat} (hE : hOK E b 0 h') (htk : ∀ i, i < E.length → tk i = E.getD i 0) : htS tk E.length = h' ∧ ∀ i, i < E.length → tokO (tk i) ∧ htS tk i ≤ b ∧ (tk i = -33 → 1 ≤ htS tk i) ∧ (tk i = -38 ∨ tk i = -124 → 2 ≤ htS tk i) := by
  have key : ∀ (F : List Int32) (j h : Nat), hOK F b h h' → htS tk j = h → (∀ i, i < F.length → tk (j + i) = F.getD i 0) → htS tk (j + F.length) = h' ∧ ∀ i, i < F.length → tokO (tk (j + i)) ∧ htS tk (j + i) ≤ b ∧ (tk (j + i) = -33 → 1 ≤ htS tk (j + i)) ∧ (tk (j + i) = -38 ∨ tk (j + i) = -124 → 2 ≤ htS tk (j + i)) := by
    intro F
    induction F with
    | nil =>
      intro j h a c d
      have : h' = h := a
      exact ⟨c.trans this.symm, fun i hi => absurd hi (by simp)⟩
    | cons t F ih =>
      intro j h a c d
      have d0 : tk j = t := d 0 (by simp)
      obtain ⟨k1, k2⟩ := ih (j + 1) (htN t h) a.2.2.2.2 (by
        show htN (tk j) (htS tk j) = _
        rw [d0, c]) (fun i hi => by
        have := d (i + 1) (by simpa using hi)
        rw [show j + (i + 1) = j + 1 + i by omega] at this
        exact this)
      refine ⟨by rw [show j + (t :: F).length = j + 1 + F.length by simp; omega]; exact k1, fun i hi => ?_⟩
      cases i with
      | zero =>
        rw [Nat.add_zero, d0, c]
        exact ⟨a.1, a.2.1, a.2.2.1, a.2.2.2.1⟩
      | succ i =>
        rw [show j + (i + 1) = j + 1 + i by omega]
        exact k2 i (by simpa using hi)
  have := key E 0 0 hE rfl (fun i hi => by rw [Nat.zero_add]; exact htk i hi)
  simp only [Nat.zero_add] at this
  exact this
/-- the reference's loop goes on, in j steps -/
def reach (v1 j : Nat) (a b : Int32 × Pm) : Prop := ∀ n, j < n → iter (fun t => f_X7_takesE_B22 (nI v1) t.1 t.2) n a = iter (fun t => f_X7_takesE_B22 (nI v1) t.1 t.2) (n - j) b
theorem reach_t {v1 j j' : Nat} {a b c : Int32 × Pm} (h : reach v1 j a b) (h2 : reach v1 j' b c) : reach v1 (j + j') a c := fun n hn => by
  rw [h n (by omega), h2 (n - j) (by omega), Nat.sub_sub]
theorem reach_0 {v1 : Nat} {a : Int32 × Pm} : reach v1 0 a a := fun n _ => by rw [Nat.sub_zero]
theorem reach_1 {v1 : Nat} {a b : Int32 × Pm} (h : f_X7_takesE_B22 (nI v1) a.1 a.2 = some (.inl b)) : reach v1 1 a b := fun n hn => iter_go (by omega) h
/-- the loop ends with r, in j steps more -/
def ends (v1 j : Nat) (a r : Int32 × Pm) : Prop := ∀ n, j < n → iter (fun t => f_X7_takesE_B22 (nI v1) t.1 t.2) n a = some r
theorem ends_t {v1 j j' : Nat} {a b r : Int32 × Pm} (h : reach v1 j a b) (h2 : ends v1 j' b r) : ends v1 (j + j') a r := fun n hn => by
  rw [h n (by omega), h2 (n - j) (by omega)]
theorem ends_0 {v1 : Nat} {a r : Int32 × Pm} (h : f_X7_takesE_B22 (nI v1) a.1 a.2 = some (.inr r)) : ends v1 0 a r := fun n hn => iter_end (by omega) h
/-- what a reading stands on -/
def RDH (R P : Pm) (rid L tb v1 : Nat) : Prop := rid ≠ 6 ∧ rid < 100 ∧ kdo rid = 1 ∧ L ≤ 100 ∧ R 0 0 = nI L ∧ R 0 4 = nI rid ∧ P 0 15 = nI L ∧ R 4 = P 19 ∧ tb + 100 ≤ 600 ∧ v1 < 60
/-- the reference at a fault: its place, and what stands still -/
def FR (P : Pm) (p' tb v1 : Nat) (g4 g5 : Nat → Int32) (P' : Pm) : Prop := ∃ z' q' h' l' g4' g5' g6', P' = dS P (nI p') z' q' h' l' g4' g5' g6' ∧ (∀ i, i < tb → g5' i = g5 i) ∧ ∀ i, i ≠ v1 → g4' i = g4 i
def bangs (m : Nat) : List Int32 := List.replicate m (-33)
/-- a part is read alike, with m NOTs that wait in the reference -/
def PartS (s : Mm) (R P : Pm) (rid L tb v1 lvl : Nat) : Prop := ∀ (fu : Nat), 5 ≤ fu + lvl → ∀ (k u m hh : Nat) (C : Pm) (z : Int32) (g4 g5 g6 : Nat → Int32), k ≤ L → C 0 4 = nI u → u + (hh + m) ≤ k → m ≤ lvl → (∀ i, i < m → g6 (hh + i) = 33) → (0 < hh → g6 (hh - 1) ≠ 33) →
  (∃ p' C' j P', k ≤ p' ∧ p' ≤ L ∧ CG C C' ∧ f_X3_readPart fu (cS s R rid (nI k) 0 C) (nI lvl) = some (cS s R rid (nI p') 1 C') ∧ j ≤ p' - k ∧ FR P p' tb v1 g4 g5 P' ∧ ends v1 j (1, dS P (nI k) z (nI (tb + u)) (nI (hh + m)) (nI lvl) g4 g5 g6) (0, P')) ∨
  (∃ p' E j z' g4' g6', k < p' ∧ p' ≤ L ∧ E.length ≤ p' - k ∧ (∀ h b, h + 2 * (4 - lvl) + 1 ≤ b → hOK E b h (h + 1)) ∧ f_X3_readPart fu (cS s R rid (nI k) 0 C) (nI lvl) = some (cS s R rid (nI p') 0 (addL C u E)) ∧ j ≤ p' - k ∧ (∀ i, i < hh → g6' i = g6 i) ∧ (∀ i, i ≠ v1 → g4' i = g4 i) ∧ reach v1 j (1, dS P (nI k) z (nI (tb + u)) (nI (hh + m)) (nI lvl) g4 g5 g6) (0, dS P (nI p') z' (nI (tb + u + E.length + m)) (nI hh) (nI (lvl - m)) g4' (putL g5 (tb + u) (E ++ bangs m)) g6'))
/-- the operators that wait: | and then & -/
def opN (o1 o2 : Bool) : Nat := (if o1 then 1 else 0) + (if o2 then 1 else 0)
def opL (o1 o2 : Bool) : List Int32 := (if o2 then [-38] else []) ++ (if o1 then [-124] else [])
def opG (o1 o2 : Bool) (hh : Nat) (g6 : Nat → Int32) : Prop := (o1 = true → g6 hh = 124) ∧ (o2 = true → g6 (hh + (if o1 then 1 else 0)) = 38)
/-- what stands in an E is read alike -/
def EithS (s : Mm) (R P : Pm) (rid L tb v1 lvl : Nat) : Prop := ∀ (fu : Nat), 5 ≤ fu + lvl → ∀ (k u hh : Nat) (C : Pm) (z : Int32) (g4 g5 g6 : Nat → Int32), k ≤ L → C 0 4 = nI u → u + hh ≤ k → (0 < hh → g6 (hh - 1) = 40) →
  (∃ p' C' j P', k ≤ p' ∧ p' ≤ L ∧ CG C C' ∧ f_X3_readEither (f_X3_readPart fu) (cS s R rid (nI k) 0 C) (nI lvl) = some (cS s R rid (nI p') 1 C') ∧ j ≤ p' - k ∧ FR P p' tb v1 g4 g5 P' ∧ ends v1 j (1, dS P (nI k) z (nI (tb + u)) (nI hh) (nI lvl) g4 g5 g6) (0, P')) ∨
  (∃ p' D o1 o2 j z' g4' g6', k < p' ∧ p' ≤ L ∧ (D ++ opL o1 o2).length ≤ p' - k ∧ (∀ h b, h + 2 * (5 - lvl) + 1 ≤ b → hOK (D ++ opL o1 o2) b h (h + 1)) ∧ f_X3_readEither (f_X3_readPart fu) (cS s R rid (nI k) 0 C) (nI lvl) = some (cS s R rid (nI p') 0 (addL C u (D ++ opL o1 o2))) ∧ sg (R 4) L p' ≠ 38 ∧ sg (R 4) L p' ≠ 124 ∧ j ≤ p' - k ∧ (∀ i, i < hh → g6' i = g6 i) ∧ opG o1 o2 hh g6' ∧ (∀ i, i ≠ v1 → g4' i = g4 i) ∧ reach v1 j (1, dS P (nI k) z (nI (tb + u)) (nI hh) (nI lvl) g4 g5 g6) (0, dS P (nI p') z' (nI (tb + u + D.length)) (nI (hh + opN o1 o2)) (nI lvl) g4' (putL g5 (tb + u) D) g6'))
