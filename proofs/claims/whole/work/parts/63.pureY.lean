/-! the pure side Y: the relation of both sides -/
def HOL (f : Nat) (a b : Int32) : Prop := a = b ∧ (a = -1 ∨ ∃ h, h < f ∧ a = nI h)
def CTS (σ : Mm) (P : Pm) : Prop := ∃ f, f ≤ 6 ∧ σ 0 0 10 = nI f ∧ P 0 13 = nI f ∧ (∀ g, g < f → ∃ L en, P 20 g = nI L ∧ CLS (σ (8 + g)) (P 21) (P 22) (P 23) (P 24) (P 25) (10 * g) (100 * g) en L) ∧ (σ 7 0 3 = 0 ∧ σ 7 0 0 = 10 ∧ σ 7 0 1 = 0 ∧ σ 7 0 2 = 0) ∧ HOL f (σ 0 0 11) (P 0 14) ∧ (σ 0 0 13 ≠ 0 → HOL f (σ 0 0 12) (P 0 54))
def TXT (σ : Mm) (P : Pm) : Prop := ∃ L, L ≤ 100 ∧ σ 6 0 0 = nI L ∧ P 0 15 = nI L ∧ σ 6 4 = P 19 ∧ LET P
def IMW (P V : Pm) : Prop := P 0 55 = V 0 0 ∧ P 0 56 = V 0 2 ∧ P 0 57 = V 0 1 ∧ (∀ i, i < 6 → P 62 i = V 5 i ∧ P 63 i = V 6 i ∧ P 64 i = V 7 i ∧ P 65 i = V 8 i ∧ P 66 i = V 9 i ∧ P 67 i = V 10 i ∧ P 68 i = V 11 i ∧ P 69 i = V 12 i ∧ P 70 i = V 13 i) ∧ ∀ i, i < 24 → P 71 i = V 14 i
def IMG (σ : Mm) (P : Pm) : Prop := NZ (σ 3) ∧ σ 0 0 13 = P 0 53 ∧ (σ 0 0 13 ≠ 0 → ∃ n d, DI n d (σ 3) ∧ d ≤ 9999 ∧ HG n (σ 5) (P 0 58) (P 0 59) (P 0 60) (P 72) (P 73) (P 74) (P 75) (P 76) (P 77) ∧ IMW P (σ 3))
def AKT (σ : Mm) (P : Pm) : Prop := ∃ r, r < 2 ^ 20 ∧ σ 15 0 0 = nI r ∧ P 0 77 = nI r ∧ ∀ i, i < r → i < 20 → σ 15 2 i = P 79 i
def TPS (σ : Mm) (P : Pm) (lm : Ml) : Prop := ∀ t, t < 6 → σ 16 1 t = P 80 t ∧ (σ 16 1 t = -1 ∨ ∃ q m, q ≤ 4 ∧ m ≤ 60 ∧ σ 16 1 t = nI q ∧ σ 16 2 t = nI m ∧ P 81 t = nI m ∧ ∀ i, i < m → lm 16 (4 + t) i = lm 17 82 (60 * t + i))
def WEL (n d : Nat) (σ : Mm) (P : Pm) : Prop := NZ (σ 1) ∧ NZ (σ 2) ∧ DI n d (σ 1) ∧ d ≤ 9999 ∧ Rest P (σ 1) ∧ HR n (σ 4) P
/-- all but the well and the hand -/
def RE5 (σ : Mm) (P : Pm) (lm : Ml) : Prop := CTS σ P ∧ TXT σ P ∧ IMG σ P ∧ AKT σ P ∧ TPS σ P lm
def RR (σ : Mm) (P : Pm) (lm : Ml) : Prop := (∃ n d, WEL n d σ P) ∧ RE5 σ P lm
/-- only the well's, the hand's cells are others -/
def MW (P Q : Pm) : Prop := (∀ c, ¬ (c = 0 ∨ (4 ≤ c ∧ c ≤ 13) ∨ c = 33 ∨ (38 ≤ c ∧ c ≤ 53)) → Q c = P c) ∧ ∀ i, ¬ (i ≤ 2 ∨ (30 ≤ i ∧ i ≤ 48)) → Q 0 i = P 0 i
def SW (s t : Mm) : Prop := (∀ o, o ≠ 1 → o ≠ 2 → o ≠ 4 → kdo o ≠ 1 → t o = s o) ∧ ∀ o, kdo o = 1 → CEq (s o) (t o)
section Re
variable {s t : Mm} {P Q C D : Pm} {lm : Ml} {q1 q2 q3 q4 q5 : Nat → Int32} {b tb L n d : Nat} {en : Nat → Nat}
theorem CLS_E (h : CLS C q1 q2 q3 q4 q5 b tb en L) (hE : CEq C D) : CLS D q1 q2 q3 q4 q5 b tb en L := by
  unfold CLS cnS at h ⊢
  rw [← hE 0 (by decide), ← hE 6 (by decide), ← hE 7 (by decide), ← hE 8 (by decide), ← hE 9 (by decide), ← hE 10 (by decide)]
  exact h
theorem RE5_f (h : RE5 s P lm) (hS : SW s t) (hM : MW P Q) : RE5 t Q lm := by
  obtain ⟨h1, h2, h3, h4, h5⟩ := h
  have e0 : t 0 = s 0 := hS.1 0 (by decide) (by decide) (by decide) (by decide)
  have e3 : t 3 = s 3 := hS.1 3 (by decide) (by decide) (by decide) (by decide)
  have e5 : t 5 = s 5 := hS.1 5 (by decide) (by decide) (by decide) (by decide)
  have e6 : t 6 = s 6 := hS.1 6 (by decide) (by decide) (by decide) (by decide)
  have e15 : t 15 = s 15 := hS.1 15 (by decide) (by decide) (by decide) (by decide)
  have e16 : t 16 = s 16 := hS.1 16 (by decide) (by decide) (by decide) (by decide)
  have m : ∀ c, ¬ (c = 0 ∨ (4 ≤ c ∧ c ≤ 13) ∨ c = 33 ∨ (38 ≤ c ∧ c ≤ 53)) → Q c = P c := hM.1
  have m0 : ∀ i, ¬ (i ≤ 2 ∨ (30 ≤ i ∧ i ≤ 48)) → Q 0 i = P 0 i := hM.2
  refine ⟨?_, ?_, ?_, ?_, ?_⟩
  · obtain ⟨f, a1, a2, a3, a4, a5, a6, a7⟩ := h1
    unfold CTS
    rw [e0, m0 13 (by omega), m0 14 (by omega), m0 54 (by omega), m 20 (by omega), m 21 (by omega), m 22 (by omega), m 23 (by omega), m 24 (by omega), m 25 (by omega), ← hS.2 7 rfl 0 (by decide)]
    refine ⟨f, a1, a2, a3, fun g hg => ?_, a5, a6, a7⟩
    obtain ⟨L, en, b1, b2⟩ := a4 g hg
    exact ⟨L, en, b1, CLS_E b2 (hS.2 (8 + g) (kdC (by omega)))⟩
  · unfold TXT LET
    rw [e6, m0 15 (by omega), m 19 (by omega), m 30 (by omega)]
    exact h2
  · unfold IMG IMW
    rw [e0, e3, e5, m0 53 (by omega), m0 55 (by omega), m0 56 (by omega), m0 57 (by omega), m0 58 (by omega), m0 59 (by omega), m0 60 (by omega), m 62 (by omega), m 63 (by omega), m 64 (by omega), m 65 (by omega), m 66 (by omega), m 67 (by omega), m 68 (by omega), m 69 (by omega), m 70 (by omega), m 71 (by omega), m 72 (by omega), m 73 (by omega), m 74 (by omega), m 75 (by omega), m 76 (by omega), m 77 (by omega)]
    exact h3
  · unfold AKT
    rw [e15, m0 77 (by omega), m 79 (by omega)]
    exact h4
  · unfold TPS
    rw [e16, m 80 (by omega), m 81 (by omega)]
    exact h5
/-- from the relation: all that an asking needs -/
theorem RR_AR (h1 : WEL n d s P) (h2 : CTS s P) : ∃ rid mk sp fi rt, AR n d rid mk sp fi rt s P (s 1) ∧ ∀ W x j, rt (up2 W 0 3 x) j = rt W j := by
  obtain ⟨w1, w2, w3, w4, w5, w6⟩ := h1
  obtain ⟨f, a1, a2, a3, a4, a5, a6, a7⟩ := h2
  have hfct : ∀ (W : Pm) (x : Int32) (j : Nat), fct (up2 W 0 3 x) j = fct W j := fun W x j => rfl
  have hru : (∃ g, g < f ∧ s 0 0 11 = nI g ∧ f_X6_rules s = some (8 + g)) ∨ (s 0 0 11 = -1 ∧ f_X6_rules s = some 7) := by
    unfold f_X6_rules
    rw [e_win, Option.bind_some, a2]
    obtain ⟨-, b1 | ⟨g, b1, b2⟩⟩ := a6
    · right
      rw [b1]
      refine ⟨rfl, ?_⟩
      rw [if_pos (show win (-1) 0 (nI f - 1) = 0 from if_pos (by decide))]
    · left
      refine ⟨g, b1, b2, ?_⟩
      rw [b2, known_y (by omega) b1, if_neg (show ¬ (1 : Int32) = 0 by decide), if_pos (inb_nI (by omega) (by decide)), ix_nI (by omega)]
  rcases hru with ⟨g, g1, g2, g3⟩ | ⟨g1, g2⟩
  · obtain ⟨L, en, c1, c2⟩ := a4 g g1
    have hB : BB P (10 * g) L := Or.inr ⟨g, by omega, by rw [← a6.1]; exact g2, c1, rfl⟩
    exact ⟨8 + g, _, _, _, _, ⟨w1, w2, rfl, w3, w4, w5, g3, kdC (by omega), Cty_of c2, CtyP_of c2 hB⟩, fun W x j => by
      show imax 0 _ = imax 0 _
      rw [hfct]⟩
  · have c2 : CLS (s 7) (P 21) (P 22) (P 23) (P 24) (P 25) 0 0 (fun _ => 0) 0 := ⟨by omega, by omega, by omega, fun i hi => absurd hi (by omega), rfl, a5.1, fun i hi => absurd hi (by omega), a5.2.1, a5.2.2.1, a5.2.2.2⟩
    have hB : BB P 0 0 := Or.inl ⟨by rw [← a6.1]; exact g1, rfl, rfl⟩
    exact ⟨7, _, _, _, _, ⟨w1, w2, rfl, w3, w4, w5, g2, rfl, Cty_of c2, CtyP_of c2 hB⟩, fun W x j => by
      show imax 0 _ = imax 0 _
      rw [hfct]⟩
theorem MB_MW (h : MB P Q) : MW P Q := ⟨fun c hc => h.1 c (by omega), fun i hi => h.2 i (by omega)⟩
theorem SB_SW (h : SB s t) : SW s t := ⟨fun o _ h2 _ hk => h.1 o h2 hk, h.2⟩
/-- both sides answer alike, and are related again -/
def QS {α : Type} (s : Mm) (lm : Ml) (x : Option (α × Mm)) (y : Option (α × Pm)) : Prop := ∃ r t Q, x = some (r, t) ∧ y = some (r, Q) ∧ t 17 = s 17 ∧ RR t Q lm
theorem QS_of {α : Type} {x : Option (α × Mm)} {y : Option (α × Pm)} (h : QA s P (s 1) x y) (h1 : WEL n d s P) (h2 : RE5 s P lm) : QS s lm x y := by
  obtain ⟨r, t, Q, e1, e2, a1, a2, a3, a4⟩ := h
  obtain ⟨w1, w2, w3, w4, w5, w6⟩ := h1
  have t1 : t 1 = s 1 := a1.1 1 (by decide) (by decide)
  have t4 : t 4 = s 4 := a1.1 4 (by decide) (by decide)
  refine ⟨r, t, Q, e1, e2, a1.1 17 (by decide) (by decide), ⟨n, d, ?_⟩, RE5_f h2 (SB_SW a1) (MB_MW a3)⟩
  unfold WEL
  rw [t1, t4]
  exact ⟨w1, a2, w3, w4, a4, HR_MB w6 a3⟩
section Ak
variable {a1 a2 : Int32}
theorem s_on (h : RR s P lm) : QS s lm (f_X6_on s a1 a2) (f_X7_on P a1 a2) := by
  obtain ⟨⟨n, d, h1⟩, h2⟩ := h
  obtain ⟨rid, mk, sp, fi, rt, hA, -⟩ := RR_AR h1 h2.1
  exact QS_of (q_on hA) h1 h2
theorem s_lowest (h : RR s P lm) : QS s lm (f_X6_lowest s a1 a2) (f_X7_lowest P a1 a2) := by
  obtain ⟨⟨n, d, h1⟩, h2⟩ := h
  obtain ⟨rid, mk, sp, fi, rt, hA, -⟩ := RR_AR h1 h2.1
  exact QS_of (q_lowest hA) h1 h2
theorem s_first (h : RR s P lm) : QS s lm (f_X6_first s) (f_X7_first P) := by
  obtain ⟨⟨n, d, h1⟩, h2⟩ := h
  obtain ⟨rid, mk, sp, fi, rt, hA, -⟩ := RR_AR h1 h2.1
  exact QS_of (q_first hA) h1 h2
theorem s_best (h : RR s P lm) : QS s lm (f_X6_best s a1) (f_X7_best P a1) := by
  obtain ⟨⟨n, d, h1⟩, h2⟩ := h
  obtain ⟨rid, mk, sp, fi, rt, hA, -⟩ := RR_AR h1 h2.1
  exact QS_of (q_best hA) h1 h2
theorem s_seldom (h : RR s P lm) : QS s lm (f_X6_seldom s a1) (f_X7_seldom P a1) := by
  obtain ⟨⟨n, d, h1⟩, h2⟩ := h
  obtain ⟨rid, mk, sp, fi, rt, hA, -⟩ := RR_AR h1 h2.1
  exact QS_of (q_seldom hA) h1 h2
theorem s_more (h : RR s P lm) : QS s lm (f_X6_more s a1) (f_X7_more P a1) := by
  obtain ⟨⟨n, d, h1⟩, h2⟩ := h
  obtain ⟨rid, mk, sp, fi, rt, hA, -⟩ := RR_AR h1 h2.1
  exact QS_of (q_more hA) h1 h2
theorem s_wanted (h : RR s P lm) : QS s lm (f_X6_wanted s a1 a2) (f_X7_wanted P a1 a2) := by
  obtain ⟨⟨n, d, h1⟩, h2⟩ := h
  obtain ⟨rid, mk, sp, fi, rt, hA, -⟩ := RR_AR h1 h2.1
  exact QS_of (q_wanted hA h1.2.2.2.2.2) h1 h2
theorem s_can (h : RR s P lm) : QS s lm (f_X6_can s a1 a2) (f_X7_can P a1 a2) := by
  obtain ⟨⟨n, d, h1⟩, h2⟩ := h
  obtain ⟨rid, mk, sp, fi, rt, hA, -⟩ := RR_AR h1 h2.1
  exact QS_of (q_can hA h1.2.2.2.2.2) h1 h2
theorem s_odds (h : RR s P lm) : QS s lm (f_X6_odds s a1 a2) (f_X7_odds P a1 a2) := by
  obtain ⟨⟨n, d, h1⟩, h2⟩ := h
  obtain ⟨rid, mk, sp, fi, rt, hA, -⟩ := RR_AR h1 h2.1
  exact QS_of (q_odds hA) h1 h2
theorem s_mean (h : RR s P lm) : QS s lm (f_X6_mean s a1 a2) (f_X7_mean P a1 a2) := by
  obtain ⟨⟨n, d, h1⟩, h2⟩ := h
  obtain ⟨rid, mk, sp, fi, rt, hA, -⟩ := RR_AR h1 h2.1
  exact QS_of (q_mean hA) h1 h2
theorem s_gone (h : RR s P lm) : QS s lm (f_X6_gone s a1) (f_X7_gone P a1) := by
  obtain ⟨⟨n, d, h1⟩, h2⟩ := h
  obtain ⟨rid, mk, sp, fi, rt, hA, -⟩ := RR_AR h1 h2.1
  exact QS_of (q_gone hA h1.2.2.2.2.2) h1 h2
theorem s_told (h : RR s P lm) : ∃ r, f_X6_told s a1 = some r ∧ f_X7_told P a1 = some r := by
  obtain ⟨⟨n, d, h1⟩, h2⟩ := h
  obtain ⟨rid, mk, sp, fi, rt, hA, -⟩ := RR_AR h1 h2.1
  exact q_told hA
/-- nothing has changed -/
theorem QS_0 {α : Type} {r : α} (h : RR s P lm) : QS s lm (some (r, s)) (some (r, P)) := ⟨r, s, P, rfl, rfl, rfl, h⟩
end Ak
end Re
