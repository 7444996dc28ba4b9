/-! the pure side F: a condition, as the reference finds it -/
section Con
variable {M W : Pm} {fx tk g f : Nat → Int32} {a m j v1 : Nat}
theorem wp_33 {i : Nat} {x : Int32} : up2 (put (setO M 33 g) W) 33 i x = put (setO M 33 (upd g i x)) W := by
  rw [← put_pile, ← put_pile]
  funext c
  by_cases h : c = 33
  · subst h
    rw [up2_g, if_pos rfl, setO_s, setO_s]
  · rw [up2_g, if_neg h, setO_n h, setO_n h]
theorem p33 : put (setO M 33 g) W 33 = g := by
  rw [← put_pile, setO_s]
theorem pM {c : Nat} (h : ¬ (c = 0 ∨ c = 4 ∨ c = 5 ∨ c = 6 ∨ c = 7 ∨ c = 8 ∨ c = 9 ∨ c = 10 ∨ c = 11 ∨ c = 12 ∨ c = 13)) (h2 : c ≠ 33) : put (setO M 33 g) W c = M c := by
  rw [put_n h, setO_n h2]
/-- the facts of a borrower -/
def fct (W : Pm) (j f : Nat) : Int32 := if f = 0 then nI j else if f = 1 then W 5 j else if f = 2 then W 6 j else if f = 3 then W 9 j / 10 else if f = 4 then W 10 j else W 0 1 - W 0 1 / 10 * 10
theorem m_fact {i : Nat} (hi : i < 6) (hj : j < 6) : f_X7_factOf (put M W) (nI i) (nI j) = some (fct W j i) := by
  have h6 : inb (nI j) 6 = true := inb_nI hj (by decide)
  have hx : ix (nI j) = j := ix_nI (by omega)
  unfold f_X7_factOf fct
  simp only [h6, hx, if_true]
  rcases (show i = 0 ∨ i = 1 ∨ i = 2 ∨ i = 3 ∨ i = 4 ∨ i = 5 by omega) with h | h | h | h | h | h <;> subst h <;> rfl
theorem m_holds (hv1 : v1 < 60) (hj : j < 6) (h23 : M 23 v1 = nI a) (h24 : M 24 v1 = nI (a + m)) (hT : ∀ k, k < m → tokO (tk k) ∧ M 25 (a + k) = tk k) (hw : wfS tk m) (ha : a + m ≤ 600) (hm : m ≤ 190) : ∃ f', f_X7_holds (put (setO M 33 f) W) (nI v1) (nI j) = some (nI (evS (fct W j) tk m), put (setO M 33 f') W) ∧ evS (fct W j) tk m < 2 := by
  have hin1 : inb (nI v1) 60 = true := inb_nI hv1 (by decide)
  have hix1 : ix (nI v1) = v1 := ix_nI (by omega)
  obtain ⟨r, h1, g, rfl, h2⟩ := iter_I (body := fun t : Int32 × Int32 × Pm => f_X7_holds_B10 (nI v1) (nI j) t.1 t.2.1 t.2.2) (fun i u => u.1 = nI (htS tk i) ∧ u.2.1 = nI (a + i) ∧ ∃ g, u.2.2 = put (setO M 33 g) W ∧ pR g (htS tk i) (evS (fct W j) tk i)) (fun r => ∃ g, r = put (setO M 33 g) W ∧ pR g (htS tk m) (evS (fct W j) tk m)) m
    (fun i u hi hI => by
      obtain ⟨u1, u2, u⟩ := u
      obtain ⟨q1, q2, g, q3, q4⟩ := hI
      dsimp only at q1 q2 q3
      subst q1 q2 q3
      show ∃ s', f_X7_holds_B10 (nI v1) (nI j) (nI (htS tk i)) (nI (a + i)) (put (setO M 33 g) W) = _ ∧ _
      have hin : inb (nI (a + i)) 600 = true := inb_nI (by omega) (by decide)
      have hix : ix (nI (a + i)) = a + i := ix_nI (by omega)
      have hnx : nI (a + i) + 1 = nI (a + (i + 1)) := nI_1 _
      obtain ⟨w1, w2, w3⟩ := hw.2 i hi
      obtain ⟨hO, hM⟩ := hT i hi
      have eS : evS (fct W j) tk (i + 1) = evN (fct W j) (tk i) (evS (fct W j) tk i) := rfl
      have eH : htS tk (i + 1) = htN (tk i) (htS tk i) := rfl
      unfold f_X7_holds_B10
      simp only [hin1, hix1, hin, hix, if_true]
      rw [pM (c := 24) (by omega) (by omega), pM (c := 25) (by omega) (by omega), h24, if_neg (nI_ge (by omega) (by omega)), hM, p33]
      unfold f_X7_holds_J60 f_X7_holds_J110 f_X7_holds_J134 f_X7_holds_J139 f_X7_holds_J233 f_X7_holds_J237
      generalize htS tk i = h at q4 w1 w2 w3 eH
      generalize evS (fct W j) tk i = v at q4 eS
      rcases hO with ⟨f, s, x, p1, p2, p3, p4⟩ | p4 | p4 | p4
      · obtain ⟨t1, t2, t3, t4⟩ := tok_t p1 p2 p3
        have ht := tv_2 (fx := fct W j) (t := tk i)
        unfold evN at eS
        unfold htN at eH
        rw [p4, if_pos t1] at eS eH
        rw [p4] at ht
        unfold tv at eS ht
        rw [t2, t3, t4] at eS ht
        have d1 : nI (1000 * f + 100 * s + x) / 1000 = nI f := by
          rw [show (1000 : Int32) = nI 1000 from rfl, pk_div (by omega) (by omega) (by omega)]
          congr 1
          omega
        have d2 : nI (1000 * f + 100 * s + x) / 100 - nI (1000 * f + 100 * s + x) / 100 / 10 * 10 = nI s := by
          rw [show (100 : Int32) = nI 100 from rfl, pk_div (by omega) (by omega) (by omega), show (10 : Int32) = nI 10 from rfl, pk_rem (by omega) (by omega) (by omega)]
          congr 1
          omega
        have d3 : nI (1000 * f + 100 * s + x) - nI (1000 * f + 100 * s + x) / 100 * 100 = nI x := by
          rw [show (100 : Int32) = nI 100 from rfl, pk_rem (by omega) (by omega) (by omega)]
          congr 1
          omega
        have hne : ¬ nI (1000 * f + 100 * s + x) = -33 := fun q => by
          rw [q] at t1
          exact absurd t1 (by decide)
        rw [p4, if_neg hne, if_pos t1, d1, d2, d3, m_fact p1 hj, Option.bind_some, if_pos (inb_nI (show h < 100 by omega) (by decide)), ix_nI (show h < 2 ^ 31 by omega)]
        have fin : ∀ b : Nat, b < 2 → (nI b = 0 ∨ nI b = 1) → evS (fct W j) tk (i + 1) = 2 * v + b → ∃ s' : Int32 × Int32 × Pm, (if nI b = 0 ∨ nI b = 1 then nb (up2 (put (setO M 33 g) W) 33 h (nI b)) fun P5 => some (Sum.inl (α := Int32 × Int32 × Pm) (β := Pm) (nI h + 1, nI (a + i) + 1, P5)) else none) = some (Sum.inl s') ∧ s'.1 = nI (htS tk (i + 1)) ∧ s'.2.1 = nI (a + (i + 1)) ∧ ∃ g, s'.2.2 = put (setO M 33 g) W ∧ pR g (htS tk (i + 1)) (evS (fct W j) tk (i + 1)) := by
          intro b hb hb2 hE
          rw [if_pos hb2, nb_w, wp_33]
          refine ⟨_, rfl, ?_, hnx, _, rfl, ?_⟩
          · show nI h + 1 = _
            rw [nI_1, eH]
          · rw [eH, hE]
            exact pR_t hb q4
        rcases (show s = 0 ∨ s = 1 ∨ s = 2 by omega) with hs | hs | hs
        · subst hs
          rw [if_pos rfl] at eS
          rw [if_pos (show nI 0 = (0 : Int32) from rfl)]
          by_cases cc : nI x ≤ fct W j f
          · rw [if_pos cc] at eS
            rw [if_pos cc]
            try rw [if_pos (inb_nI (show h < 100 by omega) (by decide))]
            exact fin 0 (by omega) (Or.inl rfl) eS
          · rw [if_neg cc] at eS
            rw [if_neg cc]
            try rw [if_pos (inb_nI (show h < 100 by omega) (by decide))]
            exact fin 1 (by omega) (Or.inr rfl) eS
        · subst hs
          rw [if_neg (by decide), if_pos rfl] at eS
          rw [if_neg (by decide), if_pos (show nI 1 = (1 : Int32) from rfl)]
          by_cases cc : fct W j f = nI x
          · rw [if_pos cc] at eS
            rw [if_pos cc]
            try rw [if_pos (inb_nI (show h < 100 by omega) (by decide))]
            exact fin 1 (by omega) (Or.inr rfl) eS
          · rw [if_neg cc] at eS
            rw [if_neg cc]
            try rw [if_pos (inb_nI (show h < 100 by omega) (by decide))]
            exact fin 0 (by omega) (Or.inl rfl) eS
        · subst hs
          rw [if_neg (by decide), if_neg (by decide)] at eS
          rw [if_neg (by decide), if_neg (by decide)]
          by_cases cc : fct W j f ≤ nI x
          · rw [if_pos cc] at eS
            rw [if_pos cc]
            try rw [if_pos (inb_nI (show h < 100 by omega) (by decide))]
            exact fin 0 (by omega) (Or.inl rfl) eS
          · rw [if_neg cc] at eS
            rw [if_neg cc]
            try rw [if_pos (inb_nI (show h < 100 by omega) (by decide))]
            exact fin 1 (by omega) (Or.inr rfl) eS
      · have hh := w2 p4
        obtain ⟨z, rfl⟩ : ∃ z, h = z + 1 := ⟨h - 1, by omega⟩
        unfold evN at eS
        unfold htN at eH
        rw [p4, if_neg (by decide), if_pos rfl] at eS eH
        obtain ⟨r1, r2⟩ := q4
        rw [p4, if_pos rfl, nI_pred, if_pos (inb_nI (show z < 100 by omega) (by decide)), ix_nI (show z < 2 ^ 31 by omega), r1, if_pos (inb_nI (show z < 100 by omega) (by decide)), if_pos (inb_nI (show z < 100 by omega) (by decide)), if_pos (Or.inr rfl), if_pos (Or.inl rfl), nb_w, nb_w, wp_33, wp_33]
        by_cases c2 : v % 2 = 0
        · rw [if_pos c2] at eS
          rw [if_pos (by rw [c2]; rfl)]
          refine ⟨_, rfl, ?_, hnx, _, rfl, ?_⟩
          · rw [eH]
          · rw [eH, eS]
            exact pR_p (v := 1) (by rw [show (v + 1) / 2 = v / 2 by omega]; exact r2) (by omega)
        · rw [if_neg c2] at eS
          rw [if_neg (by rw [show v % 2 = 1 by omega]; decide)]
          refine ⟨_, rfl, ?_, hnx, _, rfl, ?_⟩
          · rw [eH]
          · rw [eH, eS]
            exact pR_p (v := 0) (by rw [show (v - 1) / 2 = v / 2 by omega]; exact r2) (by omega)
      · have hh := w3 (Or.inl p4)
        obtain ⟨z, rfl⟩ : ∃ z, h = z + 2 := ⟨h - 2, by omega⟩
        unfold evN at eS
        unfold htN at eH
        rw [p4, if_neg (by decide), if_neg (by decide)] at eH
        rw [p4, if_neg (by decide), if_neg (by decide), if_pos rfl] at eS
        obtain ⟨r1, r2, r3⟩ := q4
        have hn1 : nI (z + 2) + -1 = nI (z + 1) := pk_m1 _
        have hiz : inb (nI z) 100 = true := inb_nI (by omega) (by decide)
        have hiz1 : inb (nI (z + 1)) 100 = true := inb_nI (by omega) (by decide)
        have hxz : ix (nI z) = z := ix_nI (by omega)
        have hxz1 : ix (nI (z + 1)) = z + 1 := ix_nI (by omega)
        have fin : ∀ b : Nat, (nI b = 0 ∨ nI b = 1) → evS (fct W j) tk (i + 1) % 2 = b → evS (fct W j) tk (i + 1) / 2 = v / 2 / 2 → ∃ s' : Int32 × Int32 × Pm, (if nI b = 0 ∨ nI b = 1 then nb (up2 (put (setO M 33 g) W) 33 z (nI b)) fun P5 => some (Sum.inl (α := Int32 × Int32 × Pm) (β := Pm) (nI (z + 1), nI (a + i) + 1, P5)) else none) = some (Sum.inl s') ∧ s'.1 = nI (htS tk (i + 1)) ∧ s'.2.1 = nI (a + (i + 1)) ∧ ∃ g, s'.2.2 = put (setO M 33 g) W ∧ pR g (htS tk (i + 1)) (evS (fct W j) tk (i + 1)) := by
          intro b hb2 hE1 hE2
          rw [if_pos hb2, nb_w, wp_33]
          refine ⟨_, rfl, ?_, hnx, _, rfl, ?_⟩
          · rw [eH]
            rfl
          · rw [eH]
            exact pR_p (v := b) (by rw [hE2]; exact r3) hE1
        rw [p4, if_neg (by decide), if_neg (by decide), if_pos rfl]
        simp only [hn1, nI_pred, hiz, hiz1, hxz, hxz1, if_true, r1, r2]
        by_cases c1 : v / 2 % 2 = 0
        · rw [if_pos (by rw [c1]; rfl)]
          refine fin 0 (Or.inl rfl) ?_ ?_
          · rw [eS]; split <;> omega
          · rw [eS]; split <;> omega
        · rw [if_neg (by rw [show v / 2 % 2 = 1 by omega]; decide)]
          by_cases c2 : v % 2 = 0
          · rw [if_pos (by rw [c2]; rfl)]
            refine fin 0 (Or.inl rfl) ?_ ?_
            · rw [eS, if_neg (by omega)]; omega
            · rw [eS, if_neg (by omega)]; omega
          · rw [if_neg (by rw [show v % 2 = 1 by omega]; decide)]
            refine fin 1 (Or.inr rfl) ?_ ?_
            · rw [eS, if_pos (by omega)]; omega
            · rw [eS, if_pos (by omega)]
      · have hh := w3 (Or.inr p4)
        obtain ⟨z, rfl⟩ : ∃ z, h = z + 2 := ⟨h - 2, by omega⟩
        unfold evN at eS
        unfold htN at eH
        rw [p4, if_neg (by decide), if_neg (by decide)] at eH
        rw [p4, if_neg (by decide), if_neg (by decide), if_neg (by decide)] at eS
        obtain ⟨r1, r2, r3⟩ := q4
        have hn1 : nI (z + 2) + -1 = nI (z + 1) := pk_m1 _
        have hiz : inb (nI z) 100 = true := inb_nI (by omega) (by decide)
        have hiz1 : inb (nI (z + 1)) 100 = true := inb_nI (by omega) (by decide)
        have hxz : ix (nI z) = z := ix_nI (by omega)
        have hxz1 : ix (nI (z + 1)) = z + 1 := ix_nI (by omega)
        have fin : ∀ b : Nat, (nI b = 0 ∨ nI b = 1) → evS (fct W j) tk (i + 1) % 2 = b → evS (fct W j) tk (i + 1) / 2 = v / 2 / 2 → ∃ s' : Int32 × Int32 × Pm, (if nI b = 0 ∨ nI b = 1 then nb (up2 (put (setO M 33 g) W) 33 z (nI b)) fun P5 => some (Sum.inl (α := Int32 × Int32 × Pm) (β := Pm) (nI (z + 1), nI (a + i) + 1, P5)) else none) = some (Sum.inl s') ∧ s'.1 = nI (htS tk (i + 1)) ∧ s'.2.1 = nI (a + (i + 1)) ∧ ∃ g, s'.2.2 = put (setO M 33 g) W ∧ pR g (htS tk (i + 1)) (evS (fct W j) tk (i + 1)) := by
          intro b hb2 hE1 hE2
          rw [if_pos hb2, nb_w, wp_33]
          refine ⟨_, rfl, ?_, hnx, _, rfl, ?_⟩
          · rw [eH]
            rfl
          · rw [eH]
            exact pR_p (v := b) (by rw [hE2]; exact r3) hE1
        rw [p4, if_neg (by decide), if_neg (by decide), if_neg (by decide)]
        simp only [hn1, nI_pred, hiz, hiz1, hxz, hxz1, if_true, r1, r2]
        by_cases c1 : v / 2 % 2 = 0
        · rw [if_pos (by rw [c1]; rfl)]
          by_cases c2 : v % 2 = 0
          · rw [if_pos (by rw [c2]; rfl)]
            refine fin 0 (Or.inl rfl) ?_ ?_
            · rw [eS, if_neg (by omega)]; omega
            · rw [eS, if_neg (by omega)]
          · rw [if_neg (by rw [show v % 2 = 1 by omega]; decide)]
            refine fin 1 (Or.inr rfl) ?_ ?_
            · rw [eS, if_pos (by omega)]; omega
            · rw [eS, if_pos (by omega)]; omega
        · rw [if_neg (by rw [show v / 2 % 2 = 1 by omega]; decide)]
          refine fin 1 (Or.inr rfl) ?_ ?_
          · rw [eS]; split <;> omega
          · rw [eS]; split <;> omega)
    (fun u hI => by
      obtain ⟨u1, u2, u⟩ := u
      obtain ⟨q1, q2, g, q3, q4⟩ := hI
      dsimp only at q1 q2 q3
      subst q1 q2 q3
      refine ⟨_, ?_, g, rfl, q4⟩
      show f_X7_holds_B10 (nI v1) (nI j) (nI (htS tk m)) (nI (a + m)) (put (setO M 33 g) W) = _
      unfold f_X7_holds_B10
      rw [if_pos hin1, hix1, pM (c := 24) (by omega) (by omega), h24, if_pos (Int32.le_refl _)]) m 0 (0, nI a, put (setO M 33 f) W) (by omega) ⟨rfl, rfl, f, rfl, rfl⟩ 200 (by omega)
  have hlt : evS (fct W j) tk m < 2 := by
    have := pR_lt h2
    rw [hw.1] at this
    exact this
  rw [hw.1] at h2
  refine ⟨g, ?_, hlt⟩
  unfold f_X7_holds f_X7_holds_H10
  rw [if_pos hin1, hix1, pM (c := 23) (by omega) (by omega), h23, h1, Option.bind_some]
  unfold f_X7_holds_J243
  have e0 : put (setO M 33 g) W 33 (ix 0) = nI (evS (fct W j) tk m) := by
    rw [p33, show ix 0 = 0 from rfl, h2.1]
    congr 1
    omega
  rw [if_pos (by decide), e0]
  rcases (show evS (fct W j) tk m = 0 ∨ evS (fct W j) tk m = 1 by omega) with e | e
  · rw [e, if_pos (show nI 0 = 0 ∨ nI 0 = 1 from Or.inl rfl)]
  · rw [e, if_pos (show nI 1 = 0 ∨ nI 1 = 1 from Or.inr rfl)]
end Con
