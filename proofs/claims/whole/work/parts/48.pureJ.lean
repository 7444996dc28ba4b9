/-! the pure side J: a test read; what is pending is emitted -/
section Te
variable {s : Mm} {R P C C' : Pm} {rid L : Nat} {p p' fl z h l x : Int32} {g4 g5 g6 T : Nat → Int32} {j : Nat}
theorem sg_lt2 {k : Nat} (hx : sg T L k ≠ -1) : k < L := by
  apply Decidable.byContradiction
  intro c
  apply hx
  unfold sg
  rw [if_pos (by omega)]
theorem m_emits {q : Nat} {t : Int32} (hq : q < 600) : f_X7_emits (dS P p z (nI q) h l g4 g5 g6) t = some (dS P p z (nI (q + 1)) h l g4 (upd g5 q t) g6) := by
  unfold f_X7_emits
  show (if inb (nI q) 600 = true then nb (up2 (dS P p z (nI q) h l g4 g5 g6) 25 (ix (nI q)) t) (fun P2 => nb (up2 P2 0 26 (P2 0 26 + 1)) (fun P3 => some P3)) else none) = _
  rw [if_pos (inb_nI hq (by decide)), ix_nI (by omega), dS_g5, nb_w, nb_w]
  show some (up2 (dS P p z (nI q) h l g4 (upd g5 q t) g6) 0 26 (nI q + 1)) = _
  rw [dS_26, nI_1]
theorem cS_at {k : Nat} (hr : rid ≠ 6) : setO (cS s R rid (nI k) fl C) 6 (up2 ((cS s R rid (nI k) fl C) 6) 0 1 ((cS s R rid (nI k) fl C) 6 0 1 + 1)) = cS s R rid (nI (k + 1)) fl C := by
  rw [cS_6 hr]
  show setO (cS s R rid (nI k) fl C) 6 (up2 (rdr R (nI k) fl) 0 1 (nI k + 1)) = _
  rw [nI_1]
  exact cS_w6 hr rdr_p
theorem cS_fl (hr : rid ≠ 6) : setO (cS s R rid p fl C) 6 (up2 ((cS s R rid p fl C) 6) 0 2 x) = cS s R rid p x C := by
  rw [cS_6 hr]
  exact cS_w6 hr rdr_f
theorem cS_ct (hr : rid ≠ 6) (hR4 : R 0 4 = nI rid) (hlt : rid < 100) : ix ((cS s R rid p fl C) 6 0 4) = rid := by
  rw [cS_6 hr]
  show ix (R 0 4) = rid
  rw [hR4, ix_nI (by omega)]
theorem m_at {k : Nat} : up2 (dS P (nI k) z p h l g4 g5 g6) 0 16 ((dS P (nI k) z p h l g4 g5 g6) 0 16 + 1) = dS P (nI (k + 1)) z p h l g4 g5 g6 := by
  show up2 (dS P (nI k) z p h l g4 g5 g6) 0 16 (nI k + 1) = _
  rw [dS_16, nI_1]
/-- a test, on both sides: a fault at the same place, or one token -/
theorem q_test {k u : Nat} (hr : rid ≠ 6) (hlt : rid < 100) (hkd : kdo rid = 1) (hL : L ≤ 100) (hR : R 0 0 = nI L) (hR4 : R 0 4 = nI rid) (hP : P 0 15 = nI L) (hT : R 4 = P 19) (hk : k ≤ L) (hu : C 0 4 = nI u) (hu2 : u ≤ k) :
    (∃ p' C', k ≤ p' ∧ p' ≤ L ∧ CG C C' ∧ f_X3_readTest (cS s R rid (nI k) 0 C) = some (cS s R rid (nI p') 1 C') ∧ ∀ z q h l g4 g5 g6, ∃ z', f_X7_takesTest (dS P (nI k) z q h l g4 g5 g6) = some (0, dS P (nI p') z' q h l g4 g5 g6)) ∨
    (∃ p' t a b c, k + 3 ≤ p' ∧ p' ≤ L ∧ tokR a b c t ∧ 0 ≤ t ∧ f_X3_readTest (cS s R rid (nI k) 0 C) = some (cS s R rid (nI p') 0 (stp C u a b c)) ∧ ∀ z (q : Nat) h l g4 g5 g6, q < 600 → ∃ z', f_X7_takesTest (dS P (nI k) z (nI q) h l g4 g5 g6) = Option.bind (f_X7_whole (dS P (nI p') z' (nI (q + 1)) h l g4 (upd g5 q t) g6)) (fun P10 => some (1, P10))) := by
  have hCG : CG C C := ⟨⟨u, by omega, hu⟩, rfl⟩
  unfold f_X3_readTest f_X7_takesTest
  rw [e_sign hr hL hR (by omega), Option.bind_some]
  have hn : ∀ z q h l g4 g5 g6, f_X7_next (dS P (nI k) z q h l g4 g5 g6) = some (sg (R 4) L k) := fun z q h l g4 g5 g6 => by rw [hT]; exact m_next hL hP (by omega)
  rcases q_place (x := sg (R 4) L k) with ⟨i, hi, e1, e2⟩ | ⟨e1, e2⟩
  · have hk1 : k < L := by
      apply sg_lt2 (T := R 4)
      intro w
      have := e2 P
      rw [w] at this
      have h2 : f_X7_place P (-1) = some (-1) := by
        unfold f_X7_place
        decide
      rw [h2] at this
      have h3 := nI_pos (n := i) (by omega)
      rw [← Option.some.inj this] at h3
      exact h3 (by decide)
    rw [e1, Option.bind_some, if_pos (nI_pos' (by omega)), nb_w, cS_at hr, e_sign hr hL hR (by omega), Option.bind_some]
    have hn2 : ∀ z q h l g4 g5 g6, f_X7_next (dS P (nI (k + 1)) z q h l g4 g5 g6) = some (sg (R 4) L (k + 1)) := fun z q h l g4 g5 g6 => by rw [hT]; exact m_next hL hP (by omega)
    rcases q_comp (x := sg (R 4) L (k + 1)) with ⟨c, hc, e3, e4, e5⟩ | ⟨e3, e4⟩
    · have hk2 : k + 1 < L := by
        apply sg_lt2 (T := R 4)
        intro w
        have h3 := nI_pos (n := 60 + c) (by omega)
        rw [← e5, w] at h3
        exact h3 (by decide)
      rw [e3, Option.bind_some, if_pos (nI_pos' (by omega)), nb_w, cS_at hr, cS_ct hr hR4 hlt, if_pos hkd, e_num hr hL hR (by omega), bn2_w, cS_r]
      obtain ⟨b1, b2⟩ := nuE_le (T := R 4) (L := L) (k := k + 1 + 1) (by omega)
      have bv := nuV_le (T := R 4) (L := L) (k := k + 1 + 1)
      by_cases cz : nuE (R 4) L (k + 1 + 1) = k + 1 + 1
      · left
        obtain ⟨C', f1, f2⟩ := e_addStepG (a := nI c) (b := nI i) (c := nI (nuV (R 4) L (k + 1 + 1))) hCG
        refine ⟨k + 1 + 1, C', by omega, by omega, f2, ?_, fun z q h l g4 g5 g6 => ?_⟩
        · rw [f1, Option.bind_some, nb_w, cS_wr, cz, if_pos rfl]
        · obtain ⟨z', m1, -⟩ := m_num (z := z) (q := q) (h := h) (l := l) (g4 := g4) (g5 := g5) (g6 := g6) (k := k + 1 + 1) hL hP (by omega)
          rw [← hT, cz, if_pos rfl] at m1
          rw [hn, Option.bind_some, e2, Option.bind_some, if_pos (nI_pos' (by omega)), nb_w, m_at, hn2, Option.bind_some, m_win, Option.bind_some, e4, if_neg (by decide), nb_w, m_at, m1, bn2_w, if_pos rfl]
          exact ⟨z', rfl⟩
      · right
        refine ⟨nuE (R 4) L (k + 1 + 1), nI (1000 * i + 100 * c + nuV (R 4) L (k + 1 + 1)), nI c, nI i, nI (nuV (R 4) L (k + 1 + 1)), by omega, b2, Or.inl ⟨i, c, _, hi, hc, bv, rfl, rfl, rfl, rfl⟩, nI_pos' (by omega), ?_, fun z q h l g4 g5 g6 hq => ?_⟩
        · rw [e_addStep hu (by omega), Option.bind_some, nb_w, cS_wr, if_neg cz]
        · obtain ⟨z', m1, m2⟩ := m_num (z := z) (q := nI q) (h := h) (l := l) (g4 := g4) (g5 := g5) (g6 := g6) (k := k + 1 + 1) hL hP (by omega)
          rw [← hT] at m1 m2
          rw [if_neg cz] at m1
          have m3 := m2 cz
          subst m3
          have et : 1000 * nI i + 100 * (sg (R 4) L (k + 1) - 60) + nI (nuV (R 4) L (k + 1 + 1)) = nI (1000 * i + 100 * c + nuV (R 4) L (k + 1 + 1)) := by
            rw [e5, show (60 : Int32) = nI 60 from rfl, pk_sub (by omega), show 60 + c - 60 = c by omega, show (1000 : Int32) = nI 1000 from rfl, show (100 : Int32) = nI 100 from rfl, pk_mul, pk_mul, nI_add, nI_add]
          rw [hn, Option.bind_some, e2, Option.bind_some, if_pos (nI_pos' (by omega)), nb_w, m_at, hn2, Option.bind_some, m_win, Option.bind_some, e4, if_neg (by decide), nb_w, m_at, m1, bn2_w, if_neg (by decide)]
          show ∃ z', Option.bind (f_X7_emits _ (1000 * nI i + 100 * (sg (R 4) L (k + 1) - 60) + nI (nuV (R 4) L (k + 1 + 1)))) _ = _
          rw [et, m_emits hq, Option.bind_some]
          exact ⟨_, rfl⟩
    · left
      refine ⟨k + 1, C, by omega, by omega, hCG, ?_, fun z q h l g4 g5 g6 => ⟨z, ?_⟩⟩
      · rw [e3, Option.bind_some, if_neg (by decide), nb_w, cS_fl hr]
      · rw [hn, Option.bind_some, e2, Option.bind_some, if_pos (nI_pos' (by omega)), nb_w, m_at, hn2, Option.bind_some, m_win, Option.bind_some, e4, if_pos rfl]
  · left
    refine ⟨k, C, by omega, by omega, hCG, ?_, fun z q h l g4 g5 g6 => ⟨z, ?_⟩⟩
    · rw [e1, Option.bind_some, if_neg (by decide), nb_w, cS_fl hr]
    · rw [hn, Option.bind_some, e2, Option.bind_some, if_neg (by decide)]
/-- all NOTs that wait for the operand are emitted -/
theorem m_whole {m : Nat} : ∀ {q hh ll : Nat} {g5 : Nat → Int32}, q + m ≤ 600 → hh + m ≤ 101 → m ≤ ll → ll ≤ 200 → (∀ i, i < m → g6 (hh + i) = 33) → (0 < hh → g6 (hh - 1) ≠ 33) → ∀ n, m < n → iter (fun t => f_X7_whole_B0 t) n (dS P p z (nI q) (nI (hh + m)) (nI ll) g4 g5 g6) = some (dS P p z (nI (q + m)) (nI hh) (nI (ll - m)) g4 (putL g5 q (List.replicate m (-33))) g6) := by
  induction m with
  | zero =>
    intro q hh ll g5 hq hh2 hm hl hb ht n hn
    refine iter_end (by omega) ?_
    unfold f_X7_whole_B0
    show (if nI hh ≤ 0 then _ else if inb (nI hh - 1) 101 = true then (if g6 (ix (nI hh - 1)) = 33 then _ else _) else none) = _
    by_cases c : hh = 0
    · subst c
      rw [if_pos (show nI 0 ≤ 0 from Int32.le_refl _)]
      rfl
    · obtain ⟨y, rfl⟩ : ∃ y, hh = y + 1 := ⟨hh - 1, by omega⟩
      rw [if_neg (nI_nle (by omega) (by omega)), nI_pred, if_pos (inb_nI (by omega) (by decide)), ix_nI (by omega), if_neg (show ¬ g6 y = 33 from ht (by omega))]
      rfl
  | succ m ih =>
    intro q hh ll g5 hq hh2 hm hl hb ht n hn
    obtain ⟨y, rfl⟩ : ∃ y, ll = y + 1 := ⟨ll - 1, by omega⟩
    have hs : f_X7_whole_B0 (dS P p z (nI q) (nI (hh + (m + 1))) (nI (y + 1)) g4 g5 g6) = some (.inl (dS P p z (nI (q + 1)) (nI (hh + m)) (nI y) g4 (upd g5 q (-33)) g6)) := by
      unfold f_X7_whole_B0
      show (if nI (hh + m + 1) ≤ 0 then _ else if inb (nI (hh + m + 1) - 1) 101 = true then (if g6 (ix (nI (hh + m + 1) - 1)) = 33 then Option.bind (f_X7_emits (dS P p z (nI q) (nI (hh + (m + 1))) (nI (y + 1)) g4 g5 g6) (-33)) _ else _) else none) = _
      rw [if_neg (nI_nle (by omega) (by omega)), nI_pred, if_pos (inb_nI (by omega) (by decide)), ix_nI (by omega), if_pos (hb m (by omega)), m_emits (by omega), Option.bind_some, nb_w, nb_w]
      show some (Sum.inl (up2 (up2 (dS P p z (nI (q + 1)) (nI (hh + m + 1)) (nI (y + 1)) g4 (upd g5 q (-33)) g6) 0 27 (nI (hh + m + 1) - 1)) 0 28 (up2 (dS P p z (nI (q + 1)) (nI (hh + m + 1)) (nI (y + 1)) g4 (upd g5 q (-33)) g6) 0 27 (nI (hh + m + 1) - 1) 0 28 - 1))) = _
      rw [nI_pred, dS_27]
      show some (Sum.inl (up2 (dS P p z (nI (q + 1)) (nI (hh + m)) (nI (y + 1)) g4 (upd g5 q (-33)) g6) 0 28 (nI (y + 1) - 1))) = _
      rw [nI_pred, dS_28]
    rw [iter_go (by omega) hs, ih (by omega) (by omega) (by omega) (by omega) (fun i hi => hb i (by omega)) ht (n - 1) (by omega), show q + 1 + m = q + (m + 1) by omega, show y + 1 - (m + 1) = y - m by omega]
    rfl
theorem m_whole' {m q hh ll : Nat} {g5 : Nat → Int32} (hq : q + m ≤ 600) (hh2 : hh + m ≤ 101) (hm : m ≤ ll) (hl : ll ≤ 200) (hb : ∀ i, i < m → g6 (hh + i) = 33) (ht : 0 < hh → g6 (hh - 1) ≠ 33) : f_X7_whole (dS P p z (nI q) (nI (hh + m)) (nI ll) g4 g5 g6) = some (dS P p z (nI (q + m)) (nI hh) (nI (ll - m)) g4 (putL g5 q (List.replicate m (-33))) g6) := by
  unfold f_X7_whole f_X7_whole_H0
  rw [m_whole hq hh2 hm hl hb ht 200 (by omega)]
  rfl
/-- one operator that waits is emitted -/
theorem m_set1 {q y : Nat} {o v : Int32} (hq : q < 600) (hy : y < 101) (ho : g6 y = o) (h2 : o = 38 ∨ (o = 124 ∧ v ≠ 38)) : f_X7_settle_B0 v (dS P p z (nI q) (nI (y + 1)) l g4 g5 g6) = some (.inl (dS P p z (nI (q + 1)) (nI y) l g4 (upd g5 q (-o)) g6)) := by
  have J : f_X7_settle_J45 (dS P p z (nI q) (nI (y + 1)) l g4 g5 g6) v = some (.inl (dS P p z (nI (q + 1)) (nI y) l g4 (upd g5 q (-o)) g6)) := by
    unfold f_X7_settle_J45
    show (nb (up2 (dS P p z (nI q) (nI (y + 1)) l g4 g5 g6) 0 27 (nI (y + 1) - 1)) _) = _
    rw [nI_pred, dS_27, nb_w]
    show (if inb (nI y) 101 = true then Option.bind (f_X7_emits (dS P p z (nI q) (nI y) l g4 g5 g6) (-(g6 (ix (nI y))))) _ else none) = _
    rw [if_pos (inb_nI hy (by decide)), ix_nI (by omega), ho, m_emits hq, Option.bind_some]
  unfold f_X7_settle_B0
  rw [J]
  show (if nI (y + 1) ≤ 0 then _ else if inb (nI (y + 1) - 1) 101 = true then (if g6 (ix (nI (y + 1) - 1)) = 38 then _ else if inb (nI (y + 1) - 1) 101 = true then (if g6 (ix (nI (y + 1) - 1)) = 124 then (if v = 38 then _ else _) else _) else none) else none) = _
  rw [if_neg (nI_nle (by omega) (by omega)), nI_pred, if_pos (inb_nI hy (by decide)), ix_nI (by omega), ho]
  rcases h2 with h2 | ⟨h2, h3⟩
  · rw [if_pos h2]
  · rw [if_neg (by rw [h2]; decide), if_pos (inb_nI hy (by decide)), if_pos h2, if_neg h3]
theorem m_set0 {hh : Nat} {v : Int32} (hh2 : hh ≤ 101) (ht : 0 < hh → g6 (hh - 1) ≠ 38 ∧ (g6 (hh - 1) = 124 → v = 38)) : f_X7_settle_B0 v (dS P p z fl (nI hh) l g4 g5 g6) = some (.inr (dS P p z fl (nI hh) l g4 g5 g6)) := by
  unfold f_X7_settle_B0
  show (if nI hh ≤ 0 then _ else if inb (nI hh - 1) 101 = true then (if g6 (ix (nI hh - 1)) = 38 then _ else if inb (nI hh - 1) 101 = true then (if g6 (ix (nI hh - 1)) = 124 then (if v = 38 then _ else _) else _) else none) else none) = _
  by_cases c : hh = 0
  · subst c
    rw [if_pos (show nI 0 ≤ 0 from Int32.le_refl _)]
  · obtain ⟨y, rfl⟩ : ∃ y, hh = y + 1 := ⟨hh - 1, by omega⟩
    obtain ⟨t1, t2⟩ := ht (by omega)
    rw [show y + 1 - 1 = y by omega] at t1 t2
    rw [if_neg (nI_nle (by omega) (by omega)), nI_pred, if_pos (inb_nI (by omega) (by decide)), ix_nI (by omega), if_neg t1, if_pos (inb_nI (by omega) (by decide))]
    by_cases d : g6 y = 124
    · rw [if_pos d, if_pos (t2 d)]
    · rw [if_neg d]
end Te
