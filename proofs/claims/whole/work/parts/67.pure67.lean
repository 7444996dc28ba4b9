/-! the pure side 67: parts of the relation; the text, a country -/
section Pa
variable {s t : Mm} {P Q W V C : Pm} {lm : Ml} {n d f : Nat} {x y a1 a2 a3 a4 : Int32} {q1 q2 q3 q4 q5 q1' q2' q3' q4' q5' : Nat → Int32} {b tb L : Nat} {en : Nat → Nat}
theorem Rest_c2 (h : Rest P W) (hc : ∀ c, 4 ≤ c → c ≤ 13 → Q c = P c) (h0 : ∀ i, (i ≤ 2 ∨ (30 ≤ i ∧ i ≤ 34)) → Q 0 i = P 0 i) : Rest Q W := by
  obtain ⟨r0, r1, r2, r3⟩ := h
  refine ⟨?_, (h0 30 (by omega)).trans r1, (h0 31 (by omega)).trans r2, (h0 33 (by omega)).trans r3⟩
  rw [h0 34 (by omega)]
  exact WV.of ((h0 0 (by omega)).trans r0.r00) ((h0 1 (by omega)).trans r0.r01) ((h0 2 (by omega)).trans r0.r02) ((h0 34 (by omega)).trans r0.r034) ((hc 4 (by omega) (by omega)).trans r0.r4) ((hc 5 (by omega) (by omega)).trans r0.r5) ((hc 6 (by omega) (by omega)).trans r0.r6) ((hc 7 (by omega) (by omega)).trans r0.r7) ((hc 8 (by omega) (by omega)).trans r0.r8) ((hc 9 (by omega) (by omega)).trans r0.r9) ((hc 10 (by omega) (by omega)).trans r0.r10) ((hc 11 (by omega) (by omega)).trans r0.r11) ((hc 12 (by omega) (by omega)).trans r0.r12) ((hc 13 (by omega) (by omega)).trans r0.r13)
theorem WEL_c (h : WEL n d s P) (e1 : t 1 = s 1) (e2 : t 2 = s 2) (e4 : t 4 = s 4) (hc : ∀ c, (4 ≤ c ∧ c ≤ 13) ∨ (46 ≤ c ∧ c ≤ 53) → Q c = P c) (h0 : ∀ i, (i ≤ 2 ∨ (30 ≤ i ∧ i ≤ 48)) → Q 0 i = P 0 i) : WEL n d t Q := by
  obtain ⟨w1, w2, w3, w4, w5, w6⟩ := h
  unfold WEL HR at *
  rw [e1, e2, e4, h0 44 (by omega), h0 47 (by omega), h0 48 (by omega), hc 46 (by omega), hc 47 (by omega), hc 50 (by omega), hc 51 (by omega), hc 52 (by omega), hc 53 (by omega)]
  exact ⟨w1, w2, w3, w4, Rest_c2 w5 (fun c c1 c2 => hc c (by omega)) (fun i hi => h0 i (by omega)), w6⟩
theorem CTS_c (h : CTS s P) (e0 : t 0 = s 0) (ek : ∀ o, kdo o = 1 → CEq (s o) (t o)) (hc : ∀ c, 20 ≤ c → c ≤ 25 → Q c = P c) (h13 : Q 0 13 = P 0 13) (h14 : Q 0 14 = P 0 14) (h54 : Q 0 54 = P 0 54) : CTS t Q := by
  obtain ⟨f, a1, a2, a3, a4, a5, a6, a7⟩ := h
  unfold CTS
  rw [e0, h13, h14, h54, hc 20 (by omega) (by omega), hc 21 (by omega) (by omega), hc 22 (by omega) (by omega), hc 23 (by omega) (by omega), hc 24 (by omega) (by omega), hc 25 (by omega) (by omega), ← ek 7 rfl 0 (by decide)]
  refine ⟨f, a1, a2, a3, fun g hg => ?_, a5, a6, a7⟩
  obtain ⟨L, en, b1, b2⟩ := a4 g hg
  exact ⟨L, en, b1, CLS_E b2 (ek (8 + g) (kdC (by omega)))⟩
theorem TXT_c (h : TXT s P) (e6 : t 6 = s 6) (h15 : Q 0 15 = P 0 15) (h19 : Q 19 = P 19) (h30 : Q 30 = P 30) : TXT t Q := by
  unfold TXT LET at *
  rw [e6, h15, h19, h30]
  exact h
theorem IMG_c (h : IMG s P) (e3 : t 3 = s 3) (e5 : t 5 = s 5) (e0 : t 0 0 13 = s 0 0 13) (hc : ∀ c, 62 ≤ c → c ≤ 77 → Q c = P c) (h0 : ∀ i, 53 ≤ i → i ≤ 60 → Q 0 i = P 0 i) : IMG t Q := by
  unfold IMG IMW at *
  rw [e0, e3, e5, h0 53 (by omega) (by omega), h0 55 (by omega) (by omega), h0 56 (by omega) (by omega), h0 57 (by omega) (by omega), h0 58 (by omega) (by omega), h0 59 (by omega) (by omega), h0 60 (by omega) (by omega), hc 62 (by omega) (by omega), hc 63 (by omega) (by omega), hc 64 (by omega) (by omega), hc 65 (by omega) (by omega), hc 66 (by omega) (by omega), hc 67 (by omega) (by omega), hc 68 (by omega) (by omega), hc 69 (by omega) (by omega), hc 70 (by omega) (by omega), hc 71 (by omega) (by omega), hc 72 (by omega) (by omega), hc 73 (by omega) (by omega), hc 74 (by omega) (by omega), hc 75 (by omega) (by omega), hc 76 (by omega) (by omega), hc 77 (by omega) (by omega)]
  exact h
theorem AKT_c (h : AKT s P) (e15 : t 15 = s 15) (h77 : Q 0 77 = P 0 77) (h79 : Q 79 = P 79) : AKT t Q := by
  unfold AKT at *
  rw [e15, h77, h79]
  exact h
theorem TPS_c (h : TPS s P lm) (e16 : t 16 = s 16) (h80 : Q 80 = P 80) (h81 : Q 81 = P 81) : TPS t Q lm := by
  unfold TPS at *
  rw [e16, h80, h81]
  exact h
theorem kdNe {o o' : Nat} (h : kdo o = 1) (h' : kdo o' ≠ 1) : o ≠ o' := fun e => h' (by rw [← e]; exact h)
theorem s_feed (h : RR s P lm) : QS s lm (f_X6_feed s a1) (f_X7_feed P a1) := by
  obtain ⟨⟨n, d, h1⟩, h2, h3, h4, h5, h6⟩ := id h
  obtain ⟨L, l1, l2, l3, l4, l5⟩ := h3
  unfold f_X6_feed f_X7_feed
  rw [e_win, m_win, Option.bind_some, Option.bind_some]
  by_cases c : win a1 0 127 = 0
  · rw [if_pos c, if_pos c]
    exact QS_0 h
  rw [if_neg c, if_neg c, l2, l3]
  by_cases c2 : L = 100
  · rw [if_neg (show ¬ nI L < 100 by rw [c2]; decide), if_pos (show nI L = 100 by rw [c2]; rfl)]
    exact QS_0 h
  have hin : inb (nI L) 100 = true := inb_nI (by omega) (by decide)
  have hix : ix (nI L) = L := ix_nI (by omega)
  rw [if_pos (show nI L < 100 from nI_lt (b := 100) (by omega) (by omega)), if_neg (fun e => by have := nIeq (b := 100) e (by omega) (by omega); omega), if_pos hin, nb_w, nb_w, hix]
  have e1 : f_X3_take s a1 = some (setO s 6 (up2 (up2 (s 6) 4 L a1) 0 0 (nI (L + 1)))) := by
    unfold f_X3_take
    rw [l2, if_neg (show ¬ (100 : Int32) ≤ nI L from nI_ge (b := 100) (by omega) (by omega)), if_pos hin, nb_w, hix, nb_w, setO_s, setO_2]
    show some (setO s 6 (up2 (up2 (s 6) 4 L a1) 0 0 (s 6 0 0 + 1))) = _
    rw [l2, nI_1]
  rw [e1, Option.bind_some, setO_s]
  have e2 : up2 P 19 L a1 0 15 + 1 = nI (L + 1) := by
    show P 0 15 + 1 = _
    rw [l3, nI_1]
  rw [e2, u_s, u_s]
  have n6 : ∀ o, o ≠ 6 → setO s 6 (up2 (up2 (s 6) 4 L a1) 0 0 (nI (L + 1))) o = s o := fun o h => setO_n h
  refine ⟨_, _, _, rfl, rfl, n6 17 (by decide), ⟨n, d, WEL_c h1 (n6 1 (by decide)) (n6 2 (by decide)) (n6 4 (by decide)) (fun c hc => ?_) (fun i hi => ?_)⟩, CTS_c h2 (n6 0 (by decide)) (fun o ho => ?_) (fun c c1 c2 => ?_) rfl rfl rfl, ⟨L + 1, by omega, ?_, u_s, ?_, ?_⟩, IMG_c h4 (n6 3 (by decide)) (n6 5 (by decide)) (congrFun (congrFun (n6 0 (by decide)) 0) 13) (fun c c1 c2 => ?_) (fun i i1 i2 => ?_), AKT_c h5 (n6 15 (by decide)) rfl rfl, TPS_c h6 (n6 16 (by decide)) rfl rfl⟩
  · rw [u_c (by omega), u_c (by omega)]
  · rw [u_ne (Or.inr (by omega)), u_c (by decide)]
  · rw [n6 o (kdNe ho (by decide))]
    exact CEq.rf
  · rw [u_c (by omega), u_c (by omega)]
  · rw [setO_s, u_s]
  · rw [setO_s]
    show upd (s 6 4) L a1 = upd (P 19) L a1
    rw [l4]
  · unfold LET
    rw [u_c (by decide), u_c (by decide)]
    exact l5
  · rw [u_c (by omega), u_c (by omega)]
  · rw [u_ne (Or.inr (by omega)), u_c (by decide)]
theorem CLS_q (h : CLS C q1 q2 q3 q4 q5 b tb en L) (e : ∀ i, i < b + 10 → q1' i = q1 i ∧ q2' i = q2 i ∧ q3' i = q3 i ∧ q4' i = q4 i) (e5 : ∀ i, i < tb + 100 → q5' i = q5 i) : CLS C q1' q2' q3' q4' q5' b tb en L := by
  obtain ⟨a1, a2, a3, a4, a5, a6, a7, a8, a9, b1⟩ := h
  have p : ∀ i, i ≤ L → pcS q1' b i = pcS q1 b i := fun i hi => pcS_c i (fun j hj => (e _ (by omega)).1)
  have l : ∀ x y, laS q1' q2' b x y L = laS q1 q2 b x y L := fun x y => laS_c L (fun j hj => ⟨(e _ (by omega)).1, (e _ (by omega)).2.1⟩)
  refine ⟨a1, a2, a3, fun i hi => ?_, a5, ?_, fun i hi hp => ?_, ?_, ?_, ?_⟩
  · rw [(e _ (by omega)).1, (e _ (by omega)).2.1]
    exact a4 i hi
  · rw [p L (Nat.le_refl _)]; exact a6
  · rw [(e _ (by omega)).1] at hp
    obtain ⟨c1, c2, c3, c4, c5, c6, c7, c8⟩ := a7 i hi hp
    rw [p i (by omega)]
    refine ⟨c1, c2, ?_, ?_, ?_, c6, fun j hj => ?_, wfS_c c8 (fun j hj => e5 _ (by omega))⟩
    · rw [(e _ (by omega)).2.2.1]; exact c3
    · rw [(e _ (by omega)).2.2.2]; exact c4
    · rw [(e _ (by omega)).1, (e _ (by omega)).2.1]; exact c5
    · rw [e5 _ (by omega)]; exact c7 j hj
  · rw [l]; exact a8
  · rw [l]; exact a9
  · rw [l]; exact b1
theorem HOL_mono {a c : Int32} (h : HOL f a c) : HOL (f + 1) a c := ⟨h.1, h.2.imp id (fun ⟨g, h1, h2⟩ => ⟨g, by omega, h2⟩)⟩
theorem s_country (h : RR s P lm) : QS s lm (f_X6_country s) (f_X7_country P) := by
  obtain ⟨⟨n, d, h1⟩, h2, h3, h4, h5, h6⟩ := id h
  obtain ⟨L, l1, l2, l3, l4, l5⟩ := h3
  obtain ⟨f, f1, f2, f3, f4, f5, f6, f7⟩ := id h2
  unfold f_X6_country f_X7_country
  rw [f2, f3]
  by_cases c : f = 6
  · rw [if_neg (show ¬ nI f < 6 by rw [c]; decide), if_pos (show nI f = 6 by rw [c]; rfl)]
    exact QS_0 h
  have hf : f < 6 := by omega
  rw [if_pos (show nI f < 6 from nI_lt (b := 6) hf (by omega)), if_pos (inb_nI hf (by decide)), ix_nI (by omega), if_neg (show ¬ nI f = 6 from fun e => c (nIeq (b := 6) e (by omega) (by omega)))]
  obtain ⟨r, s', g, P', e1, e2, e3, p', fl', C', rfl, e4⟩ := q_read (s := s) (P := P) hf l1 l2 l3 l4 l5
  rw [e1, e2, bn2_w, bn2_w, nb_w, nb_w]
  have hr : 8 + f ≠ 6 := by omega
  rw [cS_6 hr]
  generalize hR : up2 (s 6) 0 4 (nI (8 + f)) = R
  have hR4 : R 4 = s 6 4 := by rw [← hR, u_c (by decide)]
  generalize hT : setO (cS s R (8 + f) p' fl' C') 6 (up2 (rdr R p' fl') 0 0 0) = T
  have t6 : T 6 = up2 (rdr R p' fl') 0 0 0 := by rw [← hT, setO_s]
  have tf : T (8 + f) = C' := by rw [← hT, setO_n hr, cS_r]
  have tn : ∀ o, o ≠ 6 → o ≠ 8 + f → T o = s o := fun o a b => by rw [← hT, setO_n a, cS_n a b]
  have hk8 := kdC hf
  have tk : ∀ o, kdo o ≠ 1 → o ≠ 6 → T o = s o := fun o a b => tn o b (fun e => a (by rw [e]; exact hk8))
  have hTX : ∀ (T' : Mm) (Q : Pm), T' 6 = T 6 → Q 0 15 = 0 → Q 19 = P' 19 → Q 30 = P' 30 → TXT T' Q := by
    intro T' Q g1 g2 g3 g4
    refine ⟨0, by omega, ?_, g2, ?_, ?_⟩
    · rw [g1, t6, u_s]; rfl
    · rw [g1, t6, g3, e3.1 19 (by omega) (by omega), ← l4, ← hR4]
      rfl
    · unfold LET
      rw [g4]
      exact LET_FQ l5 e3
  have hold : ∀ k, k < f → ∃ L en, P' 20 k = nI L ∧ CLS (T (8 + k)) (P' 21) (P' 22) (P' 23) (P' 24) (P' 25) (10 * k) (100 * k) en L := by
    intro k hk
    obtain ⟨L, en, b1, b2⟩ := f4 k hk
    refine ⟨L, en, (e3.2.2.2.2 k hk).trans b1, ?_⟩
    rw [tn (8 + k) (by omega) (by omega)]
    exact CLS_q b2 (fun i hi => ⟨e3.2.2.1 21 i (by omega) (by omega), e3.2.2.1 22 i (by omega) (by omega), e3.2.2.1 23 i (by omega) (by omega), e3.2.2.1 24 i (by omega) (by omega)⟩) (fun i hi => e3.2.2.2.1 i (by omega))
  have q0 : ∀ i, i ≠ 15 → ¬ (i = 16 ∨ i = 17 ∨ i = 26 ∨ i = 27 ∨ i = 28) → (up2 P' 0 15 0) 0 i = P 0 i := fun i a b => by
    rw [u_ne (Or.inr a)]
    exact e3.2.1 i b
  have qc : ∀ c, c ≠ 0 → (c < 20 ∨ 26 < c) → (up2 P' 0 15 0) c = P c := fun c a b => by
    rw [u_c a]
    exact e3.1 c a b
  rcases e4 with ⟨rfl, rfl, L', en, k1, k2⟩ | ⟨rfl, p, p1, rfl, k1⟩
  · rw [if_pos (show (-1 : Int32) < 0 by decide)]
    simp only [nb_w]
    rw [if_neg (show ¬ (1 : Int32) = 0 by decide)]
    have tt0 : T 0 0 10 = nI f := by rw [tk 0 (by decide) (by decide)]; exact f2
    have pp13 : (up2 P' 0 15 0) 0 13 = nI f := by rw [q0 13 (by omega) (by omega)]; exact f3
    simp only [nb_w, setO_s, setO_2]
    rw [tt0, pp13]
    generalize hT0 : T 0 = T0
    rw [show up2 T0 0 11 (nI f) 0 10 = nI f by rw [u_ne (Or.inr (by decide)), ← hT0]; exact tt0, show up2 (up2 P' 0 15 0) 0 14 (nI f) 0 13 = nI f by rw [u_ne (Or.inr (by decide))]; exact pp13, nI_1]
    have x1 : up2 (up2 T0 0 11 (nI f)) 0 10 (nI (f + 1)) 0 11 = nI f := by rw [u_ne (Or.inr (by decide)), u_s]
    have x2 : up2 (up2 (up2 P' 0 15 0) 0 14 (nI f)) 0 13 (nI (f + 1)) 0 14 = nI f := by rw [u_ne (Or.inr (by decide)), u_s]
    rw [x1, x2]
    have n0 : ∀ o, o ≠ 0 → setO T 0 (up2 (up2 T0 0 11 (nI f)) 0 10 (nI (f + 1))) o = T o := fun o h => setO_n h
    have z0 : ∀ i, i ≠ 11 → i ≠ 10 → up2 (up2 T0 0 11 (nI f)) 0 10 (nI (f + 1)) 0 i = s 0 0 i := fun i a b => by
      rw [u_ne (Or.inr b), u_ne (Or.inr a), ← hT0, tk 0 (by decide) (by decide)]
    have y0 : ∀ i, i ≠ 13 → i ≠ 14 → i ≠ 15 → ¬ (i = 16 ∨ i = 17 ∨ i = 26 ∨ i = 27 ∨ i = 28) → up2 (up2 (up2 P' 0 15 0) 0 14 (nI f)) 0 13 (nI (f + 1)) 0 i = P 0 i := fun i a b e g => by
      rw [u_ne (Or.inr a), u_ne (Or.inr b)]
      exact q0 i e g
    have yc : ∀ c, c ≠ 0 → (c < 20 ∨ 26 < c) → up2 (up2 (up2 P' 0 15 0) 0 14 (nI f)) 0 13 (nI (f + 1)) c = P c := fun c a b => by
      rw [u_c a, u_c a]
      exact qc c a b
    refine ⟨_, _, _, rfl, rfl, (n0 17 (by decide)).trans (tk 17 (by decide) (by decide)), ⟨n, d, WEL_c h1 ((n0 1 (by decide)).trans (tk 1 (by decide) (by decide))) ((n0 2 (by decide)).trans (tk 2 (by decide) (by decide))) ((n0 4 (by decide)).trans (tk 4 (by decide) (by decide))) (fun c hc => yc c (by omega) (by omega)) (fun i hi => y0 i (by omega) (by omega) (by omega) (by omega))⟩, ?_, hTX _ _ (n0 6 (by decide)) ?_ ?_ ?_, IMG_c h4 ((n0 3 (by decide)).trans (tk 3 (by decide) (by decide))) ((n0 5 (by decide)).trans (tk 5 (by decide) (by decide))) ?_ (fun c c1 c2 => yc c (by omega) (by omega)) (fun i i1 i2 => y0 i (by omega) (by omega) (by omega) (by omega)), AKT_c h5 ((n0 15 (by decide)).trans (tk 15 (by decide) (by decide))) (y0 77 (by omega) (by omega) (by omega) (by omega)) (yc 79 (by omega) (by omega)), TPS_c h6 ((n0 16 (by decide)).trans (tk 16 (by decide) (by decide))) (yc 80 (by omega) (by omega)) (yc 81 (by omega) (by omega))⟩
    · refine ⟨f + 1, hf, ?_, u_s, fun k hk => ?_, ?_, ?_, ?_⟩
      · rw [setO_s, u_s]
      · rw [n0 (8 + k) (by omega)]
        show ∃ L en, P' 20 k = nI L ∧ CLS (T (8 + k)) (P' 21) (P' 22) (P' 23) (P' 24) (P' 25) (10 * k) (100 * k) en L
        by_cases ck : k = f
        · subst ck
          rw [tf]
          exact ⟨L', en, k1, k2⟩
        · exact hold k (by omega)
      · rw [n0 7 (by decide), tn 7 (by decide) (by omega)]
        exact f5
      · rw [setO_s, x1, x2]
        exact ⟨rfl, Or.inr ⟨f, by omega, rfl⟩⟩
      · rw [setO_s, z0 13 (by decide) (by decide), z0 12 (by decide) (by decide), y0 54 (by omega) (by omega) (by omega) (by omega)]
        exact fun w => HOL_mono (f7 w)
    · rw [u_ne (Or.inr (by decide)), u_ne (Or.inr (by decide)), u_s]
    · rfl
    · rfl
    · rw [setO_s, z0 13 (by decide) (by decide)]
  · rw [if_neg (show ¬ nI p < 0 from fun w => absurd (nI_pos' (n := p) (by omega)) (Int32.not_le.mpr w)), nb_w, if_pos rfl]
    have k2 : (up2 P' 0 15 0) 0 16 = nI p := by rw [u_ne (Or.inr (by decide))]; exact k1
    rw [k2]
    refine ⟨_, T, up2 P' 0 15 0, rfl, rfl, tk 17 (by decide) (by decide), ⟨n, d, WEL_c h1 (tk 1 (by decide) (by decide)) (tk 2 (by decide) (by decide)) (tk 4 (by decide) (by decide)) (fun c hc => qc c (by omega) (by omega)) (fun i hi => q0 i (by omega) (by omega))⟩, ?_, hTX _ _ rfl u_s rfl rfl, IMG_c h4 (tk 3 (by decide) (by decide)) (tk 5 (by decide) (by decide)) (by rw [tk 0 (by decide) (by decide)]) (fun c c1 c2 => qc c (by omega) (by omega)) (fun i i1 i2 => q0 i (by omega) (by omega)), AKT_c h5 (tk 15 (by decide) (by decide)) (q0 77 (by omega) (by omega)) (qc 79 (by omega) (by omega)), TPS_c h6 (tk 16 (by decide) (by decide)) (qc 80 (by omega) (by omega)) (qc 81 (by omega) (by omega))⟩
    refine ⟨f, f1, ?_, ?_, fun k hk => hold k hk, ?_, ?_, ?_⟩
    · rw [tk 0 (by decide) (by decide)]; exact f2
    · rw [q0 13 (by omega) (by omega)]; exact f3
    · rw [tn 7 (by decide) (by omega)]; exact f5
    · rw [tk 0 (by decide) (by decide), q0 14 (by omega) (by omega)]; exact f6
    · rw [tk 0 (by decide) (by decide), q0 54 (by omega) (by omega)]; exact f7
end Pa
