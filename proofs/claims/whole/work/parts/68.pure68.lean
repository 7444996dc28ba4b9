/-! the pure side 68: the hand; counts; trace; taken -/
section Ha
variable {s t : Mm} {P Q W V C H : Pm} {lm : Ml} {n d f : Nat} {x y a1 a2 a3 a4 : Int32}
theorem QS_h {α : Type} {r : α} (h : RR s P lm) {H : Pm} (hW : WEL n d s P) (hH : HR n H Q) (hc : ∀ c, c ≠ 0 → ¬ (46 ≤ c ∧ c ≤ 53) → Q c = P c) (h0 : ∀ i, ¬ (44 ≤ i ∧ i ≤ 48) → Q 0 i = P 0 i) : QS s lm (some (r, setO s 4 H)) (some (r, Q)) := by
  obtain ⟨w1, w2, w3, w4, w5, w6⟩ := hW
  refine ⟨r, _, Q, rfl, rfl, setO_n (by decide), ⟨n, d, ?_⟩, RE5_f h.2 ⟨fun o _ _ h4 _ => setO_n h4, fun o ho => ?_⟩ ⟨fun c hc2 => hc c (by omega) (by omega), fun i hi => h0 i (by omega)⟩⟩
  · unfold WEL
    rw [setO_n (show (1 : Nat) ≠ 4 by decide), setO_n (show (2 : Nat) ≠ 4 by decide), setO_s]
    exact ⟨w1, w2, w3, w4, Rest_c2 w5 (fun c c1 c2 => hc c (by omega) (by omega)) (fun i hi => h0 i (by omega)), hH⟩
  · rw [setO_n (kdNe ho (by decide))]
    exact CEq.rf
theorem s_see (h : RR s P lm) : QS s lm (f_X6_see s a1 a2) (f_X7_see P a1 a2) := by
  obtain ⟨⟨n, d, h1⟩, h2⟩ := id h
  obtain ⟨ns, ny, nk, b1, b2, b3, ⟨b4, b5⟩, ⟨b6, b7⟩, ⟨b8, b9⟩, c1, c2, c3, c4, c5, c6⟩ := h1.2.2.2.2.2
  unfold f_X6_see f_X7_see
  by_cases e : a1 = -1
  · rw [if_pos e, if_pos e, nb_w, nb_w]
    refine QS_h h h1 ⟨0, ny, nk, by omega, b2, b3, ⟨u_s, u_s⟩, ⟨b6, b7⟩, ⟨b8, b9⟩, c1, c2, c3, fun i hi => absurd hi (by omega), c5, c6⟩ (fun c a _ => u_c a) (fun i hi => u_ne (Or.inr (by omega)))
  rw [if_neg e, if_neg e, e_win, m_isDepth, Option.bind_some, Option.bind_some]
  by_cases e2 : win a1 0 9999 = 0
  · rw [if_pos e2, if_pos e2]; exact QS_0 h
  rw [if_neg e2, if_neg e2, e_win, m_win, Option.bind_some, Option.bind_some]
  by_cases e3 : win a2 0 10 = 0
  · rw [if_pos e3, if_pos e3]; exact QS_0 h
  obtain ⟨k, -, hk, rfl⟩ := win_r (b := 0) (c := 10) (by omega) (by omega) e3
  rw [if_neg e3, if_neg e3, b4, b5]
  by_cases e4 : ns = 5
  · rw [if_neg (show ¬ nI ns < 5 by rw [e4]; decide), if_pos (show nI ns = 5 by rw [e4]; rfl)]
    exact QS_0 h
  have hin : inb (nI ns) 5 = true := inb_nI (by omega) (by decide)
  have hix : ix (nI ns) = ns := ix_nI (by omega)
  have f1 : ∀ j y, up2 P 46 j y 0 44 = nI ns := fun j y => by rw [u_c (by decide)]; exact b5
  have f2 : ∀ j y j' y', up2 (up2 P 46 j y) 47 j' y' 0 44 = nI ns := fun j y j' y' => by rw [u_c (by decide), u_c (by decide)]; exact b5
  have ea : f_X2_addSeen (s 4) a1 (nI k) = some (nI (ns + 1), up2 (up2 (up2 (s 4) 4 ns a1) 5 ns (nI k)) 0 0 (nI (ns + 1))) := by
    unfold f_X2_addSeen f_X2_addSeen_J38
    rw [b4, if_neg (show ¬ (5 : Int32) ≤ nI ns from nI_ge (b := 5) (by omega) (by omega)), if_pos hin, hix, nb_w, show up2 (s 4) 4 ns a1 0 0 = nI ns from b4, if_pos hin, hix, nb_w, nb_w, show up2 (up2 (s 4) 4 ns a1) 5 ns (nI k) 0 0 = nI ns from b4, nI_1, u_s]
  rw [if_pos (show nI ns < 5 from nI_lt (b := 5) (by omega) (by omega)), if_neg (show ¬ nI ns = 5 from fun w => e4 (nIeq (b := 5) w (by omega) (by omega))), ea, bn2_w, nb_w, if_pos hin, hix, nb_w, f1, if_pos hin, hix, nb_w, f2, nI_1, nb_w, u_s]
  refine QS_h h h1 ⟨ns + 1, ny, nk, by omega, b2, b3, ⟨u_s, u_s⟩, ⟨b6, b7⟩, ⟨b8, b9⟩, fun i hi => ?_, c2, c3, fun i hi => ?_, c5, c6⟩ (fun c a b => ?_) (fun i hi => ?_)
  · show upd (s 4 4) ns a1 i = upd (P 46) ns a1 i ∧ upd (s 4 5) ns (nI k) i = upd (P 47) ns (nI k) i
    rw [upd_g, upd_g, upd_g, upd_g, (c1 i hi).1, (c1 i hi).2]
    exact ⟨rfl, rfl⟩
  · show rg (upd (s 4 5) ns (nI k) i) 10
    rw [upd_g]
    by_cases q : i = ns
    · rw [if_pos q]; exact ⟨k, hk, rfl⟩
    · rw [if_neg q]; exact c4 i (by omega)
  · rw [u_c a, u_c (by omega), u_c (by omega)]
  · rw [u_ne (Or.inr (by omega)), u_c (by decide), u_c (by decide)]
theorem s_year (h : RR s P lm) : QS s lm (f_X6_year s a1 a2) (f_X7_year P a1 a2) := by
  obtain ⟨⟨n, d, h1⟩, h2⟩ := id h
  have hn := h1.2.2.1.1
  obtain ⟨ns, ny, nk, b1, b2, b3, ⟨b4, b5⟩, ⟨b6, b7⟩, ⟨b8, b9⟩, c1, c2, c3, c4, c5, c6⟩ := h1.2.2.2.2.2
  unfold f_X6_year f_X7_year
  by_cases e : a1 = -1
  · rw [if_pos e, if_pos e, nb_w, nb_w]
    refine QS_h h h1 ⟨ns, 0, nk, b1, by omega, b3, ⟨b4, b5⟩, ⟨u_s, u_s⟩, ⟨b8, b9⟩, c1, c2, c3, c4, fun i hi => absurd hi (by omega), c6⟩ (fun c a _ => u_c a) (fun i hi => u_ne (Or.inr (by omega)))
  rw [if_neg e, if_neg e, e_win, m_win, Option.bind_some, Option.bind_some]
  by_cases e2 : win a1 0 2 = 0
  · rw [if_pos e2, if_pos e2]; exact QS_0 h
  rw [if_neg e2, if_neg e2]
  have key : (a1 = 1 → ∃ j, j < n ∧ a2 = nI j) → QS s lm (f_X6_year_J39 s a1 a2) (f_X7_year_J37 P a1 a2) := by
    intro hk
    unfold f_X6_year_J39 f_X7_year_J37 f_X7_year_J77
    rw [b6, b7]
    by_cases e4 : ny = 10
    · rw [if_neg (show ¬ nI ny < 10 by rw [e4]; decide), if_pos (show nI ny = 10 by rw [e4]; rfl)]
      exact QS_0 h
    have hin : inb (nI ny) 10 = true := inb_nI (by omega) (by decide)
    have hix : ix (nI ny) = ny := ix_nI (by omega)
    have ea : f_X2_addYear (s 4) a1 a2 = some (nI (ny + 1), up2 (up2 (up2 (s 4) 6 ny a1) 7 ny a2) 0 1 (nI (ny + 1))) := by
      unfold f_X2_addYear f_X2_addYear_J39
      rw [b6, if_neg (show ¬ (10 : Int32) ≤ nI ny from nI_ge (b := 10) (by omega) (by omega)), if_pos hin, hix, nb_w, show up2 (s 4) 6 ny a1 0 1 = nI ny from b6, if_pos hin, hix, nb_w, nb_w, show up2 (up2 (s 4) 6 ny a1) 7 ny a2 0 1 = nI ny from b6, nI_1, u_s]
    have f1 : ∀ j y, up2 P 50 j y 0 47 = nI ny := fun j y => by rw [u_c (by decide)]; exact b7
    have f2 : ∀ j y j' y', up2 (up2 P 50 j y) 51 j' y' 0 47 = nI ny := fun j y j' y' => by rw [u_c (by decide), u_c (by decide)]; exact b7
    have fin : ∀ z : Int32, (a1 = 1 → z = a2) → QS s lm (some (nI (ny + 1), setO s 4 (up2 (up2 (up2 (s 4) 6 ny a1) 7 ny a2) 0 1 (nI (ny + 1))))) (some (nI (ny + 1), up2 (up2 (up2 P 50 ny a1) 51 ny z) 0 47 (nI (ny + 1)))) := by
      intro z hz
      refine QS_h h h1 ⟨ns, ny + 1, nk, b1, by omega, b3, ⟨b4, b5⟩, ⟨u_s, u_s⟩, ⟨b8, b9⟩, c1, fun i hi => ?_, c3, c4, fun i hi hq => ?_, c6⟩ (fun c a b => ?_) (fun i hi => ?_)
      · show upd (s 4 6) ny a1 i = upd (P 50) ny a1 i ∧ (upd (s 4 6) ny a1 i = 1 → upd (s 4 7) ny a2 i = upd (P 51) ny z i)
        rw [upd_g, upd_g, upd_g, upd_g]
        by_cases q : i = ny
        · rw [if_pos q, if_pos q, if_pos q, if_pos q]
          exact ⟨rfl, fun w => (hz w).symm⟩
        · rw [if_neg q, if_neg q, if_neg q, if_neg q]
          exact c2 i hi
      · have hq' : upd (s 4 6) ny a1 i = 1 := hq
        show ∃ j, j < n ∧ upd (s 4 7) ny a2 i = nI j
        rw [upd_g] at hq' ⊢
        by_cases q : i = ny
        · rw [if_pos q] at hq' ⊢
          exact hk hq'
        · rw [if_neg q] at hq' ⊢
          exact c5 i (by omega) hq'
      · rw [u_c a, u_c (by omega), u_c (by omega)]
      · rw [u_ne (Or.inr (by omega)), u_c (by decide), u_c (by decide)]
    rw [if_pos (show nI ny < 10 from nI_lt (b := 10) (by omega) (by omega)), if_neg (show ¬ nI ny = 10 from fun w => e4 (nIeq (b := 10) w (by omega) (by omega))), ea, bn2_w, nb_w, if_pos hin, hix, nb_w]
    simp only [f1, hin, hix, if_true, nb_w, f2, nI_1, u_s]
    by_cases g1 : a1 = 1
    · rw [if_pos g1]
      exact fin a2 (fun _ => rfl)
    · rw [if_neg g1]
      exact fin 0 (fun w => absurd w g1)
  by_cases g1 : a1 = 1
  · rw [if_pos g1, if_pos g1, (k_known h1).1, (k_known h1).2, Option.bind_some, Option.bind_some]
    by_cases e3 : win a2 0 (nI n - 1) = 0
    · rw [if_pos e3, if_pos e3]; exact QS_0 h
    · rw [if_neg e3, if_neg e3]
      exact key (fun _ => known_r hn e3)
  · rw [if_neg g1, if_neg g1]
    exact key (fun w => absurd w g1)
theorem s_book (h : RR s P lm) : QS s lm (f_X6_book s a1 a2) (f_X7_book P a1 a2) := by
  obtain ⟨⟨n, d, h1⟩, h2⟩ := id h
  have hn := h1.2.2.1.1
  obtain ⟨ns, ny, nk, b1, b2, b3, ⟨b4, b5⟩, ⟨b6, b7⟩, ⟨b8, b9⟩, c1, c2, c3, c4, c5, c6⟩ := h1.2.2.2.2.2
  unfold f_X6_book f_X7_book
  by_cases e : a1 = -1
  · rw [if_pos e, if_pos e, nb_w, nb_w]
    refine QS_h h h1 ⟨ns, ny, 0, b1, b2, by omega, ⟨b4, b5⟩, ⟨b6, b7⟩, ⟨u_s, u_s⟩, c1, c2, c3, c4, c5, fun i hi => absurd hi (by omega)⟩ (fun c a _ => u_c a) (fun i hi => u_ne (Or.inr (by omega)))
  rw [if_neg e, if_neg e, (k_known h1).1, (k_known h1).2, Option.bind_some, Option.bind_some]
  by_cases e2 : win a1 0 (nI n - 1) = 0
  · rw [if_pos e2, if_pos e2]; exact QS_0 h
  obtain ⟨j, hj, rfl⟩ := known_r hn e2
  rw [if_neg e2, if_neg e2, e_win, m_win, Option.bind_some, Option.bind_some]
  by_cases e3 : win a2 0 99999 = 0
  · rw [if_pos e3, if_pos e3]; exact QS_0 h
  rw [if_neg e3, if_neg e3, b8, b9]
  by_cases e4 : nk = 8
  · rw [if_neg (show ¬ nI nk < 8 by rw [e4]; decide), if_pos (show nI nk = 8 by rw [e4]; rfl)]
    exact QS_0 h
  have hin : inb (nI nk) 8 = true := inb_nI (by omega) (by decide)
  have hix : ix (nI nk) = nk := ix_nI (by omega)
  have f1 : ∀ j y, up2 P 52 j y 0 48 = nI nk := fun j y => by rw [u_c (by decide)]; exact b9
  have f2 : ∀ j y j' y', up2 (up2 P 52 j y) 53 j' y' 0 48 = nI nk := fun j y j' y' => by rw [u_c (by decide), u_c (by decide)]; exact b9
  have ea : f_X2_addBook (s 4) (nI j) a2 = some (nI (nk + 1), up2 (up2 (up2 (s 4) 8 nk (nI j)) 9 nk a2) 0 2 (nI (nk + 1))) := by
    unfold f_X2_addBook f_X2_addBook_J39
    rw [b8, if_neg (show ¬ (8 : Int32) ≤ nI nk from nI_ge (b := 8) (by omega) (by omega)), if_pos hin, hix, nb_w, show up2 (s 4) 8 nk (nI j) 0 2 = nI nk from b8, if_pos hin, hix, nb_w, nb_w, show up2 (up2 (s 4) 8 nk (nI j)) 9 nk a2 0 2 = nI nk from b8, nI_1, u_s]
  rw [if_pos (show nI nk < 8 from nI_lt (b := 8) (by omega) (by omega)), if_neg (show ¬ nI nk = 8 from fun w => e4 (nIeq (b := 8) w (by omega) (by omega))), ea, bn2_w, nb_w, if_pos hin, hix, nb_w, f1, if_pos hin, hix, nb_w, f2, nI_1, nb_w, u_s]
  refine QS_h h h1 ⟨ns, ny, nk + 1, b1, b2, by omega, ⟨b4, b5⟩, ⟨b6, b7⟩, ⟨u_s, u_s⟩, c1, c2, fun i hi => ?_, c4, c5, fun i hi => ?_⟩ (fun c a b => ?_) (fun i hi => ?_)
  · show upd (s 4 8) nk (nI j) i = upd (P 52) nk (nI j) i ∧ upd (s 4 9) nk a2 i = upd (P 53) nk a2 i
    rw [upd_g, upd_g, upd_g, upd_g, (c3 i hi).1, (c3 i hi).2]
    exact ⟨rfl, rfl⟩
  · show ∃ k, k < n ∧ upd (s 4 8) nk (nI j) i = nI k
    rw [upd_g]
    by_cases q : i = nk
    · rw [if_pos q]; exact ⟨j, hj, rfl⟩
    · rw [if_neg q]; exact c6 i (by omega)
  · rw [u_c a, u_c (by omega), u_c (by omega)]
  · rw [u_ne (Or.inr (by omega)), u_c (by decide), u_c (by decide)]
theorem s_looked (h : RR s P lm) : ∃ r, f_X6_looked s = some r ∧ f_X7_looked P = some r := by
  obtain ⟨⟨n, d, h1⟩, h2⟩ := id h
  have hn := h1.2.2.1.1
  have w5 := h1.2.2.2.2.1
  obtain ⟨ns, ny, nk, b1, b2, b3, ⟨b4, b5⟩, ⟨b6, b7⟩, ⟨b8, b9⟩, c1, c2, c3, c4, c5, c6⟩ := h1.2.2.2.2.2
  obtain ⟨r, r', g1, g2, g3⟩ := iter_2 (b1 := fun t => f_X6_looked_B2 s t) (b2 := fun t => f_X7_looked_B2 P t) (fun i u v => u = nI i ∧ v = nI i) (fun r r' => r = r') nk
    (fun i u v hi hI => by
      obtain ⟨rfl, rfl⟩ := hI
      unfold f_X6_looked_B2 f_X7_looked_B2 f_X6_looked_J54
      rw [b8, b9]
      by_cases c : i = nk
      · subst c
        right
        rw [if_pos (Int32.le_refl _), if_pos (Int32.le_refl _)]
        exact ⟨_, _, rfl, rfl, rfl⟩
      · obtain ⟨j, hj, e⟩ := c6 i (by omega)
        have hin : inb (nI i) 8 = true := inb_nI (by omega) (by decide)
        have hix : ix (nI i) = i := ix_nI (by omega)
        have hjn : inb (nI j) 6 = true := inb_nI (by omega) (by decide)
        have hjx : ix (nI j) = j := ix_nI (by omega)
        rw [if_neg (nI_ge (by omega) (by omega)), if_neg (nI_ge (by omega) (by omega)), if_pos hin, if_pos hin, hix, ← (c3 i (by omega)).1, ← (c3 i (by omega)).2, e, (k_known h1).1, Option.bind_some, known_y hn hj, if_neg (show ¬ (1 : Int32) = 0 by decide), if_pos hjn, if_pos hjn, if_pos hin, if_pos hin, hjx, w5.1.r10]
        show (i < nk ∧ ∃ s' t', (if s 1 11 j = s 4 9 i then _ else _) = _ ∧ (if s 1 11 j = s 4 9 i then _ else _) = _ ∧ _) ∨ ∃ r r', (if s 1 11 j = s 4 9 i then _ else _) = _ ∧ (if s 1 11 j = s 4 9 i then _ else _) = _ ∧ _
        by_cases q : s 1 11 j = s 4 9 i
        · left
          rw [if_pos q, nI_1]
          exact ⟨by omega, _, _, rfl, rfl, rfl, rfl⟩
        · right
          rw [if_neg q]
          exact ⟨_, _, rfl, rfl, rfl⟩) nk 0 (nI 0) (nI 0) (by omega) ⟨rfl, rfl⟩ 200 (by omega)
  exact ⟨r, g1, by rw [g3]; exact g2⟩
theorem s_count (h : RR s P lm) : ∃ r, f_X6_count s a1 = some r ∧ f_X7_count P a1 = some r := by
  obtain ⟨⟨n, d, h1⟩, h2, h3, h4, h5, h6⟩ := id h
  obtain ⟨ns, ny, nk, b1, b2, b3, ⟨b4, b5⟩, ⟨b6, b7⟩, ⟨b8, b9⟩, -⟩ := h1.2.2.2.2.2
  obtain ⟨f, -, f2, f3, -⟩ := h2
  obtain ⟨L, -, l2, l3, -⟩ := h3
  obtain ⟨r, -, r2, r3, -⟩ := h5
  unfold f_X6_count f_X7_count
  rw [(AR_kn h1).1, (AR_kn h1).2.1, b4, b5, b6, b7, b8, b9, f2, f3, l2, l3, r2, r3]
  by_cases k0 : a1 = 0
  · rw [if_pos k0]; exact ⟨_, rfl, rfl⟩
  rw [if_neg k0]
  by_cases k1 : a1 = 1
  · rw [if_pos k1]; exact ⟨_, rfl, rfl⟩
  rw [if_neg k1]
  by_cases k2 : a1 = 2
  · rw [if_pos k2]; exact ⟨_, rfl, rfl⟩
  rw [if_neg k2]
  by_cases k3 : a1 = 3
  · rw [if_pos k3]; exact ⟨_, rfl, rfl⟩
  rw [if_neg k3]
  by_cases k4 : a1 = 4
  · rw [if_pos k4]; exact ⟨_, rfl, rfl⟩
  rw [if_neg k4]
  by_cases k5 : a1 = 5
  · rw [if_pos k5]; exact ⟨_, rfl, rfl⟩
  rw [if_neg k5]
  by_cases k6 : a1 = 6
  · rw [if_pos k6]; exact ⟨_, rfl, rfl⟩
  rw [if_neg k6]
  exact ⟨_, rfl, rfl⟩
theorem s_trace (h : RR s P lm) : ∃ r, f_X6_trace s a1 = some r ∧ f_X7_trace P a1 = some r := by
  obtain ⟨r, r1, r2, r3, r4⟩ := h.2.2.2.2.1
  unfold f_X6_trace f_X7_trace f_X0_traced
  rw [m_win, Option.bind_some, r2, r3]
  by_cases c : win a1 0 19 = 0
  · rw [if_pos c]
    refine ⟨-1, ?_, rfl⟩
    by_cases c1 : a1 < 0
    · rw [if_pos c1]; rfl
    rw [if_neg c1]
    by_cases c2 : nI r ≤ a1
    · rw [if_pos c2]; rfl
    rw [if_neg c2]
    by_cases c3 : 20 ≤ a1
    · rw [if_pos c3]; rfl
    · exfalso
      obtain ⟨k, hk, rfl⟩ := nIof c1
      have : k ≤ 19 := by
        apply Decidable.byContradiction
        intro q
        exact c3 (nI_le (a := 20) (by omega) (by omega))
      rw [show win (nI k) 0 19 = 1 from win_y (b := 0) (c := 19) (by omega) (by omega) this] at c
      exact absurd c (by decide)
  · obtain ⟨k, -, hk, rfl⟩ := win_r (b := 0) (c := 19) (by omega) (by omega) c
    have hin : inb (nI k) 20 = true := inb_nI (by omega) (by decide)
    rw [if_neg c, if_neg (show ¬ nI k < 0 from fun w => absurd (nI_pos' (n := k) (by omega)) (Int32.not_le.mpr w)), if_neg (show ¬ (20 : Int32) ≤ nI k from nI_ge (b := 20) (by omega) (by omega)), if_pos hin, if_pos hin, ix_nI (by omega)]
    by_cases c2 : nI r ≤ nI k
    · rw [if_pos c2, if_pos c2]
      exact ⟨-1, rfl, rfl⟩
    · have hkr : k < r := by
        apply Decidable.byContradiction
        intro q
        exact c2 (nI_le (by omega) (by omega))
      rw [if_neg c2, if_neg c2, r4 k hkr (by omega)]
      exact ⟨_, rfl, rfl⟩
theorem tk_all : ∀ k, k < 7 → ∀ a, a < 7 → Option.bind (f_X6_isUnder (nI k) (nI a)) (fun x4 => if x4 = 0 then some (-12) else some (nI k)) = (if nI a = 0 then some (nI k) else if nI k = nI a then some (nI k) else if nI a = 1 then (if nI k = 4 then some (nI k) else if nI a = 2 then (if nI k = 5 then some (nI k) else if nI a = 3 then (if nI k = 6 then some (nI k) else some (-12)) else some (-12)) else if nI a = 3 then (if nI k = 6 then some (nI k) else some (-12)) else some (-12)) else if nI a = 2 then (if nI k = 5 then some (nI k) else if nI a = 3 then (if nI k = 6 then some (nI k) else some (-12)) else some (-12)) else if nI a = 3 then (if nI k = 6 then some (nI k) else some (-12)) else some (-12)) := by
  decide +kernel
theorem tk_some : ∀ k, k < 7 → ∀ a, a < 7 → (Option.bind (f_X6_isUnder (nI k) (nI a)) (fun x4 => if x4 = 0 then some (-12) else some (nI k))).isSome = true := by
  decide +kernel
theorem s_taken (h : RR s P lm) : ∃ r, f_X6_taken s a1 a2 = some r ∧ f_X7_taken P a1 a2 = some r := by
  obtain ⟨⟨n, d, h1⟩, h2⟩ := id h
  have hn := h1.2.2.1.1
  have w5 := h1.2.2.2.2.1
  unfold f_X6_taken f_X7_taken
  rw [e_win, m_win, Option.bind_some, Option.bind_some]
  by_cases c : win a2 0 6 = 0
  · rw [if_pos c, if_pos c]; exact ⟨_, rfl, rfl⟩
  obtain ⟨a, -, ha, rfl⟩ := win_r (b := 0) (c := 6) (by omega) (by omega) c
  rw [if_neg c, if_neg c, (k_known h1).1, (k_known h1).2, Option.bind_some, Option.bind_some]
  by_cases c1 : win a1 0 (nI n - 1) = 0
  · rw [if_pos c1, if_pos c1]; exact ⟨_, rfl, rfl⟩
  obtain ⟨j, hj, rfl⟩ := known_r hn c1
  have hin : inb (nI j) 6 = true := inb_nI (by omega) (by decide)
  obtain ⟨k, hk, e⟩ := (h1.2.2.1.2.2.2.2.2.1.2.1 j (by omega)).1
  have eP : P 4 j = nI k := by rw [w5.1.r4]; exact e
  have ht := tk_all k (by omega) a (by omega)
  obtain ⟨r, hr⟩ := Option.isSome_iff_exists.mp (tk_some k (by omega) a (by omega))
  rw [if_neg c1, if_neg c1, if_pos hin, if_pos hin, ix_nI (by omega), e, eP]
  exact ⟨r, hr, ht.symm.trans hr⟩
end Ha
