/-! the pure side Z: what changes the well -/
theorem up2_ci {W : Pm} {c j j' : Nat} {x y : Int32} (h : j ≠ j') : up2 (up2 W c j x) c j' y = up2 (up2 W c j' y) c j x := by
  funext k
  by_cases a : k = c
  · subst a
    rw [up2_g, if_pos rfl, up2_g, if_pos rfl, up2_g, if_pos rfl, up2_g, if_pos rfl]
    funext i
    rw [upd_g, upd_g, upd_g, upd_g]
    by_cases e : i = j'
    · rw [if_pos e, if_neg (fun w => h (w.symm.trans e)), if_pos e]
    · rw [if_neg e, if_neg e]
  · rw [up2_g, if_neg a, up2_g, if_neg a, up2_g, if_neg a, up2_g, if_neg a]
section We
variable {s t : Mm} {P Q W V : Pm} {lm : Ml} {n d n' d' j : Nat} {x y a1 a2 a3 a4 : Int32}
theorem Rest_p (h : Rest P W) (hQ : Q = put P (up2 V 0 3 x)) : Rest Q V := by
  subst hQ
  refine ⟨?_, h.2.1, h.2.2.1, h.2.2.2⟩
  show WV _ (up2 V 0 3 x)
  exact WV.put
theorem HR_put (h : HR n V P) : HR n V (put P W) := by
  unfold HR
  rw [put_0n (by decide) (by decide) (by decide) (by decide), put_0n (by decide) (by decide) (by decide) (by decide), put_0n (by decide) (by decide) (by decide) (by decide), put_n (by omega), put_n (by omega), put_n (by omega), put_n (by omega), put_n (by omega), put_n (by omega)]
  exact h
theorem MW_put : MW P (put P W) := ⟨fun c hc => put_n (by omega), fun i hi => put_0n (by omega) (by omega) (by omega) (by omega)⟩
theorem SW_1 : SW s (setO s 1 V) := ⟨fun o h1 _ _ _ => setO_n h1, fun o h => by
  rw [setO_n (fun e => by subst e; cases h)]
  exact CEq.rf⟩
theorem QS_p {α : Type} {r : α} (h1 : WEL n d s P) (h2 : RE5 s P lm) (hV : NZ V) (hD : DI n' d' V) (hd : d' ≤ 9999) (hH : HR n' (s 4) P) (hQ : Q = put P (up2 V 0 3 x)) : QS s lm (some (r, setO s 1 V)) (some (r, Q)) := by
  refine ⟨r, _, Q, rfl, rfl, setO_n (by decide), ⟨n', d', ?_⟩, RE5_f h2 SW_1 (by rw [hQ]; exact MW_put)⟩
  unfold WEL
  rw [setO_s, setO_n (show (2 : Nat) ≠ 1 by decide), setO_n (show (4 : Nat) ≠ 1 by decide)]
  exact ⟨hV, h1.2.1, hD, hd, Rest_p h1.2.2.2.2.1 hQ, by rw [hQ]; exact HR_put hH⟩
theorem WEL_W (h1 : WEL n d s P) : P = put P (up2 (s 1) 0 3 (P 0 34)) := h1.2.2.2.2.1.1
/-- a step of the well, in the reference -/
theorem put_st (h1 : WEL n d s P) : up2 P 6 j y = put P (up2 (up2 (s 1) 7 j y) 0 3 (P 0 34)) ∧ up2 P 7 j y = put P (up2 (up2 (s 1) 8 j y) 0 3 (P 0 34)) ∧ up2 P 12 j y = put P (up2 (up2 (s 1) 14 j y) 0 3 (P 0 34)) ∧ up2 P 0 0 y = put P (up2 (up2 (s 1) 0 0 y) 0 3 (P 0 34)) := by
  have h := WEL_W h1
  generalize hM : P 0 34 = z at h ⊢
  refine ⟨?_, ?_, ?_, ?_⟩
  · have e : up2 P 6 j y = up2 (put P (up2 (s 1) 0 3 z)) 6 j y := by rw [← h]
    rw [e, wp_6, up2_cm (by decide)]
  · have e : up2 P 7 j y = up2 (put P (up2 (s 1) 0 3 z)) 7 j y := by rw [← h]
    rw [e, wp_7, up2_cm (by decide)]
  · have e : up2 P 12 j y = up2 (put P (up2 (s 1) 0 3 z)) 12 j y := by rw [← h]
    rw [e, wp_12, up2_cm (by decide)]
  · have e : up2 P 0 0 y = up2 (put P (up2 (s 1) 0 3 z)) 0 0 y := by rw [← h]
    rw [e, wp_00, up2_ci (by decide)]
theorem AR_kn (h1 : WEL n d s P) : s 1 0 2 = nI n ∧ P 0 1 = nI n ∧ n ≤ 6 := by
  refine ⟨h1.2.2.1.2.1, ?_, h1.2.2.1.1⟩
  rw [h1.2.2.2.2.1.1.r01]
  exact h1.2.2.1.2.1
theorem k_known (h1 : WEL n d s P) : f_X6_known s a1 = some (win a1 0 (nI n - 1)) ∧ f_X7_isBorrower P a1 = some (win a1 0 (nI n - 1)) := by
  rw [e_known, m_isB, (AR_kn h1).1, (AR_kn h1).2.1]
  exact ⟨rfl, rfl⟩
theorem m_win2 {b c : Int32} {f : Pm → Int32 → Option Int32} (hf : ∀ P a, f P a = Option.bind (f_X7_in P a b c) (fun x1 => (if x1 = 0 ∨ x1 = 1 then some x1 else none))) : f P x = some (win x b c) := by
  rw [hf, m_win, Option.bind_some, if_pos win_01]
theorem m_isDepth : f_X7_isDepth P x = some (win x 0 9999) := m_win2 (f := f_X7_isDepth) (fun _ _ => rfl)
theorem m_isWants : f_X7_isWants P x = some (win x 1 99) := m_win2 (f := f_X7_isWants) (fun _ _ => rfl)
theorem m_isEvery : f_X7_isEvery P x = some (win x 1 20) := m_win2 (f := f_X7_isEvery) (fun _ _ => rfl)
theorem s_depth (h : RR s P lm) : QS s lm (f_X6_depth s a1) (f_X7_depth P a1) := by
  obtain ⟨⟨n, d, h1⟩, h2⟩ := id h
  unfold f_X6_depth f_X7_depth
  rw [e_win, m_isDepth, Option.bind_some, Option.bind_some]
  by_cases c : win a1 0 9999 = 0
  · rw [if_pos c, if_pos c]
    exact QS_0 h
  · obtain ⟨k, k1, k2, rfl⟩ := win_r (b := 0) (c := 9999) (by omega) (by omega) c
    rw [if_neg c, if_neg c, nb_w, nb_w, h1.2.2.2.2.1.1.r00]
    obtain ⟨w1, w2, w3, w4, w5, w6⟩ := id h1
    exact QS_p h1 h2 (NZ_up w1 (by omega)) ⟨w3.1, w3.2.1, w3.2.2.1, w3.2.2.2.1, w3.2.2.2.2.1, RI_00 w3.2.2.2.2.2.1 ⟨k, k2, rfl⟩, w3.2.2.2.2.2.2⟩ w4 w6 ((put_st (j := 0) h1).2.2.2)
theorem DI_7 {z : Int32} (h : DI n d V) (hz : z ≠ 0) (hz2 : rg z 99) : DI n d (up2 V 7 j z) := by
  obtain ⟨b1, b2, b3, b4, b5, ⟨r1, r2, r3, r4⟩, b7⟩ := h
  refine ⟨b1, b2, b3, b4, b5, ⟨r1, fun i hi => ⟨(r2 i hi).1, (r2 i hi).2.1, rg_upd (r2 i hi).2.2.1 hz2, (r2 i hi).2.2.2⟩, r3, fun i hi => ⟨?_, (r4 i hi).2⟩⟩, b7⟩
  show upd (V 7) j z i ≠ 0
  rw [upd_g]
  split
  · exact hz
  · exact (r4 i hi).1
theorem DI_8 {z : Int32} (h : DI n d V) (hz : z ≠ 0) (hz2 : rg z 20) : DI n d (up2 V 8 j z) := by
  obtain ⟨b1, b2, b3, b4, b5, ⟨r1, r2, r3, r4⟩, b7⟩ := h
  refine ⟨b1, b2, b3, b4, b5, ⟨r1, fun i hi => ⟨(r2 i hi).1, (r2 i hi).2.1, (r2 i hi).2.2.1, rg_upd (r2 i hi).2.2.2.1 hz2, (r2 i hi).2.2.2.2⟩, r3, fun i hi => ⟨(r4 i hi).1, ?_⟩⟩, b7⟩
  show upd (V 8) j z i ≠ 0
  rw [upd_g]
  split
  · exact hz
  · exact (r4 i hi).2
theorem DI_14 {z : Int32} (h : DI n d V) (hz2 : rg z 9) : DI n d (up2 V 14 j z) := by
  obtain ⟨b1, b2, b3, b4, b5, ⟨r1, r2, r3, r4⟩, b7⟩ := h
  exact ⟨b1, b2, b3, b4, b5, ⟨r1, r2, fun i hi => rg_upd (r3 i hi) hz2, r4⟩, b7⟩
theorem s_set (h : RR s P lm) : QS s lm (f_X6_set s a1 a2 a3) (f_X7_set P a1 a2 a3) := by
  obtain ⟨⟨n, d, h1⟩, h2⟩ := id h
  obtain ⟨w1, w2, w3, w4, w5, w6⟩ := id h1
  have hn := w3.1
  unfold f_X6_set f_X7_set f_X6_set_J32 f_X6_set_J66 f_X7_set_J46 f_X7_set_J65
  rw [(k_known h1).1, (k_known h1).2, Option.bind_some, Option.bind_some]
  by_cases c : win a1 0 (nI n - 1) = 0
  · rw [if_pos c, if_pos c]
    exact QS_0 h
  obtain ⟨j, hj, rfl⟩ := known_r hn c
  have h6 : inb (nI j) 6 = true := inb_nI (by omega) (by decide)
  have hx : ix (nI j) = j := ix_nI (by omega)
  rw [if_neg c, if_neg c, e_win, m_win, Option.bind_some, Option.bind_some]
  by_cases c2 : win a2 0 1 = 0
  · rw [if_pos c2, if_pos c2]
    exact QS_0 h
  rw [if_neg c2, if_neg c2, e_win, e_win, m_isWants, m_isEvery]
  simp only [Option.bind_some, h6, hx, if_true, nb_w]
  by_cases c3 : a2 = 0
  · simp only [c3, if_true]
    by_cases c4 : win a3 1 99 = 0
    · rw [if_pos c4, if_pos c4]
      exact QS_0 h
    · obtain ⟨k, k1, k2, rfl⟩ := win_r (b := 1) (c := 99) (by omega) (by omega) c4
      rw [if_neg c4, if_neg c4, w5.1.r6]
      exact QS_p h1 h2 (NZ_up w1 (by omega)) (DI_7 w3 (nI_ne0 (by omega) (by omega)) ⟨k, k2, rfl⟩) w4 w6 (put_st h1).1
  · simp only [c3, if_false]
    by_cases c4 : win a3 1 20 = 0
    · rw [if_pos c4, if_pos c4]
      exact QS_0 h
    · obtain ⟨k, k1, k2, rfl⟩ := win_r (b := 1) (c := 20) (by omega) (by omega) c4
      rw [if_neg c4, if_neg c4, w5.1.r7]
      exact QS_p h1 h2 (NZ_up w1 (by omega)) (DI_8 w3 (nI_ne0 (by omega) (by omega)) ⟨k, k2, rfl⟩) w4 w6 (put_st h1).2.1
theorem s_row (h : RR s P lm) : QS s lm (f_X6_row s a1 a2 a3) (f_X7_row P a1 a2 a3) := by
  obtain ⟨⟨n, d, h1⟩, h2⟩ := id h
  obtain ⟨w1, w2, w3, w4, w5, w6⟩ := id h1
  have hn := w3.1
  unfold f_X6_row f_X7_row
  rw [(k_known h1).1, (k_known h1).2, Option.bind_some, Option.bind_some]
  by_cases c : win a1 0 (nI n - 1) = 0
  · rw [if_pos c, if_pos c]
    exact QS_0 h
  obtain ⟨j, hj, rfl⟩ := known_r hn c
  have h6 : inb (nI j) 6 = true := inb_nI (by omega) (by decide)
  have hx : ix (nI j) = j := ix_nI (by omega)
  rw [if_neg c, if_neg c, e_win, m_win, Option.bind_some, Option.bind_some]
  by_cases c2 : win a2 0 3 = 0
  · rw [if_pos c2, if_pos c2]
    exact QS_0 h
  obtain ⟨p, p1, p2, rfl⟩ := win_r (b := 0) (c := 3) (by omega) (by omega) c2
  rw [if_neg c2, if_neg c2, e_win, m_win, Option.bind_some, Option.bind_some]
  by_cases c3 : win a3 0 9 = 0
  · rw [if_pos c3, if_pos c3]
    exact QS_0 h
  obtain ⟨k, k1, k2, rfl⟩ := win_r (b := 0) (c := 9) (by omega) (by omega) c3
  have e1 : nI j * 4 + nI p = nI (4 * j + p) := by rw [show (4 : Int32) = nI 4 from rfl, pk_mul, nI_add, Nat.mul_comm]
  have e2 : 4 * nI j + nI p = nI (4 * j + p) := by rw [show (4 : Int32) = nI 4 from rfl, pk_mul, nI_add]
  have i1 : inb (nI (4 * j + p)) 24 = true := inb_nI (by omega) (by decide)
  have i2 : ix (nI (4 * j + p)) = 4 * j + p := ix_nI (by omega)
  rw [if_neg c3, if_neg c3, e1, e2, w5.1.r4]
  simp only [h6, hx, i1, i2, if_true, nb_w]
  show QS s lm (if s 1 5 j = 6 then _ else _) (if s 1 5 j = 6 then _ else _)
  by_cases c4 : s 1 5 j = 6
  · rw [if_pos c4, if_pos c4, w5.1.r12]
    exact QS_p h1 h2 (NZ_up w1 (by omega)) (DI_14 w3 ⟨k, k2, rfl⟩) w4 w6 (put_st h1).2.2.1
  · rw [if_neg c4, if_neg c4]
    exact QS_0 h
theorem s_change (h : RR s P lm) : QS s lm (f_X6_change s a1 a2) (f_X7_change P a1 a2) := by
  obtain ⟨⟨n, d, h1⟩, h2⟩ := id h
  obtain ⟨w1, w2, w3, w4, w5, w6⟩ := id h1
  have hn := w3.1
  unfold f_X6_change f_X7_change
  rw [(k_known h1).1, (k_known h1).2, Option.bind_some, Option.bind_some]
  by_cases c : win a1 0 (nI n - 1) = 0
  · rw [if_pos c, if_pos c]
    exact QS_0 h
  obtain ⟨j, hj, rfl⟩ := known_r hn c
  rw [if_neg c, if_neg c, (k_known h1).1, (k_known h1).2, Option.bind_some, Option.bind_some]
  by_cases c2 : win a2 0 (nI n - 1) = 0
  · rw [if_pos c2, if_pos c2]
    exact QS_0 h
  obtain ⟨k, hk, rfl⟩ := known_r hn c2
  rw [if_neg c2, if_neg c2]
  by_cases c3 : nI j = nI k
  · rw [if_pos c3, if_pos c3]
    exact QS_0 h
  rw [if_neg c3, if_neg c3, if_pos (inb_nI (by omega) (by decide)), e_trade (by omega) (by omega), m_changes (by omega) (by omega) w5.1, Option.bind_some, Option.bind_some, nb_w, if_pos (inb_nI (by omega) (by decide)), ix_nI (by omega), ix_nI (by omega)]
  have er : put P (tradeW (up2 (s 1) 0 3 (P 0 34)) j k) 13 k = s 1 13 j := by
    show tradeW (up2 (s 1) 0 3 (P 0 34)) j k 13 k = _
    rw [trade_13, if_pos rfl]
    rfl
  rw [er]
  exact QS_p (x := P 0 34) h1 h2 (NZ_up (NZ_up w1 (by omega)) (by omega)) (DI_trade hj hk w3) w4 w6 (by
    show put P (up2 (up2 (up2 (s 1) 0 3 (P 0 34)) 13 j (s 1 13 k)) 13 k (s 1 13 j)) = put P (up2 (up2 (up2 (s 1) 13 j (s 1 13 k)) 13 k (s 1 13 j)) 0 3 (P 0 34))
    rw [up2_cm (c := 0) (c' := 13) (by decide), up2_cm (c := 0) (c' := 13) (by decide)])
theorem DI_call {j : Nat} (hj : j < 6) (h : DI n d V) : DI n d (callW V j) := by
  obtain ⟨b1, b2, b3, b4, b5, hR, b7⟩ := h
  have hR2 : RI n (callW V j) := RI_10 (RI_9 (RI_rise hR (hR.2.1 j hj).2.2.2.2.1 (by decide)) ⟨0, by omega, rfl⟩) ⟨0, by omega, rfl⟩
  exact ⟨b1, b2, b3, b4, b5, hR2, b7⟩
theorem s_call (h : RR s P lm) : QS s lm (f_X6_call s a1) (f_X7_call P a1) := by
  obtain ⟨⟨n, d, h1⟩, h2⟩ := id h
  obtain ⟨w1, w2, w3, w4, w5, w6⟩ := id h1
  have hn := w3.1
  unfold f_X6_call f_X7_call
  rw [(k_known h1).1, (k_known h1).2, Option.bind_some, Option.bind_some]
  by_cases c : win a1 0 (nI n - 1) = 0
  · rw [if_pos c, if_pos c]
    exact QS_0 h
  obtain ⟨j, hj, rfl⟩ := known_r hn c
  have h6 : inb (nI j) 6 = true := inb_nI (by omega) (by decide)
  have hx : ix (nI j) = j := ix_nI (by omega)
  have hD3 : DI n d (up2 (s 1) 0 3 (P 0 34)) := ⟨w3.1, w3.2.1, w3.2.2.1, w3.2.2.2.1, w3.2.2.2.2.1, RI_0s w3.2.2.2.2.2.1 (by decide), w3.2.2.2.2.2.2⟩
  rw [if_neg c, if_neg c, if_pos h6, if_pos h6, if_pos h6, hx, w5.1.r8]
  show QS s lm (if s 1 9 j = 0 then _ else _) (if s 1 9 j = 0 then _ else _)
  by_cases c2 : s 1 9 j = 0
  · rw [if_pos c2, if_pos c2]
    exact QS_0 h
  · rw [if_neg c2, if_neg c2, e_callIn (by omega), m_calls (by omega) w5.1 hD3, Option.bind_some, Option.bind_some, nb_w]
    exact QS_p (x := P 0 34) h1 h2 (NZ_up (NZ_up (NZ_rise w1) (by omega)) (by omega)) (DI_call (by omega) w3) w4 w6 (by
      show put P (up2 (up2 (up2 (up2 (s 1) 0 3 (P 0 34)) 0 0 (imin 9999 (s 1 0 0 + s 1 9 j))) 9 j 0) 10 j 0) = put P (up2 (up2 (up2 (up2 (s 1) 0 0 (imin 9999 (s 1 0 0 + s 1 9 j))) 9 j 0) 10 j 0) 0 3 (P 0 34))
      rw [up2_ci (c := 0) (j := 3) (j' := 0) (by decide), up2_cm (c := 0) (c' := 9) (by decide), up2_cm (c := 0) (c' := 10) (by decide)])
end We
