/-! the pure side A: what is best: call, ahead, the mark -/
def callW (V : Pm) (j : Nat) : Pm := up2 (up2 (riseW V (V 9 j)) 9 j 0) 10 j 0
def tradeW (V : Pm) (i j : Nat) : Pm := up2 (up2 V 13 i (V 13 j)) 13 j (V 13 i)
theorem nb_w {α β : Type} {x : α} {f : α → Option β} : nb x f = f x := rfl
theorem bn2_w {α β γ : Type} {a : α} {b : β} {f : α → β → Option γ} : bn2 (some (a, b)) f = f a b := rfl
theorem bn3_w {α β γ δ : Type} {a : α} {b : β} {c : γ} {f : α → β → γ → Option δ} : bn3 (some (a, b, c)) f = f a b c := rfl
section Ask
variable {s t : Mm} {P Q W V U : Pm} {n d e rid : Nat} {mk sp fi x y m ab a1 a2 : Int32} {rt : Pm → Nat → Int32}
theorem e_callIn {j : Nat} (hj : j < 6) : f_X5_callIn V (nI j) = some (callW V j) := by
  have h6 : inb (nI j) 6 = true := inb_nI hj (by decide)
  have hx : ix (nI j) = j := ix_nI (by omega)
  unfold f_X5_callIn
  simp only [h6, hx, if_true, e_rise, Option.bind_some, nb, callW]
theorem m_calls {j : Nat} (hj : j < 6) (hQ : WV Q V) (hD : DI n e V) : f_X7_calls Q (nI j) = some (put Q (callW V j)) := by
  have h6 : inb (nI j) 6 = true := inb_nI hj (by decide)
  have hx : ix (nI j) = j := ix_nI (by omega)
  have hR := hD.2.2.2.2.2.1
  have h0 : 0 ≤ V 0 0 + V 9 j := rg_0 (rg_add hR.1 (hR.2.1 j hj).2.2.2.2.1) (by decide)
  unfold f_X7_calls
  simp only [h6, hx, if_true, m_held, Option.bind_some, nb]
  rw [hQ.r00, hQ.r8, held_min h0]
  have e0 : up2 (up2 (up2 Q 0 0 (imin 9999 (V 0 0 + V 9 j))) 8 j 0) 9 j 0 = up2 (up2 (up2 (put Q V) 0 0 (imin 9999 (V 0 0 + V 9 j))) 8 j 0) 9 j 0 := by rw [← hQ]
  rw [e0, wp_00, wp_8, wp_9]
  rfl
theorem TW_call {j : Nat} (hj : j < 6) (h : TW n e W V) : TW n e W (callW V j) := by
  obtain ⟨h1, h2, h3, h4, h5, h6, q, h7, h8⟩ := h
  have hR := h1.2.2.2.2.2.1
  have hV9 := (hR.2.1 j hj).2.2.2.2.1
  exact ⟨⟨h1.1, h1.2.1, h1.2.2.1, h1.2.2.2.1, h1.2.2.2.2.1, RI_10 (RI_9 (RI_rise hR hV9 (by decide)) ⟨0, by omega, rfl⟩) ⟨0, by omega, rfl⟩, h1.2.2.2.2.2.2⟩, NZ_up (NZ_up (NZ_rise h2) (by omega)) (by omega), h3, h4, h5, h6, q, h7, h8⟩
theorem e_trade {i j : Nat} (hi : i < 6) (hj : j < 6) : f_X5_trade V (nI i) (nI j) = some (tradeW V i j) := by
  have h6 : inb (nI j) 6 = true := inb_nI hj (by decide)
  have hx : ix (nI j) = j := ix_nI (by omega)
  have h6' : inb (nI i) 6 = true := inb_nI hi (by decide)
  have hx' : ix (nI i) = i := ix_nI (by omega)
  unfold f_X5_trade
  simp only [h6, hx, h6', hx', if_true, nb, tradeW]
theorem m_changes {i j : Nat} (hi : i < 6) (hj : j < 6) (hQ : WV Q V) : f_X7_changes Q (nI i) (nI j) = some (put Q (tradeW V i j)) := by
  have h6 : inb (nI j) 6 = true := inb_nI hj (by decide)
  have hx : ix (nI j) = j := ix_nI (by omega)
  have h6' : inb (nI i) 6 = true := inb_nI hi (by decide)
  have hx' : ix (nI i) = i := ix_nI (by omega)
  unfold f_X7_changes
  simp only [h6, hx, h6', hx', if_true, nb]
  have e0 : up2 (up2 Q 13 i (Q 13 j)) 13 j (Q 13 i) = up2 (up2 (put Q V) 13 i (V 13 j)) 13 j (V 13 i) := by rw [hQ.r13, ← hQ]
  rw [e0, wp_13, wp_13]
  rfl
theorem trade_13 {i j k : Nat} : tradeW V i j 13 k = if k = j then V 13 i else if k = i then V 13 j else V 13 k := by
  unfold tradeW
  rw [up2_g, if_pos rfl, upd_g, up2_g, if_pos rfl, upd_g]
theorem DI_trade {i j : Nat} (hi : i < n) (hj : j < n) (h : DI n e V) : DI n e (tradeW V i j) := by
  have hp : ∀ k, k < n → (∃ k', k' < n ∧ tradeW V i j 13 k = V 13 k' ∧ k' = if k = j then i else if k = i then j else k) := by
    intro k hk
    rw [trade_13]
    by_cases c1 : k = j
    · rw [if_pos c1, if_pos c1]
      exact ⟨i, hi, rfl, rfl⟩
    · rw [if_neg c1, if_neg c1]
      by_cases c2 : k = i
      · rw [if_pos c2, if_pos c2]
        exact ⟨j, hj, rfl, rfl⟩
      · rw [if_neg c2, if_neg c2]
        exact ⟨k, hk, rfl, rfl⟩
  refine ⟨h.1, h.2.1, h.2.2.1, fun k hk => ?_, fun k k' hk hk' he => ?_, h.2.2.2.2.2.1, h.2.2.2.2.2.2⟩
  · obtain ⟨k', h1, h2, -⟩ := hp k hk
    rw [h2]
    exact h.2.2.2.1 k' h1
  · obtain ⟨q, h1, h2, h3⟩ := hp k hk
    obtain ⟨q', h1', h2', h3'⟩ := hp k' hk'
    have := h.2.2.2.2.1 q q' h1 h1' (by rw [← h2, ← h2', he])
    rw [h3, h3'] at this
    split at this <;> split at this <;> (try split at this) <;> (try split at this) <;> omega
theorem TW_trade {i j : Nat} (hi : i < n) (hj : j < n) (h : TW n e W V) : TW n e W (tradeW V i j) := by
  obtain ⟨h1, h2, h3, h4, h5, h6, h7⟩ := h
  have hn := h1.1
  exact ⟨DI_trade hi hj h1, NZ_up (NZ_up h2 (by omega)) (by omega), h3, h4, h5, h6, h7⟩
theorem TR_0 {i : Nat} {z : Int32} (hi : i = 30 ∨ i = 31) (h : TR P W Q V) : TR P W (up2 Q 0 i z) V := by
  obtain ⟨h0, h1, h2, h3, h4, h5, h6, h7, h8, h9, h10, h11, h12⟩ := h
  have e0 : ∀ k, k ≠ i → up2 Q 0 i z 0 k = Q 0 k := fun k hk => by rw [up2_g, if_pos rfl, upd_g, if_neg hk]
  refine ⟨WV.of ?_ ?_ ?_ ?_ h0.r4 h0.r5 h0.r6 h0.r7 h0.r8 h0.r9 h0.r10 h0.r11 h0.r12 h0.r13, (e0 33 (by omega)).trans h1, (e0 35 (by omega)).trans h2, (e0 36 (by omega)).trans h3, h4, h5, h6, h7, h8, h9, h10, fun c hc => ?_, fun k hk => ?_⟩
  · exact (e0 0 (by omega)).trans h0.r00
  · exact (e0 1 (by omega)).trans h0.r01
  · exact (e0 2 (by omega)).trans h0.r02
  · exact (e0 34 (by omega)).trans h0.r034
  · rw [up2_g, if_neg (by omega)]
    exact h11 c hc
  · rw [e0 k (by omega)]
    exact h12 k hk
theorem TR_30 {z : Int32} (h : TR P W Q V) : TR P W (up2 Q 0 30 z) V := TR_0 (Or.inl rfl) h
theorem TR_31 {z : Int32} (h : TR P W Q V) : TR P W (up2 Q 0 31 z) V := TR_0 (Or.inr rfl) h
/-- how many are turned away in thirty days: a number -/
def tnW (rt : Pm → Nat → Int32) (m fi sp : Int32) (V : Pm) : Int32 := itW (dayW rt m (-1) fi sp) 30 V 0 3
theorem tn_r (hR : RU mk sp fi rt) (hm : rg m 99) (h : TW n e W V) (he : e < 20000) : rg (tnW rt m fi sp V) 200000 := by
  obtain ⟨-, -, -, -, -, -, q, h7, h8⟩ := TW_it (ab := -1) hR hm h 30 (by omega)
  exact ⟨q, by omega, h8⟩
theorem tt_turned (h : AR n d rid mk sp fi rt s P W) (hT : TT s t P Q W V x (-1)) (hm : (if x < 0 then mk else x) = m) (hm9 : rg m 99) (hW : TW n e W V) (he : e < 20000) : ∃ t' P', f_X6_turnedOfTrial t m = some (tnW rt m fi sp V, t') ∧ f_X7_turnedThen Q = some (tnW rt m fi sp V, P') ∧ AS s P W t' P' := by
  obtain ⟨t', g1, g2, g3⟩ := c_turned h hT.1 hT.2.1 hm9 hW he
  obtain ⟨P', g4, g5, g6⟩ := r_turnedThen h hT.2.2.1 hT.2.2.2.1 hT.2.2.2.2 hm hm9 hW he
  exact ⟨t', P', g1, g4, g2, by rw [g3]; exact (TW_it (ab := -1) (AR_RU h) hm9 hW 30 (by omega)).2.1, g6, g5⟩
theorem AR.km (h : AR n d rid mk sp fi rt s P W) (hS : SB s t) : t rid 0 0 = mk := by
  rw [← hS.k h.2.2.2.2.2.2.2.1 0 (by decide)]
  exact h.2.2.2.2.2.2.2.2.1.2.1
/-- turned, as all is: the start of both searches -/
theorem q_turned0 (h : AR n d rid mk sp fi rt s P W) : ∃ t t' P', f_X6_startTrial s = some t ∧ SB s t ∧ f_X6_turnedOfTrial t mk = some (tnW rt mk fi sp (up2 W 0 3 0), t') ∧ f_X7_turned P = some (tnW rt mk fi sp (up2 W 0 3 0), P') ∧ AS s P W t' P' := by
  have hd := h.2.2.2.2.1
  obtain ⟨t, Q, g1, g2, hT, hW⟩ := tt_start h
  obtain ⟨t', P', g3, g4, hA⟩ := tt_turned h hT (if_pos (by decide)) (AR_RU h).1 hW (by omega)
  refine ⟨t, t', P', g1, hT.1, g3, ?_, hA⟩
  unfold f_X7_turned
  rw [g2, Option.bind_some, g4, bn2_w]
theorem q_turned (h : AR n d rid mk sp fi rt s P W) : QA s P W (f_X6_turnedAsAllIs s) (f_X7_turned P) := by
  obtain ⟨t, t', P', g1, hS, g3, g4, hA⟩ := q_turned0 h
  refine ⟨_, t', P', ?_, g4, hA⟩
  unfold f_X6_turnedAsAllIs
  rw [g1, Option.bind_some, rules_SB hS, h.2.2.2.2.2.2.1, Option.bind_some, if_pos h.2.2.2.2.2.2.2.1, h.km hS, g3, bn2_w]
theorem q_call (h : AR n d rid mk sp fi rt s P W) : QA s P W (f_X6_whomToCall s) (f_X7_callOf P) := by
  have hd := h.2.2.2.2.1
  have hn := h.hn
  have hR := AR_RU h
  obtain ⟨t, t', P', g1, hS, g3, g4, hA⟩ := q_turned0 h
  obtain ⟨r, r', g5, g6, g7, g8⟩ := iter_2 (b1 := fun t : Int32 × Int32 × Int32 × Mm => f_X6_whomToCall_B24 mk t.1 t.2.1 t.2.2.1 t.2.2.2) (b2 := fun t : Int32 × Int32 × Int32 × Pm => f_X7_callOf_B10 t.1 t.2.1 t.2.2.1 t.2.2.2)
    (fun i u v => u.2.2.1 = nI i ∧ v.2.2.1 = nI i ∧ u.1 = v.1 ∧ u.2.1 = v.2.1 ∧ AS s P W u.2.2.2 v.2.2.2) (fun u v => u.1 = v.1 ∧ AS s P W u.2 v.2) n
    (fun i u v hi hI => by
      obtain ⟨u1, u2, u3, u⟩ := u
      obtain ⟨v1, v2, v3, v⟩ := v
      obtain ⟨h1, h2, h3, h4, h5⟩ := hI
      dsimp only at h1 h2 h3 h4 h5
      subst h1 h2 h3 h4
      show (i < n ∧ ∃ s' t', f_X6_whomToCall_B24 mk u1 u2 (nI i) u = _ ∧ f_X7_callOf_B10 u1 u2 (nI i) v = _ ∧ _) ∨ ∃ r r', f_X6_whomToCall_B24 mk u1 u2 (nI i) u = _ ∧ f_X7_callOf_B10 u1 u2 (nI i) v = _ ∧ _
      have h' := h.go h5
      unfold f_X6_whomToCall_B24 f_X7_callOf_B10
      rw [h'.e2, h'.m1]
      by_cases hik : i = n
      · subst hik
        right
        rw [if_pos (Int32.le_refl _), if_pos (Int32.le_refl _)]
        exact ⟨_, _, rfl, rfl, rfl, h5⟩
      · left
        have hi6 : i < 6 := by omega
        rw [if_neg (nI_ge (by omega) (by omega)), if_neg (nI_ge (by omega) (by omega)), if_pos (inb_nI hi6 (by decide)), if_pos (inb_nI hi6 (by decide)), ix_nI (by omega), h'.2.2.1, h'.2.2.2.2.2.1.1.r8]
        refine ⟨by omega, ?_⟩
        show ∃ s' t', (if W 9 i ≤ 0 then _ else _) = _ ∧ (if W 9 i = 0 then _ else _) = _ ∧ _
        obtain ⟨q, hq, h9⟩ := (h.2.2.2.1.2.2.2.2.2.1.2.1 i hi6).2.2.2.2.1
        by_cases c : W 9 i = 0
        · rw [if_pos (by rw [c]; exact Int32.le_refl _), if_pos c]
          exact ⟨_, _, rfl, rfl, nI_1 _, nI_1 _, rfl, rfl, h5⟩
        · rw [if_neg (by
            rw [h9]
            exact nI_nle (Nat.pos_of_ne_zero (fun q0 => c (by rw [h9, q0]; rfl))) (by omega)), if_neg c]
          obtain ⟨u', Q, k1, k2, hT, hW⟩ := tt_start h'
          have hT2 := TT_put (U := callW (up2 W 0 3 0) i) hT
          obtain ⟨u'', P'', k3, k4, k5⟩ := tt_turned h' hT2 (if_pos (by decide)) hR.1 (TW_call hi6 hW) (by omega)
          have k6 := h5.tr k5
          rw [k1, k2, Option.bind_some, Option.bind_some, hT.2.1, e_callIn hi6, m_calls hi6 hT.2.2.1.1 hW.1, Option.bind_some, Option.bind_some]
          rw [nb_w]
          rw [k3, k4, bn2_w, bn2_w]
          by_cases cl : u2 ≤ tnW rt mk fi sp (callW (up2 W 0 3 0) i)
          · rw [if_pos cl, if_neg (Int32.not_lt.mpr cl)]
            exact ⟨_, _, rfl, rfl, nI_1 _, nI_1 _, rfl, rfl, k6⟩
          · rw [if_neg cl, if_pos (Int32.not_le.mp cl)]
            exact ⟨_, _, rfl, rfl, nI_1 _, nI_1 _, rfl, rfl, k6⟩) n 0 (-5, tnW rt mk fi sp (up2 W 0 3 0), 0, t') (-5, tnW rt mk fi sp (up2 W 0 3 0), 0, P') (by omega) ⟨rfl, rfl, rfl, rfl, hA⟩ 200 (by omega)
  obtain ⟨r1, r2⟩ := r
  obtain ⟨r1', r2'⟩ := r'
  dsimp only at g7 g8
  subst g7
  refine ⟨r1, r2, r2', ?_, ?_, g8⟩
  · unfold f_X6_whomToCall
    rw [h.2.2.2.2.2.2.1, Option.bind_some, if_pos h.2.2.2.2.2.2.2.1, h.km SB.rf, g1, Option.bind_some, g3, bn2_w]
    unfold f_X6_whomToCall_H24
    rw [g5, bn2_w]
    rfl
  · unfold f_X7_callOf
    rw [g4, bn2_w]
    unfold f_X7_callOf_H10
    rw [g6, bn2_w]
    rfl
theorem q_ahead (h : AR n d rid mk sp fi rt s P W) : QA s P W (f_X6_whoComesAhead s) (f_X7_aheadOf P) := by
  have hd := h.2.2.2.2.1
  have hn := h.hn
  have hR := AR_RU h
  obtain ⟨t, t', P', g1, hS, g3, g4, hA⟩ := q_turned0 h
  have inner : ∀ i, i < n → ∀ u2 u3 u v, AS s P W u v → ∃ u2' u3' u' v', f_X6_whoComesAhead_H42 u mk u2 u3 (nI i) (nI (i + 1)) = some (.inl (u2', u3', nI (i + 1), u')) ∧ f_X7_aheadOf_H23 v u2 u3 (nI i) (nI (i + 1)) = some (.inl (u2', u3', nI (i + 1), v')) ∧ AS s P W u' v' := by
    intro i hi u2 u3 u v hA
    obtain ⟨r, r', g5, g6, g7, g8, g9⟩ := iter_2 (b1 := fun t : Int32 × Int32 × Int32 × Mm => f_X6_whoComesAhead_B42 mk (nI i) t.1 t.2.1 t.2.2.1 t.2.2.2) (b2 := fun t : Int32 × Int32 × Int32 × Pm => f_X7_aheadOf_B23 (nI i) t.1 t.2.1 t.2.2.1 t.2.2.2)
      (fun k u v => i < k ∧ u.2.2.1 = nI k ∧ v.2.2.1 = nI k ∧ u.1 = v.1 ∧ u.2.1 = v.2.1 ∧ AS s P W u.2.2.2 v.2.2.2) (fun u v => u.1 = v.1 ∧ u.2.1 = v.2.1 ∧ AS s P W u.2.2 v.2.2) n
      (fun k u v hk hI => by
        obtain ⟨u1, u2, u3, u⟩ := u
        obtain ⟨v1, v2, v3, v⟩ := v
        obtain ⟨h0, h1, h2, h3, h4, h5⟩ := hI
        dsimp only at h1 h2 h3 h4 h5
        subst h1 h2 h3 h4
        show (k < n ∧ ∃ s' t', f_X6_whoComesAhead_B42 mk (nI i) u1 u2 (nI k) u = _ ∧ f_X7_aheadOf_B23 (nI i) u1 u2 (nI k) v = _ ∧ _) ∨ ∃ r r', f_X6_whoComesAhead_B42 mk (nI i) u1 u2 (nI k) u = _ ∧ f_X7_aheadOf_B23 (nI i) u1 u2 (nI k) v = _ ∧ _
        have h' := h.go h5
        unfold f_X6_whoComesAhead_B42 f_X7_aheadOf_B23
        rw [h'.e2, h'.m1]
        by_cases hik : k = n
        · subst hik
          right
          rw [if_pos (Int32.le_refl _), if_pos (Int32.le_refl _)]
          exact ⟨_, _, rfl, rfl, rfl, rfl, h5⟩
        · left
          rw [if_neg (nI_ge (by omega) (by omega)), if_neg (nI_ge (by omega) (by omega))]
          refine ⟨by omega, ?_⟩
          obtain ⟨u', Q, k1, k2, hT, hW⟩ := tt_start h'
          have hT2 := TT_put (U := tradeW (up2 W 0 3 0) i k) hT
          obtain ⟨u'', P'', k3, k4, k5⟩ := tt_turned h' hT2 (if_pos (by decide)) hR.1 (TW_trade hi (by omega) hW) (by omega)
          have k6 := h5.tr k5
          rw [k1, k2, Option.bind_some, Option.bind_some, hT.2.1, e_trade (by omega) (by omega), m_changes (by omega) (by omega) hT.2.2.1.1, Option.bind_some, Option.bind_some]
          rw [nb_w]
          rw [k3, k4, bn2_w, bn2_w]
          by_cases cl : u2 ≤ tnW rt mk fi sp (tradeW (up2 W 0 3 0) i k)
          · rw [if_pos cl, if_neg (Int32.not_lt.mpr cl)]
            exact ⟨_, _, rfl, rfl, by omega, nI_1 _, nI_1 _, rfl, rfl, k6⟩
          · rw [if_neg cl, if_pos (Int32.not_le.mp cl)]
            exact ⟨_, _, rfl, rfl, by omega, nI_1 _, nI_1 _, rfl, rfl, k6⟩) (n - (i + 1)) (i + 1) (u2, u3, nI (i + 1), u) (u2, u3, nI (i + 1), v) (by omega) ⟨by omega, rfl, rfl, rfl, rfl, hA⟩ 200 (by omega)
    obtain ⟨r1, r2, r3⟩ := r
    obtain ⟨r1', r2', r3'⟩ := r'
    dsimp only at g7 g8 g9
    subst g7 g8
    refine ⟨r1, r2, r3, r3', ?_, ?_, g9⟩
    · unfold f_X6_whoComesAhead_H42
      rw [g5, bn3_w]
      unfold f_X6_whoComesAhead_J100
      rw [nI_1]
    · unfold f_X7_aheadOf_H23
      rw [g6, bn3_w]
      unfold f_X7_aheadOf_J75
      rw [nI_1]
  obtain ⟨r, r', g5, g6, g7, g8⟩ := iter_2 (b1 := fun t : Int32 × Int32 × Int32 × Mm => f_X6_whoComesAhead_B24 mk t.1 t.2.1 t.2.2.1 t.2.2.2) (b2 := fun t : Int32 × Int32 × Int32 × Pm => f_X7_aheadOf_B10 t.1 t.2.1 t.2.2.1 t.2.2.2)
    (fun i u v => u.2.2.1 = nI i ∧ v.2.2.1 = nI i ∧ u.1 = v.1 ∧ u.2.1 = v.2.1 ∧ AS s P W u.2.2.2 v.2.2.2) (fun u v => u.1 = v.1 ∧ AS s P W u.2 v.2) n
    (fun i u v hi hI => by
      obtain ⟨u1, u2, u3, u⟩ := u
      obtain ⟨v1, v2, v3, v⟩ := v
      obtain ⟨h1, h2, h3, h4, h5⟩ := hI
      dsimp only at h1 h2 h3 h4 h5
      subst h1 h2 h3 h4
      show (i < n ∧ ∃ s' t', f_X6_whoComesAhead_B24 mk u1 u2 (nI i) u = _ ∧ f_X7_aheadOf_B10 u1 u2 (nI i) v = _ ∧ _) ∨ ∃ r r', f_X6_whoComesAhead_B24 mk u1 u2 (nI i) u = _ ∧ f_X7_aheadOf_B10 u1 u2 (nI i) v = _ ∧ _
      have h' := h.go h5
      unfold f_X6_whoComesAhead_B24 f_X7_aheadOf_B10
      rw [h'.e2, h'.m1]
      by_cases hik : i = n
      · subst hik
        right
        rw [if_pos (Int32.le_refl _), if_pos (Int32.le_refl _)]
        exact ⟨_, _, rfl, rfl, rfl, h5⟩
      · left
        rw [if_neg (nI_ge (by omega) (by omega)), if_neg (nI_ge (by omega) (by omega)), nI_1]
        obtain ⟨q2, q3, u', v', k1, k2, k3⟩ := inner i (by omega) u1 u2 u v h5
        exact ⟨by omega, _, _, k1, k2, rfl, rfl, rfl, rfl, k3⟩) n 0 (-5, tnW rt mk fi sp (up2 W 0 3 0), 0, t') (-5, tnW rt mk fi sp (up2 W 0 3 0), 0, P') (by omega) ⟨rfl, rfl, rfl, rfl, hA⟩ 200 (by omega)
  obtain ⟨r1, r2⟩ := r
  obtain ⟨r1', r2'⟩ := r'
  dsimp only at g7 g8
  subst g7
  refine ⟨r1, r2, r2', ?_, ?_, g8⟩
  · unfold f_X6_whoComesAhead
    rw [h.2.2.2.2.2.2.1, Option.bind_some, if_pos h.2.2.2.2.2.2.2.1, h.km SB.rf, g1, Option.bind_some, g3, bn2_w]
    unfold f_X6_whoComesAhead_H24
    rw [g5, bn2_w]
    rfl
  · unfold f_X7_aheadOf
    rw [g4, bn2_w]
    unfold f_X7_aheadOf_H10
    rw [g6, bn2_w]
    rfl
end Ask
