/-! the pure side 7: a trial on both sides, step by step -/
theorem nIeq {a b : Nat} (h : nI a = nI b) (ha : a < 2 ^ 31) (hb : b < 2 ^ 31) : a = b := by
  have := congrArg ix h
  rwa [ix_nI ha, ix_nI hb] at this
/-- two loops in step -/
theorem iter_2 {S T ρ τ : Type} {b1 : S → Option (S ⊕ ρ)} {b2 : T → Option (T ⊕ τ)} (I : Nat → S → T → Prop) (Post : ρ → τ → Prop) (N : Nat)
    (hs : ∀ k s t, k ≤ N → I k s t → (k < N ∧ ∃ s' t', b1 s = some (.inl s') ∧ b2 t = some (.inl t') ∧ I (k + 1) s' t') ∨ ∃ r r', b1 s = some (.inr r) ∧ b2 t = some (.inr r') ∧ Post r r') :
    ∀ (d k : Nat) (s : S) (t : T), N = k + d → I k s t → ∀ n, d < n → ∃ r r', iter b1 n s = some r ∧ iter b2 n t = some r' ∧ Post r r'
  | 0, k, s, t, hk, hI, n, hn => by
    obtain ⟨m, rfl⟩ : ∃ m, n = m + 1 := ⟨n - 1, by omega⟩
    rcases hs k s t (by omega) hI with ⟨h0, -⟩ | ⟨r, r', h1, h2, h3⟩
    · omega
    · exact ⟨r, r', by rw [iter_s, h1], by rw [iter_s, h2], h3⟩
  | d + 1, k, s, t, hk, hI, n, hn => by
    obtain ⟨m, rfl⟩ : ∃ m, n = m + 1 := ⟨n - 1, by omega⟩
    rcases hs k s t (by omega) hI with ⟨-, s', t', h1, h2, h3⟩ | ⟨r, r', h1, h2, h3⟩
    · obtain ⟨r, r', h4, h5, h6⟩ := iter_2 I Post N hs d (k + 1) s' t' (by omega) h3 m (by omega)
      exact ⟨r, r', by rw [iter_s, h1]; exact h4, by rw [iter_s, h2]; exact h5, h6⟩
    · exact ⟨r, r', by rw [iter_s, h1], by rw [iter_s, h2], h3⟩
section Tu
variable {W V : Pm} {n d e j rid : Nat} {mk sp fi ab m : Int32} {rt : Pm → Nat → Int32}
theorem oneW_03 : oneW rt mk ab fi W j 0 3 = W 0 3 ∨ oneW rt mk ab fi W j 0 3 = W 0 3 + 1 := by
  have ha : awayW fi W j 0 3 = W 0 3 + 1 := by
    unfold awayW
    try dsimp only
    rw [up2_g, if_neg (by decide), up2_g, if_pos rfl, upd_g, if_pos rfl, up2_g, if_neg (by decide)]
  unfold oneW askW keepW
  split
  · split
    · exact Or.inl rfl
    · split
      · exact Or.inl rfl
      · split
        · dsimp only
          split
          · exact Or.inr ha
          · split
            · exact Or.inr ha
            · exact Or.inl (takeW_0 (by decide))
        · exact Or.inl rfl
  · dsimp only
    left
    split
    · split
      · rw [up2_g, if_neg (by decide), riseW_0 (by decide), up2_g, if_neg (by decide), up2_g, if_neg (by decide)]
      · rw [up2_g, if_neg (by decide), up2_g, if_neg (by decide), up2_g, if_neg (by decide)]
    · rw [up2_g, if_neg (by decide), up2_g, if_neg (by decide)]
theorem goW_03 {q : Nat} (hq : W 0 3 = nI q) : ∀ k, ∃ q', q ≤ q' ∧ q' ≤ q + k ∧ goW rt mk ab fi k W 0 3 = nI q'
  | 0 => ⟨q, by omega, by omega, hq⟩
  | k + 1 => by
    obtain ⟨q', h1, h2, h3⟩ := goW_03 hq k
    rcases oneW_03 (rt := rt) (mk := mk) (ab := ab) (fi := fi) (W := goW rt mk ab fi k W) (j := ix (goW rt mk ab fi k W 13 k)) with h | h
    · exact ⟨q', h1, by omega, h.trans h3⟩
    · exact ⟨q' + 1, by omega, by omega, by
        show oneW _ _ _ _ _ _ 0 3 = _
        rw [h, h3, nI_1]⟩
theorem dayW_03 {q : Nat} (hD : DI n d W) (hq : W 0 3 = nI q) : ∃ q', q ≤ q' ∧ q' ≤ q + 6 ∧ dayW rt mk ab fi sp W 0 3 = nI q' := by
  have hn := hD.1
  obtain ⟨q', h1, h2, h3⟩ := goW_03 (rt := rt) (mk := mk) (ab := ab) (fi := fi) hq n
  refine ⟨q', h1, by omega, ?_⟩
  unfold dayW
  try dsimp only
  rw [up2_g, if_pos rfl, upd_g, if_neg (by decide), riseW_0 (by decide), hD.2.1, ix_nI (by omega), h3]
theorem dayW_k {c : Nat} (h0 : c ≠ 0) (h9 : c ≠ 9) (h10 : c ≠ 10) (h11 : c ≠ 11) (h12 : c ≠ 12) : dayW rt mk ab fi sp W c = W c := by
  unfold dayW
  try dsimp only
  rw [up2_g, if_neg h0, riseW_c h0, goW_c h0 h9 h10 h11 h12]
theorem dayW_02 : dayW rt mk ab fi sp W 0 2 = W 0 2 := by
  unfold dayW
  try dsimp only
  rw [up2_g, if_pos rfl, upd_g, if_neg (by decide), riseW_0 (by decide), goW_0 (by decide) (by decide)]
/-- a well that is tried, W the one that it comes from -/
def TW (n e : Nat) (W V : Pm) : Prop := DI n e V ∧ NZ V ∧ V 5 = W 5 ∧ V 6 = W 6 ∧ V 14 = W 14 ∧ V 0 2 = W 0 2 ∧ ∃ q, q ≤ 6 * e ∧ V 0 3 = nI q
theorem TW_start (hD : DI n d W) (hN : NZ W) : TW n d W (up2 W 0 3 0) := ⟨⟨hD.1, hD.2.1, hD.2.2.1, hD.2.2.2.1, hD.2.2.2.2.1, RI_0s hD.2.2.2.2.2.1 (by decide), hD.2.2.2.2.2.2⟩, NZ_up hN (by omega), rfl, rfl, rfl, rfl, 0, by omega, rfl⟩
/-- the rules that hold, all within bounds -/
def RU (mk sp fi : Int32) (rt : Pm → Nat → Int32) : Prop := rg mk 99 ∧ rg sp 99 ∧ rg fi 99 ∧ ∀ W j, rg (rt W j) 991
theorem TW_day (hR : RU mk sp fi rt) (hm : rg m 99) (hT : TW n e W V) (he : e < 2 ^ 20) : TW n (e + 1) W (dayW rt m ab fi sp V) := by
  obtain ⟨h1, h2, h3, h4, h5, h6, q, h7, h8⟩ := hT
  obtain ⟨q', g1, g2, g3⟩ := dayW_03 (rt := rt) (mk := m) (ab := ab) (fi := fi) (sp := sp) h1 h8
  exact ⟨DI_day h1 (by omega) hm hR.2.2.1 hR.2.1 hR.2.2.2, NZ_day h2 (h1.L (by omega)), (dayW_k (by decide) (by decide) (by decide) (by decide) (by decide)).trans h3, (dayW_k (by decide) (by decide) (by decide) (by decide) (by decide)).trans h4, (dayW_k (by decide) (by decide) (by decide) (by decide) (by decide)).trans h5, dayW_02.trans h6, q', by omega, g3⟩
theorem TW_it (hR : RU mk sp fi rt) (hm : rg m 99) (hT : TW n e W V) : ∀ k, e + k < 2 ^ 20 → TW n (e + k) W (itW (dayW rt m ab fi sp) k V)
  | 0, _ => hT
  | k + 1, hk => TW_day (e := e + k) hR hm (TW_it hR hm hT k (by omega)) (by omega)
/-- who has been sent away stays counted -/
theorem TW_0 (hR : RU mk sp fi rt) (hm : rg m 99) (hT : TW n e W V) {i : Nat} : ∀ k, i ≤ k → e + k < 2 ^ 20 → itW (dayW rt m ab fi sp) k V 0 3 = 0 → itW (dayW rt m ab fi sp) i V 0 3 = 0
  | 0, hi, _, h => by
    have : i = 0 := by omega
    subst this
    exact h
  | k + 1, hi, hk, h => by
    by_cases hik : i = k + 1
    · subst hik
      exact h
    · refine TW_0 hR hm hT k (by omega) (by omega) ?_
      obtain ⟨h1, -, -, -, -, -, q, h7, h8⟩ := TW_it (ab := ab) hR hm hT k (by omega)
      obtain ⟨q', g1, g2, g3⟩ := dayW_03 (rt := rt) (mk := m) (ab := ab) (fi := fi) (sp := sp) h1 h8
      have h' : nI q' = 0 := g3.symm.trans h
      have : q' = 0 := nIeq (a := q') (b := 0) h' (by omega) (by omega)
      rw [h8, show q = 0 by omega]
      rfl
theorem itW_ab {a2 : Int32} (hR : RU mk sp fi rt) (hm : rg m 99) (h : ∀ j, j < 6 → (nI j = ab ↔ nI j = a2)) (hT : TW n e W V) (k : Nat) : e + k < 2 ^ 20 → itW (dayW rt m ab fi sp) k V = itW (dayW rt m a2 fi sp) k V := by
  induction k with
  | zero =>
    intro _
    show V = V
    rfl
  | succ k ih =>
    intro hk
    have e1 := ih (by omega)
    show dayW rt m ab fi sp (itW (dayW rt m ab fi sp) k V) = dayW rt m a2 fi sp (itW (dayW rt m a2 fi sp) k V)
    rw [e1]
    have hT' : TW n (e + k) W (itW (dayW rt m a2 fi sp) k V) := TW_it hR hm hT k (by omega)
    exact dayW_ab h (hT'.1.L (by omega))
theorem ab_1 : ∀ j, j < 6 → (nI j = (-5) ↔ nI j = (-1)) := by
  intro j hj
  have a : ∀ j, j < 6 → nI j ≠ (-5) := by decide
  have b : ∀ j, j < 6 → nI j ≠ (-1) := by decide
  exact ⟨fun h => absurd h (a j hj), fun h => absurd h (b j hj)⟩
end Tu
/-- a country as the reference has it, whatever becomes of what is scratch -/
def CtyP (P : Pm) (mk sp fi : Int32) (rt : Pm → Nat → Int32) : Prop := ∀ Q : Pm, (∀ c, ¬ (c = 0 ∨ (4 ≤ c ∧ c ≤ 13) ∨ c = 33 ∨ (38 ≤ c ∧ c ≤ 44)) → Q c = P c) → (∀ i, ¬ (i ≤ 2 ∨ i = 30 ∨ i = 31 ∨ (33 ≤ i ∧ i ≤ 36)) → Q 0 i = P 0 i) → CtyM Q mk sp fi rt
theorem Cty_E {C D : Pm} {mk sp fi : Int32} {rt : Pm → Nat → Int32} (h : Cty C mk sp fi rt) (hE : CEq C D) : Cty D mk sp fi rt := by
  obtain ⟨h1, h2, h3, h4, h5⟩ := h
  refine ⟨fun E W j hD hj => ?_, ?_, ?_, ?_, h5⟩
  · obtain ⟨D', g1, g2⟩ := h1 E W j (CEq.tr hE hD) hj
    exact ⟨D', g1, CEq.tr (fun c hc => (hE c hc).symm) g2⟩
  · rw [← hE 0 (by decide)]; exact h2
  · rw [← hE 0 (by decide)]; exact h3
  · rw [← hE 0 (by decide)]; exact h4
/-- all that an asking needs of both sides: the class's well is W, so is the reference's -/
def AR (n d rid : Nat) (mk sp fi : Int32) (rt : Pm → Nat → Int32) (s : Mm) (P W : Pm) : Prop := NZ W ∧ NZ (s 2) ∧ s 1 = W ∧ DI n d W ∧ d ≤ 9999 ∧ Rest P W ∧ f_X6_rules s = some rid ∧ kdo rid = 1 ∧ Cty (s rid) mk sp fi rt ∧ CtyP P mk sp fi rt
theorem SB.k {s t : Mm} (h : SB s t) {rid : Nat} (hk : kdo rid = 1) : CEq (s rid) (t rid) := h.2 rid hk
theorem AR_RU {n d rid : Nat} {mk sp fi : Int32} {rt : Pm → Nat → Int32} {s : Mm} {P W : Pm} (h : AR n d rid mk sp fi rt s P W) : RU mk sp fi rt := h.2.2.2.2.2.2.2.2.1.2.2.2.2
theorem AR_to {n d rid : Nat} {mk sp fi : Int32} {rt : Pm → Nat → Int32} {s t : Mm} {P P' W : Pm} (h : AR n d rid mk sp fi rt s P W) (h1 : SB s t) (h2 : NZ (t 2)) (h3 : MB P P') (h4 : Rest P' W) : AR n d rid mk sp fi rt t P' W := by
  obtain ⟨a1, a2, a3, a4, a5, a6, a7, a8, a9, a10⟩ := h
  refine ⟨a1, h2, (h1.1 1 (by decide) (by decide)).trans a3, a4, a5, h4, (rules_SB h1).trans a7, a8, Cty_E a9 (h1.k a8), fun Q g1 g2 => a10 Q (fun c hc => ?_) (fun i hi => ?_)⟩
  · rw [g1 c hc, h3.1 c (by omega)]
  · rw [g2 i hi, h3.2 i (by omega)]
/-- within a trial: the class's, the reference's well are V -/
def TT (s t : Mm) (P Q W V : Pm) (x y : Int32) : Prop := SB s t ∧ t 2 = V ∧ TR P W Q V ∧ Q 0 30 = x ∧ Q 0 31 = y
section St
variable {s t : Mm} {P Q W V U K : Pm} {n d e rid : Nat} {mk sp fi x y m ab : Int32} {rt : Pm → Nat → Int32}
theorem tt_start (h : AR n d rid mk sp fi rt s P W) : ∃ t Q, f_X6_startTrial s = some t ∧ f_X7_save P = some Q ∧ TT s t P Q W (up2 W 0 3 0) (-1) (-1) ∧ TW n d W (up2 W 0 3 0) := by
  obtain ⟨a1, a2, a3, a4, a5, a6, a7, a8, a9, a10⟩ := h
  obtain ⟨Q, h1, h2, h3, h4⟩ := m_save a6
  refine ⟨_, Q, e_start (by rw [a3]; exact a1) a2, h1, ⟨SB.two, ?_, h2, h3, h4⟩, TW_start a4 a1⟩
  rw [setO_s, a3]
theorem TR_put (h : TR P W Q V) : TR P W (put Q U) U := by
  obtain ⟨h0, h1, h2, h3, h4, h5, h6, h7, h8, h9, h10, h11, h12⟩ := h
  refine ⟨WV.put, h1, h2, h3, h4, h5, h6, h7, h8, h9, h10, fun c hc => ?_, fun i hi => ?_⟩
  · rw [put_n (by omega)]
    exact h11 c hc
  · rw [put_0n (by omega) (by omega) (by omega) (by omega)]
    exact h12 i hi
theorem TR_pile {f : Nat → Int32} (h : TR P W Q V) : TR P W (setO Q 33 f) V := by
  obtain ⟨h0, h1, h2, h3, h4, h5, h6, h7, h8, h9, h10, h11, h12⟩ := h
  refine ⟨?_, h1, h2, h3, h4, h5, h6, h7, h8, h9, h10, fun c hc => ?_, fun i hi => ?_⟩
  · unfold WV
    rw [← put_pile, ← h0]
  · rw [setO_n (by omega)]
    exact h11 c hc
  · rw [setO_n (by omega)]
    exact h12 i hi
theorem TT_put (h : TT s t P Q W V x y) : TT s (setO t 2 U) P (put Q U) W U x y := ⟨h.1.tr SB.two, setO_s, TR_put h.2.2.1, h.2.2.2.1, h.2.2.2.2⟩
theorem TR_ceil (h : TR P W Q V) {k : Nat} (hk : k < 2 ^ 20) : nI k ≤ Q 0 33 := by
  rw [h.2.1]
  exact nI_le (b := 2000000000) (by omega) (by decide)
theorem emk_is (hx : Q 0 30 = x) : emk Q mk = if x < 0 then mk else x := by
  unfold emk
  rw [hx]
theorem TR_C (h : AR n d rid mk sp fi rt s P W) (hT : TR P W Q V) : CtyM Q mk sp fi rt := h.2.2.2.2.2.2.2.2.2 Q hT.2.2.2.2.2.2.2.2.2.2.2.1 hT.2.2.2.2.2.2.2.2.2.2.2.2
/-- the reference: k days -/
theorem r_goDays (h : AR n d rid mk sp fi rt s P W) {k : Nat} (hk : k ≤ 61) (hT : TR P W Q V) (hx : Q 0 30 = x) (hy : Q 0 31 = y) (hm : (if x < 0 then mk else x) = m) (hm9 : rg m 99) (hW : TW n e W V) (he : e < 20000) : ∃ Q', f_X7_goDays Q (nI k) = some Q' ∧ TR P W Q' (itW (dayW rt m y fi sp) k V) ∧ Q' 0 30 = x ∧ Q' 0 31 = y := by
  have hR := AR_RU h
  have hem : emk Q mk = m := (emk_is hx).trans hm
  obtain ⟨f', h1⟩ := m_goDays (mk := mk) (sp := sp) (fi := fi) (rt := rt) (n := n) (d := e) hk hT.1 hW.1 (by omega) (TR_ceil hT (by omega)) hR.1 (by rw [hem]; exact hm9) hR.2.2.1 hR.2.1 hR.2.2.2 (TR_C h hT)
  rw [hem, hy] at h1
  exact ⟨_, h1, TR_put (TR_pile hT), hx, hy⟩
/-- the reference: a day -/
theorem r_goDay (h : AR n d rid mk sp fi rt s P W) (hT : TR P W Q V) (hx : Q 0 30 = x) (hy : Q 0 31 = y) (hm : (if x < 0 then mk else x) = m) (hm9 : rg m 99) (hW : TW n e W V) (he : e < 40000) : ∃ Q', f_X7_goDay Q = some Q' ∧ TR P W Q' (dayW rt m y fi sp V) ∧ Q' 0 30 = x ∧ Q' 0 31 = y := by
  have hR := AR_RU h
  have hem : emk Q mk = m := (emk_is hx).trans hm
  have hQ : Q = put (setO Q 33 (Q 33)) V := by
    rw [setO_i]
    exact hT.1
  obtain ⟨f', h1⟩ := m_day (f := Q 33) hW.1 (by omega) (TR_ceil hT (by omega)) hR.1 (by rw [hem]; exact hm9) hR.2.2.1 hR.2.1 hR.2.2.2 (TR_C h hT)
  rw [← hQ, hem, hy] at h1
  exact ⟨_, h1, TR_put (TR_pile hT), hx, hy⟩
/-- the reference: the end of a trial -/
theorem r_end (h : AR n d rid mk sp fi rt s P W) (hT : TR P W Q V) (hW : TW n e W V) : ∃ P', f_X7_putBack Q = some P' ∧ Rest P' W ∧ MB P P' := m_putBack hT h.2.2.2.2.2.1 h.1 hW.2.1 hW.2.2.1 hW.2.2.2.1 hW.2.2.2.2.1 hW.2.2.2.2.2.1
theorem r_turnedThen (h : AR n d rid mk sp fi rt s P W) (hT : TR P W Q V) (hx : Q 0 30 = x) (hy : Q 0 31 = y) (hm : (if x < 0 then mk else x) = m) (hm9 : rg m 99) (hW : TW n e W V) (he : e < 20000) : ∃ P', f_X7_turnedThen Q = some (itW (dayW rt m y fi sp) 30 V 0 3, P') ∧ Rest P' W ∧ MB P P' := by
  have hR := AR_RU h
  obtain ⟨Q', h1, h2, h3, h4⟩ := r_goDays h (k := 30) (by omega) hT hx hy hm hm9 hW he
  obtain ⟨P', h5, h6, h7⟩ := r_end h h2 (TW_it hR hm9 hW 30 (by omega))
  refine ⟨P', ?_, h6, h7⟩
  unfold f_X7_turnedThen
  rw [show (30 : Int32) = nI 30 from rfl, h1, Option.bind_some, h5, Option.bind_some, h2.1.r034]
/-- the class: k days -/
theorem c_goTrial (h : AR n d rid mk sp fi rt s P W) {k : Nat} (hk : k ≤ 61) (hS : SB s t) (h2 : t 2 = V) (hW : TW n e K V) (he : e < 20000) : ∃ t', f_X6_goTrial t (nI k) = some t' ∧ SB s t' ∧ t' 2 = itW (dayW rt mk (-1) fi sp) k V := by
  have hR := AR_RU h
  obtain ⟨a1, a2, a3, a4, a5, a6, a7, a8, a9, a10⟩ := h
  obtain ⟨t', g1, g2, g3, g4⟩ := e_goTrial hk ((rules_SB hS).trans a7) a8 a9 (hS.k a8) (by rw [h2]; exact hW.1) (show e < 2 ^ 28 by omega)
  refine ⟨t', g1, hS.tr g2, ?_⟩
  rw [g3, h2, itW_ab hR hR.1 ab_1 hW k (by omega)]
/-- the class: a day, by a mark, without one -/
theorem c_day (h : AR n d rid mk sp fi rt s P W) (hS : SB s t) (h2 : t 2 = V) (hW : TW n e K V) (he : e < 40000) (ha : ∀ j, j < 6 → (nI j = ab ↔ nI j = y)) : ∃ p1 p2, f_X5_goDay (t 2) (t rid) m ab = some (p1, p2) ∧ SB s (setO (setO t 2 p1) rid p2) ∧ (setO (setO t 2 p1) rid p2) 2 = dayW rt m y fi sp V := by
  obtain ⟨a1, a2, a3, a4, a5, a6, a7, a8, a9, a10⟩ := h
  obtain ⟨p1, p2, g1, g2, g3, g4, g5, g6⟩ := e_tday (s := t) (m := m) (ab := ab) a8 a9 (hS.k a8) (by rw [h2]; exact hW.1) (show e < 2 ^ 29 by omega)
  refine ⟨p1, p2, g1, hS.tr g4, ?_⟩
  rw [g5, g2, h2]
  exact dayW_ab ha (hW.1.L (by omega))
theorem c_turned (h : AR n d rid mk sp fi rt s P W) (hS : SB s t) (h2 : t 2 = V) (hm9 : rg m 99) (hW : TW n e K V) (he : e < 20000) : ∃ t', f_X6_turnedOfTrial t m = some (itW (dayW rt m (-1) fi sp) 30 V 0 3, t') ∧ SB s t' ∧ t' 2 = itW (dayW rt m (-1) fi sp) 30 V := by
  have hR := AR_RU h
  obtain ⟨t', g1, g2, g3⟩ := iter_I (body := fun t : Int32 × Mm => f_X6_turnedOfTrial_B7 m rid t.1 t.2) (fun i u => u.1 = nI i ∧ SB s u.2 ∧ u.2 2 = itW (dayW rt m (-1) fi sp) i V) (fun u => SB s u ∧ u 2 = itW (dayW rt m (-1) fi sp) 30 V) 30
    (fun i u hi hI => by
      obtain ⟨v, u⟩ := u
      obtain ⟨hv, hS', h2'⟩ := hI
      dsimp only at hv hS' h2'
      subst hv
      obtain ⟨p1, p2, e1, e2, e3⟩ := c_day (m := m) h hS' h2' (TW_it hR hm9 hW i (by omega)) (by omega) ab_1
      show ∃ s', f_X6_turnedOfTrial_B7 m rid (nI i) u = _ ∧ _
      unfold f_X6_turnedOfTrial_B7
      rw [if_neg (show ¬ (30 : Int32) ≤ nI i from nI_ge hi (by decide)), e1, nI_1]
      exact ⟨_, rfl, rfl, e2, e3⟩)
    (fun u hI => by
      obtain ⟨v, u⟩ := u
      obtain ⟨hv, hS', h2'⟩ := hI
      dsimp only at hv hS' h2'
      subst hv
      refine ⟨u, ?_, hS', h2'⟩
      show f_X6_turnedOfTrial_B7 m rid (nI 30) u = _
      unfold f_X6_turnedOfTrial_B7
      rw [if_pos (show (30 : Int32) ≤ nI 30 from Int32.le_refl _)]) 30 0 (0, t) (by omega) ⟨rfl, hS, h2⟩ 200 (by omega)
  refine ⟨t', ?_, g2, g3⟩
  unfold f_X6_turnedOfTrial
  rw [rules_SB hS, h.2.2.2.2.2.2.1, Option.bind_some, if_pos h.2.2.2.2.2.2.2.1]
  unfold f_X6_turnedOfTrial_H7
  rw [g1, Option.bind_some]
  unfold f_X6_turnedOfTrial_J30
  rw [g3]
/-- the class: is nobody sent away in k days? -/
theorem c_nobody (h : AR n d rid mk sp fi rt s P W) {k : Nat} (hk : k ≤ 61) (hS : SB s t) (h2 : t 2 = V) (hW : TW n e K V) (he : e < 20000) (ha : ∀ j, j < 6 → (nI j = ab ↔ nI j = y)) : ∃ t', f_X6_nobodySentIn t (nI k) ab = some (if itW (dayW rt mk y fi sp) k V 0 3 = 0 then 1 else 0, t') ∧ SB s t' ∧ NZ (t' 2) := by
  have hR := AR_RU h
  obtain ⟨t', g1, g2, i, hi, g3, g4⟩ := iter_E (body := fun t : Int32 × Mm => f_X6_nobodySentIn_B8 (nI k) ab rid t.1 t.2) (fun i u => u.1 = nI i ∧ SB s u.2 ∧ u.2 2 = itW (dayW rt mk y fi sp) i V) (fun u => SB s u ∧ ∃ i, i ≤ k ∧ u 2 = itW (dayW rt mk y fi sp) i V ∧ (i = k ∨ itW (dayW rt mk y fi sp) i V 0 3 ≠ 0)) k
    (fun i u hi hI => by
      obtain ⟨v, u⟩ := u
      obtain ⟨hv, hS', h2'⟩ := hI
      dsimp only at hv hS' h2'
      subst hv
      show (i < k ∧ ∃ s', f_X6_nobodySentIn_B8 (nI k) ab rid (nI i) u = _ ∧ _) ∨ ∃ r, f_X6_nobodySentIn_B8 (nI k) ab rid (nI i) u = _ ∧ _
      unfold f_X6_nobodySentIn_B8
      by_cases hik : i = k
      · subst hik
        right
        rw [if_pos (Int32.le_refl _)]
        exact ⟨u, rfl, hS', i, Nat.le_refl i, h2', Or.inl rfl⟩
      · rw [if_neg (nI_ge (show i < k by omega) (by omega))]
        by_cases h0 : u 2 0 3 = 0
        · left
          obtain ⟨p1, p2, e1, e2, e3⟩ := c_day (m := mk) h hS' h2' (TW_it hR hR.1 hW i (by omega)) (by omega) ha
          have hmk : (u rid) 0 0 = mk := by
            rw [← hS'.k h.2.2.2.2.2.2.2.1 0 (by decide)]
            exact h.2.2.2.2.2.2.2.2.1.2.1
          rw [if_pos h0, hmk, e1, nI_1]
          exact ⟨by omega, _, rfl, rfl, e2, e3⟩
        · right
          rw [if_neg h0]
          exact ⟨u, rfl, hS', i, by omega, h2', Or.inr (by rw [← h2']; exact h0)⟩) k 0 (0, t) (by omega) ⟨rfl, hS, h2⟩ 200 (by omega)
  have hb : (t' 2 0 3 = 0) ↔ itW (dayW rt mk y fi sp) k V 0 3 = 0 := by
    rw [g3]
    refine ⟨fun q => ?_, fun q => TW_0 hR hR.1 hW k hi (by omega) q⟩
    rcases g4 with rfl | g4
    · exact q
    · exact absurd q g4
  refine ⟨t', ?_, g2, by rw [g3]; exact (TW_it hR hR.1 hW i (by omega)).2.1⟩
  unfold f_X6_nobodySentIn
  rw [rules_SB hS, h.2.2.2.2.2.2.1, Option.bind_some, if_pos h.2.2.2.2.2.2.2.1]
  unfold f_X6_nobodySentIn_H8
  rw [g1, Option.bind_some]
  unfold f_X6_nobodySentIn_J43
  by_cases c : t' 2 0 3 = 0
  · rw [if_pos c, if_pos (hb.mp c)]
  · rw [if_neg c, if_neg (fun q => c (hb.mpr q))]
end St
