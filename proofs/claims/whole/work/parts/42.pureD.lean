/-! the pure side D: wanted, can, gone -/
theorem up2_self {W : Pm} {c j : Nat} : up2 W c j (W c j) = W := by
  funext k
  rw [up2_g]
  split
  · rename_i e
    subst e
    funext i
    rw [upd_g]
    split
    · rename_i e
      rw [e]
    · rfl
  · rfl
theorem b01 {r r' : Int32} {p : Prop} (h : r = 0 ∨ r = 1) (h' : r' = 0 ∨ r' = 1) (g : r ≠ 0 ↔ p) (g' : r' ≠ 0 ↔ p) : r = r' := by
  by_cases c : r = 0
  · by_cases c' : r' = 0
    · rw [c, c']
    · exact absurd c (g.mpr (g'.mp c'))
  · by_cases c' : r' = 0
    · exact absurd c' (g'.mpr (g.mp c))
    · rcases h with h | h
      · exact absurd h c
      · rcases h' with h' | h'
        · exact absurd h' c'
        · rw [h, h']
/-- a borrower's number that is tried: c 7 its wants, c 6 its v -/
def okc (c : Nat) (z : Int32) : Prop := (c = 7 ∧ z ≠ 0 ∧ rg z 99) ∨ (c = 6 ∧ rg z 9)
section Hand
variable {s t : Mm} {P Q W V U H : Pm} {n d e rid ns c j : Nat} {mk sp fi x y m ab a1 a2 z : Int32} {rt : Pm → Nat → Int32}
theorem DI_c (h : DI n e V) (hj : j < 6) (hz : okc c z) : DI n e (up2 V c j z) := by
  obtain ⟨k1, k2, k3, k4⟩ := h.2.2.2.2.2.1
  rcases hz with ⟨rfl, hz, hz2⟩ | ⟨rfl, hz2⟩
  · refine ⟨h.1, h.2.1, h.2.2.1, h.2.2.2.1, h.2.2.2.2.1, ⟨k1, fun i hi => ?_, k3, fun i hi => ?_⟩, h.2.2.2.2.2.2⟩
    · obtain ⟨q1, q2, q3, q4⟩ := k2 i hi
      exact ⟨q1, q2, rg_upd q3 hz2, q4⟩
    · refine ⟨?_, (k4 i hi).2⟩
      rw [up2_g, if_pos rfl, upd_g]
      split
      · exact hz
      · exact (k4 i hi).1
  · refine ⟨h.1, h.2.1, h.2.2.1, h.2.2.2.1, h.2.2.2.2.1, ⟨k1, fun i hi => ?_, k3, k4⟩, h.2.2.2.2.2.2⟩
    obtain ⟨q1, q2, q3⟩ := k2 i hi
    exact ⟨q1, rg_upd q2 hz2, q3⟩
theorem okc_67 (h : okc c z) : c = 6 ∨ c = 7 := by
  rcases h with ⟨h, -⟩ | ⟨h, -⟩
  · exact Or.inr h
  · exact Or.inl h
theorem NZ_c (h : NZ V) (hj : j < 6) (hz : okc c z) : NZ (up2 V c j z) := by
  rcases okc_67 hz with rfl | rfl
  · exact NZ_up h (by omega)
  · exact NZ_up h (by omega)
theorem Rest_c (h : Rest P W) (hc : c = 6 ∨ c = 7) : Rest (up2 P (c - 1) j z) (up2 W c j z) := by
  obtain ⟨h0, h1, h2, h3⟩ := h
  rcases hc with rfl | rfl
  · refine ⟨?_, h1, h2, h3⟩
    show WV (up2 P 5 j z) (up2 (up2 W 6 j z) 0 3 (P 0 34))
    have e : up2 P 5 j z = put P (up2 (up2 W 0 3 (P 0 34)) 6 j z) := by rw [← wp_5, ← h0]
    rw [e, up2_cm (by decide)]
    exact WV.put
  · refine ⟨?_, h1, h2, h3⟩
    show WV (up2 P 6 j z) (up2 (up2 W 7 j z) 0 3 (P 0 34))
    have e : up2 P 6 j z = put P (up2 (up2 W 0 3 (P 0 34)) 7 j z) := by rw [← wp_6, ← h0]
    rw [e, up2_cm (by decide)]
    exact WV.put
/-- within the search -/
def WI (s : Mm) (P W : Pm) (c j : Nat) (u : Mm) (v : Pm) : Prop := SB s u ∧ NZ (u 2) ∧ ∃ z, Rest v (up2 W c j z) ∧ MB P (up2 v (c - 1) j (W c j))
theorem WI_0 (h : AR n d rid mk sp fi rt s P W) (hc : c = 6 ∨ c = 7) : WI s P W c j s P := by
  refine ⟨SB.rf, h.2.1, W c j, by rw [up2_self]; exact h.2.2.2.2.2.1, ?_⟩
  have e : W c j = P (c - 1) j := by
    have hW := h.2.2.2.2.2.1.1
    rcases hc with rfl | rfl
    · exact (congrFun hW.r5 j).symm
    · exact (congrFun hW.r6 j).symm
  rw [e, up2_self]
  exact MB.rf
theorem WI_end {v : Pm} {u : Mm} (h : WI s P W c j u v) (hc : c = 6 ∨ c = 7) : AS s P W u (up2 v (c - 1) j (W c j)) := by
  obtain ⟨h1, h2, z, h3, h4⟩ := h
  refine ⟨h1, h2, h4, ?_⟩
  have := Rest_c (j := j) (z := W c j) h3 hc
  rw [up2_tw, up2_self] at this
  exact this
theorem q_one (h : AR n d rid mk sp fi rt s P W) (hH : HR n (s 4) P) (hj : j < 6) (hz : okc c z) {u : Mm} {v : Pm} (hI : WI s P W c j u v) : ∃ r u' u'' v', f_X6_startTrial u = some u' ∧ u' 2 = up2 W 0 3 0 ∧ f_X6_trialShowsAllSeen (setO u' 2 (up2 (up2 W 0 3 0) c j z)) = some (r, u'') ∧ f_X7_isSeen (up2 v (c - 1) j z) = some (r, v') ∧ WI s P W c j u'' v' := by
  obtain ⟨i1, i2, z', i3, i4⟩ := hI
  have hc := okc_67 hz
  have hd := h.2.2.2.2.1
  obtain ⟨ns, ny, nk, n1, n2, n3, ⟨n4, n4'⟩, n5, n6, n7, n8, n9, n10, n11, n12⟩ := hH
  have hu1 : u 1 = W := (i1.1 1 (by decide) (by decide)).trans h.2.2.1
  have g1 : f_X6_startTrial u = some (setO u 2 (up2 W 0 3 0)) := by
    rw [e_start (by rw [hu1]; exact h.1) i2, hu1]
  have hV0 := TW_start h.2.2.2.1 h.1
  have hW' : TW n d (up2 W c j z) (up2 (up2 W c j z) 0 3 0) := TW_start (DI_c h.2.2.2.1 hj hz) (NZ_c h.1 hj hz)
  have eV : up2 (up2 W c j z) 0 3 0 = up2 (up2 W 0 3 0) c j z := up2_cm (by rcases hc with q | q <;> omega)
  obtain ⟨r, u'', g2, g3, g4, g5, g6⟩ := c_seen (t := setO (setO u 2 (up2 W 0 3 0)) 2 (up2 (up2 W 0 3 0) c j z)) h n1 n4 n10 (i1.tr (SB.two.tr SB.two)) setO_s (by rw [← eV]; exact hW') (by omega)
  have hc1 : ∀ k, k ≠ c - 1 → up2 v (c - 1) j z k = v k := fun k hk => by rw [up2_g, if_neg hk]
  have hc2 : ∀ k, k ≠ c - 1 → ¬ (k = 0 ∨ k = 33 ∨ (38 ≤ k ∧ k ≤ 44)) → v k = P k := fun k hk hk2 => by
    have := i4.1 k hk2
    rw [up2_g, if_neg hk] at this
    exact this
  have hc3 : ∀ i, ¬ (33 ≤ i ∧ i ≤ 36) → v 0 i = P 0 i := fun i hi => by
    have := i4.2 i hi
    rw [up2_g, if_neg (by omega)] at this
    exact this
  have hAR : AR n d rid mk sp fi rt (setO s 1 (up2 W c j z)) (up2 v (c - 1) j z) (up2 W c j z) := by
    obtain ⟨a1, a2, a3, a4, a5, a6, a7, a8, a9, a10⟩ := h
    have hr1 : rid ≠ 1 := fun q => by subst q; cases a8
    refine ⟨NZ_c a1 hj hz, a2, setO_s, DI_c a4 hj hz, a5, ?_, a7, a8, by rw [setO_n hr1]; exact a9, fun Q q1 q2 => a10 Q (fun k hk => ?_) (fun i hi => ?_)⟩
    · have := Rest_c (j := j) (z := z) i3 hc
      rw [up2_tw] at this
      exact this
    · rw [q1 k hk, hc1 k (by omega), hc2 k (by omega) (by omega)]
    · rw [q2 i hi, hc1 0 (by omega), hc3 i (by omega)]
  obtain ⟨r', v', m1, m2, m3, m4, m5⟩ := m_seen (H := s 4) hAR n1 (by rw [hc1 0 (by omega), hc3 44 (by omega)]; exact n4') (fun i hi => by
    rw [hc1 46 (by omega), hc2 46 (by omega) (by omega), hc1 47 (by omega), hc2 47 (by omega) (by omega)]
    exact n7 i hi) n10
  rw [eV] at m5
  have er : r = r' := b01 g5 m4 g6 m5
  subst er
  refine ⟨r, _, u'', v', g1, setO_s, g2, m1, g3, g4, z, m3, fun k hk => ?_, fun i hi => ?_⟩
  · by_cases e : k = c - 1
    · subst e
      have e1 := m2.1 (c - 1) (by omega)
      have e2 := i4.1 (c - 1) (by omega)
      rw [up2_g, if_pos rfl] at e2 ⊢
      rw [e1, up2_g, if_pos rfl, ← e2]
      funext i
      rw [upd_g, upd_g, upd_g]
      split
      · rfl
      · rfl
    · rw [up2_g, if_neg e, m2.1 k hk, hc1 k e, hc2 k e hk]
  · rw [up2_g, if_neg (by omega), m2.2 i hi, hc1 0 (by omega), hc3 i hi]
theorem q_wanted (h : AR n d rid mk sp fi rt s P W) (hH : HR n (s 4) P) : QA s P W (f_X6_wanted s a1 a2) (f_X7_wanted P a1 a2) := by
  have hn := h.hn
  unfold f_X6_wanted f_X7_wanted
  rw [e_known, m_isB, Option.bind_some, Option.bind_some, h.e2, h.m1]
  by_cases c : win a1 0 (nI n - 1) = 0
  · rw [if_pos c, if_pos c]
    exact ⟨_, s, P, rfl, rfl, h.as⟩
  rw [if_neg c, if_neg c, e_win, m_win, Option.bind_some, Option.bind_some]
  by_cases c0 : win a2 0 1 = 0
  · rw [if_pos c0, if_pos c0]
    exact ⟨_, s, P, rfl, rfl, h.as⟩
  rw [if_neg c0, if_neg c0]
  obtain ⟨j, hj, rfl⟩ := known_r hn c
  have hj6 : j < 6 := by omega
  have hix : ix (nI j) = j := ix_nI (by omega)
  have hin : inb (nI j) 6 = true := inb_nI hj6 (by decide)
  rw [if_pos hin, hix, h.2.2.2.2.2.1.1.r6]
  show QA s P W _ (f_X7_wanted_H38 P (nI j) a2 (W 7 j) 0 (-5) 99)
  obtain ⟨r, r', g5, g6, g7, g8, g9⟩ := iter_2 (b1 := fun t : Int32 × Int32 × Int32 × Mm => f_X6_wanted_B29 (nI j) a2 t.1 t.2.1 t.2.2.1 t.2.2.2) (b2 := fun t : Int32 × Int32 × Int32 × Pm => f_X7_wanted_B38 (nI j) a2 (W 7 j) t.1 t.2.1 t.2.2.1 t.2.2.2)
    (fun i u v => u.2.2.1 = nI (99 - i) ∧ v.2.2.1 = nI (99 - i) ∧ u.1 = v.1 ∧ u.2.1 = v.2.1 ∧ WI s P W 7 j u.2.2.2 v.2.2.2) (fun u v => u.1 = v.1 ∧ u.2.1 = v.2.1 ∧ WI s P W 7 j u.2.2 v.2.2) 99
    (fun i u v hi hI => by
      obtain ⟨u1, u2, u3, u⟩ := u
      obtain ⟨v1, v2, v3, v⟩ := v
      obtain ⟨h1, h2, h3, h4, h5⟩ := hI
      dsimp only at h1 h2 h3 h4 h5
      subst h1 h2 h3 h4
      show (i < 99 ∧ ∃ s' t', f_X6_wanted_B29 (nI j) a2 u1 u2 (nI (99 - i)) u = _ ∧ f_X7_wanted_B38 (nI j) a2 (W 7 j) u1 u2 (nI (99 - i)) v = _ ∧ _) ∨ ∃ r r', f_X6_wanted_B29 (nI j) a2 u1 u2 (nI (99 - i)) u = _ ∧ f_X7_wanted_B38 (nI j) a2 (W 7 j) u1 u2 (nI (99 - i)) v = _ ∧ _
      unfold f_X6_wanted_B29 f_X7_wanted_B38
      by_cases hik : i = 99
      · subst hik
        right
        rw [if_pos (show nI (99 - 99) < (1 : Int32) by decide), if_pos (show nI (99 - 99) ≤ (0 : Int32) by decide)]
        exact ⟨_, _, rfl, rfl, rfl, rfl, h5⟩
      · left
        refine ⟨by omega, ?_⟩
        obtain ⟨k, hk⟩ : ∃ k, 99 - i = k + 1 := ⟨98 - i, by omega⟩
        have hk' : 99 - (i + 1) = k := by omega
        rw [hk, hk', if_neg (show ¬ nI (k + 1) < (1 : Int32) from nI_nlt (b := 1) (a := k + 1) (by omega) (by omega)), if_neg (nI_nle (by omega) (by omega)), hix]
        obtain ⟨r, u', u'', v', q1, q2, q3, q4, q5⟩ := q_one h hH hj6 (c := 7) (z := nI (k + 1)) (Or.inl ⟨rfl, nI_ne0 (by omega) (by omega), k + 1, by omega, rfl⟩) h5
        rw [q1, Option.bind_some, if_pos hin, if_pos hin, nb_w, nb_w, q2, q3, show up2 v 6 j (nI (k + 1)) = up2 v (7 - 1) j (nI (k + 1)) from rfl, q4, bn2_w, bn2_w]
        unfold f_X6_wanted_J64 f_X7_wanted_J68
        by_cases cr : r = 0
        · rw [if_pos cr, if_pos cr]
          exact ⟨_, _, rfl, rfl, pk_m1 _, pk_m1 _, rfl, rfl, q5⟩
        · rw [if_neg cr, if_neg cr]
          exact ⟨_, _, rfl, rfl, pk_m1 _, pk_m1 _, rfl, rfl, q5⟩) 99 0 (0, -5, 99, s) (0, -5, 99, P) (by omega) ⟨rfl, rfl, rfl, rfl, WI_0 h (by omega)⟩ 200 (by omega)
  obtain ⟨r1, r2, r3⟩ := r
  obtain ⟨r1', r2', r3'⟩ := r'
  dsimp only at g7 g8 g9
  subst g7 g8
  have hA : AS s P W r3 (up2 r3' 6 j (W 7 j)) := WI_end g9 (by omega)
  unfold f_X6_wanted_H29 f_X7_wanted_H38
  rw [g5, g6, bn3_w, bn3_w]
  unfold f_X6_wanted_J70 f_X7_wanted_J74
  rw [if_pos hin, hix, nb_w]
  by_cases cc : a2 = 0
  · rw [if_pos cc, if_pos cc]
    exact ⟨_, _, _, rfl, rfl, hA⟩
  · rw [if_neg cc, if_neg cc]
    exact ⟨_, _, _, rfl, rfl, hA⟩
theorem q_can (h : AR n d rid mk sp fi rt s P W) (hH : HR n (s 4) P) : QA s P W (f_X6_can s a1 a2) (f_X7_can P a1 a2) := by
  have hn := h.hn
  unfold f_X6_can f_X7_can
  rw [e_known, m_isB, Option.bind_some, Option.bind_some, h.e2, h.m1]
  by_cases c : win a1 0 (nI n - 1) = 0
  · rw [if_pos c, if_pos c]
    exact ⟨_, s, P, rfl, rfl, h.as⟩
  rw [if_neg c, if_neg c, e_win, m_win, Option.bind_some, Option.bind_some]
  by_cases c0 : win a2 0 1 = 0
  · rw [if_pos c0, if_pos c0]
    exact ⟨_, s, P, rfl, rfl, h.as⟩
  rw [if_neg c0, if_neg c0]
  obtain ⟨j, hj, rfl⟩ := known_r hn c
  have hj6 : j < 6 := by omega
  have hix : ix (nI j) = j := ix_nI (by omega)
  have hin : inb (nI j) 6 = true := inb_nI hj6 (by decide)
  rw [if_pos hin, hix, h.2.2.2.2.2.1.1.r5]
  show QA s P W _ (f_X7_can_H38 P (nI j) a2 (W 6 j) 0 (-5) 9)
  obtain ⟨r, r', g5, g6, g7, g8, g9⟩ := iter_2 (b1 := fun t : Int32 × Int32 × Int32 × Mm => f_X6_can_B29 (nI j) a2 t.1 t.2.1 t.2.2.1 t.2.2.2) (b2 := fun t : Int32 × Int32 × Int32 × Pm => f_X7_can_B38 (nI j) a2 (W 6 j) t.1 t.2.1 t.2.2.1 t.2.2.2)
    (fun i u v => u.2.2.1 = b1 (10 - i) ∧ v.2.2.1 = b1 (10 - i) ∧ u.1 = v.1 ∧ u.2.1 = v.2.1 ∧ WI s P W 6 j u.2.2.2 v.2.2.2) (fun u v => u.1 = v.1 ∧ u.2.1 = v.2.1 ∧ WI s P W 6 j u.2.2 v.2.2) 10
    (fun i u v hi hI => by
      obtain ⟨u1, u2, u3, u⟩ := u
      obtain ⟨v1, v2, v3, v⟩ := v
      obtain ⟨h1, h2, h3, h4, h5⟩ := hI
      dsimp only at h1 h2 h3 h4 h5
      subst h1 h2 h3 h4
      show (i < 10 ∧ ∃ s' t', f_X6_can_B29 (nI j) a2 u1 u2 (b1 (10 - i)) u = _ ∧ f_X7_can_B38 (nI j) a2 (W 6 j) u1 u2 (b1 (10 - i)) v = _ ∧ _) ∨ ∃ r r', f_X6_can_B29 (nI j) a2 u1 u2 (b1 (10 - i)) u = _ ∧ f_X7_can_B38 (nI j) a2 (W 6 j) u1 u2 (b1 (10 - i)) v = _ ∧ _
      unfold f_X6_can_B29 f_X7_can_B38
      by_cases hik : i = 10
      · subst hik
        right
        rw [if_pos (show b1 (10 - 10) < (0 : Int32) by decide), if_pos (show b1 (10 - 10) < (0 : Int32) by decide)]
        exact ⟨_, _, rfl, rfl, rfl, rfl, h5⟩
      · left
        refine ⟨by omega, ?_⟩
        obtain ⟨k, hk⟩ : ∃ k, 10 - i = k + 1 := ⟨9 - i, by omega⟩
        have hk' : 10 - (i + 1) = k := by omega
        have hb : b1 (k + 1) = nI k := by
          unfold b1
          rw [if_neg (by omega)]
          rfl
        have hb' : nI k + -1 = b1 k := by
          unfold b1
          by_cases q : k = 0
          · subst q
            rfl
          · rw [if_neg q]
            obtain ⟨k', rfl⟩ : ∃ k', k = k' + 1 := ⟨k - 1, by omega⟩
            exact pk_m1 k'
        rw [hk, hk', hb, if_neg (nI_pos (by omega)), if_neg (nI_pos (by omega)), hix]
        obtain ⟨r, u', u'', v', q1, q2, q3, q4, q5⟩ := q_one h hH hj6 (c := 6) (z := nI k) (Or.inr ⟨rfl, k, by omega, rfl⟩) h5
        rw [q1, Option.bind_some, if_pos hin, if_pos hin, nb_w, nb_w, q2, q3, show up2 v 5 j (nI k) = up2 v (6 - 1) j (nI k) from rfl, q4, bn2_w, bn2_w]
        unfold f_X6_can_J63 f_X7_can_J68
        by_cases cr : r = 0
        · rw [if_pos cr, if_pos cr]
          exact ⟨_, _, rfl, rfl, hb', hb', rfl, rfl, q5⟩
        · rw [if_neg cr, if_neg cr]
          exact ⟨_, _, rfl, rfl, hb', hb', rfl, rfl, q5⟩) 10 0 (0, -5, 9, s) (0, -5, 9, P) (by omega) ⟨rfl, rfl, rfl, rfl, WI_0 h (by omega)⟩ 200 (by omega)
  obtain ⟨r1, r2, r3⟩ := r
  obtain ⟨r1', r2', r3'⟩ := r'
  dsimp only at g7 g8 g9
  subst g7 g8
  have hA : AS s P W r3 (up2 r3' 5 j (W 6 j)) := WI_end g9 (by omega)
  unfold f_X6_can_H29 f_X7_can_H38
  rw [g5, g6, bn3_w, bn3_w]
  unfold f_X6_can_J69 f_X7_can_J74
  rw [if_pos hin, hix, nb_w]
  by_cases cc : a2 = 0
  · rw [if_pos cc, if_pos cc]
    exact ⟨_, _, _, rfl, rfl, hA⟩
  · rw [if_neg cc, if_neg cc]
    exact ⟨_, _, _, rfl, rfl, hA⟩
theorem q_gone (h : AR n d rid mk sp fi rt s P W) (hH : HR n (s 4) P) : QA s P W (f_X6_gone s a1) (f_X7_gone P a1) := by
  have hd := h.2.2.2.2.1
  have hn := h.hn
  have hR := AR_RU h
  obtain ⟨ns, ny, nk, n1, n2, n3, n4, ⟨n5, n5'⟩, n6, n7, n8, n9, n10, n11, n12⟩ := hH
  unfold f_X6_gone f_X7_gone
  rw [e_win, m_win, Option.bind_some, Option.bind_some]
  by_cases c0 : win a1 0 1 = 0
  · rw [if_pos c0, if_pos c0]
    exact ⟨_, s, P, rfl, rfl, h.as⟩
  rw [if_neg c0, if_neg c0]
  obtain ⟨t, Q, g1, g2, hT, hW⟩ := tt_start h
  rw [g1, g2, Option.bind_some, Option.bind_some]
  obtain ⟨r, r', g3, g4, V, e, hT', hW', he'⟩ := iter_2 (b1 := fun t : Int32 × Mm => f_X6_gone_B17 a1 t.1 t.2) (b2 := fun t : Int32 × Pm => f_X7_gone_B18 a1 t.1 t.2)
    (fun i u v => u.1 = nI i ∧ v.1 = nI i ∧ ∃ V e, TT s u.2 P v.2 W V (-1) (-1) ∧ TW n e W V ∧ e ≤ d + i) (fun u v => ∃ V e, TT s u P v W V (-1) (-1) ∧ TW n e W V ∧ e < 20000) ny
    (fun i u v hi hI => by
      obtain ⟨u1, u⟩ := u
      obtain ⟨v1, v⟩ := v
      obtain ⟨h1, h2, V, e, hT, hW, he⟩ := hI
      dsimp only at h1 h2 hT
      subst h1 h2
      show (i < ny ∧ ∃ s' t', f_X6_gone_B17 a1 (nI i) u = _ ∧ f_X7_gone_B18 a1 (nI i) v = _ ∧ _) ∨ ∃ r r', f_X6_gone_B17 a1 (nI i) u = _ ∧ f_X7_gone_B18 a1 (nI i) v = _ ∧ _
      unfold f_X6_gone_B17 f_X7_gone_B18 f_X7_gone_J39 f_X7_gone_J59 f_X7_gone_J87
      have hv : v 0 47 = nI ny := (hT.2.2.1.2.2.2.2.2.2.2.2.2.2.2.2 47 (by omega)).trans n5'
      have hv50 : v 50 = P 50 := hT.2.2.1.2.2.2.2.2.2.2.2.2.2.2.1 50 (by omega)
      have hv51 : v 51 = P 51 := hT.2.2.1.2.2.2.2.2.2.2.2.2.2.2.1 51 (by omega)
      rw [hT.1.1 4 (by decide) (by decide), n5, hv]
      by_cases hik : i = ny
      · subst hik
        right
        rw [if_pos (Int32.le_refl _), if_pos (Int32.le_refl _)]
        exact ⟨_, _, rfl, rfl, V, e, hT, hW, by omega⟩
      · left
        have hin : inb (nI i) 10 = true := inb_nI (by omega) (by decide)
        have hix : ix (nI i) = i := ix_nI (by omega)
        refine ⟨by omega, ?_⟩
        rw [if_neg (nI_ge (by omega) (by omega)), if_neg (nI_ge (by omega) (by omega))]
        simp only [if_pos hin, hix]
        rw [hv50, ← (n8 i (by omega)).1]
        unfold f_X6_goYearRow f_X6_goYearRow_J36
        by_cases y0 : s 4 6 i = 0
        · obtain ⟨u', v', q1, q2, q3⟩ := tt_day h hT hW (by omega)
          have hv50' : v' 50 = P 50 := q3.2.2.1.2.2.2.2.2.2.2.2.2.2.2.1 50 (by omega)
          rw [if_pos y0, if_pos y0, q1, q2, Option.bind_some, Option.bind_some, Option.bind_some, hv50', ← (n8 i (by omega)).1, y0, if_neg (by decide), if_neg (by decide)]
          exact ⟨_, _, rfl, rfl, nI_1 _, nI_1 _, _, e + 1, q3, TW_day hR hR.1 hW (by omega), by omega⟩
        rw [if_neg y0, if_neg y0]
        by_cases y1 : s 4 6 i = 1
        · obtain ⟨j, hj, ej⟩ := n11 i (by omega) y1
          rw [if_pos y1, if_pos y1, ej, e_known, hT.1.1 1 (by decide) (by decide), h.e2, known_y hn hj, Option.bind_some, if_neg (by decide), hT.2.1, e_callIn (by omega), hv51, ← (n8 i (by omega)).2 y1, ej, m_calls (by omega) hT.2.2.1.1 hW.1]
          have hT2 := TT_put (U := callW V j) hT
          have hv50' : put v (callW V j) 50 = P 50 := hT2.2.2.1.2.2.2.2.2.2.2.2.2.2.2.1 50 (by omega)
          rw [Option.bind_some, Option.bind_some, nb_w, Option.bind_some, hv50', ← (n8 i (by omega)).1, y1, if_neg (by decide)]
          exact ⟨_, _, rfl, rfl, nI_1 _, nI_1 _, _, e, hT2, TW_call (by omega) hW, by omega⟩
        rw [if_neg y1, if_neg y1]
        by_cases y2 : s 4 6 i = 2
        · have h10 : rg (10 : Int32) 999 := ⟨10, by omega, rfl⟩
          obtain ⟨m1, m2⟩ := m_rise h10 hT.2.2.1.1 hW.1
          rw [if_pos y2, if_pos y2, hT.2.1, e_rise, m1, Option.bind_some, Option.bind_some, nb_w, nb_w, m2, Option.bind_some]
          exact ⟨_, _, rfl, rfl, nI_1 _, nI_1 _, _, e, TT_put (U := riseW V 10) hT, TW_rise h10 hW, by omega⟩
        rw [if_neg y2, if_neg y2, Option.bind_some]
        exact ⟨_, _, rfl, rfl, nI_1 _, nI_1 _, V, e, hT, hW, by omega⟩) ny 0 (0, t) (0, Q) (by omega) ⟨rfl, rfl, _, d, hT, hW, by omega⟩ 200 (by omega)
  obtain ⟨P', g5, hA⟩ := tt_end h hT' hW'
  unfold f_X6_gone_H17 f_X7_gone_H18
  rw [g3, g4, Option.bind_some, Option.bind_some]
  unfold f_X6_gone_J56 f_X7_gone_J93 f_X7_gone_J108
  rw [g5, hT'.2.1, hT'.2.2.1.1.r00, hT'.2.2.1.1.r034]
  by_cases cc : a1 = 0
  · rw [if_pos cc, if_pos cc]
    exact ⟨_, _, _, rfl, rfl, hA⟩
  · rw [if_neg cc, if_neg cc]
    exact ⟨_, _, _, rfl, rfl, hA⟩
end Hand
