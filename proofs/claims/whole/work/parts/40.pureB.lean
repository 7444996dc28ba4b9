/-! the pure side B: the best mark, seldom, more, odds -/
section Ask
variable {s t : Mm} {P Q W V U : Pm} {n d e rid : Nat} {mk sp fi x y m ab a1 a2 : Int32} {rt : Pm → Nat → Int32}
theorem nI_mul5 (i : Nat) : nI (5 * i) + 5 = nI (5 * (i + 1)) := by
  rw [show (5 : Int32) = nI 5 from rfl, nI_add]
  rfl
theorem nI_mul10 (i : Nat) : nI (10 * i) + 10 = nI (10 * (i + 1)) := by
  rw [show (10 : Int32) = nI 10 from rfl, nI_add]
  rfl
/-- of several the greatest: what the best mark is -/
def isBest (f : Nat → Int32) (lo hi b : Nat) : Prop := lo ≤ b ∧ b < hi ∧ ∀ k, lo ≤ k → k < hi → f b ≤ f k ∧ (b < k → f b < f k)
theorem isBest_u {f : Nat → Int32} {lo hi b c : Nat} (h : isBest f lo hi b) (h2 : isBest f lo hi c) : b = c := by
  apply Decidable.byContradiction
  intro q
  by_cases l : b < c
  · exact Int32.not_lt.mpr (h2.2.2 b h.1 h.2.1).1 ((h.2.2 c h2.1 h2.2.1).2 l)
  · exact Int32.not_lt.mpr (h.2.2 c h2.1 h2.2.1).1 ((h2.2.2 b h.1 h.2.1).2 (by omega))
theorem q_mark (h : AR n d rid mk sp fi rt s P W) : QA s P W (f_X6_bestMark s) (f_X7_markOf P) := by
  have hd := h.2.2.2.2.1
  have hR := AR_RU h
  generalize hf : (fun i : Nat => tnW rt (nI (5 * i)) fi sp (up2 W 0 3 0)) = f
  have hfi : ∀ i, tnW rt (nI (5 * i)) fi sp (up2 W 0 3 0) = f i := fun i => by rw [← hf]
  have hW := TW_start h.2.2.2.1 h.1
  have hf0 : ∀ i, i < 20 → rg (f i) 200000 := fun i hi => by
    rw [← hfi]
    exact tn_r hR ⟨5 * i, by omega, rfl⟩ hW (by omega)
  -- one trial
  have one : ∀ i, i < 20 → ∀ u v, AS s P W u v → (∃ u' u'', f_X6_startTrial u = some u' ∧ f_X6_turnedOfTrial u' (nI (5 * i)) = some (f i, u'') ∧ ∃ v' v'', f_X7_save v = some v' ∧ f_X7_turnedThen (up2 v' 0 30 (nI (5 * i))) = some (f i, v'') ∧ AS s P W u'' v'') := by
    intro i hi u v hA
    have h' := h.go hA
    obtain ⟨u', Q, k1, k2, hT, hW⟩ := tt_start h'
    have hm9 : rg (nI (5 * i)) 99 := ⟨5 * i, by omega, rfl⟩
    obtain ⟨u'', k3, k4, k5⟩ := c_turned h' hT.1 hT.2.1 hm9 hW (by omega)
    obtain ⟨v'', k6, k7, k8⟩ := r_turnedThen (m := nI (5 * i)) (x := nI (5 * i)) (y := -1) h' (TR_30 (z := nI (5 * i)) hT.2.2.1) rfl hT.2.2.2.2 (if_neg (nI_pos (by omega))) hm9 hW (by omega)
    refine ⟨u', u'', k1, k3.trans (congrArg (fun z => some (z, u'')) (hfi i)), Q, v'', k2, k6.trans (congrArg (fun z => some (z, v'')) (hfi i)), hA.tr ⟨k4, ?_, k8, k7⟩⟩
    rw [k5]
    exact (TW_it (ab := -1) hR hm9 hW 30 (by omega)).2.1
  have hne5 : ∀ b, b < 20 → nI (5 * b) ≠ -5 := fun b hb q => by
    have := nI_pos (n := 5 * b) (by omega)
    rw [q] at this
    exact this (by decide)
  -- the class goes up; the reference, at rest all along, is not asked here
  have hA0 : AS s P W s P := h.as
  obtain ⟨r, g1, P1, g2, b, g3, g4⟩ := iter_I (body := fun t : Int32 × Int32 × Int32 × Mm => f_X6_bestMark_B7 t.1 t.2.1 t.2.2.1 t.2.2.2)
    (fun i u => u.2.2.1 = nI (5 * i) ∧ (∃ P1, AS s P W u.2.2.2 P1) ∧ ((i = 0 ∧ u.1 = -5) ∨ ∃ b, isBest f 0 i b ∧ u.1 = nI (5 * b) ∧ u.2.1 = f b)) (fun r => ∃ P1, AS s P W r.2 P1 ∧ ∃ b, isBest f 0 20 b ∧ r.1 = nI (5 * b)) 20
    (fun i u hi hI => by
      obtain ⟨u1, u2, u3, u⟩ := u
      obtain ⟨h1, ⟨P1, h2⟩, h3⟩ := hI
      dsimp only at h1 h2 h3
      subst h1
      show ∃ s', f_X6_bestMark_B7 u1 u2 (nI (5 * i)) u = _ ∧ _
      obtain ⟨u', u'', k1, k2, v', v'', k3, k4, k5⟩ := one i hi u P1 h2
      unfold f_X6_bestMark_B7 f_X6_bestMark_J36 f_X6_bestMark_J41
      rw [if_neg (show ¬ (95 : Int32) < nI (5 * i) from nI_nlt (b := 5 * i) (a := 95) (by omega) (by omega)), k1, Option.bind_some, k2, bn2_w]
      rcases h3 with ⟨rfl, h3⟩ | ⟨b, h3, rfl, rfl⟩
      · rw [if_pos h3]
        refine ⟨_, rfl, nI_mul5 0, ⟨v'', k5⟩, Or.inr ⟨0, ⟨by omega, by omega, fun k hk hk2 => ?_⟩, rfl, rfl⟩⟩
        have : k = 0 := by omega
        subst this
        exact ⟨Int32.le_refl _, fun q => absurd q (by omega)⟩
      · rw [if_neg (hne5 b (by have := h3.2.1; omega))]
        by_cases c : f b < f i
        · rw [if_pos c]
          refine ⟨_, rfl, nI_mul5 i, ⟨v'', k5⟩, Or.inr ⟨b, ⟨h3.1, by have := h3.2.1; omega, fun k hk hk2 => ?_⟩, rfl, rfl⟩⟩
          by_cases e : k = i
          · subst e
            exact ⟨Int32.le_of_lt c, fun _ => c⟩
          · exact h3.2.2 k hk (by omega)
        · rw [if_neg c]
          refine ⟨_, rfl, nI_mul5 i, ⟨v'', k5⟩, Or.inr ⟨i, ⟨by omega, by omega, fun k hk hk2 => ⟨?_, fun q => absurd q (by omega)⟩⟩, rfl, rfl⟩⟩
          by_cases e : k = i
          · subst e
            exact Int32.le_refl _
          · exact Int32.le_trans (Int32.not_lt.mp c) (h3.2.2 k hk (by omega)).1)
    (fun u hI => by
      obtain ⟨u1, u2, u3, u⟩ := u
      obtain ⟨h1, ⟨P1, h2⟩, h3⟩ := hI
      dsimp only at h1 h2 h3
      subst h1
      rcases h3 with ⟨h3, -⟩ | ⟨b, h3, rfl, rfl⟩
      · exact absurd h3 (by decide)
      · refine ⟨(nI (5 * b), u), ?_, P1, h2, b, h3, rfl⟩
        show f_X6_bestMark_B7 (nI (5 * b)) (f b) (nI (5 * 20)) u = _
        unfold f_X6_bestMark_B7
        rw [if_pos (show (95 : Int32) < nI (5 * 20) by decide)]) 20 0 (-5, 0, 0, s) (by omega) ⟨rfl, ⟨P, hA0⟩, Or.inl ⟨rfl, rfl⟩⟩ 200 (by omega)
  obtain ⟨r', g5, s1, g6, b', g7, g8⟩ := iter_I (body := fun t : Int32 × Int32 × Int32 × Pm => f_X7_markOf_B7 t.1 t.2.1 t.2.2.1 t.2.2.2)
    (fun i u => (u.2.2.1 = if i = 20 then -5 else nI (5 * (19 - i))) ∧ (∃ s1, AS s P W s1 u.2.2.2) ∧ ((i = 0 ∧ u.2.1 = -1) ∨ ∃ b, isBest f (20 - i) 20 b ∧ u.1 = nI (5 * b) ∧ u.2.1 = f b)) (fun r => ∃ s1, AS s P W s1 r.2 ∧ ∃ b, isBest f 0 20 b ∧ r.1 = nI (5 * b)) 20
    (fun i u hi hI => by
      obtain ⟨u1, u2, u3, u⟩ := u
      obtain ⟨h1, ⟨s1, h2⟩, h3⟩ := hI
      dsimp only at h1 h2 h3
      rw [if_neg (by omega)] at h1
      subst h1
      show ∃ s', f_X7_markOf_B7 u1 u2 (nI (5 * (19 - i))) u = _ ∧ _
      obtain ⟨u', u'', k1, k2, v', v'', k3, k4, k5⟩ := one (19 - i) (by omega) s1 u h2
      have hnx : nI (5 * (19 - i)) + -5 = if i + 1 = 20 then -5 else nI (5 * (19 - (i + 1))) := by
        by_cases e : i = 19
        · subst e
          rfl
        · rw [if_neg (by omega)]
          have e5 : ∀ z : Int32, z + -5 = z - 5 := fun z => by
            rw [Int32.sub_eq_add_neg]
          rw [e5, show (5 : Int32) = nI 5 from rfl, pk_sub (by omega)]
          congr 1
          omega
      unfold f_X7_markOf_B7 f_X7_markOf_J39 f_X7_markOf_J44
      rw [if_neg (nI_pos (by omega)), k3, Option.bind_some, nb_w, k4, bn2_w]
      rcases h3 with ⟨rfl, h3⟩ | ⟨b, h3, rfl, rfl⟩
      · rw [if_pos (by rw [h3]; decide)]
        refine ⟨_, rfl, hnx, ⟨u'', k5⟩, Or.inr ⟨19, ⟨by omega, by omega, fun k hk hk2 => ?_⟩, rfl, rfl⟩⟩
        have : k = 19 := by omega
        subst this
        exact ⟨Int32.le_refl _, fun q => absurd q (by omega)⟩
      · have hb := h3.2.1
        rw [if_neg (fun q => by
          obtain ⟨z, hz, e⟩ := hf0 b hb
          rw [e] at q
          exact nI_pos (by omega) q)]
        have h31 := h3.1
        by_cases c : f (19 - i) < f b
        · rw [if_pos c]
          refine ⟨_, rfl, hnx, ⟨u'', k5⟩, Or.inr ⟨19 - i, ⟨by omega, by omega, fun k hk hk2 => ?_⟩, rfl, rfl⟩⟩
          by_cases e : k = 19 - i
          · subst e
            exact ⟨Int32.le_refl _, fun q => absurd q (by omega)⟩
          · have l := Int32.lt_of_lt_of_le c (h3.2.2 k (by omega) hk2).1
            exact ⟨Int32.le_of_lt l, fun _ => l⟩
        · rw [if_neg c]
          refine ⟨_, rfl, hnx, ⟨u'', k5⟩, Or.inr ⟨b, ⟨by omega, by omega, fun k hk hk2 => ?_⟩, rfl, rfl⟩⟩
          by_cases e : k = 19 - i
          · subst e
            exact ⟨Int32.not_lt.mp c, fun q => absurd q (by omega)⟩
          · exact h3.2.2 k (by omega) hk2)
    (fun u hI => by
      obtain ⟨u1, u2, u3, u⟩ := u
      obtain ⟨h1, ⟨s1, h2⟩, h3⟩ := hI
      dsimp only at h1 h2 h3
      rw [if_pos rfl] at h1
      subst h1
      rcases h3 with ⟨h3, -⟩ | ⟨b, h3, rfl, rfl⟩
      · exact absurd h3 (by decide)
      · refine ⟨(nI (5 * b), u), ?_, s1, h2, b, h3, rfl⟩
        show f_X7_markOf_B7 (nI (5 * b)) (f b) (-5) u = _
        unfold f_X7_markOf_B7
        rw [if_pos (show (-5 : Int32) < 0 by decide)]) 20 0 (0, -1, 95, P) (by omega) ⟨rfl, ⟨s, hA0⟩, Or.inl ⟨rfl, rfl⟩⟩ 200 (by omega)
  obtain ⟨r1, r2⟩ := r
  obtain ⟨r1', r2'⟩ := r'
  dsimp only at g2 g4 g6 g8
  have hb := isBest_u g3 g7
  subst hb
  refine ⟨r1, r2, r2', ?_, ?_, g2.1, g2.2.1, g6.2.2.1, g6.2.2.2⟩
  · unfold f_X6_bestMark f_X6_bestMark_H7
    rw [g1, bn2_w]
    rfl
  · unfold f_X7_markOf f_X7_markOf_H7
    rw [g5, bn2_w, g4, ← g8]
    rfl
theorem q_best (h : AR n d rid mk sp fi rt s P W) : QA s P W (f_X6_best s a1) (f_X7_best P a1) := by
  unfold f_X6_best f_X7_best
  by_cases c0 : a1 = 0
  · rw [if_pos c0, if_pos c0]
    obtain ⟨r, t, Q, g1, g2, g3⟩ := q_call h
    rw [g1, g2]
    exact ⟨r, t, Q, rfl, rfl, g3⟩
  rw [if_neg c0, if_neg c0]
  by_cases c1 : a1 = 1
  · rw [if_pos c1, if_pos c1]
    obtain ⟨r, t, Q, g1, g2, g3⟩ := q_ahead h
    rw [g1, g2]
    exact ⟨r, t, Q, rfl, rfl, g3⟩
  rw [if_neg c1, if_neg c1]
  by_cases c2 : a1 = 2
  · rw [if_pos c2, if_pos c2]
    obtain ⟨r, t, Q, g1, g2, g3⟩ := q_mark h
    rw [g1, g2]
    exact ⟨r, t, Q, rfl, rfl, g3⟩
  rw [if_neg c2, if_neg c2]
  by_cases c3 : a1 = 3
  · rw [if_pos c3, if_pos c3]
    obtain ⟨r, t, Q, g1, g2, g3⟩ := q_turned h
    rw [g1, g2]
    exact ⟨r, t, Q, rfl, rfl, g3⟩
  rw [if_neg c3, if_neg c3]
  exact ⟨_, s, P, rfl, rfl, h.as⟩
theorem TW_8 {j : Nat} {z : Int32} (hz : z ≠ 0) (hz2 : rg z 20) (h : TW n e W V) (hj : j < 6) : TW n e W (up2 V 8 j z) := by
  obtain ⟨h1, h2, h3, h4, h5, h6, h7⟩ := h
  obtain ⟨k1, k2, k3, k4⟩ := h1.2.2.2.2.2.1
  refine ⟨⟨h1.1, h1.2.1, h1.2.2.1, h1.2.2.2.1, h1.2.2.2.2.1, ⟨k1, fun i hi => ?_, k3, fun i hi => ?_⟩, h1.2.2.2.2.2.2⟩, NZ_up h2 (by omega), h3, h4, h5, h6, h7⟩
  · obtain ⟨q1, q2, q3, q4, q5, q6, q7⟩ := k2 i hi
    exact ⟨q1, q2, q3, rg_upd q4 hz2, q5, q6, q7⟩
  · refine ⟨(k4 i hi).1, ?_⟩
    rw [up2_g, if_pos rfl, upd_g]
    split
    · exact hz
    · exact (k4 i hi).2
theorem q_seldom (h : AR n d rid mk sp fi rt s P W) : QA s P W (f_X6_seldom s a1) (f_X7_seldom P a1) := by
  have hd := h.2.2.2.2.1
  have hn := h.hn
  have hR := AR_RU h
  unfold f_X6_seldom f_X7_seldom
  rw [e_known, m_isB, Option.bind_some, Option.bind_some, h.e2, h.m1]
  by_cases c : win a1 0 (nI n - 1) = 0
  · rw [if_pos c, if_pos c]
    exact ⟨_, s, P, rfl, rfl, h.as⟩
  rw [if_neg c, if_neg c]
  obtain ⟨j, hj, rfl⟩ := known_r hn c
  have hj6 : j < 6 := by omega
  have hix : ix (nI j) = j := ix_nI (by omega)
  have hin : inb (nI j) 6 = true := inb_nI hj6 (by decide)
  obtain ⟨r, r', g5, g6, g7, g8⟩ := iter_2 (b1 := fun t : Int32 × Int32 × Int32 × Mm => f_X6_seldom_B18 (nI j) t.1 t.2.1 t.2.2.1 t.2.2.2) (b2 := fun t : Int32 × Int32 × Int32 × Pm => f_X7_seldom_B17 (nI j) t.1 t.2.1 t.2.2.1 t.2.2.2)
    (fun i u v => u.2.2.1 = nI (i + 1) ∧ v.2.2.1 = nI (i + 1) ∧ ((i = 0 ∧ u.1 = -5 ∧ v.2.1 = -1) ∨ (0 < i ∧ u.1 = v.1 ∧ u.2.1 = v.2.1 ∧ u.1 ≠ -5 ∧ rg u.2.1 200000)) ∧ AS s P W u.2.2.2 v.2.2.2) (fun u v => u.1 = v.1 ∧ AS s P W u.2 v.2) 20
    (fun i u v hi hI => by
      obtain ⟨u1, u2, u3, u⟩ := u
      obtain ⟨v1, v2, v3, v⟩ := v
      obtain ⟨h1, h2, h3, h5⟩ := hI
      dsimp only at h1 h2 h3 h5
      subst h1 h2
      show (i < 20 ∧ ∃ s' t', f_X6_seldom_B18 (nI j) u1 u2 (nI (i + 1)) u = _ ∧ f_X7_seldom_B17 (nI j) v1 v2 (nI (i + 1)) v = _ ∧ _) ∨ ∃ r r', f_X6_seldom_B18 (nI j) u1 u2 (nI (i + 1)) u = _ ∧ f_X7_seldom_B17 (nI j) v1 v2 (nI (i + 1)) v = _ ∧ _
      have h' := h.go h5
      unfold f_X6_seldom_B18 f_X7_seldom_B17
      by_cases hik : i = 20
      · subst hik
        right
        rw [if_pos (show (20 : Int32) < nI (20 + 1) by decide), if_pos (show (21 : Int32) ≤ nI (20 + 1) by decide)]
        rcases h3 with ⟨h3, -⟩ | ⟨-, h3, -⟩
        · exact absurd h3 (by decide)
        · exact ⟨_, _, rfl, rfl, h3, h5⟩
      · left
        rw [if_neg (show ¬ (20 : Int32) < nI (i + 1) from nI_nlt (b := i + 1) (a := 20) (by omega) (by omega)), if_neg (show ¬ (21 : Int32) ≤ nI (i + 1) from nI_ge (b := 21) (by omega) (by omega)), hix]
        refine ⟨by omega, ?_⟩
        obtain ⟨u', Q, k1, k2, hT, hW⟩ := tt_start h'
        have hz : nI (i + 1) ≠ 0 := nI_ne0 (by omega) (by omega)
        have hW8 : TW n d W (up2 (up2 W 0 3 0) 8 j (nI (i + 1))) := TW_8 hz ⟨i + 1, by omega, rfl⟩ hW hj6
        have hT2 := TT_put (U := up2 (up2 W 0 3 0) 8 j (nI (i + 1))) hT
        obtain ⟨u'', P'', k3, k4, k5⟩ := tt_turned h' hT2 (if_pos (by decide)) hR.1 hW8 (by omega)
        have k6 := h5.tr k5
        have eQ : up2 Q 7 j (nI (i + 1)) = put Q (up2 (up2 W 0 3 0) 8 j (nI (i + 1))) := by
          rw [← wp_7, ← hT.2.2.1.1]
        have hru : f_X6_rules (setO u' 2 (up2 (up2 W 0 3 0) 8 j (nI (i + 1)))) = some rid := (rules_SB hT2.1).trans h'.2.2.2.2.2.2.1
        rw [k1, k2, Option.bind_some, Option.bind_some, hT.2.1, if_pos hin, if_pos hin, nb_w, nb_w, hru, Option.bind_some, if_pos h.2.2.2.2.2.2.2.1, h'.km hT2.1, k3, eQ, k4, bn2_w, bn2_w]
        have hrg := tn_r hR hR.1 hW8 (by omega)
        have hz5 : nI (i + 1) ≠ -5 := fun q => by
          have := nI_pos (n := i + 1) (by omega)
          rw [q] at this
          exact this (by decide)
        generalize tnW rt mk fi sp (up2 (up2 W 0 3 0) 8 j (nI (i + 1))) = z at hrg
        unfold f_X6_seldom_J65 f_X6_seldom_J71 f_X7_seldom_J55 f_X7_seldom_J61
        rcases h3 with ⟨-, h3, h4⟩ | ⟨h30, rfl, rfl, h31, h32⟩
        · rw [if_pos h3, if_pos (by rw [h4]; decide)]
          exact ⟨_, _, rfl, rfl, nI_1 _, nI_1 _, Or.inr ⟨by omega, rfl, rfl, hz5, hrg⟩, k6⟩
        · have hu0 : ¬ u2 < 0 := Int32.not_lt.mpr (rg_0 h32 (by decide))
          rw [if_neg h31, if_neg hu0]
          by_cases cl : u2 ≤ z
          · rw [if_pos cl, if_neg (Int32.not_lt.mpr cl)]
            exact ⟨_, _, rfl, rfl, nI_1 _, nI_1 _, Or.inr ⟨by omega, rfl, rfl, h31, h32⟩, k6⟩
          · rw [if_neg cl, if_pos (Int32.not_le.mp cl)]
            exact ⟨_, _, rfl, rfl, nI_1 _, nI_1 _, Or.inr ⟨by omega, rfl, rfl, hz5, hrg⟩, k6⟩) 20 0 (-5, 0, 1, s) (0, -1, 1, P) (by omega) ⟨rfl, rfl, Or.inl ⟨rfl, rfl, rfl⟩, h.as⟩ 200 (by omega)
  obtain ⟨r1, r2⟩ := r
  obtain ⟨r1', r2'⟩ := r'
  dsimp only at g7 g8
  subst g7
  refine ⟨r1, r2, r2', ?_, ?_, g8⟩
  · unfold f_X6_seldom_H18
    rw [g5, bn2_w]
    rfl
  · unfold f_X7_seldom_H17
    rw [g6, bn2_w]
    rfl
theorem TW_rise {z : Int32} (hz : rg z 999) (h : TW n e W V) : TW n e W (riseW V z) := by
  obtain ⟨h1, h2, h3, h4, h5, h6, h7⟩ := h
  exact ⟨⟨h1.1, h1.2.1, h1.2.2.1, h1.2.2.2.1, h1.2.2.2.2.1, RI_rise h1.2.2.2.2.2.1 hz (by decide), h1.2.2.2.2.2.2⟩, NZ_rise h2, h3, h4, h5, h6, h7⟩
theorem m_rise {z : Int32} (hz : rg z 999) (hQ : WV Q V) (hD : DI n e V) : f_X7_held Q (Q 0 0 + z) 9999 = some (imin 9999 (V 0 0 + z)) ∧ up2 Q 0 0 (imin 9999 (V 0 0 + z)) = put Q (riseW V z) := by
  constructor
  · rw [m_held, hQ.r00, held_min (rg_0 (rg_add hD.2.2.2.2.2.1.1 hz) (by decide))]
  · have e0 : up2 Q 0 0 (imin 9999 (V 0 0 + z)) = up2 (put Q V) 0 0 (imin 9999 (V 0 0 + z)) := by rw [← hQ]
    rw [e0, wp_00]
    rfl
theorem q_more (h : AR n d rid mk sp fi rt s P W) : QA s P W (f_X6_more s a1) (f_X7_more P a1) := by
  have hd := h.2.2.2.2.1
  have hR := AR_RU h
  unfold f_X6_more f_X7_more
  rw [e_win, m_win, Option.bind_some, Option.bind_some]
  by_cases c : win a1 1 12 = 0
  · rw [if_pos c, if_pos c]
    exact ⟨_, s, P, rfl, rfl, h.as⟩
  rw [if_neg c, if_neg c]
  obtain ⟨k, -, hk, rfl⟩ := win_r (b := 1) (c := 12) (by omega) (by omega) c
  generalize hf : (fun i : Nat => itW (dayW rt mk (-1) fi sp) k (riseW (up2 W 0 3 0) (nI (10 * i))) 0 3) = f
  have hfi : ∀ i, itW (dayW rt mk (-1) fi sp) k (riseW (up2 W 0 3 0) (nI (10 * i))) 0 3 = f i := fun i => by rw [← hf]
  have one : ∀ i, i < 100 → ∀ u v, AS s P W u v → ∃ u' u'', f_X6_startTrial u = some u' ∧ u' 2 = up2 W 0 3 0 ∧ f_X6_nobodySentIn (setO u' 2 (riseW (up2 W 0 3 0) (nI (10 * i)))) (nI k) (-5) = some (if f i = 0 then 1 else 0, u'') ∧ ∃ v' v'' z v''', f_X7_save v = some v' ∧ f_X7_held v' (v' 0 0 + nI (10 * i)) 9999 = some z ∧ f_X7_goDays (up2 v' 0 0 z) (nI k) = some v'' ∧ v'' 0 34 = f i ∧ f_X7_putBack v'' = some v''' ∧ AS s P W u'' v''' := by
    intro i hi u v hA
    have h' := h.go hA
    obtain ⟨u', Q, k1, k2, hT, hW⟩ := tt_start h'
    have hz : rg (nI (10 * i)) 999 := ⟨10 * i, by omega, rfl⟩
    have hT2 := TT_put (U := riseW (up2 W 0 3 0) (nI (10 * i))) hT
    have hW2 := TW_rise hz hW
    obtain ⟨u'', k3, k4, k5⟩ := c_nobody (ab := -5) (y := -1) h' (k := k) (by omega) hT2.1 hT2.2.1 hW2 (by omega) ab_1
    obtain ⟨m1, m2⟩ := m_rise hz hT.2.2.1.1 hW.1
    obtain ⟨v'', k6, k7, k8, k9⟩ := r_goDays h' (k := k) (by omega) hT2.2.2.1 hT2.2.2.2.1 hT2.2.2.2.2 (if_pos (by decide)) hR.1 hW2 (by omega)
    obtain ⟨v''', l1, l2, l3⟩ := r_end h' k7 (TW_it (ab := -1) hR hR.1 hW2 k (by omega))
    refine ⟨u', u'', k1, hT.2.1, ?_, Q, v'', _, v''', k2, m1, by rw [m2]; exact k6, by rw [k7.1.r034]; exact hfi i, l1, hA.tr ⟨k4, k5, l3, l2⟩⟩
    rw [k3, hfi]
  obtain ⟨r, g1, P1, g2, g3⟩ := iter_E (body := fun t : Int32 × Mm => f_X6_more_B15 (nI k) t.1 t.2)
    (fun i u => u.1 = nI (10 * i) ∧ (∃ P1, AS s P W u.2 P1) ∧ ∀ j, j < i → f j ≠ 0) (fun r => ∃ P1, AS s P W r.2 P1 ∧ ((∃ i, i < 100 ∧ r.1 = nI (10 * i) ∧ f i = 0 ∧ ∀ j, j < i → f j ≠ 0) ∨ (r.1 = -5 ∧ ∀ j, j < 100 → f j ≠ 0))) 100
    (fun i u hi hI => by
      obtain ⟨u1, u⟩ := u
      obtain ⟨h1, ⟨P1, h2⟩, h3⟩ := hI
      dsimp only at h1 h2 h3
      subst h1
      show (i < 100 ∧ ∃ s', f_X6_more_B15 (nI k) (nI (10 * i)) u = _ ∧ _) ∨ ∃ r, f_X6_more_B15 (nI k) (nI (10 * i)) u = _ ∧ _
      unfold f_X6_more_B15
      by_cases hik : i = 100
      · subst hik
        right
        rw [if_pos (show (990 : Int32) < nI (10 * 100) by decide)]
        exact ⟨(-5, u), rfl, P1, h2, Or.inr ⟨rfl, h3⟩⟩
      · obtain ⟨u', u'', k1, k2, k3, v', v'', z, v''', k4, k5, k6, k7, k8, k9⟩ := one i (by omega) u P1 h2
        rw [if_neg (show ¬ (990 : Int32) < nI (10 * i) from nI_nlt (b := 10 * i) (a := 990) (by omega) (by omega)), k1, Option.bind_some, k2, e_rise, Option.bind_some, nb_w, k3, bn2_w]
        by_cases c0 : f i = 0
        · right
          rw [if_pos c0, if_neg (by decide)]
          exact ⟨(nI (10 * i), u''), rfl, v''', k9, Or.inl ⟨i, by omega, rfl, c0, h3⟩⟩
        · left
          rw [if_neg c0, if_pos rfl]
          refine ⟨by omega, _, rfl, nI_mul10 i, ⟨v''', k9⟩, fun j hj => ?_⟩
          by_cases e : j = i
          · rw [e]; exact c0
          · exact h3 j (by omega)) 100 0 (0, s) (by omega) ⟨rfl, ⟨P, h.as⟩, fun j hj => absurd hj (by omega)⟩ 200 (by omega)
  obtain ⟨r', g4, s1, g5, g6⟩ := iter_E (body := fun t : Int32 × Int32 × Pm => f_X7_more_B19 (nI k) t.1 t.2.1 t.2.2)
    (fun i u => u.2.1 = nI (10 * i) ∧ (∃ s1, AS s P W s1 u.2.2) ∧ ((u.1 = -5 ∧ ∀ j, j < i → f j ≠ 0) ∨ ∃ i', i' < 100 ∧ u.1 = nI (10 * i') ∧ f i' = 0 ∧ ∀ j, j < i' → f j ≠ 0)) (fun r => ∃ s1, AS s P W s1 r.2 ∧ ((∃ i, i < 100 ∧ r.1 = nI (10 * i) ∧ f i = 0 ∧ ∀ j, j < i → f j ≠ 0) ∨ (r.1 = -5 ∧ ∀ j, j < 100 → f j ≠ 0))) 100
    (fun i u hi hI => by
      obtain ⟨u1, u2, u⟩ := u
      obtain ⟨h1, ⟨s1, h2⟩, h3⟩ := hI
      dsimp only at h1 h2 h3
      subst h1
      show (i < 100 ∧ ∃ s', f_X7_more_B19 (nI k) u1 (nI (10 * i)) u = _ ∧ _) ∨ ∃ r, f_X7_more_B19 (nI k) u1 (nI (10 * i)) u = _ ∧ _
      unfold f_X7_more_B19
      by_cases hik : i = 100
      · subst hik
        right
        rw [if_pos (show (991 : Int32) ≤ nI (10 * 100) by decide)]
        refine ⟨(u1, u), rfl, s1, h2, ?_⟩
        rcases h3 with h3 | h3
        · exact Or.inr h3
        · exact Or.inl h3
      · rw [if_neg (show ¬ (991 : Int32) ≤ nI (10 * i) from nI_ge (b := 991) (by omega) (by omega))]
        rcases h3 with ⟨rfl, h3⟩ | h3
        · left
          obtain ⟨u', u'', k1, k2, k3, v', v'', z, v''', k4, k5, k6, k7, k8, k9⟩ := one i (by omega) s1 u h2
          rw [if_neg (show ¬ (0 : Int32) ≤ -5 by decide), k4, Option.bind_some, k5, Option.bind_some, nb_w, k6, Option.bind_some, k7]
          unfold f_X7_more_J69
          by_cases c0 : f i = 0
          · rw [if_pos c0, k8, Option.bind_some]
            exact ⟨by omega, _, rfl, nI_mul10 i, ⟨u'', k9⟩, Or.inr ⟨i, by omega, rfl, c0, h3⟩⟩
          · rw [if_neg c0, k8, Option.bind_some]
            refine ⟨by omega, _, rfl, nI_mul10 i, ⟨u'', k9⟩, Or.inl ⟨rfl, fun j hj => ?_⟩⟩
            by_cases e : j = i
            · rw [e]; exact c0
            · exact h3 j (by omega)
        · right
          obtain ⟨i', h4, rfl, h5⟩ := h3
          rw [if_pos (nI_pos' (by omega))]
          exact ⟨_, rfl, s1, h2, Or.inl ⟨i', h4, rfl, h5⟩⟩) 100 0 (-5, 0, P) (by omega) ⟨rfl, ⟨s, h.as⟩, Or.inl ⟨rfl, fun j hj => absurd hj (by omega)⟩⟩ 200 (by omega)
  obtain ⟨r1, r2⟩ := r
  obtain ⟨r1', r2'⟩ := r'
  dsimp only at g2 g3 g5 g6
  have hr : r1 = r1' := by
    rcases g3 with ⟨i, i1, i2, i3, i4⟩ | ⟨i1, i2⟩
    · rcases g6 with ⟨j, j1, j2, j3, j4⟩ | ⟨j1, j2⟩
      · have : i = j := by
          apply Decidable.byContradiction
          intro q
          by_cases l : i < j
          · exact j4 i l i3
          · exact i4 j (by omega) j3
        rw [i2, j2, this]
      · exact absurd i3 (j2 i i1)
    · rcases g6 with ⟨j, j1, j2, j3, j4⟩ | ⟨j1, j2⟩
      · exact absurd j3 (i2 j j1)
      · rw [i1, j1]
  subst hr
  refine ⟨r1, r2, r2', ?_, ?_, g2.1, g2.2.1, g5.2.2.1, g5.2.2.2⟩
  · unfold f_X6_more_H15
    exact g1
  · unfold f_X7_more_H19
    rw [g4, bn2_w]
    rfl
theorem q_odds (h : AR n d rid mk sp fi rt s P W) : QA s P W (f_X6_odds s a1 a2) (f_X7_odds P a1 a2) := by
  have hd := h.2.2.2.2.1
  have hn := h.hn
  have hR := AR_RU h
  have no : QA s P W (f_X6_odds_J26 s) (f_X7_odds_J25 P) := ⟨_, s, P, rfl, rfl, h.as⟩
  unfold f_X6_odds f_X7_odds
  rw [e_asked, m_isDays, e_win, m_win, h.e2, h.m1]
  simp only [Option.bind_some]
  by_cases c : win a1 0 60 = 0
  · rw [if_pos c, if_pos c]
    split
    · exact no
    · exact no
  rw [if_neg c, if_neg c]
  by_cases c0 : win a2 0 1 = 0
  · rw [if_pos c0, if_pos c0]
    split
    · exact no
    · exact no
  rw [if_neg c0, if_neg c0]
  by_cases cn : nI n = 0
  · rw [if_pos cn, if_pos cn]
    exact no
  rw [if_neg cn, if_neg cn]
  have hn0 : 0 < n := Nat.pos_of_ne_zero (fun q => cn (by rw [q]; rfl))
  obtain ⟨k, -, hk, rfl⟩ := win_r (b := 0) (c := 60) (by omega) (by omega) c
  obtain ⟨r, r', g5, g6, g7, ⟨q, hq, hq2⟩, g8⟩ := iter_2 (b1 := fun t : Int32 × Int32 × Mm => f_X6_odds_B35 (nI k) a2 t.1 t.2.1 t.2.2) (b2 := fun t : Int32 × Int32 × Pm => f_X7_odds_B34 (nI k) a2 t.1 t.2.1 t.2.2)
    (fun i u v => u.2.1 = nI i ∧ v.2.1 = nI i ∧ u.1 = v.1 ∧ rg u.1 i ∧ AS s P W u.2.2 v.2.2) (fun u v => u.1 = v.1 ∧ rg u.1 n ∧ AS s P W u.2 v.2) n
    (fun i u v hi hI => by
      obtain ⟨u1, u2, u⟩ := u
      obtain ⟨v1, v2, v⟩ := v
      obtain ⟨h1, h2, h3, h4, h5⟩ := hI
      dsimp only at h1 h2 h3 h4 h5
      subst h1 h2 h3
      show (i < n ∧ ∃ s' t', f_X6_odds_B35 (nI k) a2 u1 (nI i) u = _ ∧ f_X7_odds_B34 (nI k) a2 u1 (nI i) v = _ ∧ _) ∨ ∃ r r', f_X6_odds_B35 (nI k) a2 u1 (nI i) u = _ ∧ f_X7_odds_B34 (nI k) a2 u1 (nI i) v = _ ∧ _
      have h' := h.go h5
      unfold f_X6_odds_B35 f_X7_odds_B34
      rw [h'.e2, h'.m1]
      by_cases hik : i = n
      · subst hik
        right
        rw [if_pos (Int32.le_refl _), if_pos (Int32.le_refl _)]
        exact ⟨_, _, rfl, rfl, rfl, h4, h5⟩
      · left
        rw [if_neg (nI_ge (by omega) (by omega)), if_neg (nI_ge (by omega) (by omega))]
        refine ⟨by omega, ?_⟩
        obtain ⟨u', Q, k1, k2, hT, hW⟩ := tt_start h'
        obtain ⟨u'', k3, k4, k5⟩ := c_nobody (ab := nI i) (y := nI i) h' (k := k) (by omega) hT.1 hT.2.1 hW (by omega) (fun _ _ => Iff.rfl)
        obtain ⟨v'', k6, k7, k8, k9⟩ := r_goDays (x := -1) (y := nI i) h' (k := k) (by omega) (TR_31 (z := nI i) hT.2.2.1) hT.2.2.2.1 rfl (if_pos (by decide)) hR.1 hW (by omega)
        obtain ⟨v''', l1, l2, l3⟩ := r_end h' k7 (TW_it (ab := nI i) hR hR.1 hW k (by omega))
        have hA : AS s P W u'' v''' := h5.tr ⟨k4, k5, l3, l2⟩
        rw [k1, k2, Option.bind_some, Option.bind_some, k3, nb_w, bn2_w, k6, Option.bind_some, k7.1.r034]
        unfold f_X6_odds_J64 f_X7_odds_J71
        rw [l1]
        by_cases cz : itW (dayW rt mk (nI i) fi sp) k (up2 W 0 3 0) 0 3 = 0
        · rw [if_pos cz, if_pos cz, if_neg (show ¬ (1 : Int32) = 0 by decide), Option.bind_some]
          exact ⟨_, _, rfl, rfl, nI_1 _, nI_1 _, rfl, rg_add h4 ⟨1, by omega, rfl⟩, hA⟩
        · rw [if_neg cz, if_neg cz, if_pos rfl, Option.bind_some]
          exact ⟨_, _, rfl, rfl, nI_1 _, nI_1 _, (Int32.add_zero u1).symm, rg_mono h4 (by omega), hA⟩) n 0 (0, 0, s) (0, 0, P) (by omega) ⟨rfl, rfl, rfl, ⟨0, by omega, rfl⟩, h.as⟩ 200 (by omega)
  obtain ⟨r1, r2⟩ := r
  obtain ⟨r1', r2'⟩ := r'
  dsimp only at g7 g8 hq2
  subst g7
  subst hq2
  obtain ⟨z, f1, f2⟩ := q_frac (a := q) (b := n) (part := a2) (M := r2') (by omega) hn hn0
  refine ⟨z, r2, r2', ?_, ?_, g8⟩
  · unfold f_X6_odds_H35
    rw [g5, bn2_w]
    unfold f_X6_odds_J70
    rw [(h.go g8).e2, f1, Option.bind_some]
  · unfold f_X7_odds_H34
    rw [g6, bn2_w]
    unfold f_X7_odds_J83
    rw [(h.go g8).m1, f2, Option.bind_some]
end Ask
