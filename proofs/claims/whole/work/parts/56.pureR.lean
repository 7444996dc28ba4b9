/-! the pure side R: the words of the clauses, in the reference -/
section Wo
variable {R P : Pm} {rid L tb v1 : Nat} {z l q h : Int32} {g4 g5 g6 : Nat → Int32}
theorem woE_stop {T w : Nat → Int32} {k i : Nat} (h1 : woE T L w k i = i) (h2 : sg T L (k + i) ≠ w i) : ∀ d, woE T L w k (i + 1 + d) = i
  | 0 => by
    show (if woE T L w k i = i ∧ sg T L (k + i) = w i then i + 1 else woE T L w k i) = i
    rw [if_neg (fun w => h2 w.2), h1]
  | d + 1 => by
    have := woE_stop h1 h2 d
    show (if woE T L w k (i + 1 + d) = i + 1 + d ∧ _ then _ else woE T L w k (i + 1 + d)) = i
    rw [if_neg (fun w => by have := w.1; omega), this]
theorem m_word {k a w n : Nat} (hH : RDH R P rid L tb v1) (hn : n ≤ 10) (ha : a + n ≤ 23) (hk : k ≤ L) (hP30 : ∀ i, i < n → P 30 (a + i) = sChr w i) (h32 : sChr w n = 32) (hne : ∀ i, i < n → sChr w i ≠ -1) : f_X7_takesWord (dS P (nI k) z q h l g4 g5 g6) (nI a) (nI n) = some (if woE (R 4) L (sChr w) k (n + 1) = n + 1 then 1 else 0, dS P (nI (k + woE (R 4) L (sChr w) k (n + 1))) z q h l g4 g5 g6) := by
  obtain ⟨hr, hlt, hkd, hL, hR, hR4, hP, hT, htb, hv1⟩ := hH
  obtain ⟨r, h1, h2⟩ := iter_E (body := fun t : Int32 × Pm => f_X7_takesWord_B2 (nI a) (nI n) t.1 t.2) (fun i t => t.1 = nI i ∧ t.2 = dS P (nI (k + i)) z q h l g4 g5 g6 ∧ k + i ≤ L ∧ woE (R 4) L (sChr w) k i = i) (fun r => r = (if woE (R 4) L (sChr w) k (n + 1) = n + 1 then 1 else 0, dS P (nI (k + woE (R 4) L (sChr w) k (n + 1))) z q h l g4 g5 g6)) n
    (fun i t hi hI => by
      obtain ⟨v, st⟩ := t
      obtain ⟨q1, q2, q3, q4⟩ := hI
      dsimp only at q1 q2
      subst q1 q2
      show (i < n ∧ ∃ s', f_X7_takesWord_B2 (nI a) (nI n) (nI i) (dS P (nI (k + i)) z q h l g4 g5 g6) = _ ∧ _) ∨ ∃ r, f_X7_takesWord_B2 (nI a) (nI n) (nI i) (dS P (nI (k + i)) z q h l g4 g5 g6) = _ ∧ _
      unfold f_X7_takesWord_B2
      by_cases c : i = n
      · subst c
        right
        rw [if_pos (Int32.le_refl _)]
        unfold f_X7_takesWord_J30
        rw [m_takes hL hP (by omega), ← hT]
        by_cases d : sg (R 4) L (k + i) = 32
        · have e : woE (R 4) L (sChr w) k (i + 1) = i + 1 := by
            show (if woE (R 4) L (sChr w) k i = i ∧ sg (R 4) L (k + i) = sChr w i then i + 1 else _) = _
            rw [if_pos ⟨q4, d.trans h32.symm⟩]
          rw [if_pos d, bn2_w, if_pos (Or.inr rfl), e, if_pos rfl]
          exact ⟨_, rfl, rfl⟩
        · have e : woE (R 4) L (sChr w) k (i + 1) = i := woE_stop q4 (fun w => d (w.trans h32)) 0
          rw [if_neg d, bn2_w, if_pos (Or.inl rfl), e, if_neg (by omega)]
          exact ⟨_, rfl, rfl⟩
      · rw [if_neg (nI_ge (by omega) (by omega)), nI_add, if_pos (inb_nI (by omega) (by decide)), ix_nI (by omega), dS_n (by decide) (by decide) (by decide) (by decide), hP30 i (by omega), m_takes hL hP (by omega), ← hT]
        by_cases d : sg (R 4) L (k + i) = sChr w i
        · left
          have hlt2 : k + i < L := sg_lt2 (T := R 4) (by rw [d]; exact hne i (by omega))
          rw [if_pos d, bn2_w, if_neg (by decide)]
          refine ⟨by omega, _, rfl, nI_1 _, rfl, by omega, ?_⟩
          show (if woE (R 4) L (sChr w) k i = i ∧ sg (R 4) L (k + i) = sChr w i then i + 1 else _) = _
          rw [if_pos ⟨q4, d⟩]
        · right
          have e : woE (R 4) L (sChr w) k (n + 1) = i := by
            have := woE_stop (L := L) q4 d (n - i)
            rw [show i + 1 + (n - i) = n + 1 by omega] at this
            exact this
          rw [if_neg d, bn2_w, if_pos rfl, e, if_neg (by omega)]
          exact ⟨_, rfl, rfl⟩) n 0 (0, dS P (nI k) z q h l g4 g5 g6) (by omega) ⟨rfl, rfl, hk, rfl⟩ 200 (by omega)
  subst h2
  unfold f_X7_takesWord f_X7_takesWord_H2
  exact h1
end Wo
