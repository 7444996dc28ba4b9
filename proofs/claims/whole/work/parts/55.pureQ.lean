/-! the pure side Q: the words of the clauses -/
section Wo
variable {s : Mm} {R P C : Pm} {rid L tb v1 : Nat} {z l p q h : Int32} {g4 g5 g6 : Nat → Int32}
/-- the reference's memory is a reading one -/
theorem dS_i : dS P (P 0 16) (P 0 17) (P 0 26) (P 0 27) (P 0 28) (P 24) (P 25) (P 26) = P := by
  funext c
  unfold dS
  by_cases h0 : c = 0
  · subst h0
    rw [if_pos rfl]
    funext i
    by_cases h1 : i = 16
    · rw [if_pos h1, h1]
    · rw [if_neg h1]
      by_cases h2 : i = 17
      · rw [if_pos h2, h2]
      · rw [if_neg h2]
        by_cases h3 : i = 26
        · rw [if_pos h3, h3]
        · rw [if_neg h3]
          by_cases h4 : i = 27
          · rw [if_pos h4, h4]
          · rw [if_neg h4]
            by_cases h5 : i = 28
            · rw [if_pos h5, h5]
            · rw [if_neg h5]
  · rw [if_neg h0]
    by_cases h1 : c = 24
    · rw [if_pos h1, h1]
    · rw [if_neg h1]
      by_cases h2 : c = 25
      · rw [if_pos h2, h2]
      · rw [if_neg h2]
        by_cases h3 : c = 26
        · rw [if_pos h3, h3]
        · rw [if_neg h3]
/-- how far a word goes on in the text from k: its first sign that is not there, or its end -/
def woE (T : Nat → Int32) (L : Nat) (w : Nat → Int32) (k : Nat) : Nat → Nat
  | 0 => 0
  | n + 1 => if woE T L w k n = n ∧ sg T L (k + n) = w n then n + 1 else woE T L w k n
theorem woE_le {T : Nat → Int32} {w : Nat → Int32} {k : Nat} : ∀ n, woE T L w k n ≤ n
  | 0 => Nat.le_refl _
  | n + 1 => by
    unfold woE
    split
    · exact Nat.le_refl _
    · exact Nat.le_trans (woE_le n) (by omega)
/-- the class: a word is expected -/
theorem e_word {k w n : Nat} (hH : RDH R P rid L tb v1) (hw : sLn.getD w 0 = n) (hn : n ≤ 10) (hk : k ≤ L) (hne : ∀ i, i < n → sChr w i ≠ -1) : f_X3_expectWord (cS s R rid (nI k) 0 C) w = some (cS s R rid (nI (k + woE (R 4) L (sChr w) k n)) (if woE (R 4) L (sChr w) k n = n then 0 else 1) C) ∧ k + woE (R 4) L (sChr w) k n ≤ L := by
  obtain ⟨hr, hlt, hkd, hL, hR, hR4, hP, hT, htb, hv1⟩ := hH
  obtain ⟨r, h1, h2, h3⟩ := iter_I (body := fun t : Int32 × Mm => f_X3_expectWord_B2 w t.1 t.2) (fun i t => t.1 = nI i ∧ t.2 = cS s R rid (nI (k + woE (R 4) L (sChr w) k i)) (if woE (R 4) L (sChr w) k i = i then 0 else 1) C ∧ k + woE (R 4) L (sChr w) k i ≤ L) (fun st => st = cS s R rid (nI (k + woE (R 4) L (sChr w) k n)) (if woE (R 4) L (sChr w) k n = n then 0 else 1) C ∧ k + woE (R 4) L (sChr w) k n ≤ L) n
    (fun i t hi hI => by
      obtain ⟨v, st⟩ := t
      obtain ⟨q1, q2, q3⟩ := hI
      dsimp only at q1 q2
      subst q1 q2
      have hle := woE_le (T := R 4) (L := L) (w := sChr w) (k := k) i
      have es : woE (R 4) L (sChr w) k (i + 1) = if woE (R 4) L (sChr w) k i = i ∧ sg (R 4) L (k + i) = sChr w i then i + 1 else woE (R 4) L (sChr w) k i := rfl
      show ∃ s', f_X3_expectWord_B2 w (nI i) _ = _ ∧ _
      unfold f_X3_expectWord_B2 sLen
      rw [hw, if_neg (nI_ge hi (by omega)), if_pos (inb_nI hi (by omega)), ix_nI (by omega), e_expect hr hL hR (by omega), Option.bind_some]
      refine ⟨_, rfl, nI_1 _, ?_⟩
      by_cases c : woE (R 4) L (sChr w) k i = i
      · rw [c] at es ⊢
        rw [if_pos rfl]
        by_cases d : sg (R 4) L (k + i) = sChr w i
        · have hlt2 : k + i < L := sg_lt2 (T := R 4) (by rw [d]; exact hne i hi)
          rw [if_pos ⟨rfl, d⟩] at es
          rw [es, if_pos ⟨rfl, d⟩, if_pos rfl]
          exact ⟨rfl, hlt2⟩
        · rw [if_neg (fun w => d w.2)] at es
          rw [es, if_neg (fun w => d w.2), if_neg (by omega)]
          rw [c] at q3
          exact ⟨rfl, q3⟩
      · rw [if_neg (fun w => c w.1)] at es
        rw [es, if_neg c, if_neg (fun w => absurd w.1 (by decide)), if_neg (by omega)]
        exact ⟨rfl, q3⟩)
    (fun t hI => by
      obtain ⟨v, st⟩ := t
      obtain ⟨q1, q2, q3⟩ := hI
      dsimp only at q1 q2
      subst q1 q2
      refine ⟨_, ?_, rfl, q3⟩
      show f_X3_expectWord_B2 w (nI n) _ = _
      unfold f_X3_expectWord_B2 sLen
      rw [hw, if_pos (Int32.le_refl _)]) n 0 (0, cS s R rid (nI k) 0 C) (by omega) ⟨rfl, rfl, hk⟩ 200 (by omega)
  subst h2
  refine ⟨?_, h3⟩
  unfold f_X3_expectWord f_X3_expectWord_H2
  rw [h1]
  rfl
end Wo
