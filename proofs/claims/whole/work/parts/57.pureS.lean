/-! the pure side S: told -/
section Tl
variable {s : Mm} {P W : Pm} {n d rid : Nat} {mk sp fi a1 : Int32} {rt : Pm → Nat → Int32}
theorem AR_P (h : AR n d rid mk sp fi rt s P W) : put (setO P 33 (P 33)) (up2 W 0 3 (P 0 34)) = P := by
  rw [setO_i]
  exact h.2.2.2.2.2.1.1.symm
theorem AR_C (h : AR n d rid mk sp fi rt s P W) : CtyM P mk sp fi rt := h.2.2.2.2.2.2.2.2.2 P (fun _ _ => rfl) (fun _ _ => rfl)
theorem q_told (h : AR n d rid mk sp fi rt s P W) : ∃ r, f_X6_told s a1 = some r ∧ f_X7_told P a1 = some r := by
  have hn := h.hn
  have hW := h.2.2.2.2.2.1.1
  have hru := h.2.2.2.2.2.2.1
  have hk := h.2.2.2.2.2.2.2.1
  have hCt := h.2.2.2.2.2.2.2.2.1
  obtain ⟨c2, c3, c4, -⟩ := AR_C h (P 33) (up2 W 0 3 (P 0 34))
  rw [AR_P h] at c2 c3 c4
  have hm : f_X7_mark P = some mk := by
    unfold f_X7_mark
    rw [h.2.2.2.2.2.1.2.1, if_pos (by decide), c2]
    rfl
  obtain ⟨q, -, o1, o2⟩ := e_owes h.2.2.2.1
  have o3 : f_X7_allOwes P = some (nI q) := by
    unfold f_X7_allOwes f_X7_allOwes_H4
    have eb : (fun t : Int32 × Int32 => f_X7_allOwes_B4 P t.1 t.2) = fun t : Int32 × Int32 => f_X5_owesOfAll_B4 W t.1 t.2 := by
      funext t
      unfold f_X7_allOwes_B4 f_X5_owesOfAll_B4
      rw [hW.r01, hW.r10]
      rfl
    rw [eb]
    exact o1
  have e10 : f_X6_known s (a1 - 10) = some (win a1 10 (9 + nI n)) := by rw [e_known, h.e2]; exact congrArg some (known_s (c := 10) hn (by omega) (by omega))
  unfold f_X6_told f_X7_told
  rw [e10, m_win, h.m1, Option.bind_some, Option.bind_some, hru, Option.bind_some, Option.bind_some, Option.bind_some, if_pos hk, if_pos hk, if_pos hk, h.2.2.1, o1, o3, hm, c3, c4, hCt.2.1, hCt.2.2.1, hCt.2.2.2.1, hW.r02, hW.r00, hW.r13]
  simp only [Option.bind_some]
  by_cases w : win a1 10 (9 + nI n) = 0
  · rw [if_pos w, if_pos w]
    by_cases l : a1 < 10
    · rw [if_pos l]
      by_cases k0 : a1 = 0
      · rw [if_pos k0, if_pos k0]
        exact ⟨_, rfl, rfl⟩
      by_cases k1 : a1 = 1
      · rw [if_neg k0, if_neg k0, if_pos k1, if_pos k1]
        exact ⟨_, rfl, rfl⟩
      rw [if_neg k0, if_neg k0, if_neg k1, if_neg k1]
      by_cases k2 : a1 = 2
      · rw [if_pos k2]
        exact ⟨_, rfl, rfl⟩
      by_cases k3 : a1 = 3
      · rw [if_neg k2, if_pos k3]
        exact ⟨_, rfl, rfl⟩
      rw [if_neg k2, if_neg k3]
      by_cases k4 : a1 = 4
      · rw [if_pos k4]
        exact ⟨_, rfl, rfl⟩
      rw [if_neg k4]
      by_cases k5 : a1 = 5
      · rw [if_pos k5]
        exact ⟨_, rfl, rfl⟩
      rw [if_neg k5]
      exact ⟨_, rfl, rfl⟩
    · have ne : ∀ x : Int32, x < 10 → a1 ≠ x := fun x hx e => l (by rw [e]; exact hx)
      rw [if_neg l, if_neg (ne 0 (by decide)), if_neg (ne 1 (by decide)), if_neg (ne 2 (by decide)), if_neg (ne 3 (by decide)), if_neg (ne 4 (by decide)), if_neg (ne 5 (by decide))]
      exact ⟨_, rfl, rfl⟩
  · rw [if_neg w, if_neg w]
    have e9 : (9 : Int32) + nI n = nI (9 + n) := nI_add 9 n
    rw [e9] at w
    by_cases hn0 : n = 0
    · subst hn0
      exfalso
      obtain ⟨j, hj, -⟩ := known_r (a := a1 - nI 10) (n := 0) (by omega) (by
        rw [known_s (c := 10) (by omega) (by omega) (by omega)]
        exact w)
      omega
    obtain ⟨j, h1, h2, rfl⟩ := win_r (b := 10) (by omega) (by omega) w
    have es : nI j - 10 = nI (j - 10) := pk_sub h1
    rw [if_neg (show ¬ nI j < (10 : Int32) from nI_nlt (b := 10) h1 (by omega)), es, if_pos (inb_nI (show j - 10 < 6 by omega) (by decide)), if_pos (inb_nI (show j - 10 < 6 by omega) (by decide))]
    exact ⟨_, rfl, rfl⟩
end Tl
