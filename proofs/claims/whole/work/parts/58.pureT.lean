/-! the pure side T: of -/
section Of
variable {s : Mm} {P W : Pm} {n d rid : Nat} {mk sp fi a1 a2 : Int32} {rt : Pm → Nat → Int32}
theorem q_rate {j : Nat} (h : AR n d rid mk sp fi rt s P W) (hj : j < 6) : ∃ p13 P', f_X1_rate (s rid) (s 1) (nI j) = some (rt W j, p13) ∧ (∃ x, f_X7_rate P (nI j) = some (x, P') ∧ x = rt (up2 W 0 3 (P 0 34)) j) ∧ AS s P W (setO s rid p13) P' := by
  have hk := h.2.2.2.2.2.2.2.1
  have hr2 : rid ≠ 2 := fun e => by subst e; cases hk
  obtain ⟨p13, e1, e2⟩ := h.2.2.2.2.2.2.2.2.1.1 (s rid) W j CEq.rf hj
  obtain ⟨-, -, -, c5⟩ := AR_C h (P 33) (up2 W 0 3 (P 0 34))
  obtain ⟨f', c6⟩ := c5 j hj
  rw [AR_P h] at c6
  obtain ⟨r0, r1, r2, r3⟩ := h.2.2.2.2.2.1
  refine ⟨p13, _, by rw [h.2.2.1]; exact e1, ⟨_, c6, rfl⟩, ⟨fun o h0 h1 => ?_, fun o h1 => ?_⟩, ?_, ⟨fun c hc => ?_, fun i hi => ?_⟩, ?_, r1, r2, r3⟩
  · exact setO_n (fun e => h1 (by rw [e]; exact hk))
  · by_cases e : o = rid
    · subst e
      rw [setO_s]
      exact e2
    · rw [setO_n e]
      exact CEq.rf
  · rw [setO_n (fun e => hr2 e.symm)]
    exact h.2.1
  · have e0 : put (setO P 33 f') (up2 W 0 3 (P 0 34)) c = put (setO P 33 (P 33)) (up2 W 0 3 (P 0 34)) c := by
      rw [← put_pile, ← put_pile, setO_n (by omega), setO_n (by omega)]
    rw [e0, AR_P h]
  · have e0 : put (setO P 33 f') (up2 W 0 3 (P 0 34)) 0 i = put (setO P 33 (P 33)) (up2 W 0 3 (P 0 34)) 0 i := by
      rw [← put_pile, ← put_pile, setO_n (by decide), setO_n (by decide)]
    rw [e0, AR_P h]
  · exact WV.put
end Of
