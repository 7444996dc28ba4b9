/-! the pure side 65: borrower, of, pass -/
def joinW (W : Pm) (n : Nat) (k v w e : Int32) : Pm := up2 (up2 (up2 (up2 (up2 (up2 (up2 (up2 (up2 (up2 (up2 (up2 (up2 (up2 W 5 n k) 6 n v) 7 n w) 8 n e) 9 n 0) 10 n 0) 11 n 0) 12 n 0) 13 n (nI n)) 14 (4 * n + 0) 0) 14 (4 * n + 1) 0) 14 (4 * n + 2) 0) 14 (4 * n + 3) 0) 0 2 (nI (n + 1))
section Jo
variable {s t : Mm} {P Q W V X M : Pm} {lm : Ml} {n d n' d' j : Nat} {x y a1 a2 a3 a4 : Int32}
theorem l_rowsC (hn : n < 6) : iter (fun t => f_X5_join_B93 (nI n) t.1 t.2) 200 (0, X) = some (up2 (up2 (up2 (up2 X 14 (4 * n + 0) 0) 14 (4 * n + 1) 0) 14 (4 * n + 2) 0) 14 (4 * n + 3) 0) := by
  have st : ∀ (i : Nat) (X : Pm), i < 4 → f_X5_join_B93 (nI n) (nI i) X = some (.inl (nI (i + 1), up2 X 14 (4 * n + i) 0)) := by
    intro i X hi
    have e : nI n * 4 + nI i = nI (4 * n + i) := by rw [show (4 : Int32) = nI 4 from rfl, pk_mul, nI_add, Nat.mul_comm]
    unfold f_X5_join_B93
    rw [if_neg (show ¬ (4 : Int32) ≤ nI i from nI_ge (b := 4) hi (by omega)), e, if_pos (inb_nI (by omega) (by decide)), ix_nI (by omega), nb_w, nI_1]
  have en : ∀ X : Pm, f_X5_join_B93 (nI n) (nI 4) X = some (.inr X) := by
    intro X
    unfold f_X5_join_B93
    rw [if_pos (show (4 : Int32) ≤ nI 4 from Int32.le_refl _)]
  rw [iter_go (s' := (nI 1, _)) (by decide) (st 0 X (by omega)), iter_go (s' := (nI 2, _)) (by decide) (st 1 _ (by omega)), iter_go (s' := (nI 3, _)) (by decide) (st 2 _ (by omega)), iter_go (s' := (nI 4, _)) (by decide) (st 3 _ (by omega)), iter_end (by decide) (en _)]
theorem l_rowsM (hn : n < 6) (hX : X 0 2 = nI n) : iter (fun t => f_X7_borrower_B140 t.1 t.2) 200 (0, put M X) = some (put M (up2 (up2 (up2 (up2 X 14 (4 * n + 0) 0) 14 (4 * n + 1) 0) 14 (4 * n + 2) 0) 14 (4 * n + 3) 0)) := by
  have st : ∀ (i : Nat) (X : Pm), i < 4 → X 0 2 = nI n → f_X7_borrower_B140 (nI i) (put M X) = some (.inl (nI (i + 1), put M (up2 X 14 (4 * n + i) 0))) := by
    intro i X hi hX
    have e : 4 * nI n + nI i = nI (4 * n + i) := by rw [show (4 : Int32) = nI 4 from rfl, pk_mul, nI_add]
    unfold f_X7_borrower_B140
    rw [if_neg (show ¬ (4 : Int32) ≤ nI i from nI_ge (b := 4) hi (by omega)), put_01, hX, e, if_pos (inb_nI (by omega) (by decide)), ix_nI (by omega), nb_w, nI_1, wp_12]
  have en : ∀ X : Pm, f_X7_borrower_B140 (nI 4) X = some (.inr X) := by
    intro X
    unfold f_X7_borrower_B140
    rw [if_pos (show (4 : Int32) ≤ nI 4 from Int32.le_refl _)]
  rw [iter_go (s' := (nI 1, _)) (by decide) (st 0 X (by omega) hX), iter_go (s' := (nI 2, _)) (by decide) (st 1 (up2 X 14 (4 * n + 0) 0) (by omega) hX), iter_go (s' := (nI 3, _)) (by decide) (st 2 (up2 (up2 X 14 (4 * n + 0) 0) 14 (4 * n + 1) 0) (by omega) hX), iter_go (s' := (nI 4, _)) (by decide) (st 3 (up2 (up2 (up2 X 14 (4 * n + 0) 0) 14 (4 * n + 1) 0) 14 (4 * n + 2) 0) (by omega) hX), iter_end (by decide) (en _)]
theorem e_join (hn : n < 6) (h : W 0 2 = nI n) : f_X5_join W a1 a2 a3 a4 = some (nI n, joinW W n a1 a2 a3 a4) := by
  have h6 : inb (nI n) 6 = true := inb_nI hn (by decide)
  have hx : ix (nI n) = n := ix_nI (by omega)
  unfold f_X5_join
  simp only [h, h6, hx, if_true, nb_w]
  rw [if_pos (show nI n < 6 from nI_lt (b := 6) hn (by omega))]
  unfold f_X5_join_H93
  rw [l_rowsC hn, Option.bind_some]
  unfold f_X5_join_J118
  rw [nb_w]
  unfold joinW
  rw [← nI_1, ← h]
  rfl
theorem m_join (hn : n < 6) (h : W 0 2 = nI n) (c1 : win a1 0 6 ≠ 0) (c2 : win a2 0 9 ≠ 0) (c3 : win a3 1 99 ≠ 0) (c4 : win a4 1 20 ≠ 0) : f_X7_borrower (put M (up2 W 0 3 x)) a1 a2 a3 a4 = some (nI n, put M (up2 (joinW W n a1 a2 a3 a4) 0 3 x)) := by
  have h6 : inb (nI n) 6 = true := inb_nI hn (by decide)
  have hx : ix (nI n) = n := ix_nI (by omega)
  have n6 : ¬ nI n = 6 := fun e => by
    have := nIeq (b := 6) e (by omega) (by omega)
    omega
  have f3 : ∀ (X : Pm) y, up2 X 0 3 y 0 2 = X 0 2 := fun _ _ => rfl
  have f5 : ∀ (X : Pm) j y, up2 X 5 j y 0 2 = X 0 2 := fun _ _ _ => rfl
  have f6 : ∀ (X : Pm) j y, up2 X 6 j y 0 2 = X 0 2 := fun _ _ _ => rfl
  have f7 : ∀ (X : Pm) j y, up2 X 7 j y 0 2 = X 0 2 := fun _ _ _ => rfl
  have f8 : ∀ (X : Pm) j y, up2 X 8 j y 0 2 = X 0 2 := fun _ _ _ => rfl
  have f9 : ∀ (X : Pm) j y, up2 X 9 j y 0 2 = X 0 2 := fun _ _ _ => rfl
  have f10 : ∀ (X : Pm) j y, up2 X 10 j y 0 2 = X 0 2 := fun _ _ _ => rfl
  have f11 : ∀ (X : Pm) j y, up2 X 11 j y 0 2 = X 0 2 := fun _ _ _ => rfl
  have f12 : ∀ (X : Pm) j y, up2 X 12 j y 0 2 = X 0 2 := fun _ _ _ => rfl
  have f13 : ∀ (X : Pm) j y, up2 X 13 j y 0 2 = X 0 2 := fun _ _ _ => rfl
  have f14 : ∀ (X : Pm) j y, up2 X 14 j y 0 2 = X 0 2 := fun _ _ _ => rfl
  unfold f_X7_borrower
  rw [m_win, m_win, m_isWants, m_isEvery]
  simp only [Option.bind_some]
  rw [if_neg c1, if_neg c2, if_neg c3, if_neg c4]
  simp only [nb_w, put_01, f3, h, h6, hx, if_true, n6, if_false, wp_4, wp_5, wp_6, wp_7, wp_8, wp_9, wp_10, wp_11, f5, f6, f7, f8, f9, f10, f11, f12]
  unfold f_X7_borrower_H140
  rw [l_rowsM hn (by simp only [f3, f5, f6, f7, f8, f9, f10, f11, f12]; exact h), Option.bind_some]
  unfold f_X7_borrower_J167
  simp only [nb_w, put_01, f3, h, h6, hx, if_true, wp_13, wp_01, f5, f6, f7, f8, f9, f10, f11, f12, f13, f14]
  unfold joinW
  rw [up2_cm (c := 14) (c' := 13) (by decide), up2_cm (c := 14) (c' := 13) (by decide), up2_cm (c := 14) (c' := 13) (by decide), up2_cm (c := 14) (c' := 13) (by decide)]
  rw [up2_cm (c := 0) (c' := 5) (by decide), up2_cm (c := 0) (c' := 6) (by decide), up2_cm (c := 0) (c' := 7) (by decide), up2_cm (c := 0) (c' := 8) (by decide), up2_cm (c := 0) (c' := 9) (by decide), up2_cm (c := 0) (c' := 10) (by decide), up2_cm (c := 0) (c' := 11) (by decide), up2_cm (c := 0) (c' := 12) (by decide), up2_cm (c := 0) (c' := 13) (by decide), up2_cm (c := 0) (c' := 14) (by decide), up2_cm (c := 0) (c' := 14) (by decide), up2_cm (c := 0) (c' := 14) (by decide), up2_cm (c := 0) (c' := 14) (by decide), up2_ci (c := 0) (j := 3) (j' := 2) (by decide), nI_1]
  rw [show ∀ X : Pm, up2 (up2 X 0 2 (nI (n + 1))) 0 3 x 0 2 = nI (n + 1) from fun _ => rfl, nI_pred]
theorem rg0 {B : Nat} : rg 0 B := ⟨0, by omega, rfl⟩
theorem DI_join (h : DI n d W) (hn : n < 6) (k1 : rg a1 6) (k2 : rg a2 9) (k3 : rg a3 99) (k4 : rg a4 20) (z3 : a3 ≠ 0) (z4 : a4 ≠ 0) : DI (n + 1) d (joinW W n a1 a2 a3 a4) := by
  obtain ⟨b1, b2, b3, b4, b5, ⟨r1, r2, r3, r4⟩, b7⟩ := h
  have g13 : joinW W n a1 a2 a3 a4 13 = upd (W 13) n (nI n) := rfl
  refine ⟨by omega, rfl, b3, fun k hk => ?_, fun k k' hk hk' e => ?_, ⟨r1, fun i hi => ?_, fun i hi => ?_, fun i hi => ?_⟩, fun i hi => ?_⟩
  · rw [g13, upd_g]
    by_cases c : k = n
    · rw [if_pos c]
      exact ⟨n, by omega, rfl⟩
    · rw [if_neg c]
      obtain ⟨j, hj, e⟩ := b4 k (by omega)
      exact ⟨j, by omega, e⟩
  · rw [g13, upd_g, upd_g] at e
    by_cases c : k = n
    · by_cases c' : k' = n
      · omega
      · rw [if_pos c, if_neg c'] at e
        obtain ⟨j, hj, e2⟩ := b4 k' (by omega)
        rw [e2] at e
        have := nIeq e (by omega) (by omega)
        omega
    · by_cases c' : k' = n
      · rw [if_neg c, if_pos c'] at e
        obtain ⟨j, hj, e2⟩ := b4 k (by omega)
        rw [e2] at e
        have := nIeq e (by omega) (by omega)
        omega
      · rw [if_neg c, if_neg c'] at e
        exact b5 k k' (by omega) (by omega) e
  · obtain ⟨q1, q2, q3, q4, q5, q6, q7⟩ := r2 i hi
    exact ⟨rg_upd q1 k1, rg_upd q2 k2, rg_upd q3 k3, rg_upd q4 k4, rg_upd q5 rg0, rg_upd q6 rg0, rg_upd q7 rg0⟩
  · exact rg_upd (rg_upd (rg_upd (rg_upd (r3 i hi) rg0) rg0) rg0) rg0
  · show upd (W 7) n a3 i ≠ 0 ∧ upd (W 8) n a4 i ≠ 0
    rw [upd_g, upd_g]
    by_cases c : i = n
    · rw [if_pos c, if_pos c]
      exact ⟨z3, z4⟩
    · rw [if_neg c, if_neg c]
      exact r4 i (by omega)
  · exact rg_upd (b7 i hi) rg0
theorem HG_mono {H : Pm} {a b c : Int32} {p4 p5 p6 p7 p8 p9 : Nat → Int32} (h : HG n H a b c p4 p5 p6 p7 p8 p9) : HG (n + 1) H a b c p4 p5 p6 p7 p8 p9 := by
  obtain ⟨ns, ny, nk, b1, b2, b3, b4, b5, b6, b7, b8, b9, c1, c2, c3⟩ := h
  refine ⟨ns, ny, nk, b1, b2, b3, b4, b5, b6, b7, b8, b9, c1, fun i hi h => ?_, fun i hi => ?_⟩
  · obtain ⟨j, hj, e⟩ := c2 i hi h
    exact ⟨j, by omega, e⟩
  · obtain ⟨j, hj, e⟩ := c3 i hi
    exact ⟨j, by omega, e⟩
theorem s_borrower (h : RR s P lm) : QS s lm (f_X6_borrower s a1 a2 a3 a4) (f_X7_borrower P a1 a2 a3 a4) := by
  obtain ⟨⟨n, d, h1⟩, h2⟩ := id h
  obtain ⟨w1, w2, w3, w4, w5, w6⟩ := id h1
  have hn := w3.1
  by_cases hall : win a1 0 6 ≠ 0 ∧ win a2 0 9 ≠ 0 ∧ win a3 1 99 ≠ 0 ∧ win a4 1 20 ≠ 0 ∧ n < 6
  · obtain ⟨c1, c2, c3, c4, c5⟩ := hall
    have hm := m_join (M := P) (x := P 0 34) c5 w3.2.1 c1 c2 c3 c4
    rw [← WEL_W h1] at hm
    rw [hm]
    unfold f_X6_borrower
    rw [e_win, e_win, e_win, e_win]
    simp only [Option.bind_some]
    rw [if_neg c1, if_neg c2, if_neg c3, if_neg c4, w3.2.1, if_pos (show nI n < 6 from nI_lt (b := 6) c5 (by omega)), e_join c5 w3.2.1, bn2_w, nb_w]
    obtain ⟨k1, -, u1, e1⟩ := win_r (b := 0) (c := 6) (by omega) (by omega) c1
    obtain ⟨k2, -, u2, e2⟩ := win_r (b := 0) (c := 9) (by omega) (by omega) c2
    obtain ⟨k3, v3, u3, e3⟩ := win_r (b := 1) (c := 99) (by omega) (by omega) c3
    obtain ⟨k4, v4, u4, e4⟩ := win_r (b := 1) (c := 20) (by omega) (by omega) c4
    exact QS_p (x := P 0 34) h1 h2 (NZ_up (NZ_up (NZ_up (NZ_up (NZ_up (NZ_up (NZ_up (NZ_up (NZ_up (NZ_up (NZ_up (NZ_up (NZ_up (NZ_up w1 (by omega)) (by omega)) (by omega)) (by omega)) (by omega)) (by omega)) (by omega)) (by omega)) (by omega)) (by omega)) (by omega)) (by omega)) (by omega)) (by omega)) (DI_join w3 c5 ⟨k1, u1, e1⟩ ⟨k2, u2, e2⟩ ⟨k3, u3, e3⟩ ⟨k4, u4, e4⟩ (by rw [e3]; exact nI_ne0 (by omega) (by omega)) (by rw [e4]; exact nI_ne0 (by omega) (by omega))) w4 (HG_mono w6) rfl
  · unfold f_X6_borrower f_X7_borrower
    rw [e_win, e_win, e_win, e_win, m_win, m_win, m_isWants, m_isEvery]
    simp only [Option.bind_some]
    by_cases c1 : win a1 0 6 = 0
    · rw [if_pos c1, if_pos c1]
      exact QS_0 h
    rw [if_neg c1, if_neg c1]
    by_cases c2 : win a2 0 9 = 0
    · rw [if_pos c2, if_pos c2]
      exact QS_0 h
    rw [if_neg c2, if_neg c2]
    by_cases c3 : win a3 1 99 = 0
    · rw [if_pos c3, if_pos c3]
      exact QS_0 h
    rw [if_neg c3, if_neg c3]
    by_cases c4 : win a4 1 20 = 0
    · rw [if_pos c4, if_pos c4]
      exact QS_0 h
    rw [if_neg c4, if_neg c4]
    have hn6 : n = 6 := by
      apply Decidable.byContradiction
      intro q
      exact hall ⟨c1, c2, c3, c4, by omega⟩
    rw [(AR_kn h1).1, (AR_kn h1).2.1, hn6, if_neg (show ¬ nI 6 < 6 by decide), if_pos (show nI 6 = 6 from rfl)]
    exact QS_0 h
end Jo
