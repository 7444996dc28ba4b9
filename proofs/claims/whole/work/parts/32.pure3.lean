/-! the pure side 3: asking, a day of the reference -/
theorem rg_of {x : Int32} {B : Nat} (h0 : 0 ≤ x) (h1 : x ≤ nI B) (hB : B < 2 ^ 31) : rg x B := by
  obtain ⟨j, hj, e⟩ := nI_of2 (M := nI B) (n := B) (nI_toInt hB) (Int32.not_lt.mpr h0) h1
  exact ⟨j, hj, e⟩
theorem imin_l {a b : Int32} : imin a b ≤ a := by
  unfold imin
  split
  · rename_i h; exact Int32.le_of_lt h
  · exact Int32.le_refl a
theorem imin_r {a b : Int32} : imin a b ≤ b := by
  unfold imin
  split
  · exact Int32.le_refl b
  · rename_i h; exact Int32.not_lt.mp h
theorem imin_0 {a b : Int32} (ha : 0 ≤ a) (hb : 0 ≤ b) : 0 ≤ imin a b := by
  unfold imin
  split
  · exact hb
  · exact ha
theorem imax_0 {b : Int32} : 0 ≤ imax 0 b := by
  unfold imax
  split
  · rename_i h; exact Int32.le_of_lt h
  · exact Int32.le_refl 0
theorem imax_le {b c : Int32} (h0 : 0 ≤ c) (h : b ≤ c) : imax 0 b ≤ c := by
  unfold imax
  split
  · exact h
  · exact h0
theorem rg_imax {x : Int32} {B : Nat} (h : x ≤ nI B) (hB : B < 2 ^ 31) : rg (imax 0 x) B := rg_of imax_0 (imax_le (nI_pos' hB) h) hB
theorem rg_imin {x : Int32} {B : Nat} (h : 0 ≤ x) (hB : B < 2 ^ 31) : rg (imin (nI B) x) B := rg_of (imin_0 (nI_pos' hB) h) imin_l hB
theorem take_eq {t o : Int32} (ht : 0 ≤ t) : imin t (imax 0 o) = if 0 ≤ o then (if t ≤ o then t else o) else 0 := by
  unfold imin imax
  by_cases h : 0 < o
  · rw [if_pos h, if_pos (Int32.le_of_lt h)]
    by_cases h1 : o < t
    · rw [if_pos h1, if_neg (Int32.not_le.mpr h1)]
    · rw [if_neg h1, if_pos (Int32.not_lt.mp h1)]
  · rw [if_neg h]
    by_cases h2 : 0 ≤ o
    · have e : o = 0 := Int32.le_antisymm (Int32.not_lt.mp h) h2
      subst e
      rw [if_pos h2]
      by_cases h1 : (0 : Int32) < t
      · rw [if_pos h1, if_neg (Int32.not_le.mpr h1)]
      · rw [if_neg h1, if_pos (Int32.not_lt.mp h1)]
    · rw [if_neg h2]
      by_cases h1 : (0 : Int32) < t
      · rw [if_pos h1]
      · rw [if_neg h1]
        exact Int32.le_antisymm (Int32.not_lt.mp h1) ht
section Ask
variable {M W : Pm} {j n : Nat} {mk sp fi : Int32} {rt : Pm → Nat → Int32} {f : Nat → Int32}
def emk (M : Pm) (mk : Int32) : Int32 := if M 0 30 < 0 then mk else M 0 30
theorem m_mark (hC : CtyM M mk sp fi rt) : f_X7_mark (put (setO M 33 f) W) = some (emk M mk) := by
  unfold f_X7_mark
  show (if M 0 30 < 0 then _ else some (M 0 30)) = _
  unfold emk
  by_cases h : M 0 30 < 0
  · rw [if_pos h, if_pos h, (hC f W).1]
    rfl
  · rw [if_neg h, if_neg h]
theorem rg_as (hj : j < 6) (hR : RI n W) {mk : Int32} : rg (asN W mk j) 198 := by
  obtain ⟨w, hw, e⟩ := (hR.2.1 j hj).2.2.1
  have e2 : 2 * W 7 j = nI (2 * w) := by rw [e, show (2 : Int32) = nI 2 from rfl, pk_mul]
  unfold asN
  split
  · exact ⟨2 * w, by omega, e2⟩
  · split
    · have h0 : 0 ≤ 2 * W 7 j := by rw [e2]; exact nI_pos' (by omega)
      refine rg_of (imin_0 h0 imax_0) (Int32.le_trans imin_l ?_) (by decide)
      rw [e2]
      exact nI_le (by omega) (by decide)
    · split
      · obtain ⟨q, hq, e3⟩ := hR.2.2.1 (4 * j + ix (W 0 1) % 4) (by omega)
        exact ⟨w + q, by omega, by rw [e, e3, nI_add]⟩
      · exact ⟨w, by omega, e⟩
theorem m_as {d : Nat} (hj : j < 6) (hR : RI n W) (hd : W 0 1 = nI d) (hd2 : d < 2 ^ 30) (hC : CtyM M mk sp fi rt) : f_X7_asks (put (setO M 33 f) W) (nI j) = some (asN W (emk M mk) j) := by
  have h6 : inb (nI j) 6 = true := inb_nI hj (by decide)
  have hx : ix (nI j) = j := ix_nI (by omega)
  obtain ⟨w, hw, e⟩ := (hR.2.1 j hj).2.2.1
  have h0 : 0 ≤ 2 * W 7 j := by rw [e, show (2 : Int32) = nI 2 from rfl, pk_mul]; exact nI_pos' (by omega)
  unfold f_X7_asks f_X7_asks_J115 asN
  rw [if_pos h6, hx, put_4, put_6]
  by_cases c1 : W 5 j = 2
  · rw [if_pos c1, if_pos c1, if_pos h6]
  · rw [if_neg c1, if_neg c1]
    by_cases c2 : W 5 j = 5
    · rw [if_pos c2, if_pos c2, m_mark hC, Option.bind_some, put_00, take_eq h0]
      by_cases c3 : 0 ≤ W 0 0 - emk M mk
      · rw [if_pos c3, if_pos c3, if_pos h6, if_pos h6]
        split <;> rfl
      · rw [if_neg c3, if_neg c3]
    · rw [if_neg c2, if_neg c2]
      by_cases c4 : W 5 j = 6
      · have e4 : 4 * nI j + (W 0 1 - W 0 1 / 4 * 4) = nI (4 * j + d % 4) := by
          rw [hd, show (4 : Int32) = nI 4 from rfl, pk_rem (by omega) (by decide) (by decide), pk_mul, nI_add]
        have hb : inb (nI (4 * j + d % 4)) 24 = true := inb_nI (by omega) (by decide)
        have hc : ix (nI (4 * j + d % 4)) = 4 * j + d % 4 := ix_nI (by omega)
        have hdd : ix (nI d) = d := ix_nI (by omega)
        rw [if_pos c4, if_pos c4, if_pos h6, put_02, e4, if_pos hb, hc, put_12, hd, hdd]
      · rw [if_neg c4, if_neg c4, if_pos h6]
theorem m_away {S : Nat} (hj : j < 6) (hR : RI n W) (hs : rg (W 12 j) S) (hS : nI (S + 1) ≤ M 0 33) (hS2 : S + 1 < 2 ^ 31) (hfi : rg fi 99) (hC : CtyM M mk sp fi rt) : f_X7_goAsking_J75 (put (setO M 33 f) W) (nI j) = some (put (setO M 33 f) (awayW fi W j)) := by
  have h6 : inb (nI j) 6 = true := inb_nI hj (by decide)
  have hx : ix (nI j) = j := ix_nI (by omega)
  obtain ⟨s, hs1, hs2⟩ := hs
  have e1 : held (W 12 j + 1) (M 0 33) = W 12 j + 1 := by
    unfold held
    rw [hs2, nI_1, if_pos (nI_pos' (by omega)), if_pos (Int32.le_trans (nI_le (by omega) (by omega)) hS)]
  unfold f_X7_goAsking_J75
  rw [if_pos h6, hx]
  show Option.bind (f_X7_held _ (W 12 j + 1) (M 0 33)) _ = _
  rw [m_held, e1, Option.bind_some, if_pos h6]
  simp only [nb, wp_11, wp_034]
  rw [put_034, if_pos h6, (hC f _).2.2.1, Option.bind_some, m_held, put_10]
  have e2 : held (W 11 j - fi) 99999 = imax 0 (W 11 j - fi) := held_max (rg_sub (hR.2.1 j hj).2.2.2.2.2.2 hfi (by decide) (by decide))
  show Option.bind (some (held (W 11 j - fi) 99999)) _ = _
  rw [e2, Option.bind_some, if_pos h6, wp_10]
  rfl
theorem m_askJ {S d : Nat} (hj : j < 6) (hjn : j < n) (hR : RI n W) (hd : W 0 1 = nI d) (hd2 : d < 2 ^ 30) (hs : rg (W 12 j) S) (hS : nI (S + 1) ≤ M 0 33) (hS2 : S + 1 < 2 ^ 31) (hfi : rg fi 99) (hC : CtyM M mk sp fi rt) : f_X7_goAsking (put (setO M 33 f) W) (nI j) = some (put (setO M 33 f) (if nI j = M 0 31 then W else if W 8 j ≤ 0 then W else if W 0 1 - W 0 1 / W 8 j * W 8 j = 0 then askW (emk M mk) fi W j else W)) := by
  have h6 : inb (nI j) 6 = true := inb_nI hj (by decide)
  have hx : ix (nI j) = j := ix_nI (by omega)
  have h8 : ¬ W 8 j = 0 := (hR.2.2.2 j hjn).2
  have h8b : ¬ W 8 j ≤ 0 := by
    obtain ⟨e, he, e1⟩ := (hR.2.1 j hj).2.2.2.1
    rw [e1] at h8 ⊢
    have he0 : 0 < e := by
      rcases Nat.eq_zero_or_pos e with h | h
      · subst h
        exact absurd rfl h8
      · exact h
    exact nI_nle he0 (by omega)
  unfold f_X7_goAsking
  rw [if_pos h6, hx, put_7, if_neg h8, put_02, if_neg h8b]
  by_cases c1 : W 0 1 - W 0 1 / W 8 j * W 8 j = 0
  · rw [if_pos c1, if_pos c1]
    show (if nI j = M 0 31 then _ else _) = _
    by_cases c2 : nI j = M 0 31
    · rw [if_pos c2, if_pos c2]
    · rw [if_neg c2, if_neg c2, m_as hj hR hd hd2 hC, Option.bind_some, m_away hj hR hs hS hS2 hfi hC]
      unfold askW
      dsimp only
      by_cases c3 : asN W (emk M mk) j ≤ 0
      · rw [if_pos c3, if_pos c3]
      · rw [if_neg c3, if_neg c3, m_mark hC, Option.bind_some, put_00]
        by_cases c4 : W 0 0 - asN W (emk M mk) j < emk M mk
        · rw [if_pos c4, if_pos c4]
        · rw [if_neg c4, if_neg c4, if_pos h6]
          simp only [nb, wp_8, wp_00, put_00]
          rw [m_kp hj, Option.bind_some, if_pos h6, wp_9]
          rfl
  · rw [if_neg c1, if_neg c1]
    split <;> rfl
end Ask
section Keep
variable {M W : Pm} {j n : Nat} {mk sp fi ab : Int32} {rt : Pm → Nat → Int32} {f : Nat → Int32}
/-- one number of a row becomes another within the bounds: the bounds hold still -/
theorem rg_upd {g : Nat → Int32} {i k : Nat} {x : Int32} {B : Nat} (h : rg (g i) B) (hx : rg x B) : rg (upd g k x i) B := by
  rw [upd_g]
  split
  · exact hx
  · exact h
theorem RI_9 {x : Int32} (hR : RI n W) (hx : rg x 999) : RI n (up2 W 9 j x) :=
  ⟨hR.1, fun i hi => ⟨(hR.2.1 i hi).1, (hR.2.1 i hi).2.1, (hR.2.1 i hi).2.2.1, (hR.2.1 i hi).2.2.2.1, rg_upd (g := W 9) (hR.2.1 i hi).2.2.2.2.1 hx, (hR.2.1 i hi).2.2.2.2.2.1, (hR.2.1 i hi).2.2.2.2.2.2⟩, hR.2.2.1, hR.2.2.2⟩
theorem RI_10 {x : Int32} (hR : RI n W) (hx : rg x 99) : RI n (up2 W 10 j x) :=
  ⟨hR.1, fun i hi => ⟨(hR.2.1 i hi).1, (hR.2.1 i hi).2.1, (hR.2.1 i hi).2.2.1, (hR.2.1 i hi).2.2.2.1, (hR.2.1 i hi).2.2.2.2.1, rg_upd (g := W 10) (hR.2.1 i hi).2.2.2.2.2.1 hx, (hR.2.1 i hi).2.2.2.2.2.2⟩, hR.2.2.1, hR.2.2.2⟩
theorem RI_11 {x : Int32} (hR : RI n W) (hx : rg x 99999) : RI n (up2 W 11 j x) :=
  ⟨hR.1, fun i hi => ⟨(hR.2.1 i hi).1, (hR.2.1 i hi).2.1, (hR.2.1 i hi).2.2.1, (hR.2.1 i hi).2.2.2.1, (hR.2.1 i hi).2.2.2.2.1, (hR.2.1 i hi).2.2.2.2.2.1, rg_upd (g := W 11) (hR.2.1 i hi).2.2.2.2.2.2 hx⟩, hR.2.2.1, hR.2.2.2⟩
theorem RI_12 {x : Int32} (hR : RI n W) : RI n (up2 W 12 j x) := hR
theorem RI_00 {x : Int32} (hR : RI n W) (hx : rg x 9999) : RI n (up2 W 0 0 x) := ⟨hx, hR.2.1, hR.2.2.1, hR.2.2.2⟩
theorem RI_0s {x : Int32} {i : Nat} (hR : RI n W) (hi : i ≠ 0) : RI n (up2 W 0 i x) := ⟨by rw [up2_g, if_pos rfl, upd_g, if_neg (fun e => hi e.symm)]; exact hR.1, hR.2.1, hR.2.2.1, hR.2.2.2⟩
theorem rg_kp (hj : j < 6) (hR : RI n W) : rg (kpW W j) 99 := by
  obtain ⟨v, hv, e⟩ := (hR.2.1 j hj).2.1
  have e2 : 3 + W 6 j = nI (3 + v) := by rw [e, show (3 : Int32) = nI 3 from rfl, nI_add]
  unfold kpW
  split
  · exact ⟨_, by omega, e2⟩
  · split
    · exact ⟨_, by omega, e2⟩
    · exact ⟨3, by omega, rfl⟩
theorem RI_rise {x : Int32} {B : Nat} (hR : RI n W) (hx : rg x B) (hB : B < 2 ^ 30) : RI n (riseW W x) := RI_00 hR (rg_imin (B := 9999) (rg_0 (rg_add hR.1 hx) (by omega)) (by decide))
theorem RI_one (hj : j < 6) (hR : RI n W) (hmk : rg mk 99) (hfi : rg fi 99) (hrt : ∀ W j, rg (rt W j) 991) : RI n (oneW rt mk ab fi W j) := by
  unfold oneW
  by_cases c1 : W 9 j ≤ 0
  · rw [if_pos c1]
    split
    · exact hR
    · split
      · exact hR
      · split
        · unfold askW
          dsimp only
          have hA : RI n (awayW fi W j) := by
            unfold awayW
            dsimp only
            exact RI_11 (RI_0s (RI_12 hR) (by decide)) (rg_imax (B := 99999) (rg_sub (hR.2.1 j hj).2.2.2.2.2.2 hfi (by decide) (by decide)) (by decide))
          split
          · exact hA
          · split
            · exact hA
            · rename_i c5
              unfold takeW
              dsimp only
              have h0 : 0 ≤ W 0 0 - asN W mk j := Int32.le_trans (rg_0 hmk (by decide)) (Int32.not_lt.mp c5)
              have h1 : W 0 0 - asN W mk j ≤ nI 9999 := rg_sub hR.1 (rg_as hj hR) (by decide) (by decide)
              have hR2 : RI n (up2 (up2 W 9 j (asN W mk j)) 0 0 (W 0 0 - asN W mk j)) := RI_00 (RI_9 hR (rg_mono (rg_as hj hR) (by decide))) (rg_of h0 h1 (by decide))
              exact RI_10 hR2 (rg_kp hj hR2)
        · exact hR
  · rw [if_neg c1]
    unfold keepW
    dsimp only
    have a1 : 0 ≤ W 11 j + rt W j * W 9 j / 10 := by
      obtain ⟨r, hr1, hr2⟩ := hrt W j
      obtain ⟨o, ho1, ho2⟩ := (hR.2.1 j hj).2.2.2.2.2.2
      obtain ⟨h, hh1, hh2⟩ := (hR.2.1 j hj).2.2.2.2.1
      have hp : r * h ≤ 991 * 999 := Nat.mul_le_mul hr1 hh1
      rw [hr2, ho2, hh2, pk_mul, show (10 : Int32) = nI 10 from rfl, pk_div (by omega) (by decide) (by decide), nI_add]
      exact nI_pos' (by omega)
    have hR2 : RI n (up2 (up2 W 11 j (imin 99999 (W 11 j + rt W j * W 9 j / 10))) 10 j (imax 0 (up2 W 11 j (imin 99999 (W 11 j + rt W j * W 9 j / 10)) 10 j - 1))) :=
      RI_10 (RI_11 hR (rg_imin (B := 99999) a1 (by decide))) (rg_imax (B := 99) (rg_pred (hR.2.1 j hj).2.2.2.2.2.1 (by decide)) (by decide))
    split
    · split
      · exact RI_9 (RI_rise hR2 (rg_br hj hR2) (by decide)) ⟨0, by omega, rfl⟩
      · exact RI_10 hR2 (rg_kp hj hR2)
    · exact hR2
theorem RI_day (hR : RI n W) (hL : LInv W) (hmk : rg mk 99) (hfi : rg fi 99) (hsp : rg sp 99) (hrt : ∀ W j, rg (rt W j) 991) : RI n (dayW rt mk ab fi sp W) := by
  obtain ⟨m, d, hm, hd, h1, h2, h3⟩ := hL
  have hg : ∀ k, k ≤ m → RI n (goW rt mk ab fi k W) := by
    intro k
    induction k with
    | zero => intro _; exact hR
    | succ k ih =>
      intro hk
      obtain ⟨j, hj, e⟩ := h3 k (by omega)
      have e13 : goW rt mk ab fi k W 13 k = nI j := by rw [goW_c (by decide) (by decide) (by decide) (by decide) (by decide)]; exact e
      show RI n (oneW rt mk ab fi (goW rt mk ab fi k W) (ix (goW rt mk ab fi k W 13 k)))
      rw [e13, ix_nI (by omega)]
      exact RI_one (by omega) (ih (by omega)) hmk hfi hrt
  unfold dayW
  dsimp only
  rw [h1, ix_nI (by omega)]
  exact RI_0s (RI_rise (hg m (Nat.le_refl m)) hsp (by decide)) (by decide)
end Keep
