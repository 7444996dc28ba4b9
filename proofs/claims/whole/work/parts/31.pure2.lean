/-! the pure side 2: the reference's memory with a well in it; the reference's day is the same day -/
def put (M W : Pm) : Pm := fun c => if c = 0 then (fun i => if i = 0 then W 0 0 else if i = 1 then W 0 2 else if i = 2 then W 0 1 else if i = 34 then W 0 3 else M 0 i) else if c = 4 then W 5 else if c = 5 then W 6 else if c = 6 then W 7 else if c = 7 then W 8 else if c = 8 then W 9 else if c = 9 then W 10 else if c = 10 then W 11 else if c = 11 then W 12 else if c = 12 then W 14 else if c = 13 then W 13 else M c
section Put
variable {M W : Pm}
theorem put_4 : put M W 4 = W 5 := rfl
theorem put_5 : put M W 5 = W 6 := rfl
theorem put_6 : put M W 6 = W 7 := rfl
theorem put_7 : put M W 7 = W 8 := rfl
theorem put_8 : put M W 8 = W 9 := rfl
theorem put_9 : put M W 9 = W 10 := rfl
theorem put_10 : put M W 10 = W 11 := rfl
theorem put_11 : put M W 11 = W 12 := rfl
theorem put_12 : put M W 12 = W 14 := rfl
theorem put_13 : put M W 13 = W 13 := rfl
theorem put_00 : put M W 0 0 = W 0 0 := rfl
theorem put_01 : put M W 0 1 = W 0 2 := rfl
theorem put_02 : put M W 0 2 = W 0 1 := rfl
theorem put_034 : put M W 0 34 = W 0 3 := rfl
theorem put_0n {i : Nat} (h0 : i ≠ 0) (h1 : i ≠ 1) (h2 : i ≠ 2) (h3 : i ≠ 34) : put M W 0 i = M 0 i := by
  unfold put
  rw [if_pos rfl, if_neg h0, if_neg h1, if_neg h2, if_neg h3]
theorem put_n {c : Nat} (h : c = 0 ∨ c = 4 ∨ c = 5 ∨ c = 6 ∨ c = 7 ∨ c = 8 ∨ c = 9 ∨ c = 10 ∨ c = 11 ∨ c = 12 ∨ c = 13 → False) : put M W c = M c := by
  unfold put
  rw [if_neg (fun e => h (by omega)), if_neg (fun e => h (by omega)), if_neg (fun e => h (by omega)), if_neg (fun e => h (by omega)), if_neg (fun e => h (by omega)), if_neg (fun e => h (by omega)), if_neg (fun e => h (by omega)), if_neg (fun e => h (by omega)), if_neg (fun e => h (by omega)), if_neg (fun e => h (by omega)), if_neg (fun e => h (by omega))]
theorem put_pile {f : Nat → Int32} : setO (put M W) 33 f = put (setO M 33 f) W := by
  funext c
  by_cases h : c = 33
  · subst h
    rfl
  · rw [setO_n h]
    by_cases h0 : c = 0
    · subst h0
      rfl
    · unfold put
      rw [setO_n h]
      simp only [h0, if_false]
variable {j : Nat} {x : Int32}
theorem wp_6 : up2 (put M W) 6 j x = put M (up2 W 7 j x) := by
  funext c
  by_cases h : c = 6
  · subst h; rfl
  · simp [up2_g, put, h]
theorem wp_7 : up2 (put M W) 7 j x = put M (up2 W 8 j x) := by
  funext c
  by_cases h : c = 7
  · subst h; rfl
  · simp [up2_g, put, h]
theorem wp_8 : up2 (put M W) 8 j x = put M (up2 W 9 j x) := by
  funext c
  by_cases h : c = 8
  · subst h; rfl
  · simp [up2_g, put, h]
theorem wp_9 : up2 (put M W) 9 j x = put M (up2 W 10 j x) := by
  funext c
  by_cases h : c = 9
  · subst h; rfl
  · simp [up2_g, put, h]
theorem wp_10 : up2 (put M W) 10 j x = put M (up2 W 11 j x) := by
  funext c
  by_cases h : c = 10
  · subst h; rfl
  · simp [up2_g, put, h]
theorem wp_11 : up2 (put M W) 11 j x = put M (up2 W 12 j x) := by
  funext c
  by_cases h : c = 11
  · subst h; rfl
  · simp [up2_g, put, h]
theorem wp_12 : up2 (put M W) 12 j x = put M (up2 W 14 j x) := by
  funext c
  by_cases h : c = 12
  · subst h; rfl
  · simp [up2_g, put, h]
theorem wp_13 : up2 (put M W) 13 j x = put M (up2 W 13 j x) := by
  funext c
  by_cases h : c = 13
  · subst h; rfl
  · simp [up2_g, put, h]
theorem wp_4 : up2 (put M W) 4 j x = put M (up2 W 5 j x) := by
  funext c
  by_cases h : c = 4
  · subst h; rfl
  · simp [up2_g, put, h]
theorem wp_5 : up2 (put M W) 5 j x = put M (up2 W 6 j x) := by
  funext c
  by_cases h : c = 5
  · subst h; rfl
  · simp [up2_g, put, h]
theorem wp_00 : up2 (put M W) 0 0 x = put M (up2 W 0 0 x) := by
  funext c i
  by_cases h : c = 0
  · subst h
    by_cases hi : i = 0
    · subst hi; rfl
    · simp [up2_g, upd_g, put, hi]
  · simp [up2_g, put, h]
theorem wp_01 : up2 (put M W) 0 1 x = put M (up2 W 0 2 x) := by
  funext c i
  by_cases h : c = 0
  · subst h
    by_cases hi : i = 1
    · subst hi; rfl
    · simp [up2_g, upd_g, put, hi]
  · simp [up2_g, put, h]
theorem wp_02 : up2 (put M W) 0 2 x = put M (up2 W 0 1 x) := by
  funext c i
  by_cases h : c = 0
  · subst h
    by_cases hi : i = 2
    · subst hi; rfl
    · simp [up2_g, upd_g, put, hi]
  · simp [up2_g, put, h]
theorem wp_034 : up2 (put M W) 0 34 x = put M (up2 W 0 3 x) := by
  funext c i
  by_cases h : c = 0
  · subst h
    by_cases hi : i = 34
    · subst hi; rfl
    · simp [up2_g, upd_g, put, hi]
  · simp [up2_g, put, h]
end Put
def held (a b : Int32) : Int32 := if 0 ≤ a then (if a ≤ b then a else b) else 0
theorem m_held {P : Pm} {a b : Int32} : f_X7_held P a b = some (held a b) := by
  unfold f_X7_held held
  split
  · split <;> rfl
  · rfl
theorem held_min {a b : Int32} (h : 0 ≤ a) : held a b = imin b a := by
  unfold held imin
  rw [if_pos h]
  by_cases h1 : a < b
  · rw [if_pos (Int32.le_of_lt h1), if_pos h1]
  · rw [if_neg h1]
    by_cases h2 : a ≤ b
    · rw [if_pos h2]
      exact Int32.le_antisymm h2 (Int32.not_lt.mp h1)
    · rw [if_neg h2]
theorem held_max {a b : Int32} (h : a ≤ b) : held a b = imax 0 a := by
  unfold held imax
  rw [if_pos h]
  by_cases h1 : 0 < a
  · rw [if_pos (Int32.le_of_lt h1), if_pos h1]
  · rw [if_neg h1]
    by_cases h2 : 0 ≤ a
    · rw [if_pos h2]
      exact Int32.le_antisymm (Int32.not_lt.mp h1) h2
    · rw [if_neg h2]
def rg (x : Int32) (B : Nat) : Prop := ∃ m, m ≤ B ∧ x = nI m
/-- the numbers of a well are within what the document tells; n: how many borrowers there are -/
def RI (n : Nat) (W : Pm) : Prop := rg (W 0 0) 9999 ∧ (∀ j, j < 6 → rg (W 5 j) 6 ∧ rg (W 6 j) 9 ∧ rg (W 7 j) 99 ∧ rg (W 8 j) 20 ∧ rg (W 9 j) 999 ∧ rg (W 10 j) 99 ∧ rg (W 11 j) 99999) ∧ (∀ k, k < 24 → rg (W 14 k) 9) ∧ ∀ j, j < n → W 7 j ≠ 0 ∧ W 8 j ≠ 0
/-- a country as the reference has it: its numbers, its rate -/
def CtyM (M : Pm) (mk sp fi : Int32) (rt : Pm → Nat → Int32) : Prop := ∀ (f : Nat → Int32) (W : Pm), f_X7_lastOf (put (setO M 33 f) W) 2 10 = some mk ∧ f_X7_lastOf (put (setO M 33 f) W) 3 0 = some sp ∧ f_X7_lastOf (put (setO M 33 f) W) 4 0 = some fi ∧ ∀ j, j < 6 → ∃ f', f_X7_rate (put (setO M 33 f) W) (nI j) = some (rt W j, put (setO M 33 f') W)
section Mod
variable {M W : Pm} {j : Nat}
theorem m_st (hj : j < 6) : f_X7_staysAway (put M W) (nI j) = some (stW W j) := by
  have h6 : inb (nI j) 6 = true := inb_nI hj (by decide)
  have hx : ix (nI j) = j := ix_nI (by omega)
  simp only [f_X7_staysAway, h6, hx, if_true, stW, put_4, put_10]
  split
  · split <;> rfl
  · rfl
theorem m_kp (hj : j < 6) : f_X7_keeps (put M W) (nI j) = some (kpW W j) := by
  have h6 : inb (nI j) 6 = true := inb_nI hj (by decide)
  have hx : ix (nI j) = j := ix_nI (by omega)
  simp only [f_X7_keeps, f_X7_keeps_J20, h6, hx, if_true, kpW, put_4, put_5]
  split
  · rfl
  · split <;> rfl
theorem m_br (hj : j < 6) : f_X7_brings (put M W) (nI j) = some (brW W j) := by
  have h6 : inb (nI j) 6 = true := inb_nI hj (by decide)
  have hx : ix (nI j) = j := ix_nI (by omega)
  simp only [f_X7_brings, f_X7_brings_J21, h6, hx, if_true, brW, put_4, put_8]
  split
  · rfl
  · split <;> rfl
theorem nIle {m B : Nat} (h : m ≤ B) (hB : B < 2 ^ 31) : nI m ≤ nI B := nI_le h hB
theorem rg_0 {x : Int32} {B : Nat} (h : rg x B) (hB : B < 2 ^ 31) : 0 ≤ x := by
  obtain ⟨m, h1, rfl⟩ := h
  exact nI_pos' (by omega)
theorem rg_le {x : Int32} {B C : Nat} (h : rg x B) (hB : B ≤ C) (hC : C < 2 ^ 31) : x ≤ nI C := by
  obtain ⟨m, h1, rfl⟩ := h
  exact nI_le (by omega) hC
theorem rg_add {x y : Int32} {A B : Nat} (hx : rg x A) (hy : rg y B) : rg (x + y) (A + B) := by
  obtain ⟨m, h1, rfl⟩ := hx
  obtain ⟨k, h2, rfl⟩ := hy
  exact ⟨m + k, by omega, nI_add m k⟩
theorem rg_mono {x : Int32} {A B : Nat} (hx : rg x A) (h : A ≤ B) : rg x B := by
  obtain ⟨m, h1, h2⟩ := hx
  exact ⟨m, by omega, h2⟩
theorem rg_br {n : Nat} (hj : j < 6) (hR : RI n W) : rg (brW W j) 999 := by
  obtain ⟨m, hm, e⟩ := (hR.2.1 j hj).2.2.2.2.1
  have e2 : W 9 j - W 9 j / 10 = nI (m - m / 10) := by
    rw [e, show (10 : Int32) = nI 10 from rfl, pk_div (by omega) (by decide) (by decide), pk_sub (by omega)]
  unfold brW
  split
  · rw [e2]; exact ⟨_, by omega, rfl⟩
  · split
    · rw [e2]; exact ⟨_, by omega, rfl⟩
    · exact ⟨m, hm, e⟩
theorem rg_pred {x : Int32} {B : Nat} (h : rg x B) (hB : B < 2 ^ 31) : x - 1 ≤ nI B := by
  obtain ⟨m, hm, rfl⟩ := h
  cases m with
  | zero =>
    show (0 : Int32) - 1 ≤ nI B
    exact Int32.le_trans (show (0 : Int32) - 1 ≤ 0 by decide) (nI_pos' hB)
  | succ k =>
    rw [nI_pred]
    exact nI_le (by omega) hB
theorem rg_sub {x y : Int32} {A B : Nat} (hx : rg x A) (hy : rg y B) (hA : A < 2 ^ 30) (hB : B < 2 ^ 30) : x - y ≤ nI A := by
  obtain ⟨m, hm, rfl⟩ := hx
  obtain ⟨k, hk, rfl⟩ := hy
  rw [Int32.le_iff_toInt_le, pk_sub_toInt (by omega) (by omega), nI_toInt (by omega)]
  omega
theorem m_keep {n : Nat} {mk sp fi : Int32} {rt : Pm → Nat → Int32} {f : Nat → Int32} (hj : j < 6) (hR : RI n W) (hC : CtyM M mk sp fi rt) (hr : rg (rt W j) 991) : ∃ f', f_X7_goHaving (put (setO M 33 f) W) (nI j) = some (put (setO M 33 f') (keepW rt W j)) := by
  have h6 : inb (nI j) 6 = true := inb_nI hj (by decide)
  have hx : ix (nI j) = j := ix_nI (by omega)
  obtain ⟨f', hf⟩ := (hC f W).2.2.2 j hj
  refine ⟨f', ?_⟩
  have a1 : 0 ≤ W 11 j + rt W j * W 9 j / 10 := by
    obtain ⟨r, hr1, hr2⟩ := hr
    obtain ⟨o, ho1, ho2⟩ := (hR.2.1 j hj).2.2.2.2.2.2
    obtain ⟨h, hh1, hh2⟩ := (hR.2.1 j hj).2.2.2.2.1
    have hp : r * h ≤ 991 * 999 := Nat.mul_le_mul hr1 hh1
    rw [hr2, ho2, hh2, pk_mul, show (10 : Int32) = nI 10 from rfl, pk_div (by omega) (by decide) (by decide), nI_add]
    exact nI_pos' (by omega)
  have a2 : W 10 j - 1 ≤ 99 := rg_pred (hR.2.1 j hj).2.2.2.2.2.1 (by decide)
  have a3 : 0 ≤ W 0 0 + brW W j := rg_0 (rg_add hR.1 (rg_br hj hR)) (by decide)
  generalize ho : imin 99999 (W 11 j + rt W j * W 9 j / 10) = o' at *
  have e1 : held (W 11 j + rt W j * W 9 j / 10) 99999 = o' := (held_min a1).trans ho
  generalize hl : imax 0 (W 10 j - 1) = l' at *
  have e2 : held (W 10 j - 1) 99 = l' := (held_max a2).trans hl
  have hk : keepW rt W j = (if l' ≤ 0 then (if stW (up2 (up2 W 11 j o') 10 j l') j = 0 then up2 (riseW (up2 (up2 W 11 j o') 10 j l') (brW (up2 (up2 W 11 j o') 10 j l') j)) 9 j 0 else up2 (up2 (up2 W 11 j o') 10 j l') 10 j (kpW (up2 (up2 W 11 j o') 10 j l') j)) else up2 (up2 W 11 j o') 10 j l') := by
    show (let W1 := up2 W 11 j (imin 99999 (W 11 j + rt W j * W 9 j / 10)); let W2 := up2 W1 10 j (imax 0 (W1 10 j - 1)); if W2 10 j ≤ 0 then (if stW W2 j = 0 then up2 (riseW W2 (brW W2 j)) 9 j 0 else up2 W2 10 j (kpW W2 j)) else W2) = _
    rw [ho]
    show (let W2 := up2 (up2 W 11 j o') 10 j (imax 0 (W 10 j - 1)); if W2 10 j ≤ 0 then (if stW W2 j = 0 then up2 (riseW W2 (brW W2 j)) 9 j 0 else up2 W2 10 j (kpW W2 j)) else W2) = _
    rw [hl]
    have e3 : up2 (up2 W 11 j o') 10 j l' 10 j = l' := by rw [up2_g, if_pos rfl, upd_g, if_pos rfl]
    dsimp only
    rw [e3]
  rw [hk]
  generalize hW : up2 (up2 W 11 j o') 10 j l' = V at *
  have b1 : V 0 0 = W 0 0 := by rw [← hW]; rfl
  have b2 : brW V j = brW W j := by rw [← hW]; rfl
  have b3 : V 10 j = l' := by rw [← hW, up2_g, if_pos rfl, upd_g, if_pos rfl]
  unfold f_X7_goHaving
  rw [if_pos h6, hf, hx]
  show (if inb (nI j) 6 = true then Option.bind (f_X7_held (put (setO M 33 f') W) (W 11 j + rt W j * W 9 j / 10) 99999) _ else none) = _
  rw [if_pos h6, m_held, e1, Option.bind_some, if_pos h6]
  show (if inb (nI j) 6 = true then Option.bind (f_X7_held (up2 (put (setO M 33 f') W) 10 j o') ((up2 (put (setO M 33 f') W) 10 j o') 9 j - 1) 99) _ else none) = _
  rw [wp_10, if_pos h6, m_held]
  show Option.bind (some (held (W 10 j - 1) 99)) _ = _
  rw [e2, Option.bind_some, if_pos h6]
  show (if inb (nI j) 6 = true then (if (up2 (put (setO M 33 f') (up2 W 11 j o')) 9 j l') 9 j ≤ 0 then _ else _) else none) = _
  rw [if_pos h6]
  simp only [wp_9, hW, put_9, b3]
  by_cases c1 : l' ≤ 0
  · rw [if_pos c1, if_pos c1, m_st hj, Option.bind_some]
    by_cases c2 : stW V j = 0
    · rw [if_pos c2, if_pos c2, m_br hj, Option.bind_some, m_held, put_00, b1, b2, held_min a3, Option.bind_some]
      show (if inb (nI j) 6 = true then _ else none) = _
      rw [if_pos h6]
      simp only [nb, wp_00, wp_8, riseW, b1]
    · rw [if_neg c2, if_neg c2, m_kp hj, Option.bind_some, if_pos h6]
      simp only [nb, wp_9]
  · rw [if_neg c1, if_neg c1]
end Mod
