/-! the pure side 1: memory, loops, small numbers; a day of a well, and that the class's own day is that -/
theorem up2_g {P : Pm} {c j c' : Nat} {x : Int32} : up2 P c j x c' = if c' = c then upd (P c) j x else P c' := rfl
theorem upd_g {f : Nat → Int32} {k j : Nat} {x : Int32} : upd f k x j = if j = k then x else f j := rfl
theorem ix_nI {j : Nat} (h : j < 2 ^ 31) : ix (nI j) = j := nI_clamp h
theorem inb_nI {j N : Nat} (h : j < N) (hN : N ≤ 2 ^ 31) : inb (nI j) N = true := by
  unfold inb
  rw [Bool.and_eq_true, decide_eq_true_eq, decide_eq_true_eq]
  exact ⟨nI_pos' (by omega), by show (nI j).toNatClampNeg < N; rw [nI_clamp (by omega)]; exact h⟩
theorem iter_s {S ρ : Type} {body : S → Option (S ⊕ ρ)} {n : Nat} {s : S} : iter body (n + 1) s = match body s with | none => none | some (.inl s') => iter body n s' | some (.inr r) => some r := rfl
/-- a loop that goes N times, with an invariant -/
theorem iter_I {S ρ : Type} {body : S → Option (S ⊕ ρ)} (I : Nat → S → Prop) (Post : ρ → Prop) (N : Nat)
    (hs : ∀ k s, k < N → I k s → ∃ s', body s = some (.inl s') ∧ I (k + 1) s') (he : ∀ s, I N s → ∃ r, body s = some (.inr r) ∧ Post r) :
    ∀ (d k : Nat) (s : S), N = k + d → I k s → ∀ n, d < n → ∃ r, iter body n s = some r ∧ Post r
  | 0, k, s, hk, hI, n, hn => by
    obtain ⟨m, rfl⟩ : ∃ m, n = m + 1 := ⟨n - 1, by omega⟩
    have e : N = k := by omega
    subst e
    obtain ⟨r, h1, h2⟩ := he s hI
    exact ⟨r, by rw [iter_s, h1], h2⟩
  | d + 1, k, s, hk, hI, n, hn => by
    obtain ⟨m, rfl⟩ : ∃ m, n = m + 1 := ⟨n - 1, by omega⟩
    obtain ⟨s', h1, h2⟩ := hs k s (by omega) hI
    obtain ⟨r, h3, h4⟩ := iter_I I Post N hs he d (k + 1) s' (by omega) h2 m (by omega)
    exact ⟨r, by rw [iter_s, h1]; exact h3, h4⟩
/-- a loop that may end early: each step goes on below N or ends with Post -/
theorem iter_E {S ρ : Type} {body : S → Option (S ⊕ ρ)} (I : Nat → S → Prop) (Post : ρ → Prop) (N : Nat)
    (hs : ∀ k s, k ≤ N → I k s → (k < N ∧ ∃ s', body s = some (.inl s') ∧ I (k + 1) s') ∨ ∃ r, body s = some (.inr r) ∧ Post r) :
    ∀ (d k : Nat) (s : S), N = k + d → I k s → ∀ n, d < n → ∃ r, iter body n s = some r ∧ Post r
  | 0, k, s, hk, hI, n, hn => by
    obtain ⟨m, rfl⟩ : ∃ m, n = m + 1 := ⟨n - 1, by omega⟩
    rcases hs k s (by omega) hI with ⟨h0, -⟩ | ⟨r, h1, h2⟩
    · omega
    · exact ⟨r, by rw [iter_s, h1], h2⟩
  | d + 1, k, s, hk, hI, n, hn => by
    obtain ⟨m, rfl⟩ : ∃ m, n = m + 1 := ⟨n - 1, by omega⟩
    rcases hs k s (by omega) hI with ⟨-, s', h1, h2⟩ | ⟨r, h1, h2⟩
    · obtain ⟨r, h3, h4⟩ := iter_E I Post N hs d (k + 1) s' (by omega) h2 m (by omega)
      exact ⟨r, by rw [iter_s, h1]; exact h3, h4⟩
    · exact ⟨r, by rw [iter_s, h1], h2⟩
def imin (a b : Int32) : Int32 := if b < a then b else a
def imax (a b : Int32) : Int32 := if a < b then b else a
theorem e_min {a b : Int32} : f_J9_min_7cf53 a b = some (imin a b) := by
  unfold f_J9_min_7cf53 imin
  split <;> rfl
theorem e_max {a b : Int32} : f_J9_max_7cf53 a b = some (imax a b) := by
  unfold f_J9_max_7cf53 imax
  split <;> rfl
-- a well: cell 0: depth, day, count, turned; 5 kind, 6 v, 7 wants, 8 every, 9 has, 10 left, 11 owes, 12 sent, 13 line, 14 rows
def riseW (W : Pm) (a : Int32) : Pm := up2 W 0 0 (imin 9999 (W 0 0 + a))
def stW (W : Pm) (j : Nat) : Int32 := if W 5 j = 4 then (if W 11 j ≤ 30 then 0 else 1) else 0
def kpW (W : Pm) (j : Nat) : Int32 := if W 5 j = 1 then 3 + W 6 j else if W 5 j = 4 then 3 + W 6 j else 3
def brW (W : Pm) (j : Nat) : Int32 := if W 5 j = 3 then W 9 j - W 9 j / 10 else if W 5 j = 6 then W 9 j - W 9 j / 10 else W 9 j
theorem e_rise {W : Pm} {a : Int32} : f_X5_rise W a = some (riseW W a) := by
  unfold f_X5_rise
  rw [e_min]
  rfl
section One
variable {W : Pm} {j : Nat}
theorem e_st (hj : j < 6) : f_X5_staysAway W (nI j) = some (stW W j) := by
  have h6 : inb (nI j) 6 = true := inb_nI hj (by decide)
  have hx : ix (nI j) = j := ix_nI (by omega)
  simp only [f_X5_staysAway, h6, hx, if_true, stW]
  split
  · split <;> rfl
  · rfl
theorem e_kp (hj : j < 6) : f_X5_keeps W (nI j) = some (kpW W j) := by
  have h6 : inb (nI j) 6 = true := inb_nI hj (by decide)
  have hx : ix (nI j) = j := ix_nI (by omega)
  simp only [f_X5_keeps, f_X5_keeps_J20, h6, hx, if_true, kpW]
  split
  · rfl
  · split <;> rfl
theorem e_br (hj : j < 6) : f_X5_bringsBack W (nI j) = some (brW W j) := by
  have h6 : inb (nI j) 6 = true := inb_nI hj (by decide)
  have hx : ix (nI j) = j := ix_nI (by omega)
  simp only [f_X5_bringsBack, f_X5_bringsBack_J21, h6, hx, if_true, brW]
  split
  · rfl
  · split <;> rfl
end One
theorem xorN (a b : Nat) : nI a ^^^ nI b = nI (a ^^^ b) := by
  apply Int32.toBitVec_inj.1
  show BitVec.ofNat 32 a ^^^ BitVec.ofNat 32 b = BitVec.ofNat 32 (a ^^^ b)
  apply BitVec.eq_of_getLsbD_eq
  intro i hi
  simp [hi]
theorem e_fm {d : Nat} (hd : d < 2 ^ 31) : f_J9_floorMod_7cf53 (nI d) 4 = some (nI (d % 4)) := by
  have h4 : ¬ (4 : Int32) = 0 := by decide
  have hx : (0 : Int32) ≤ nI d ^^^ 4 := by
    rw [show (4 : Int32) = nI 4 from rfl, xorN]
    exact nI_pos' (Nat.xor_lt_two_pow hd (by decide))
  unfold f_J9_floorMod_7cf53
  rw [if_neg h4, if_pos hx, show (4 : Int32) = nI 4 from rfl, pk_rem hd (by decide) (by decide)]
/-- what a day's walk needs of a well: how many, the line's entries, the day -/
def LInv (W : Pm) : Prop := ∃ n d, n ≤ 6 ∧ d < 2 ^ 30 ∧ W 0 2 = nI n ∧ W 0 1 = nI d ∧ ∀ k, k < n → ∃ j, j < n ∧ W 13 k = nI j
def asN (W : Pm) (mk : Int32) (j : Nat) : Int32 := if W 5 j = 2 then 2 * W 7 j else if W 5 j = 5 then imin (2 * W 7 j) (imax 0 (W 0 0 - mk)) else if W 5 j = 6 then W 7 j + W 14 (4 * j + ix (W 0 1) % 4) else W 7 j
def awayW (fine : Int32) (W : Pm) (j : Nat) : Pm :=
  let W1 := up2 W 12 j (W 12 j + 1)
  let W2 := up2 W1 0 3 (W1 0 3 + 1)
  up2 W2 11 j (imax 0 (W2 11 j - fine))
def takeW (W : Pm) (j : Nat) (a : Int32) : Pm :=
  let W1 := up2 W 9 j a
  let W2 := up2 W1 0 0 (W1 0 0 - a)
  up2 W2 10 j (kpW W2 j)
def askW (mk fine : Int32) (W : Pm) (j : Nat) : Pm :=
  let a := asN W mk j
  if a ≤ 0 then awayW fine W j else if W 0 0 - a < mk then awayW fine W j else takeW W j a
def keepW (rt : Pm → Nat → Int32) (W : Pm) (j : Nat) : Pm :=
  let W1 := up2 W 11 j (imin 99999 (W 11 j + rt W j * W 9 j / 10))
  let W2 := up2 W1 10 j (imax 0 (W1 10 j - 1))
  if W2 10 j ≤ 0 then (if stW W2 j = 0 then up2 (riseW W2 (brW W2 j)) 9 j 0 else up2 W2 10 j (kpW W2 j)) else W2
def oneW (rt : Pm → Nat → Int32) (mk ab fine : Int32) (W : Pm) (j : Nat) : Pm :=
  if W 9 j ≤ 0 then (if nI j = ab then W else if W 8 j ≤ 0 then W else if W 0 1 - W 0 1 / W 8 j * W 8 j = 0 then askW mk fine W j else W) else keepW rt W j
def goW (rt : Pm → Nat → Int32) (mk ab fine : Int32) : Nat → Pm → Pm
  | 0, W => W
  | k + 1, W => oneW rt mk ab fine (goW rt mk ab fine k W) (ix (goW rt mk ab fine k W 13 k))
def dayW (rt : Pm → Nat → Int32) (mk ab fine spring : Int32) (W : Pm) : Pm :=
  let V := riseW (goW rt mk ab fine (ix (W 0 2)) W) spring
  up2 V 0 1 (V 0 1 + 1)
theorem e_as {W : Pm} {mk : Int32} {j : Nat} (hj : j < 6) (hL : LInv W) : f_X5_asks W (nI j) mk = some (asN W mk j) := by
  have h6 : inb (nI j) 6 = true := inb_nI hj (by decide)
  have hx : ix (nI j) = j := ix_nI (by omega)
  obtain ⟨n, d, hn, hd, h1, h2, h3⟩ := hL
  simp only [f_X5_asks, f_X5_asks_J96, h6, hx, if_true, e_min, e_max, Option.bind_some, asN]
  split
  · rfl
  · split
    · rfl
    · split
      · have e : nI j * 4 + nI (d % 4) = nI (4 * j + d % 4) := by
          rw [show (4 : Int32) = nI 4 from rfl, pk_mul, nI_add, Nat.mul_comm]
        have hr : 4 * j + d % 4 < 24 := by omega
        have hb : inb (nI (4 * j + d % 4)) 24 = true := inb_nI hr (by decide)
        have hc : ix (nI (4 * j + d % 4)) = 4 * j + d % 4 := ix_nI (by omega)
        have hdd : ix (nI d) = d := ix_nI (by omega)
        rw [h2, e_fm (by omega)]
        simp only [Option.bind_some, e, hb, hc, hdd, if_true]
      · rfl
theorem e_away {W : Pm} {mk fine : Int32} {j : Nat} (hj : j < 6) : f_X5_comeAsking_J57 W (nI j) fine = some (awayW fine W j) := by
  have h6 : inb (nI j) 6 = true := inb_nI hj (by decide)
  have hx : ix (nI j) = j := ix_nI (by omega)
  simp only [f_X5_comeAsking_J57, h6, hx, if_true, nb, e_max, Option.bind_some, awayW]
theorem e_ask {W : Pm} {mk fine : Int32} {j : Nat} (hj : j < 6) (hL : LInv W) : f_X5_comeAsking W (nI j) mk fine = some (askW mk fine W j) := by
  have h6 : inb (nI j) 6 = true := inb_nI hj (by decide)
  have hx : ix (nI j) = j := ix_nI (by omega)
  unfold f_X5_comeAsking
  rw [e_as hj hL]
  simp only [Option.bind_some, e_away (mk := mk) hj, askW, h6, hx, if_true, nb, e_kp hj, takeW]
  split
  · rfl
  · split <;> rfl
/-- the country's facts are a scratch row -/
def CEq (C D : Pm) : Prop := ∀ c, c ≠ 11 → C c = D c
/-- a country's rate, as a function of the well -/
def RateC (C : Pm) (rt : Pm → Nat → Int32) : Prop := ∀ (D W : Pm) (j : Nat), CEq C D → j < 6 → ∃ D', f_X1_rate D W (nI j) = some (rt W j, D') ∧ CEq C D'
theorem e_keep {C D W : Pm} {rt : Pm → Nat → Int32} {j : Nat} (hj : j < 6) (hR : RateC C rt) (hD : CEq C D) : ∃ D', f_X5_keepOn W D (nI j) = some (keepW rt W j, D') ∧ CEq C D' := by
  have h6 : inb (nI j) 6 = true := inb_nI hj (by decide)
  have hx : ix (nI j) = j := ix_nI (by omega)
  obtain ⟨D', h1, h2⟩ := hR D W j hD hj
  refine ⟨D', ?_, h2⟩
  simp only [f_X5_keepOn, h6, hx, if_true, h1, bn2, Option.bind_some, e_min, e_max, nb, keepW]
  split
  · rw [e_st hj]
    simp only [Option.bind_some]
    split
    · rw [e_br hj]
      simp only [Option.bind_some, e_rise]
    · rw [e_kp hj]
      simp only [Option.bind_some]
  · rfl

section Fr
variable {rt : Pm → Nat → Int32} {mk ab fine spring : Int32} {W : Pm} {j : Nat}
theorem riseW_c {a : Int32} {c : Nat} (h : c ≠ 0) : riseW W a c = W c := by
  unfold riseW
  rw [up2_g, if_neg h]
theorem riseW_0 {a : Int32} {i : Nat} (h : i ≠ 0) : riseW W a 0 i = W 0 i := by
  unfold riseW
  rw [up2_g, if_pos rfl, upd_g, if_neg h]
theorem awayW_c {c : Nat} (h0 : c ≠ 0) (h1 : c ≠ 11) (h2 : c ≠ 12) : awayW fine W j c = W c := by
  simp only [awayW, up2_g, h0, h1, h2, if_false]
theorem takeW_c {a : Int32} {c : Nat} (h0 : c ≠ 0) (h1 : c ≠ 9) (h2 : c ≠ 10) : takeW W j a c = W c := by
  simp only [takeW, up2_g, h0, h1, h2, if_false]
theorem awayW_0 {i : Nat} (h : i ≠ 3) : awayW fine W j 0 i = W 0 i := by
  simp only [awayW, up2_g, upd_g, h, if_false, if_true, show ¬ (0 : Nat) = 11 by decide, show ¬ (0 : Nat) = 12 by decide]
theorem takeW_0 {a : Int32} {i : Nat} (h : i ≠ 0) : takeW W j a 0 i = W 0 i := by
  simp only [takeW, up2_g, upd_g, h, if_false, if_true, show ¬ (0 : Nat) = 10 by decide, show ¬ (0 : Nat) = 9 by decide]
theorem oneW_c {c : Nat} (h0 : c ≠ 0) (h9 : c ≠ 9) (h10 : c ≠ 10) (h11 : c ≠ 11) (h12 : c ≠ 12) : oneW rt mk ab fine W j c = W c := by
  unfold oneW askW keepW
  split
  · split
    · rfl
    · split
      · rfl
      · split
        · dsimp only
          split
          · exact awayW_c h0 h11 h12
          · split
            · exact awayW_c h0 h11 h12
            · exact takeW_c h0 h9 h10
        · rfl
  · dsimp only
    split
    · split
      · rw [up2_g, if_neg h9, riseW_c h0, up2_g, if_neg h10, up2_g, if_neg h11]
      · rw [up2_g, if_neg h10, up2_g, if_neg h10, up2_g, if_neg h11]
    · rw [up2_g, if_neg h10, up2_g, if_neg h11]
theorem oneW_0 {i : Nat} (h0 : i ≠ 0) (h3 : i ≠ 3) : oneW rt mk ab fine W j 0 i = W 0 i := by
  unfold oneW askW keepW
  split
  · split
    · rfl
    · split
      · rfl
      · split
        · dsimp only
          split
          · exact awayW_0 h3
          · split
            · exact awayW_0 h3
            · exact takeW_0 h0
        · rfl
  · dsimp only
    split
    · split
      · rw [up2_g, if_neg (by decide), riseW_0 h0, up2_g, if_neg (by decide), up2_g, if_neg (by decide)]
      · rw [up2_g, if_neg (by decide), up2_g, if_neg (by decide), up2_g, if_neg (by decide)]
    · rw [up2_g, if_neg (by decide), up2_g, if_neg (by decide)]
theorem goW_c {c : Nat} (h0 : c ≠ 0) (h9 : c ≠ 9) (h10 : c ≠ 10) (h11 : c ≠ 11) (h12 : c ≠ 12) : ∀ k, goW rt mk ab fine k W c = W c
  | 0 => rfl
  | k + 1 => by
    show oneW _ _ _ _ _ _ c = _
    rw [oneW_c h0 h9 h10 h11 h12, goW_c h0 h9 h10 h11 h12 k]
theorem goW_0 {i : Nat} (h0 : i ≠ 0) (h3 : i ≠ 3) : ∀ k, goW rt mk ab fine k W 0 i = W 0 i
  | 0 => rfl
  | k + 1 => by
    show oneW _ _ _ _ _ _ 0 i = _
    rw [oneW_0 h0 h3, goW_0 h0 h3 k]
theorem goW_L (hL : LInv W) (k : Nat) : LInv (goW rt mk ab fine k W) := by
  obtain ⟨n, d, hn, hd, h1, h2, h3⟩ := hL
  refine ⟨n, d, hn, hd, ?_, ?_, ?_⟩
  · rw [goW_0 (by decide) (by decide)]; exact h1
  · rw [goW_0 (by decide) (by decide)]; exact h2
  · rw [goW_c (by decide) (by decide) (by decide) (by decide) (by decide)]; exact h3
end Fr
theorem e_day {C D W : Pm} {rt : Pm → Nat → Int32} {mk ab : Int32} (hL : LInv W) (hR : RateC C rt) (hD : CEq C D) : ∃ D', f_X5_goDay W D mk ab = some (dayW rt mk ab (C 0 2) (C 0 1) W, D') ∧ CEq C D' := by
  obtain ⟨n, d, hn, hd, h1, h2, h3⟩ := id hL
  have hit := iter_I (body := fun t : Int32 × Pm × Pm => f_X5_goDay_B3 mk ab t.1 t.2.1 t.2.2) (fun k t => t.1 = nI k ∧ t.2.1 = goW rt mk ab (C 0 2) k W ∧ CEq C t.2.2) (fun r => r.1 = goW rt mk ab (C 0 2) n W ∧ CEq C r.2) n
    (fun k t hk hI => ?_) (fun t hI => ?_) n 0 (0, W, D) (by omega) ⟨rfl, rfl, hD⟩ 200 (by omega)
  · obtain ⟨⟨P', Q'⟩, hit, hP, hQ⟩ := hit
    dsimp only at hP hQ
    refine ⟨Q', ?_, hQ⟩
    unfold f_X5_goDay f_X5_goDay_H3
    rw [hit]
    simp only [bn2, Option.bind_some, f_X5_goDay_J89, e_rise, nb]
    have hn2 : ix (W 0 2) = n := by rw [h1]; exact ix_nI (by omega)
    rw [hP, ← hQ 0 (by decide)]
    unfold dayW
    rw [hn2]
  · obtain ⟨v, P, Q⟩ := t
    obtain ⟨hv, hP, hQ⟩ := hI
    dsimp only at hv hP hQ
    subst hv
    have hL2 : LInv P := by rw [hP]; exact goW_L hL k
    obtain ⟨j, hj, hj2⟩ := h3 k hk
    have e2 : P 0 2 = nI n := by rw [hP, goW_0 (by decide) (by decide)]; exact h1
    have e13 : P 13 k = nI j := by rw [hP, goW_c (by decide) (by decide) (by decide) (by decide) (by decide)]; exact hj2
    have hk6 : inb (nI k) 6 = true := inb_nI (by omega) (by decide)
    have hxk : ix (nI k) = k := ix_nI (by omega)
    have hj6 : inb (nI j) 6 = true := inb_nI (by omega) (by decide)
    have hxj : ix (nI j) = j := ix_nI (by omega)
    have hc : ¬ nI n ≤ nI k := nI_ge hk (by omega)
    have hgo : goW rt mk ab (C 0 2) (k + 1) W = oneW rt mk ab (C 0 2) P j := by
      show oneW _ _ _ _ _ _ = _
      rw [← hP, e13, hxj]
    obtain ⟨D', hk1, hk2⟩ := e_keep (W := P) (j := j) (by omega) hR hQ
    show ∃ s', f_X5_goDay_B3 mk ab (nI k) P Q = _ ∧ _
    unfold f_X5_goDay_B3 f_X5_goDay_J83
    rw [hxk, e13, e2, if_neg hc, if_pos hk6, if_pos hj6, hxj, nI_1]
    unfold oneW at hgo
    by_cases c1 : P 9 j ≤ 0
    · rw [if_pos c1] at hgo ⊢
      by_cases c2 : nI j = ab
      · rw [if_pos c2] at hgo ⊢
        exact ⟨_, rfl, rfl, hgo.symm, hQ⟩
      · rw [if_neg c2] at hgo ⊢
        rw [if_pos hj6]
        by_cases c3 : P 8 j ≤ 0
        · rw [if_pos c3] at hgo ⊢
          exact ⟨_, rfl, rfl, hgo.symm, hQ⟩
        · have c4 : ¬ P 8 j = 0 := fun e => c3 (by rw [e]; exact Int32.le_refl 0)
          rw [if_neg c3] at hgo ⊢
          rw [if_pos hj6, if_neg c4]
          by_cases c5 : P 0 1 - P 0 1 / P 8 j * P 8 j = 0
          · rw [if_pos c5] at hgo ⊢
            rw [e_ask (by omega) hL2]
            exact ⟨_, rfl, rfl, by rw [← hQ 0 (by decide)]; exact hgo.symm, hQ⟩
          · rw [if_neg c5] at hgo ⊢
            exact ⟨_, rfl, rfl, hgo.symm, hQ⟩
    · rw [if_neg c1] at hgo ⊢
      rw [hk1]
      exact ⟨_, rfl, rfl, hgo.symm, hk2⟩
  · obtain ⟨v, P, Q⟩ := t
    obtain ⟨hv, hP, hQ⟩ := hI
    dsimp only at hv hP hQ
    subst hv
    have e2 : P 0 2 = nI n := by rw [hP, goW_0 (by decide) (by decide)]; exact h1
    show ∃ r, f_X5_goDay_B3 mk ab (nI n) P Q = _ ∧ _
    unfold f_X5_goDay_B3
    rw [e2, if_pos (Int32.le_refl _)]
    exact ⟨(P, Q), rfl, hP, hQ⟩
