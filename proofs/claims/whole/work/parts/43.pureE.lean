/-! the pure side E: whether a condition holds, on both sides -/
theorem orN (a b : Nat) : nI a ||| nI b = nI (a ||| b) := by
  apply Int32.toBitVec_inj.mp
  show BitVec.ofNat 32 a ||| BitVec.ofNat 32 b = BitVec.ofNat 32 (a ||| b)
  apply BitVec.eq_of_toNat_eq
  simp only [BitVec.toNat_or, BitVec.toNat_ofNat]
  exact Nat.or_mod_two_pow.symm
theorem andN (a b : Nat) : nI a &&& nI b = nI (a &&& b) := by
  apply Int32.toBitVec_inj.mp
  show BitVec.ofNat 32 a &&& BitVec.ofNat 32 b = BitVec.ofNat 32 (a &&& b)
  apply BitVec.eq_of_toNat_eq
  simp only [BitVec.toNat_and, BitVec.toNat_ofNat]
  exact Nat.and_mod_two_pow.symm
theorem or_b {v b : Nat} (hb : b < 2) : 2 * v ||| b = 2 * v + b := by
  have : b = 0 ∨ b = 1 := by omega
  rcases this with rfl | rfl
  · exact Nat.or_zero _
  · apply Nat.eq_of_testBit_eq
    intro i
    rw [Nat.testBit_or]
    cases i with
    | zero =>
      rw [Nat.testBit_zero, Nat.testBit_zero, Nat.testBit_zero, show (2 * v) % 2 = 0 by omega, show (2 * v + 1) % 2 = 1 by omega]
      rfl
    | succ i =>
      rw [Nat.testBit_succ, Nat.testBit_succ, Nat.testBit_succ, show (2 * v) / 2 = v by omega, show (2 * v + 1) / 2 = v by omega]
      simp
theorem not_b {v : Nat} : v ^^^ 1 = if v % 2 = 0 then v + 1 else v - 1 := by
  apply Nat.eq_of_testBit_eq
  intro i
  rw [Nat.testBit_xor]
  cases i with
  | zero =>
    rw [Nat.testBit_zero, Nat.testBit_zero, Nat.testBit_zero]
    by_cases h : v % 2 = 0
    · rw [if_pos h, h, show (v + 1) % 2 = 1 by omega]
      rfl
    · rw [if_neg h, show v % 2 = 1 by omega, show (v - 1) % 2 = 0 by omega]
      rfl
  | succ i =>
    rw [Nat.testBit_succ, Nat.testBit_succ, Nat.testBit_succ]
    by_cases h : v % 2 = 0
    · rw [if_pos h, show (v + 1) / 2 = v / 2 by omega]
      simp
    · rw [if_neg h, show (v - 1) / 2 = v / 2 by omega]
      simp
theorem and_b {v : Nat} (hv : v < 2 ^ 31) : (v / 2) &&& (v ||| 4294967294) = if v % 2 = 1 then v / 2 else v / 2 - v / 2 % 2 := by
  have hb : ∀ i, i < 31 → Nat.testBit 4294967294 (i + 1) = true := by decide
  apply Nat.eq_of_testBit_eq
  intro i
  rw [Nat.testBit_and, Nat.testBit_or]
  cases i with
  | zero =>
    rw [Nat.testBit_zero, Nat.testBit_zero, Nat.testBit_zero, Nat.testBit_zero]
    by_cases h : v % 2 = 1
    · rw [if_pos h, h]
      simp
    · rw [if_neg h, show v % 2 = 0 by omega, show (v / 2 - v / 2 % 2) % 2 = 0 by omega]
      simp
  | succ i =>
    have e : Nat.testBit (if v % 2 = 1 then v / 2 else v / 2 - v / 2 % 2) (i + 1) = Nat.testBit (v / 2) (i + 1) := by
      by_cases h : v % 2 = 1
      · rw [if_pos h]
      · rw [if_neg h, Nat.testBit_succ, Nat.testBit_succ, show (v / 2 - v / 2 % 2) / 2 = v / 2 / 2 by omega]
    rw [e]
    by_cases hi : i < 31
    · rw [hb i hi]
      simp
    · have hz : Nat.testBit (v / 2) (i + 1) = false := by
        apply Nat.testBit_lt_two_pow
        have : 2 ^ 31 ≤ 2 ^ (i + 1) := Nat.pow_le_pow_right (by omega) (by omega)
        omega
      rw [hz]
      simp
theorem orr_b {v : Nat} : (v / 2) ||| (v &&& 1) = if v % 2 = 1 then v / 2 - v / 2 % 2 + 1 else v / 2 := by
  rw [Nat.and_one_is_mod]
  by_cases h : v % 2 = 1
  · rw [if_pos h, h]
    apply Nat.eq_of_testBit_eq
    intro i
    rw [Nat.testBit_or]
    cases i with
    | zero =>
      rw [Nat.testBit_zero, Nat.testBit_zero, Nat.testBit_zero, show (v / 2 - v / 2 % 2 + 1) % 2 = 1 by omega]
      simp
    | succ i =>
      rw [Nat.testBit_succ, Nat.testBit_succ, Nat.testBit_succ, show (v / 2 - v / 2 % 2 + 1) / 2 = v / 2 / 2 by omega]
      simp
  · rw [if_neg h, show v % 2 = 0 by omega]
    exact Nat.or_zero _
/-- a token's test, told by the facts -/
def tv (fx : Nat → Int32) (t : Int32) : Nat := if ix t / 100 % 10 = 0 then (if nI (ix t % 100) ≤ fx (ix t / 1000) then 0 else 1) else if ix t / 100 % 10 = 1 then (if fx (ix t / 1000) = nI (ix t % 100) then 1 else 0) else if fx (ix t / 1000) ≤ nI (ix t % 100) then 0 else 1
def evN (fx : Nat → Int32) (t : Int32) (v : Nat) : Nat := if 0 ≤ t then 2 * v + tv fx t else if t = -33 then (if v % 2 = 0 then v + 1 else v - 1) else if t = -38 then (if v % 2 = 1 then v / 2 else v / 2 - v / 2 % 2) else if v % 2 = 1 then v / 2 - v / 2 % 2 + 1 else v / 2
def htN (t : Int32) (h : Nat) : Nat := if 0 ≤ t then h + 1 else if t = -33 then h else h - 1
def evS (fx : Nat → Int32) (tk : Nat → Int32) : Nat → Nat
  | 0 => 0
  | k + 1 => evN fx (tk k) (evS fx tk k)
def htS (tk : Nat → Int32) : Nat → Nat
  | 0 => 0
  | k + 1 => htN (tk k) (htS tk k)
/-- a token is one of these -/
def tokO (t : Int32) : Prop := (∃ f s x, f < 6 ∧ s < 3 ∧ x ≤ 99 ∧ t = nI (1000 * f + 100 * s + x)) ∨ t = -33 ∨ t = -38 ∨ t = -124
/-- the class's step and the reference's token -/
def tokR (a b c t : Int32) : Prop := (∃ f s x, f < 6 ∧ s < 3 ∧ x ≤ 99 ∧ t = nI (1000 * f + 100 * s + x) ∧ a = nI s ∧ b = nI f ∧ c = nI x) ∨ (t = -33 ∧ a = 3 ∧ b = 0) ∨ (t = -38 ∧ a = 4 ∧ b = 0) ∨ (t = -124 ∧ a = 5 ∧ b = 0)
/-- a condition is a whole one -/
def wfS (tk : Nat → Int32) (m : Nat) : Prop := htS tk m = 1 ∧ ∀ k, k < m → htS tk k ≤ 20 ∧ (tk k = -33 → 1 ≤ htS tk k) ∧ (tk k = -38 ∨ tk k = -124 → 2 ≤ htS tk k)
theorem tv_2 {fx : Nat → Int32} {t : Int32} : tv fx t < 2 := by
  unfold tv
  split
  · split <;> omega
  · split
    · split <;> omega
    · split <;> omega
/-- the reference's pile: v's bits, the lowest on top -/
def pR (g : Nat → Int32) : Nat → Nat → Prop
  | 0, v => v = 0
  | h + 1, v => g h = nI (v % 2) ∧ pR g h (v / 2)
theorem pR_lt {g : Nat → Int32} : ∀ {h v : Nat}, pR g h v → v < 2 ^ h
  | 0, v, hp => by
    have : v = 0 := hp
    rw [this]
    decide
  | h + 1, v, hp => by
    have := pR_lt hp.2
    rw [Nat.pow_succ]
    omega
theorem pR_u {g : Nat → Int32} {k : Nat} {x : Int32} : ∀ {h v : Nat}, h ≤ k → pR g h v → pR (upd g k x) h v
  | 0, v, _, hp => hp
  | h + 1, v, hk, hp => ⟨by rw [upd_g, if_neg (by omega)]; exact hp.1, pR_u (by omega) hp.2⟩
theorem pR_t {g : Nat → Int32} {h v b : Nat} (hb : b < 2) (hp : pR g h v) : pR (upd g h (nI b)) (h + 1) (2 * v + b) := by
  refine ⟨?_, ?_⟩
  · rw [upd_g, if_pos rfl, show (2 * v + b) % 2 = b by omega]
  · rw [show (2 * v + b) / 2 = v by omega]
    exact pR_u (Nat.le_refl _) hp
/-- a step of the reference that puts b on what stands below -/
theorem pR_p {g : Nat → Int32} {h v v' : Nat} (hp : pR g h (v' / 2)) (hb : v' % 2 = v) : pR (upd g h (nI v)) (h + 1) v' := by
  refine ⟨?_, pR_u (Nat.le_refl _) hp⟩
  rw [upd_g, if_pos rfl, hb]
section Con
variable {C D M W : Pm} {fx tk : Nat → Int32} {a m j : Nat}
theorem tok_t {f s x : Nat} (hf : f < 6) (hs : s < 3) (hx : x ≤ 99) : 0 ≤ nI (1000 * f + 100 * s + x) ∧ ix (nI (1000 * f + 100 * s + x)) / 1000 = f ∧ ix (nI (1000 * f + 100 * s + x)) / 100 % 10 = s ∧ ix (nI (1000 * f + 100 * s + x)) % 100 = x := by
  rw [ix_nI (by omega)]
  exact ⟨nI_pos' (by omega), by omega, by omega, by omega⟩
/-- the class: a condition -/
theorem e_cond (hT : ∀ k, k < m → tokR (D 8 (a + k)) (D 9 (a + k)) (D 10 (a + k)) (tk k)) (hw : wfS tk m) (ha : a + m ≤ 100) (hf : ∀ f, f < 6 → D 11 f = fx f) : f_X1_conditionHolds D (nI a) (nI (a + m)) = some (nI (evS fx tk m)) ∧ evS fx tk m < 2 := by
  have hlt : ∀ k, k ≤ m → evS fx tk k < 2 ^ htS tk k := by
    intro k
    induction k with
    | zero =>
      intro _
      show 0 < 2 ^ 0
      decide
    | succ k ih =>
      intro hk
      have h1 := ih (by omega)
      obtain ⟨w1, w2, w3⟩ := hw.2 k (by omega)
      have ht := tv_2 (fx := fx) (t := tk k)
      show evN fx (tk k) (evS fx tk k) < 2 ^ htN (tk k) (htS tk k)
      unfold evN htN
      by_cases c : 0 ≤ tk k
      · rw [if_pos c, if_pos c, Nat.pow_succ]
        omega
      · rw [if_neg c, if_neg c]
        by_cases c1 : tk k = -33
        · rw [if_pos c1, if_pos c1]
          have h2 := w2 c1
          obtain ⟨z, hz⟩ : ∃ z, htS tk k = z + 1 := ⟨htS tk k - 1, by omega⟩
          rw [hz, Nat.pow_succ] at h1 ⊢
          split <;> omega
        · rw [if_neg c1, if_neg c1]
          have h2 : 2 ≤ htS tk k := by
            apply w3
            rcases hT k (by omega) with ⟨f, s, x, q1, q2, q3, q4, -⟩ | ⟨q, -⟩ | ⟨q, -⟩ | ⟨q, -⟩
            · exact absurd (by rw [q4]; exact nI_pos' (by omega)) c
            · exact absurd q c1
            · exact Or.inl q
            · exact Or.inr q
          obtain ⟨z, hz⟩ : ∃ z, htS tk k = z + 2 := ⟨htS tk k - 2, by omega⟩
          have e1 : htS tk k - 1 = z + 1 := by omega
          rw [hz, Nat.pow_succ, Nat.pow_succ] at h1
          rw [e1, Nat.pow_succ]
          split
          · split <;> omega
          · split <;> omega
  have h20 : ∀ k, k < m → evS fx tk k < 2 ^ 20 := fun k hk => Nat.lt_of_lt_of_le (hlt k (by omega)) (Nat.pow_le_pow_right (by omega) (hw.2 k hk).1)
  have hm2 : evS fx tk m < 2 := by
    have := hlt m (Nat.le_refl _)
    rw [hw.1] at this
    exact this
  refine ⟨?_, hm2⟩
  obtain ⟨r, h1, h2⟩ := iter_I (body := fun t : Int32 × Int32 => f_X1_conditionHolds_B5 D (nI (a + m)) t.1 t.2) (fun i u => u.1 = nI (evS fx tk i) ∧ u.2 = nI (a + i)) (fun r => r = nI (evS fx tk m)) m
    (fun i u hi hI => by
      obtain ⟨u1, u2⟩ := u
      obtain ⟨q1, q2⟩ := hI
      dsimp only at q1 q2
      subst q1 q2
      show ∃ s', f_X1_conditionHolds_B5 D (nI (a + m)) (nI (evS fx tk i)) (nI (a + i)) = _ ∧ _
      have hin : inb (nI (a + i)) 100 = true := inb_nI (by omega) (by decide)
      have hix : ix (nI (a + i)) = a + i := ix_nI (by omega)
      have hnx : nI (a + i) + 1 = nI (a + (i + 1)) := nI_1 _
      have hv := h20 i hi
      have e1 : (1 : Int32) &&& 31 = 1 := by decide
      have hsh : nI (evS fx tk i) <<< (1 : Int32) = nI (2 * evS fx tk i) := by
        rw [pk_shlN 1 1 (by decide) (by omega)]
        congr 1
        omega
      have hsr : nI (evS fx tk i) >>> (1 : Int32) = nI (evS fx tk i / 2) := pk_shrN (by omega) 1 1 (by decide)
      have e2 : (-2 : Int32) = nI 4294967294 := by decide
      have eS : evS fx tk (i + 1) = evN fx (tk i) (evS fx tk i) := rfl
      unfold f_X1_conditionHolds_B5
      rw [if_neg (nI_ge (by omega) (by omega))]
      simp only [hin, hix, if_true, e1, hsh, hsr]
      unfold f_X1_conditionHolds_J88 f_X1_conditionHolds_J113 f_X1_conditionHolds_J138 f_X1_conditionHolds_J170
      generalize evS fx tk i = v at hv eS
      rcases hT i hi with ⟨f, s, x, q1, q2, q3, q4, q5, q6, q7⟩ | ⟨q4, q5, q6⟩ | ⟨q4, q5, q6⟩ | ⟨q4, q5, q6⟩
      · obtain ⟨t1, t2, t3, t4⟩ := tok_t q1 q2 q3
        rw [q4] at eS
        unfold evN tv at eS
        rw [if_pos t1, t2, t3, t4] at eS
        rw [q5, q6, q7, ix_nI (by omega), hf f q1, if_pos (inb_nI q1 (by decide))]
        rcases (show s = 0 ∨ s = 1 ∨ s = 2 by omega) with hs | hs | hs
        · subst hs
          rw [if_pos rfl] at eS
          rw [if_pos (show nI 0 = (0 : Int32) from rfl)]
          by_cases cc : nI x ≤ fx f
          · rw [if_pos cc] at eS
            rw [if_pos cc, eS, show (0 : Int32) = nI 0 from rfl, orN, or_b (by omega)]
            exact ⟨_, rfl, rfl, hnx⟩
          · rw [if_neg cc] at eS
            rw [if_neg cc, eS, show (1 : Int32) = nI 1 from rfl, orN, or_b (by omega)]
            exact ⟨_, rfl, rfl, hnx⟩
        · subst hs
          rw [if_neg (by decide), if_pos rfl] at eS
          rw [if_neg (by decide), if_pos (show nI 1 = (1 : Int32) from rfl)]
          by_cases cc : fx f = nI x
          · rw [if_pos cc] at eS
            rw [if_pos cc, eS, show (1 : Int32) = nI 1 from rfl, orN, or_b (by omega)]
            exact ⟨_, rfl, rfl, hnx⟩
          · rw [if_neg cc] at eS
            rw [if_neg cc, eS, show (0 : Int32) = nI 0 from rfl, orN, or_b (by omega)]
            exact ⟨_, rfl, rfl, hnx⟩
        · subst hs
          rw [if_neg (by decide), if_neg (by decide)] at eS
          rw [if_neg (by decide), if_neg (by decide), if_pos (show nI 2 = (2 : Int32) from rfl)]
          by_cases cc : fx f ≤ nI x
          · rw [if_pos cc] at eS
            rw [if_pos cc, eS, show (0 : Int32) = nI 0 from rfl, orN, or_b (by omega)]
            exact ⟨_, rfl, rfl, hnx⟩
          · rw [if_neg cc] at eS
            rw [if_neg cc, eS, show (1 : Int32) = nI 1 from rfl, orN, or_b (by omega)]
            exact ⟨_, rfl, rfl, hnx⟩
      · rw [q4] at eS
        unfold evN at eS
        rw [if_neg (by decide), if_pos rfl] at eS
        rw [q5, q6, if_pos (by decide), if_neg (by decide), if_neg (by decide), if_neg (by decide), if_pos rfl, eS, show (1 : Int32) = nI 1 from rfl, xorN, not_b]
        exact ⟨_, rfl, rfl, hnx⟩
      · rw [q4] at eS
        unfold evN at eS
        rw [if_neg (by decide), if_neg (by decide), if_pos rfl] at eS
        rw [q5, q6, if_pos (by decide), if_neg (by decide), if_neg (by decide), if_neg (by decide), if_neg (by decide), if_pos rfl, eS, e2, orN, andN, and_b (by omega)]
        exact ⟨_, rfl, rfl, hnx⟩
      · rw [q4] at eS
        unfold evN at eS
        rw [if_neg (by decide), if_neg (by decide), if_neg (by decide)] at eS
        rw [q5, q6, if_pos (by decide), if_neg (by decide), if_neg (by decide), if_neg (by decide), if_neg (by decide), if_neg (by decide), eS, show (1 : Int32) = nI 1 from rfl, andN, orN, orr_b]
        exact ⟨_, rfl, rfl, hnx⟩)
    (fun u hI => by
      obtain ⟨u1, u2⟩ := u
      obtain ⟨q1, q2⟩ := hI
      dsimp only at q1 q2
      subst q1 q2
      refine ⟨_, ?_, rfl⟩
      show f_X1_conditionHolds_B5 D (nI (a + m)) (nI (evS fx tk m)) (nI (a + m)) = _
      unfold f_X1_conditionHolds_B5
      rw [if_pos (Int32.le_refl _)]) m 0 (0, nI a) (by omega) ⟨rfl, rfl⟩ 200 (by omega)
  subst h2
  unfold f_X1_conditionHolds f_X1_conditionHolds_H5
  rw [h1, Option.bind_some]
  unfold f_X1_conditionHolds_J176
  rcases (show evS fx tk m = 0 ∨ evS fx tk m = 1 by omega) with e | e
  · rw [e]
    decide
  · rw [e]
    decide
end Con
