/-! the pure side 72: shift -/
section Sh
variable {s t : Mm} {P Q A : Pm} {lm lm' : Ml} {n d k m b c : Nat} {x a1 a2 a3 a4 a5 : Int32}
/-- there is room for n from i on -/
def RO (i n : Int32) (m : Nat) : Prop := ∃ y z, i = nI y ∧ n = nI z ∧ y < 2 ^ 31 ∧ z < 2 ^ 31 ∧ y + z ≤ m
theorem e_room {t : Nat} {i n : Int32} (ht : t < 6) (h2 : A 2 t = nI m) (hm : m ≤ 60) : (RO i n m ∧ f_X4_hasRoom A (nI t) i n = some 1) ∨ (¬ RO i n m ∧ f_X4_hasRoom A (nI t) i n = some 0) := by
  unfold f_X4_hasRoom
  by_cases c1 : i < 0
  · right
    rw [if_pos c1]
    refine ⟨fun ⟨y, z, e1, e2, h1, h2, h3⟩ => ?_, rfl⟩
    rw [e1] at c1
    exact absurd (nI_pos' h1) (Int32.not_le.mpr c1)
  · by_cases c2 : n < 0
    · right
      rw [if_neg c1, if_pos c2]
      refine ⟨fun ⟨y, z, e1, e2, h1, h2, h3⟩ => ?_, rfl⟩
      rw [e2] at c2
      exact absurd (nI_pos' h2) (Int32.not_le.mpr c2)
    · obtain ⟨y, hy, rfl⟩ := nIof c1
      obtain ⟨z, hz, rfl⟩ := nIof c2
      have hc : 0 < lg_cmp ((nI y).toInt64 + (nI z).toInt64) (A 2 t).toInt64 ↔ m < y + z := by
        rw [nI_long hy, nI_long hz, lN_add, h2, nI_long (by omega), lg_cmp_gt, pk_lLT (by omega) (by omega)]
      rw [if_neg c1, if_neg c2, if_pos (inb_nI ht (by decide)), ix_nI (by omega)]
      by_cases c3 : m < y + z
      · right
        rw [if_pos (hc.mpr c3)]
        refine ⟨fun ⟨y', z', e1, e2, h1, h2, h3⟩ => ?_, rfl⟩
        have := nIeq e1 hy h1
        have := nIeq e2 hz h2
        omega
      · left
        rw [if_neg (fun w => c3 (hc.mp w))]
        exact ⟨⟨y, z, rfl, rfl, hy, hz, by omega⟩, rfl⟩
/-- a row's places from b on become those of f -/
def cL (lm : Ml) (o c b : Nat) (f : Nat → Int64) (k : Nat) : Ml := setO lm o (setO (lm o) c (fun j => if b ≤ j ∧ j < b + k then f (j - b) else lm o c j))
theorem cL_0 {o : Nat} {f : Nat → Int64} : cL lm o c b f 0 = lm := by
  unfold cL
  have : (fun j => if b ≤ j ∧ j < b + 0 then f (j - b) else lm o c j) = lm o c := by
    funext j
    rw [if_neg (by omega)]
  rw [this, setO_i, setO_i]
theorem cL_g {o o' c' j : Nat} {f : Nat → Int64} : cL lm o c b f k o' c' j = if o' = o ∧ c' = c ∧ b ≤ j ∧ j < b + k then f (j - b) else lm o' c' j := by
  unfold cL
  by_cases h1 : o' = o
  · subst h1
    rw [setO_s]
    by_cases h2 : c' = c
    · subst h2
      rw [setO_s]
      by_cases h3 : b ≤ j ∧ j < b + k
      · rw [if_pos h3, if_pos ⟨rfl, rfl, h3⟩]
      · rw [if_neg h3, if_neg (fun w => h3 w.2.2)]
    · rw [setO_n h2, if_neg (fun w => h2 w.2.1)]
  · rw [setO_n h1, if_neg (fun w => h1 w.1)]
theorem cL_s {o : Nat} {f : Nat → Int64} : setO (cL lm o c b f k) o (up2L ((cL lm o c b f k) o) c (b + k) (f k)) = cL lm o c b f (k + 1) := by
  funext o' c' j
  rw [cL_g]
  by_cases h1 : o' = o
  · subst h1
    rw [setO_s, up2L_g, cL_g]
    by_cases h2 : c' = c ∧ j = b + k
    · rw [if_pos h2, if_pos ⟨rfl, h2.1, by omega, by omega⟩, show j - b = k by omega]
    · rw [if_neg h2]
      by_cases h3 : c' = c ∧ b ≤ j ∧ j < b + k
      · rw [if_pos ⟨rfl, h3⟩, if_pos ⟨rfl, h3.1, by omega, by omega⟩]
      · rw [if_neg (fun w => h3 w.2), if_neg (fun w => by omega)]
  · rw [setO_n h1, cL_g, if_neg (fun w => h1 w.1), if_neg (fun w => h1 w.1)]
theorem l_s1 {t y z : Nat} {v3 v4 : Int32} (ht : t < 6) (h : y + z ≤ 60) : iter (fun u : Int32 × Ml => f_X7_shift_B104 P (nI t) (nI y) v3 v4 (nI z) u.1 u.2) 200 (0, lm) = some (cL lm 17 83 0 (fun k => lm 17 82 (60 * t + y + k)) z) := by
  obtain ⟨r, h1, h2⟩ := iter_I (body := fun u : Int32 × Ml => f_X7_shift_B104 P (nI t) (nI y) v3 v4 (nI z) u.1 u.2) (fun k u => u.1 = nI k ∧ u.2 = cL lm 17 83 0 (fun k => lm 17 82 (60 * t + y + k)) k) (fun r => r = cL lm 17 83 0 (fun k => lm 17 82 (60 * t + y + k)) z) z
    (fun k u hk hI => by
      obtain ⟨u1, u2⟩ := u
      obtain ⟨g1, g2⟩ := hI
      dsimp only at g1 g2
      subst g1 g2
      show ∃ s', f_X7_shift_B104 P (nI t) (nI y) v3 v4 (nI z) (nI k) (cL lm 17 83 0 (fun k => lm 17 82 (60 * t + y + k)) k) = _ ∧ _
      unfold f_X7_shift_B104
      have e60 : 60 * nI t + nI y + nI k = nI (60 * t + y + k) := by rw [show (60 : Int32) = nI 60 from rfl, pk_mul, nI_add, nI_add]
      rw [if_neg (nI_ge hk (by omega)), e60, if_pos (inb_nI (by omega) (by decide)), if_pos (inb_nI (by omega) (by decide)), ix_nI (by omega), ix_nI (by omega), nb_w, nI_1]
      refine ⟨_, rfl, rfl, ?_⟩
      have := cL_s (lm := lm) (o := 17) (c := 83) (b := 0) (f := fun k => lm 17 82 (60 * t + y + k)) (k := k)
      rw [Nat.zero_add] at this
      rw [← this]
      dsimp only
      rw [cL_g, if_neg (fun w => absurd w.2.1 (by decide))])
    (fun u hI => by
      obtain ⟨u1, u2⟩ := u
      obtain ⟨g1, g2⟩ := hI
      dsimp only at g1 g2
      subst g1 g2
      refine ⟨_, ?_, rfl⟩
      show f_X7_shift_B104 P (nI t) (nI y) v3 v4 (nI z) (nI z) _ = _
      unfold f_X7_shift_B104
      rw [if_pos (Int32.le_refl _)]) z 0 (0, lm) (by omega) ⟨rfl, cL_0.symm⟩ 200 (by omega)
  rw [h1, h2]
theorem l_s2 {t y z : Nat} (ht : t < 6) (h : y + z ≤ 60) : iter (fun u : Int32 × Ml => f_X7_shift_B141 P (nI t) (nI y) (nI z) u.1 u.2) 200 (0, lm) = some (cL lm 17 82 (60 * t + y) (fun k => lm 17 83 k) z) := by
  obtain ⟨r, h1, h2⟩ := iter_I (body := fun u : Int32 × Ml => f_X7_shift_B141 P (nI t) (nI y) (nI z) u.1 u.2) (fun k u => u.1 = nI k ∧ u.2 = cL lm 17 82 (60 * t + y) (fun k => lm 17 83 k) k) (fun r => r = cL lm 17 82 (60 * t + y) (fun k => lm 17 83 k) z) z
    (fun k u hk hI => by
      obtain ⟨u1, u2⟩ := u
      obtain ⟨g1, g2⟩ := hI
      dsimp only at g1 g2
      subst g1 g2
      show ∃ s', f_X7_shift_B141 P (nI t) (nI y) (nI z) (nI k) (cL lm 17 82 (60 * t + y) (fun k => lm 17 83 k) k) = _ ∧ _
      unfold f_X7_shift_B141
      have e60 : 60 * nI t + nI y + nI k = nI (60 * t + y + k) := by rw [show (60 : Int32) = nI 60 from rfl, pk_mul, nI_add, nI_add]
      rw [if_neg (nI_ge hk (by omega)), e60, if_pos (inb_nI (by omega) (by decide)), if_pos (inb_nI (by omega) (by decide)), ix_nI (by omega), ix_nI (by omega), nb_w, nI_1]
      refine ⟨_, rfl, rfl, ?_⟩
      have := cL_s (lm := lm) (o := 17) (c := 82) (b := 60 * t + y) (f := fun k => lm 17 83 k) (k := k)
      rw [← this]
      dsimp only
      rw [cL_g (c' := 83), if_neg (fun w => absurd w.2.1 (by decide))])
    (fun u hI => by
      obtain ⟨u1, u2⟩ := u
      obtain ⟨g1, g2⟩ := hI
      dsimp only at g1 g2
      subst g1 g2
      refine ⟨_, ?_, rfl⟩
      show f_X7_shift_B141 P (nI t) (nI y) (nI z) (nI z) _ = _
      unfold f_X7_shift_B141
      rw [if_pos (Int32.le_refl _)]) z 0 (0, lm) (by omega) ⟨rfl, cL_0.symm⟩ 200 (by omega)
  rw [h1, h2]
theorem s_shift (h : RR s P lm) : ∃ r lm1 lm2, f_X6_shift s lm a1 a2 a3 a4 a5 = some (r, lm1) ∧ f_X7_shift P lm1 a1 a2 a3 a4 a5 = some (r, lm2) ∧ RR s P lm2 := by
  obtain ⟨⟨n, d, h1⟩, h2, h3, h4, h5, h6⟩ := id h
  have same : ∀ r, f_X6_shift s lm a1 a2 a3 a4 a5 = some (r, lm) → f_X7_shift P lm a1 a2 a3 a4 a5 = some (r, lm) → ∃ r lm1 lm2, f_X6_shift s lm a1 a2 a3 a4 a5 = some (r, lm1) ∧ f_X7_shift P lm1 a1 a2 a3 a4 a5 = some (r, lm2) ∧ RR s P lm2 := fun r e1 e2 => ⟨r, lm, lm, e1, e2, h⟩
  by_cases c : win a1 0 5 = 0
  · refine same (-1) ?_ ?_
    · unfold f_X6_shift
      rw [e_tk, Option.bind_some, if_pos c]
    · unfold f_X7_shift
      rw [m_tk, Option.bind_some, if_pos c]
  by_cases c' : win a3 0 5 = 0
  · refine same (-1) ?_ ?_
    · unfold f_X6_shift
      rw [e_tk, Option.bind_some, if_neg c, e_tk, Option.bind_some, if_pos c']
    · unfold f_X7_shift
      rw [m_tk, Option.bind_some, if_neg c, m_tk, Option.bind_some, if_pos c']
  obtain ⟨t, -, ht, rfl⟩ := win_r (b := 0) (c := 5) (by omega) (by omega) c
  obtain ⟨o, -, ho, rfl⟩ := win_r (b := 0) (c := 5) (by omega) (by omega) c'
  have ht6 : t < 6 := by omega
  have ho6 : o < 6 := by omega
  have hin : inb (nI t) 6 = true := inb_nI ht6 (by decide)
  have hix : ix (nI t) = t := ix_nI (by omega)
  have hin' : inb (nI o) 6 = true := inb_nI ho6 (by decide)
  have hix' : ix (nI o) = o := ix_nI (by omega)
  have E1 : f_X6_shift s lm (nI t) a2 (nI o) a4 a5 = Option.bind (some (if s 16 1 t = -1 then (0 : Int32) else 1)) (fun x3 => (if x3 = 0 then some ((-11), lm) else Option.bind (some (if s 16 1 o = -1 then (0 : Int32) else 1)) (fun x4 => (if x4 = 0 then some ((-11), lm) else (if ((s 16) 1 t) = ((s 16) 1 o) then Option.bind (f_X4_hasRoom (s 16) (nI t) a2 a5) (fun x7 => (if x7 = 0 then some ((-13), lm) else Option.bind (f_X4_hasRoom (s 16) (nI o) a4 a5) (fun x8 => (if x8 = 0 then some ((-13), lm) else (if cpok a2 a4 a5 60 60 = true then nb (setO lm 16 (setO (lm 16) (4 + o) (va_cpy (lm 16 (4 + t)) (lm 16 (4 + o)) (ix a2) (ix a4) (ix a5)))) (fun lm12 => some (a5, lm12)) else none))))) else some ((-12), lm)))))) := by
    unfold f_X6_shift
    rw [e_tk, Option.bind_some, if_neg c, e_tk, Option.bind_some, if_neg c', e_holds ht6, e_holds ho6]
    simp only [hin, hix, hin', hix', if_true]
  have E2 : ∀ l : Ml, f_X7_shift P l (nI t) a2 (nI o) a4 a5 = (if (P 80 t) < 0 then some ((-11), l) else (if 0 ≤ (P 80 o) then (if (P 80 t) = (P 80 o) then (if a5 < 0 then some ((-13), l) else (if a2 < 0 then some ((-13), l) else (if a4 < 0 then some ((-13), l) else (if ((P 81 t) - a5) < a2 then some ((-13), l) else (if a4 ≤ ((P 81 o) - a5) then f_X7_shift_H104 P l (nI t) a2 (nI o) a4 a5 0 else some ((-13), l)))))) else some ((-12), l)) else some ((-11), l))) := by
    intro l
    unfold f_X7_shift
    rw [m_tk, Option.bind_some, if_neg c, m_tk, Option.bind_some, if_neg c']
    simp only [hin, hix, hin', hix', if_true]
  rcases TPS_t h6 ht6 with ⟨e1, e2, e3⟩ | ⟨q, m, e1, e2, e3, e4, e5, e6, e7, e8, e9⟩
  · exact same (-11) (by rw [E1, if_pos e1, Option.bind_some, if_pos rfl]) (by rw [E2, if_pos e3])
  rcases TPS_t h6 ho6 with ⟨f1, f2, f3⟩ | ⟨q', m', f1, f2, f3, f4, f5, f6, f7, f8, f9⟩
  · exact same (-11) (by rw [E1, if_neg e4, Option.bind_some, if_neg (show ¬ (1 : Int32) = 0 by decide), if_pos f1, Option.bind_some, if_pos rfl]) (by rw [E2, if_neg e7, if_neg (show ¬ 0 ≤ P 80 o from Int32.not_le.mpr f3)])
  have E3 : f_X6_shift s lm (nI t) a2 (nI o) a4 a5 = (if nI q = nI q' then Option.bind (f_X4_hasRoom (s 16) (nI t) a2 a5) (fun x7 => (if x7 = 0 then some ((-13), lm) else Option.bind (f_X4_hasRoom (s 16) (nI o) a4 a5) (fun x8 => (if x8 = 0 then some ((-13), lm) else (if cpok a2 a4 a5 60 60 = true then nb (setO lm 16 (setO (lm 16) (4 + o) (va_cpy (lm 16 (4 + t)) (lm 16 (4 + o)) (ix a2) (ix a4) (ix a5)))) (fun lm12 => some (a5, lm12)) else none))))) else some ((-12), lm)) := by
    rw [E1, if_neg e4, Option.bind_some, if_neg (show ¬ (1 : Int32) = 0 by decide), if_neg f4, Option.bind_some, if_neg (show ¬ (1 : Int32) = 0 by decide), e3, f3]
  have E4 : ∀ l : Ml, f_X7_shift P l (nI t) a2 (nI o) a4 a5 = (if nI q = nI q' then (if a5 < 0 then some ((-13), l) else (if a2 < 0 then some ((-13), l) else (if a4 < 0 then some ((-13), l) else (if (nI m - a5) < a2 then some ((-13), l) else (if a4 ≤ (nI m' - a5) then f_X7_shift_H104 P l (nI t) a2 (nI o) a4 a5 0 else some ((-13), l)))))) else some ((-12), l)) := by
    intro l
    rw [E2, if_neg e7, if_pos (show 0 ≤ P 80 o from Int32.not_lt.mp f7), e6, f6, e8, f8]
  by_cases cq0 : ¬ nI q = nI q'
  · exact same (-12) (by rw [E3, if_neg cq0]) (by rw [E4, if_neg cq0])
  have cq : nI q = nI q' := Decidable.not_not.mp cq0
  by_cases cR : RO a2 a5 m ∧ RO a4 a5 m'
  · obtain ⟨⟨y, z, rfl, rfl, hy, hz, hyz⟩, ⟨w, z', rfl, ez, hw, hz', hwz⟩⟩ := cR
    have ezz : z' = z := nIeq ez.symm hz' hz
    subst ezz
    have r1 := e_room (A := s 16) (i := nI y) (n := nI z') ht6 e5 e2
    have r2 := e_room (A := s 16) (i := nI w) (n := nI z') ho6 f5 f2
    have R1 : f_X4_hasRoom (s 16) (nI t) (nI y) (nI z') = some 1 := by
      rcases r1 with g | g
      · exact g.2
      · exact absurd ⟨y, z', rfl, rfl, hy, hz, hyz⟩ g.1
    have R2 : f_X4_hasRoom (s 16) (nI o) (nI w) (nI z') = some 1 := by
      rcases r2 with g | g
      · exact g.2
      · exact absurd ⟨w, z', rfl, rfl, hw, hz, hwz⟩ g.1
    have hcp : cpok (nI y) (nI w) (nI z') 60 60 = true := by
      unfold cpok
      rw [ix_nI (by omega), ix_nI (by omega), ix_nI (by omega)]
      simp only [Bool.and_eq_true, decide_eq_true_eq]
      exact ⟨nI_pos' hy, nI_pos' hw, nI_pos' hz, by omega, by omega⟩
    have n5 : ¬ nI z' < 0 := fun g => absurd (nI_pos' hz) (Int32.not_le.mpr g)
    have n2 : ¬ nI y < 0 := fun g => absurd (nI_pos' hy) (Int32.not_le.mpr g)
    have n4 : ¬ nI w < 0 := fun g => absurd (nI_pos' hw) (Int32.not_le.mpr g)
    have l1 : ¬ nI m - nI z' < nI y := by
      rw [Int32.lt_iff_toInt_lt, sub_toI (by omega) hz, nI_toInt hy]
      omega
    have l2 : nI w ≤ nI m' - nI z' := by
      rw [Int32.le_iff_toInt_le, sub_toI (by omega) hz, nI_toInt hw]
      omega
    generalize hl1 : setO lm 16 (setO (lm 16) (4 + o) (va_cpy (lm 16 (4 + t)) (lm 16 (4 + o)) y w z')) = lm1
    have a17 : lm1 17 = lm 17 := by rw [← hl1, setO_n (by decide)]
    have a16 : ∀ c i, lm1 16 c i = if c = 4 + o ∧ w ≤ i ∧ i < w + z' then lm 16 (4 + t) (y + (i - w)) else lm 16 c i := by
      intro c i
      rw [← hl1, setO_s]
      by_cases g : c = 4 + o
      · rw [g, setO_s]
        unfold va_cpy
        by_cases g2 : w ≤ i ∧ i < w + z'
        · rw [if_pos g2, if_pos ⟨rfl, g2⟩]
        · rw [if_neg g2, if_neg (fun u => g2 u.2)]
      · rw [setO_n g, if_neg (fun u => g u.1)]
    refine ⟨nI z', lm1, cL (cL lm1 17 83 0 (fun k => lm1 17 82 (60 * t + y + k)) z') 17 82 (60 * o + w) (fun k => (cL lm1 17 83 0 (fun k => lm1 17 82 (60 * t + y + k)) z') 17 83 k) z', ?_, ?_, RR_lm h (fun t' ht' => ?_)⟩
    · rw [E3, if_pos cq, R1, Option.bind_some, if_neg (show ¬ (1 : Int32) = 0 by decide), R2, Option.bind_some, if_neg (show ¬ (1 : Int32) = 0 by decide), if_pos hcp, nb_w, ix_nI (by omega), ix_nI (by omega), ix_nI (by omega), hl1]
    · rw [E4, if_pos cq, if_neg n5, if_neg n2, if_neg n4, if_neg l1, if_pos l2]
      unfold f_X7_shift_H104
      rw [l_s1 ht6 (by omega), Option.bind_some]
      unfold f_X7_shift_J138 f_X7_shift_H141
      rw [l_s2 ho6 (by omega), Option.bind_some]
      rfl
    · obtain ⟨h7, h8⟩ := h6 t' ht'
      refine ⟨h7, h8.imp id (fun ⟨qq, m2, j1, j2, j3, j4, j5, j6⟩ => ⟨qq, m2, j1, j2, j3, j4, j5, fun i hi => ?_⟩)⟩
      have hm2 : t' = o → m2 = m' := fun e => by
        subst e
        exact nIeq (j5.symm.trans f8) (by omega) (by omega)
      rw [cL_g, if_neg (fun u => absurd u.1 (by decide)), cL_g, if_neg (fun u => absurd u.1 (by decide)), a16, cL_g]
      by_cases g : t' = o ∧ w ≤ i ∧ i < w + z'
      · rw [if_pos (by omega), if_pos ⟨rfl, rfl, by omega, by omega⟩, cL_g, if_pos ⟨rfl, rfl, by omega, by omega⟩, a17, e9 _ (by omega)]
        congr 1
        omega
      · rw [if_neg (by omega), if_neg (by omega), cL_g, if_neg (fun u => absurd u.2.1 (by decide)), a17]
        exact j6 i hi
  · refine same (-13) ?_ ?_
    · rw [E3, if_pos cq]
      rcases e_room (A := s 16) (i := a2) (n := a5) ht6 e5 e2 with ⟨g1, g2⟩ | ⟨g1, g2⟩
      · rw [g2, Option.bind_some, if_neg (show ¬ (1 : Int32) = 0 by decide)]
        rcases e_room (A := s 16) (i := a4) (n := a5) ho6 f5 f2 with ⟨k1, k2⟩ | ⟨k1, k2⟩
        · exact absurd ⟨g1, k1⟩ cR
        · rw [k2, Option.bind_some, if_pos rfl]
      · rw [g2, Option.bind_some, if_pos rfl]
    · rw [E4, if_pos cq]
      by_cases n5 : a5 < 0
      · rw [if_pos n5]
      by_cases n2 : a2 < 0
      · rw [if_neg n5, if_pos n2]
      by_cases n4 : a4 < 0
      · rw [if_neg n5, if_neg n2, if_pos n4]
      obtain ⟨z, hz, rfl⟩ := nIof n5
      obtain ⟨y, hy, rfl⟩ := nIof n2
      obtain ⟨w, hw, rfl⟩ := nIof n4
      rw [if_neg n5, if_neg n2, if_neg n4]
      by_cases l1 : nI m - nI z < nI y
      · rw [if_pos l1]
      · by_cases l2 : nI w ≤ nI m' - nI z
        · exfalso
          apply cR
          rw [Int32.lt_iff_toInt_lt, sub_toI (by omega) hz, nI_toInt hy] at l1
          rw [Int32.le_iff_toInt_le, sub_toI (by omega) hz, nI_toInt hw] at l2
          exact ⟨⟨y, z, rfl, rfl, hy, hz, by omega⟩, ⟨w, z, rfl, rfl, hw, hz, by omega⟩⟩
        · rw [if_neg l1, if_neg l2]
end Sh
