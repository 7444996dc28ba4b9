/-! the pure side G: a country, on both sides: its rate, its numbers -/
/-- how many prices stand ahead of a clause -/
def pcS (q1 : Nat → Int32) (b : Nat) : Nat → Nat
  | 0 => 0
  | i + 1 => if 1 < q1 (b + i) then pcS q1 b i else pcS q1 b i + 1
/-- the last one's n -/
def laS (q1 q2 : Nat → Int32) (b : Nat) (x y : Int32) : Nat → Int32
  | 0 => y
  | i + 1 => if q1 (b + i) = x then q2 (b + i) else laS q1 q2 b x y i
/-- what the prices come to -/
def suS (q1 q2 q3 q4 q5 fx : Nat → Int32) (b : Nat) : Nat → Int32
  | 0 => 1
  | i + 1 => if 1 < q1 (b + i) then suS q1 q2 q3 q4 q5 fx b i else if evS fx (fun k => q5 (ix (q3 (b + i)) + k)) (ix (q4 (b + i)) - ix (q3 (b + i))) = 0 then suS q1 q2 q3 q4 q5 fx b i else suS q1 q2 q3 q4 q5 fx b i + (if q1 (b + i) = 0 then q2 (b + i) else -(q2 (b + i)))
def rtS (q1 q2 q3 q4 q5 : Nat → Int32) (b L : Nat) (W : Pm) (j : Nat) : Int32 := imax 0 (suS q1 q2 q3 q4 q5 (fct W j) b L)
/-- a clause with a condition: its tokens stand from a on, m of them, both sides alike -/
def cnS (C : Pm) (q1 q2 q3 q4 q5 : Nat → Int32) (tb x k e e' : Nat) : Prop := e ≤ e' ∧ e' ≤ 100 ∧ q3 x = nI (tb + e) ∧ q4 x = nI (tb + e') ∧ C 6 k = (if q1 x = 0 then q2 x else -(q2 x)) ∧ C 7 k = nI e' ∧ (∀ i, i < e' - e → tokR (C 8 (e + i)) (C 9 (e + i)) (C 10 (e + i)) (q5 (tb + e + i))) ∧ wfS (fun i => q5 (tb + e + i)) (e' - e)
/-- a country's clauses, the first L of them -/
def CLS (C : Pm) (q1 q2 q3 q4 q5 : Nat → Int32) (b tb : Nat) (en : Nat → Nat) (L : Nat) : Prop := L ≤ 10 ∧ b + 10 ≤ 60 ∧ tb + 100 ≤ 600 ∧ (∀ i, i < L → rg (q1 (b + i)) 4 ∧ rg (q2 (b + i)) 99) ∧ en 0 = 0 ∧ C 0 3 = nI (pcS q1 b L) ∧ (∀ i, i < L → ¬ 1 < q1 (b + i) → cnS C q1 q2 q3 q4 q5 tb (b + i) (pcS q1 b i) (en (pcS q1 b i)) (en (pcS q1 b i + 1))) ∧ C 0 0 = laS q1 q2 b 2 10 L ∧ C 0 1 = laS q1 q2 b 3 0 L ∧ C 0 2 = laS q1 q2 b 4 0 L
section Rt
variable {C D M W P : Pm} {q1 q2 q3 q4 q5 fx f : Nat → Int32} {b tb L j x : Nat} {en : Nat → Nat}
theorem pcS_le {i : Nat} : pcS q1 b i ≤ i := by
  induction i with
  | zero => exact Nat.le_refl _
  | succ i ih =>
    unfold pcS
    split <;> omega
theorem pcS_mono {i i' : Nat} (h : i ≤ i') : pcS q1 b i ≤ pcS q1 b i' := by
  induction i' with
  | zero =>
    have : i = 0 := by omega
    rw [this]
    exact Nat.le_refl _
  | succ i' ih =>
    by_cases c : i = i' + 1
    · rw [c]
      exact Nat.le_refl _
    · have := ih (by omega)
      have e : pcS q1 b (i' + 1) = if 1 < q1 (b + i') then pcS q1 b i' else pcS q1 b i' + 1 := rfl
      rw [e]
      split <;> omega
/-- the next price -/
theorem nextP {k : Nat} : ∀ (d i : Nat), i + d = L → pcS q1 b i = k → k < pcS q1 b L → ∃ i', i' < L ∧ ¬ 1 < q1 (b + i') ∧ pcS q1 b i' = k ∧ suS q1 q2 q3 q4 q5 fx b i' = suS q1 q2 q3 q4 q5 fx b i
  | 0, i, hi, hk, hL => by
    have : i = L := by omega
    subst this
    omega
  | d + 1, i, hi, hk, hL => by
    by_cases c : 1 < q1 (b + i)
    · obtain ⟨i', h1, h2, h3, h4⟩ := nextP d (i + 1) (by omega) (by
        show pcS q1 b (i + 1) = k
        unfold pcS
        rw [if_pos c]
        exact hk) hL
      refine ⟨i', h1, h2, h3, h4.trans ?_⟩
      show suS q1 q2 q3 q4 q5 fx b (i + 1) = _
      rw [suS, if_pos c]
    · exact ⟨i, by omega, c, hk, rfl⟩
theorem lastP : ∀ (d i : Nat), i + d = L → pcS q1 b i = pcS q1 b L → suS q1 q2 q3 q4 q5 fx b i = suS q1 q2 q3 q4 q5 fx b L
  | 0, i, hi, hk => by
    have : i = L := by omega
    subst this
    rfl
  | d + 1, i, hi, hk => by
    have hm : pcS q1 b (i + 1) ≤ pcS q1 b L := pcS_mono (by omega)
    by_cases c : 1 < q1 (b + i)
    · have e : pcS q1 b (i + 1) = pcS q1 b i := by rw [pcS, if_pos c]
      have := lastP d (i + 1) (by omega) (e.trans hk)
      rw [suS, if_pos c] at this
      exact this
    · have e : pcS q1 b (i + 1) = pcS q1 b i + 1 := by rw [pcS, if_neg c]
      omega
theorem su_r (h : CLS C q1 q2 q3 q4 q5 b tb en L) : ∀ i, i ≤ L → ∃ p q, p ≤ 1 + 99 * i ∧ q ≤ 99 * i ∧ suS q1 q2 q3 q4 q5 fx b i = nI p - nI q
  | 0, _ => ⟨1, 0, by omega, by omega, rfl⟩
  | i + 1, hi => by
    obtain ⟨p, q, h1, h2, h3⟩ := su_r h i (by omega)
    obtain ⟨-, r, hr, er⟩ := h.2.2.2.1 i (by omega)
    unfold suS
    split
    · exact ⟨p, q, by omega, by omega, h3⟩
    · split
      · exact ⟨p, q, by omega, by omega, h3⟩
      · rw [h3]
        split
        · refine ⟨p + r, q, by omega, by omega, ?_⟩
          rw [er, ← nI_add, Int32.sub_eq_add_neg, Int32.sub_eq_add_neg, Int32.add_assoc, Int32.add_comm (-nI q), ← Int32.add_assoc]
        · refine ⟨p, q + r, by omega, by omega, ?_⟩
          rw [er, ← nI_add, Int32.sub_eq_add_neg, Int32.sub_eq_add_neg, Int32.neg_add, Int32.sub_eq_add_neg, Int32.add_assoc]
theorem rt_r (h : CLS C q1 q2 q3 q4 q5 b tb en L) : rg (rtS q1 q2 q3 q4 q5 b L W j) 991 := by
  obtain ⟨p, q, h1, h2, h3⟩ := su_r (fx := fct W j) h L (Nat.le_refl _)
  have hL := h.1
  unfold rtS
  apply rg_imax _ (by decide)
  rw [h3]
  exact Int32.le_trans (rg_sub ⟨p, Nat.le_refl _, rfl⟩ ⟨q, Nat.le_refl _, rfl⟩ (by omega) (by omega)) (nI_le (by omega) (by decide))
theorem la_r (h : CLS C q1 q2 q3 q4 q5 b tb en L) {x y : Int32} (hy : rg y 99) : ∀ i, i ≤ L → rg (laS q1 q2 b x y i) 99
  | 0, _ => hy
  | i + 1, hi => by
    unfold laS
    split
    · exact (h.2.2.2.1 i (by omega)).2
    · exact la_r h hy i (by omega)
/-- the class's rate -/
theorem e_rateC (h : CLS C q1 q2 q3 q4 q5 b tb en L) : RateC C (rtS q1 q2 q3 q4 q5 b L) := by
  intro D W j hD hj
  have hj6 : inb (nI j) 6 = true := inb_nI hj (by decide)
  have hjx : ix (nI j) = j := ix_nI (by omega)
  obtain ⟨hL, hb, htb, hq, he0, hC3, hcn, -⟩ := h
  have hpc : pcS q1 b L ≤ 10 := Nat.le_trans pcS_le hL
  unfold f_X1_rate
  simp only [nb_w, hj6, hjx, if_pos (show inb 0 6 = true by decide), if_pos (show inb 1 6 = true by decide), if_pos (show inb 2 6 = true by decide), if_pos (show inb 3 6 = true by decide), if_pos (show inb 4 6 = true by decide), if_pos (show inb 5 6 = true by decide), if_true, show ix 0 = 0 from rfl, show ix 1 = 1 from rfl, show ix 2 = 2 from rfl, show ix 3 = 3 from rfl, show ix 4 = 4 from rfl, show ix 5 = 5 from rfl]
  generalize hE : up2 (up2 (up2 (up2 (up2 (up2 D 11 0 (nI j)) 11 1 (W 5 j)) 11 2 (W 6 j)) 11 3 (W 9 j / 10)) 11 4 (W 10 j)) 11 5 (W 0 1 - W 0 1 / 10 * 10) = E
  have hEc : ∀ c, c ≠ 11 → E c = C c := fun c hc => by
    rw [← hE, up2_g, if_neg hc, up2_g, if_neg hc, up2_g, if_neg hc, up2_g, if_neg hc, up2_g, if_neg hc, up2_g, if_neg hc, hD c hc]
  have hEf : ∀ f, f < 6 → E 11 f = fct W j f := fun f hf => by
    rw [← hE]
    rcases (show f = 0 ∨ f = 1 ∨ f = 2 ∨ f = 3 ∨ f = 4 ∨ f = 5 by omega) with h | h | h | h | h | h <;> subst h <;> rfl
  obtain ⟨r, h1, h2⟩ := iter_I (body := fun t : Int32 × Int32 × Int32 => f_X1_rate_B79 E W t.1 t.2.1 t.2.2) (fun k u => u.2.2 = nI k ∧ u.2.1 = nI (en k) ∧ ∃ i, i ≤ L ∧ pcS q1 b i = k ∧ u.1 = suS q1 q2 q3 q4 q5 (fct W j) b i) (fun r => r = suS q1 q2 q3 q4 q5 (fct W j) b L) (pcS q1 b L)
    (fun k u hk hI => by
      obtain ⟨u1, u2, u3⟩ := u
      obtain ⟨g1, g2, i, g3, g4, g5⟩ := hI
      dsimp only at g1 g2 g5
      subst g1 g2 g5
      show ∃ s', f_X1_rate_B79 E W (suS q1 q2 q3 q4 q5 (fct W j) b i) (nI (en k)) (nI k) = _ ∧ _
      obtain ⟨i', p1, p2, p3, p4⟩ := nextP (fx := fct W j) (q2 := q2) (q3 := q3) (q4 := q4) (q5 := q5) (L - i) i (by omega) g4 hk
      have hcc := hcn i' p1 p2
      rw [p3] at hcc
      obtain ⟨c1, c2, c3, c4, c5, c6, c7, c8⟩ := hcc
      have hk10 : inb (nI k) 10 = true := inb_nI (by omega) (by decide)
      have hkx : ix (nI k) = k := ix_nI (by omega)
      have e7 : E 7 k = nI (en (k + 1)) := by rw [hEc 7 (by decide)]; exact c6
      have e6 : E 6 k = _ := (congrFun (hEc 6 (by decide)) k).trans c5
      obtain ⟨d1, d2⟩ := e_cond (D := E) (fx := fct W j) (tk := fun i => q5 (tb + en k + i)) (a := en k) (m := en (k + 1) - en k) (fun i hi => by
        rw [hEc 8 (by decide), hEc 9 (by decide), hEc 10 (by decide)]
        exact c7 i hi) c8 (by omega) hEf
      rw [show en k + (en (k + 1) - en k) = en (k + 1) by omega] at d1
      unfold f_X1_rate_B79 f_X1_rate_J114
      rw [hEc 0 (by decide), hC3, if_neg (nI_ge hk (by omega)), if_pos hk10, hkx, e7, d1, Option.bind_some]
      simp only [hk10, if_true]
      have es : suS q1 q2 q3 q4 q5 (fct W j) b (i' + 1) = if evS (fct W j) (fun i => q5 (tb + en k + i)) (en (k + 1) - en k) = 0 then suS q1 q2 q3 q4 q5 (fct W j) b i' else suS q1 q2 q3 q4 q5 (fct W j) b i' + (if q1 (b + i') = 0 then q2 (b + i') else -(q2 (b + i'))) := by
        rw [suS, if_neg p2, c3, c4, ix_nI (by omega), ix_nI (by omega), show tb + en (k + 1) - (tb + en k) = en (k + 1) - en k by omega]
      have ep : pcS q1 b (i' + 1) = k + 1 := by rw [pcS, if_neg p2, p3]
      by_cases cz : evS (fct W j) (fun i => q5 (tb + en k + i)) (en (k + 1) - en k) = 0
      · rw [if_pos cz] at es
        rw [cz, if_pos (show nI 0 = 0 from rfl)]
        exact ⟨_, rfl, nI_1 _, rfl, i' + 1, by omega, ep, by rw [es, p4]⟩
      · rw [if_neg cz] at es
        rw [if_neg (nI_ne0 (by omega) (by omega)), e6]
        exact ⟨_, rfl, nI_1 _, rfl, i' + 1, by omega, ep, by rw [es, p4]⟩)
    (fun u hI => by
      obtain ⟨u1, u2, u3⟩ := u
      obtain ⟨g1, g2, i, g3, g4, g5⟩ := hI
      dsimp only at g1 g2 g5
      subst g1 g2 g5
      refine ⟨_, ?_, lastP (L - i) i (by omega) g4⟩
      show f_X1_rate_B79 E W (suS q1 q2 q3 q4 q5 (fct W j) b i) (nI (en (pcS q1 b L))) (nI (pcS q1 b L)) = _
      unfold f_X1_rate_B79
      rw [hEc 0 (by decide), hC3, if_pos (Int32.le_refl _)]) (pcS q1 b L) 0 (1, 0, 0) (by omega) ⟨rfl, by rw [he0]; rfl, 0, by omega, rfl, rfl⟩ 200 (by omega)
  subst h2
  refine ⟨E, ?_, fun c hc => (hEc c hc).symm⟩
  unfold f_X1_rate_H79
  rw [h1, Option.bind_some]
  unfold f_X1_rate_J129
  rw [e_max, Option.bind_some]
  rfl
/-- where the holding country's clauses stand, in the reference -/
def BB (P : Pm) (b L : Nat) : Prop := (P 0 14 = -1 ∧ b = 0 ∧ L = 0) ∨ ∃ f, f < 6 ∧ P 0 14 = nI f ∧ P 20 f = nI L ∧ b = 10 * f
theorem BB_1 (h : BB P b L) (hL : L ≤ 10) : f_X7_begin P = some (nI b) ∧ f_X7_behind P = some (nI (b + L)) := by
  unfold f_X7_begin f_X7_behind
  rcases h with ⟨h1, rfl, rfl⟩ | ⟨f, h1, h2, h3, rfl⟩
  · rw [h1, if_neg (by decide), if_neg (by decide)]
    exact ⟨rfl, rfl⟩
  · rw [h2, if_pos (nI_pos' (by omega)), if_pos (nI_pos' (by omega)), if_pos (inb_nI h1 (by decide)), ix_nI (by omega), h3, show (10 : Int32) = nI 10 from rfl, pk_mul, nI_add]
    exact ⟨rfl, rfl⟩
/-- the reference's last one -/
theorem m_last {x y : Int32} (hB : BB P b L) (hL : L ≤ 10) (hb : b + 10 ≤ 60) : f_X7_lastOf P x y = some (laS (P 21) (P 22) b x y L) := by
  obtain ⟨b1, b2⟩ := BB_1 hB hL
  obtain ⟨r, h1, h2⟩ := iter_I (body := fun t : Int32 × Int32 => f_X7_lastOf_B8 P x t.1 t.2) (fun i u => u.2 = nI (b + i) ∧ u.1 = laS (P 21) (P 22) b x y i) (fun r => r = laS (P 21) (P 22) b x y L) L
    (fun i u hi hI => by
      obtain ⟨u1, u2⟩ := u
      obtain ⟨g1, g2⟩ := hI
      dsimp only at g1 g2
      subst g1 g2
      show ∃ s', f_X7_lastOf_B8 P x (laS (P 21) (P 22) b x y i) (nI (b + i)) = _ ∧ _
      have hin : inb (nI (b + i)) 60 = true := inb_nI (by omega) (by decide)
      have hix : ix (nI (b + i)) = b + i := ix_nI (by omega)
      have es : laS (P 21) (P 22) b x y (i + 1) = if P 21 (b + i) = x then P 22 (b + i) else laS (P 21) (P 22) b x y i := rfl
      unfold f_X7_lastOf_B8 f_X7_lastOf_J39
      rw [b2, Option.bind_some, if_neg (nI_ge (by omega) (by omega)), if_pos hin, if_pos hin, hix]
      by_cases c : P 21 (b + i) = x
      · rw [if_pos c] at es ⊢
        exact ⟨_, rfl, nI_1 _, es.symm⟩
      · rw [if_neg c] at es ⊢
        exact ⟨_, rfl, nI_1 _, es.symm⟩)
    (fun u hI => by
      obtain ⟨u1, u2⟩ := u
      obtain ⟨g1, g2⟩ := hI
      dsimp only at g1 g2
      subst g1 g2
      refine ⟨_, ?_, rfl⟩
      show f_X7_lastOf_B8 P x (laS (P 21) (P 22) b x y L) (nI (b + L)) = _
      unfold f_X7_lastOf_B8
      rw [b2, Option.bind_some, if_pos (Int32.le_refl _)]) L 0 (y, nI b) (by omega) ⟨rfl, rfl⟩ 200 (by omega)
  subst h2
  unfold f_X7_lastOf f_X7_lastOf_H8
  rw [b1, Option.bind_some, h1]
  rfl
theorem tokR_O {a c d t : Int32} (h : tokR a c d t) : tokO t := by
  rcases h with ⟨f, s, x, h1, h2, h3, h4, -⟩ | ⟨h, -⟩ | ⟨h, -⟩ | ⟨h, -⟩
  · exact Or.inl ⟨f, s, x, h1, h2, h3, h4⟩
  · exact Or.inr (Or.inl h)
  · exact Or.inr (Or.inr (Or.inl h))
  · exact Or.inr (Or.inr (Or.inr h))
/-- the reference's rate -/
theorem m_rate (h : CLS C (M 21) (M 22) (M 23) (M 24) (M 25) b tb en L) (hB : BB M b L) (hj : j < 6) : ∃ f', f_X7_rate (put (setO M 33 f) W) (nI j) = some (rtS (M 21) (M 22) (M 23) (M 24) (M 25) b L W j, put (setO M 33 f') W) := by
  obtain ⟨hL, hb, htb, hq, he0, hC3, hcn, -⟩ := h
  have hBg : ∀ g, BB (put (setO M 33 g) W) b L := fun g => by
    unfold BB
    rw [pM (c := 20) (by omega) (by omega)]
    exact hB
  obtain ⟨r, h1, g', h2⟩ := iter_I (body := fun t : Int32 × Int32 × Pm => f_X7_rate_B7 (nI j) t.1 t.2.1 t.2.2) (fun i u => u.1 = suS (M 21) (M 22) (M 23) (M 24) (M 25) (fct W j) b i ∧ u.2.1 = nI (b + i) ∧ ∃ g, u.2.2 = put (setO M 33 g) W) (fun r => ∃ g, r = (suS (M 21) (M 22) (M 23) (M 24) (M 25) (fct W j) b L, put (setO M 33 g) W)) L
    (fun i u hi hI => by
      obtain ⟨u1, u2, u⟩ := u
      obtain ⟨g1, g2, g, g3⟩ := hI
      dsimp only at g1 g2 g3
      subst g1 g2 g3
      show ∃ s', f_X7_rate_B7 (nI j) (suS (M 21) (M 22) (M 23) (M 24) (M 25) (fct W j) b i) (nI (b + i)) (put (setO M 33 g) W) = _ ∧ _
      have hin : inb (nI (b + i)) 60 = true := inb_nI (by omega) (by decide)
      have hix : ix (nI (b + i)) = b + i := ix_nI (by omega)
      unfold f_X7_rate_B7 f_X7_rate_J63 f_X7_rate_J65
      rw [(BB_1 (hBg g) hL).2, Option.bind_some, if_neg (nI_ge (by omega) (by omega)), if_pos hin, hix, pM (c := 21) (by omega) (by omega)]
      by_cases c : 1 < M 21 (b + i)
      · rw [if_pos c]
        exact ⟨_, rfl, by rw [suS, if_pos c], nI_1 _, g, rfl⟩
      · obtain ⟨c1, c2, c3, c4, c5, c6, c7, c8⟩ := hcn i hi c
        generalize en (pcS (M 21) b i) = e at c1 c3 c7 c8
        generalize en (pcS (M 21) b i + 1) = e' at c1 c2 c4 c6 c7 c8
        obtain ⟨g2, d1, d2⟩ := m_holds (M := M) (W := W) (f := g) (tk := fun k => M 25 (tb + e + k)) (a := tb + e) (m := e' - e) (v1 := b + i) (by omega) hj c3 (by rw [c4]; congr 1; omega) (fun k hk => ⟨tokR_O (c7 k hk), rfl⟩) c8 (by omega) (by omega)
        have es : suS (M 21) (M 22) (M 23) (M 24) (M 25) (fct W j) b (i + 1) = if evS (fct W j) (fun k => M 25 (tb + e + k)) (e' - e) = 0 then suS (M 21) (M 22) (M 23) (M 24) (M 25) (fct W j) b i else suS (M 21) (M 22) (M 23) (M 24) (M 25) (fct W j) b i + (if M 21 (b + i) = 0 then M 22 (b + i) else -(M 22 (b + i))) := by
          rw [suS, if_neg c, c3, c4, ix_nI (by omega), ix_nI (by omega), show tb + e' - (tb + e) = e' - e by omega]
        rw [if_neg c, d1, bn2_w]
        by_cases cz : evS (fct W j) (fun k => M 25 (tb + e + k)) (e' - e) = 0
        · rw [if_pos cz] at es
          rw [cz, if_pos (show nI 0 = 0 from rfl)]
          exact ⟨_, rfl, es.symm, nI_1 _, g2, rfl⟩
        · rw [if_neg cz] at es
          rw [if_neg (nI_ne0 (by omega) (by omega)), if_pos hin, if_pos hin, if_pos hin, pM (c := 21) (by omega) (by omega), pM (c := 22) (by omega) (by omega)]
          by_cases c0 : M 21 (b + i) = 0
          · rw [if_pos c0] at es ⊢
            exact ⟨_, rfl, es.symm, nI_1 _, g2, rfl⟩
          · rw [if_neg c0] at es ⊢
            exact ⟨_, rfl, es.symm, nI_1 _, g2, rfl⟩)
    (fun u hI => by
      obtain ⟨u1, u2, u⟩ := u
      obtain ⟨g1, g2, g, g3⟩ := hI
      dsimp only at g1 g2 g3
      subst g1 g2 g3
      refine ⟨_, ?_, g, rfl⟩
      show f_X7_rate_B7 (nI j) (suS (M 21) (M 22) (M 23) (M 24) (M 25) (fct W j) b L) (nI (b + L)) (put (setO M 33 g) W) = _
      unfold f_X7_rate_B7
      rw [(BB_1 (hBg g) hL).2, Option.bind_some, if_pos (Int32.le_refl _)]) L 0 (1, nI b, put (setO M 33 f) W) (by omega) ⟨rfl, rfl, f, rfl⟩ 200 (by omega)
  subst h2
  refine ⟨g', ?_⟩
  unfold f_X7_rate f_X7_rate_H7
  rw [(BB_1 (hBg f) hL).1, Option.bind_some, h1, bn2_w]
  unfold f_X7_rate_J71 rtS imax
  by_cases c : 0 ≤ suS (M 21) (M 22) (M 23) (M 24) (M 25) (fct W j) b L
  · rw [if_pos c]
    by_cases c2 : 0 < suS (M 21) (M 22) (M 23) (M 24) (M 25) (fct W j) b L
    · rw [if_pos c2]
    · rw [if_neg c2]
      have := Int32.le_antisymm (Int32.not_lt.mp c2) c
      rw [this]
  · rw [if_neg c, if_neg (fun q => c (Int32.le_of_lt q))]
theorem CtyM_of (h : CLS C (M 21) (M 22) (M 23) (M 24) (M 25) b tb en L) (hB : BB M b L) : CtyM M (laS (M 21) (M 22) b 2 10 L) (laS (M 21) (M 22) b 3 0 L) (laS (M 21) (M 22) b 4 0 L) (rtS (M 21) (M 22) (M 23) (M 24) (M 25) b L) := by
  intro g W
  have hBg : BB (put (setO M 33 g) W) b L := by
    unfold BB
    rw [pM (c := 20) (by omega) (by omega)]
    exact hB
  have e21 : put (setO M 33 g) W 21 = M 21 := pM (by omega) (by omega)
  have e22 : put (setO M 33 g) W 22 = M 22 := pM (by omega) (by omega)
  refine ⟨?_, ?_, ?_, fun j hj => m_rate h hB hj⟩
  · rw [m_last hBg h.1 h.2.1, e21, e22]
  · rw [m_last hBg h.1 h.2.1, e21, e22]
  · rw [m_last hBg h.1 h.2.1, e21, e22]
theorem CtyP_of (h : CLS C (P 21) (P 22) (P 23) (P 24) (P 25) b tb en L) (hB : BB P b L) : CtyP P (laS (P 21) (P 22) b 2 10 L) (laS (P 21) (P 22) b 3 0 L) (laS (P 21) (P 22) b 4 0 L) (rtS (P 21) (P 22) (P 23) (P 24) (P 25) b L) := by
  intro Q h1 h2
  have e20 := h1 20 (by omega)
  have e21 := h1 21 (by omega)
  have e22 := h1 22 (by omega)
  have e23 := h1 23 (by omega)
  have e24 := h1 24 (by omega)
  have e25 := h1 25 (by omega)
  have e14 := h2 14 (by omega)
  rw [← e21, ← e22, ← e23, ← e24, ← e25]
  refine CtyM_of (C := C) (tb := tb) (en := en) (by rw [e21, e22, e23, e24, e25]; exact h) ?_
  unfold BB
  rw [e14, e20]
  exact hB
theorem Cty_of (h : CLS C q1 q2 q3 q4 q5 b tb en L) : Cty C (laS q1 q2 b 2 10 L) (laS q1 q2 b 3 0 L) (laS q1 q2 b 4 0 L) (rtS q1 q2 q3 q4 q5 b L) := by
  refine ⟨e_rateC h, h.2.2.2.2.2.2.2.1, h.2.2.2.2.2.2.2.2.1, h.2.2.2.2.2.2.2.2.2, la_r h ⟨10, by omega, rfl⟩ L (Nat.le_refl _), la_r h ⟨0, by omega, rfl⟩ L (Nat.le_refl _), la_r h ⟨0, by omega, rfl⟩ L (Nat.le_refl _), fun W j => rt_r h⟩
end Rt
