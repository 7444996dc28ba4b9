/-! the pure side V: a clause more; the heads -/
section Cm
variable {C C' : Pm} {q1 q2 q3 q4 q5 q1' q2' q3' q4' q5' tk tk' : Nat → Int32} {b tb n u m : Nat} {en en' : Nat → Nat}
theorem pcS_c : ∀ n, (∀ i, i < n → q1' (b + i) = q1 (b + i)) → pcS q1' b n = pcS q1 b n
  | 0, _ => rfl
  | n + 1, h => by
    show (if 1 < q1' (b + n) then pcS q1' b n else pcS q1' b n + 1) = if 1 < q1 (b + n) then pcS q1 b n else pcS q1 b n + 1
    rw [h n (by omega), pcS_c n (fun i hi => h i (by omega))]
theorem laS_c {x y : Int32} : ∀ n, (∀ i, i < n → q1' (b + i) = q1 (b + i) ∧ q2' (b + i) = q2 (b + i)) → laS q1' q2' b x y n = laS q1 q2 b x y n
  | 0, _ => rfl
  | n + 1, h => by
    show (if q1' (b + n) = x then q2' (b + n) else laS q1' q2' b x y n) = if q1 (b + n) = x then q2 (b + n) else laS q1 q2 b x y n
    rw [(h n (by omega)).1, (h n (by omega)).2, laS_c n (fun i hi => h i (by omega))]
theorem htS_c : ∀ k, (∀ i, i < k → tk' i = tk i) → htS tk' k = htS tk k
  | 0, _ => rfl
  | k + 1, h => by
    show htN (tk' k) (htS tk' k) = htN (tk k) (htS tk k)
    rw [h k (by omega), htS_c k (fun i hi => h i (by omega))]
theorem wfS_c (h : wfS tk m) (e : ∀ i, i < m → tk' i = tk i) : wfS tk' m := by
  refine ⟨(htS_c m e).trans h.1, fun k hk => ?_⟩
  rw [e k hk, htS_c k (fun i hi => e i (by omega))]
  exact h.2 k hk
theorem CLS_s (h : CLS C q1 q2 q3 q4 q5 b tb en n) (hn : n < 10) (hu : ∀ k, k ≤ pcS q1 b n → en k ≤ u)
    (e1 : ∀ i, i < n → q1' (b + i) = q1 (b + i)) (e2 : ∀ i, i < n → q2' (b + i) = q2 (b + i)) (e3 : ∀ i, i < n → q3' (b + i) = q3 (b + i)) (e4 : ∀ i, i < n → q4' (b + i) = q4 (b + i)) (e5 : ∀ i, i < tb + u → q5' i = q5 i)
    (hx : rg (q1' (b + n)) 4) (hy : rg (q2' (b + n)) 99) (hen : ∀ k, k ≤ pcS q1 b n → en' k = en k) (h3 : C' 0 3 = nI (pcS q1' b (n + 1)))
    (h6 : ∀ k, k < pcS q1 b n → C' 6 k = C 6 k ∧ C' 7 k = C 7 k) (h8 : ∀ i, i < u → C' 8 i = C 8 i ∧ C' 9 i = C 9 i ∧ C' 10 i = C 10 i)
    (hcn : ¬ 1 < q1' (b + n) → cnS C' q1' q2' q3' q4' q5' tb (b + n) (pcS q1 b n) (en' (pcS q1 b n)) (en' (pcS q1 b n + 1)))
    (h0 : C' 0 0 = if q1' (b + n) = 2 then q2' (b + n) else C 0 0) (h1 : C' 0 1 = if q1' (b + n) = 3 then q2' (b + n) else C 0 1) (h2 : C' 0 2 = if q1' (b + n) = 4 then q2' (b + n) else C 0 2) :
    CLS C' q1' q2' q3' q4' q5' b tb en' (n + 1) := by
  obtain ⟨a1, a2, a3, a4, a5, a6, a7, a8, a9, b1⟩ := h
  refine ⟨hn, a2, a3, fun i hi => ?_, (hen 0 (Nat.zero_le _)).trans a5, h3, fun i hi hp => ?_, ?_, ?_, ?_⟩
  · by_cases c : i = n
    · subst c
      exact ⟨hx, hy⟩
    · rw [e1 i (by omega), e2 i (by omega)]
      exact a4 i (by omega)
  · by_cases c : i = n
    · subst c
      rw [pcS_c i e1]
      exact hcn hp
    · have hin : i < n := by omega
      rw [e1 i hin] at hp
      have hc := a7 i hin hp
      have hp1 : pcS q1 b (i + 1) = pcS q1 b i + 1 := by rw [pcS, if_neg hp]
      have hle : pcS q1 b i + 1 ≤ pcS q1 b n := by
        rw [← hp1]
        exact pcS_mono (by omega)
      rw [pcS_c i (fun j hj => e1 j (by omega)), hen _ (by omega), hen _ hle]
      obtain ⟨c1, c2, c3, c4, c5, c6, c7, c8⟩ := hc
      have hb := hu _ hle
      refine ⟨c1, c2, ?_, ?_, ?_, ?_, fun j hj => ?_, wfS_c c8 (fun j hj => e5 _ (by omega))⟩
      · rw [e3 i hin]; exact c3
      · rw [e4 i hin]; exact c4
      · rw [(h6 _ (by omega)).1, e1 i hin, e2 i hin]; exact c5
      · rw [(h6 _ (by omega)).2]; exact c6
      · obtain ⟨d1, d2, d3⟩ := h8 (en (pcS q1 b i) + j) (by omega)
        rw [d1, d2, d3, e5 _ (by omega)]
        exact c7 j hj
  · rw [h0, a8]
    show _ = if q1' (b + n) = 2 then q2' (b + n) else laS q1' q2' b 2 10 n
    rw [laS_c n (fun i hi => ⟨e1 i hi, e2 i hi⟩)]
  · rw [h1, a9]
    show _ = if q1' (b + n) = 3 then q2' (b + n) else laS q1' q2' b 3 0 n
    rw [laS_c n (fun i hi => ⟨e1 i hi, e2 i hi⟩)]
  · rw [h2, b1]
    show _ = if q1' (b + n) = 4 then q2' (b + n) else laS q1' q2' b 4 0 n
    rw [laS_c n (fun i hi => ⟨e1 i hi, e2 i hi⟩)]
end Cm
section Hd
variable {s : Mm} {R P C C0 C' : Pm} {rid L tb v1 : Nat} {z l p q h fl x x7 : Int32} {g4 g5 g6 : Nat → Int32}
theorem dS_up {c j : Nat} (h0 : c ≠ 0) (h4 : c ≠ 24) (h5 : c ≠ 25) (h6 : c ≠ 26) : up2 (dS P p z q h l g4 g5 g6) c j x = dS (up2 P c j x) p z q h l g4 g5 g6 := by
  funext d
  by_cases hd : d = c
  · subst hd
    rw [up2_g, if_pos rfl, dS_n h0 h4 h5 h6, dS_n h0 h4 h5 h6, up2_g, if_pos rfl]
  · rw [up2_g, if_neg hd]
    by_cases k0 : d = 0
    · subst k0
      funext i
      show _ = dS (up2 P c j x) p z q h l g4 g5 g6 0 i
      rw [dS_0, dS_0, up2_g, if_neg hd]
    · unfold dS
      rw [if_neg k0, if_neg k0, up2_g, if_neg hd]
theorem RDH_up {c j : Nat} (hH : RDH R P rid L tb v1) (h0 : c ≠ 0) (h19 : c ≠ 19) : RDH R (up2 P c j x) rid L tb v1 := by
  obtain ⟨hr, hlt, hkd, hL, hR, hR4, hP, hT, htb, hv1⟩ := hH
  refine ⟨hr, hlt, hkd, hL, hR, hR4, ?_, ?_, htb, hv1⟩
  · rw [up2_g, if_neg (fun e => h0 e.symm)]; exact hP
  · rw [up2_g, if_neg (fun e => h19 e.symm)]; exact hT
theorem WRD_f {x : Int32} {w n a q : Nat} (hW : WRD x w n a q) : f_X3_wordOf x = some w ∧ w < 7 ∧ sLn.getD w 0 = n + 1 ∧ n ≤ 6 ∧ a + n ≤ 23 ∧ sChr w n = 32 ∧ (∀ i, i < n + 1 → sChr w i ≠ -1) ∧ q ≤ 4 := by
  rcases hW with ⟨rfl, rfl, rfl, rfl, rfl⟩ | ⟨rfl, rfl, rfl, rfl, rfl⟩ | ⟨rfl, rfl, rfl, rfl, rfl⟩ | ⟨rfl, rfl, rfl, rfl, rfl⟩ | ⟨rfl, rfl, rfl, rfl, rfl⟩
  · exact ⟨by decide, by decide, by decide, by decide, by decide, by decide, by decide, by decide⟩
  · exact ⟨by decide, by decide, by decide, by decide, by decide, by decide, by decide, by decide⟩
  · exact ⟨by decide, by decide, by decide, by decide, by decide, by decide, by decide, by decide⟩
  · exact ⟨by decide, by decide, by decide, by decide, by decide, by decide, by decide, by decide⟩
  · exact ⟨by decide, by decide, by decide, by decide, by decide, by decide, by decide, by decide⟩
/-- the reference: a clause's head -/
theorem m_head {k w n a qk c : Nat} (hH : RDH R P rid L tb c) (hk : k ≤ L) (hW : WRD (sg (R 4) L k) w n a qk) : f_X7_takesHead (dS P (nI k) z q h l g4 g5 g6) (nI c) = bn2 (f_X7_takesWord (dS (up2 P 21 c (nI qk)) (nI k) z q h l g4 g5 g6) (nI a) (nI n)) (fun x4 P5 => (if x4 = 0 ∨ x4 = 1 then some (x4, P5) else none)) := by
  obtain ⟨hr, hlt, hkd, hL, hR, hR4, hP, hT, htb, hv1⟩ := hH
  have hc : inb (nI c) 60 = true := inb_nI hv1 (by decide)
  have hx : ix (nI c) = c := ix_nI (by omega)
  unfold f_X7_takesHead
  rw [m_next hL hP (by omega), ← hT, Option.bind_some]
  simp only [hc, hx, if_true, nb_w, dS_up (P := P) (c := 21) (show (21 : Nat) ≠ 0 by decide) (show (21 : Nat) ≠ 24 by decide) (show (21 : Nat) ≠ 25 by decide) (show (21 : Nat) ≠ 26 by decide)]
  rcases hW with ⟨e, rfl, rfl, rfl, rfl⟩ | ⟨e, rfl, rfl, rfl, rfl⟩ | ⟨e, rfl, rfl, rfl, rfl⟩ | ⟨e, rfl, rfl, rfl, rfl⟩ | ⟨e, rfl, rfl, rfl, rfl⟩
  · rw [e, if_pos rfl]; rfl
  · rw [e, if_neg (by decide), if_neg (by decide), if_pos rfl]; rfl
  · rw [e, if_neg (by decide), if_neg (by decide), if_neg (by decide), if_pos rfl]; rfl
  · rw [e, if_neg (by decide), if_neg (by decide), if_neg (by decide), if_neg (by decide)]; rfl
  · rw [e, if_neg (by decide), if_pos rfl]; rfl
theorem m_headN {k c : Nat} (hH : RDH R P rid L tb c) (hk : k ≤ L) (h1 : sg (R 4) L k ≠ 99) (h2 : sg (R 4) L k ≠ 100) (h3 : sg (R 4) L k ≠ 109) (h4 : sg (R 4) L k ≠ 115) : f_X7_takesHead (dS P (nI k) z q h l g4 g5 g6) (nI c) = bn2 (f_X7_takesWord (dS (up2 P 21 c (nI 4)) (nI k) z q h l g4 g5 g6) (nI 19) (nI 4)) (fun x4 P5 => (if x4 = 0 ∨ x4 = 1 then some (x4, P5) else none)) := by
  obtain ⟨hr, hlt, hkd, hL, hR, hR4, hP, hT, htb, hv1⟩ := hH
  have hc : inb (nI c) 60 = true := inb_nI hv1 (by decide)
  have hx : ix (nI c) = c := ix_nI (by omega)
  unfold f_X7_takesHead
  rw [m_next hL hP (by omega), ← hT, Option.bind_some, if_neg h1, if_neg h2, if_neg h3, if_neg h4, if_pos hc, nb_w, hx, dS_up (by decide) (by decide) (by decide) (by decide)]
  rfl
/-- a head, on both sides -/
theorem q_head {k c : Nat} (hH : RDH R P rid L tb c) (hLe : LET P) (hk : k ≤ L) : ∃ w qk p', f_X3_wordOf (sg (R 4) L k) = some w ∧ w < 7 ∧ p' ≤ L ∧ qk ≤ 4 ∧
    ((f_X3_expectWord (cS s R rid (nI k) 0 C) w = some (cS s R rid (nI p') 1 C) ∧ ∀ z q h l g4 g5 g6, f_X7_takesHead (dS P (nI k) z q h l g4 g5 g6) (nI c) = some (0, dS (up2 P 21 c (nI qk)) (nI p') z q h l g4 g5 g6)) ∨
     (f_X3_expectWord (cS s R rid (nI k) 0 C) w = some (cS s R rid (nI p') 0 C) ∧ k < p' ∧ (∃ n a, WRD (sg (R 4) L k) w n a qk) ∧ ∀ z q h l g4 g5 g6, f_X7_takesHead (dS P (nI k) z q h l g4 g5 g6) (nI c) = some (1, dS (up2 P 21 c (nI qk)) (nI p') z q h l g4 g5 g6))) := by
  have hL := hH.2.2.2.1
  by_cases hex : ∃ w n a qk, WRD (sg (R 4) L k) w n a qk
  · obtain ⟨w, n, a, qk, hW⟩ := hex
    obtain ⟨f1, f2, f3, f4, f5, f6, f7, f8⟩ := WRD_f hW
    obtain ⟨w1, w2⟩ := e_word (s := s) (C := C) hH f3 (by omega) hk f7
    have wl := woE_le (T := R 4) (L := L) (w := sChr w) (k := k) (n + 1)
    have hm : ∀ z q h l g4 g5 g6, f_X7_takesHead (dS P (nI k) z q h l g4 g5 g6) (nI c) = some (if woE (R 4) L (sChr w) k (n + 1) = n + 1 then 1 else 0, dS (up2 P 21 c (nI qk)) (nI (k + woE (R 4) L (sChr w) k (n + 1))) z q h l g4 g5 g6) := by
      intro z q h l g4 g5 g6
      rw [m_head hH hk hW, m_word (RDH_up (x := nI qk) (c := 21) (j := c) hH (by decide) (by decide)) (by omega) f5 hk (fun i hi => hLe _ _ _ _ _ hW i hi) f6 (fun i hi => f7 i (by omega)), bn2_w]
      split
      · rw [if_pos (Or.inr rfl)]
      · rw [if_pos (Or.inl rfl)]
    refine ⟨w, qk, k + woE (R 4) L (sChr w) k (n + 1), f1, f2, w2, f8, ?_⟩
    by_cases ce : woE (R 4) L (sChr w) k (n + 1) = n + 1
    · right
      rw [if_pos ce] at w1
      refine ⟨w1, by omega, ⟨n, a, hW⟩, fun z q h l g4 g5 g6 => ?_⟩
      rw [hm, if_pos ce]
    · left
      rw [if_neg ce] at w1
      refine ⟨w1, fun z q h l g4 g5 g6 => ?_⟩
      rw [hm, if_neg ce]
  · have h1 : sg (R 4) L k ≠ 99 := fun e => hex ⟨0, 5, 4, 1, Or.inl ⟨e, rfl, rfl, rfl, rfl⟩⟩
    have h3 : sg (R 4) L k ≠ 109 := fun e => hex ⟨1, 4, 9, 2, Or.inr (Or.inl ⟨e, rfl, rfl, rfl, rfl⟩)⟩
    have h4 : sg (R 4) L k ≠ 115 := fun e => hex ⟨2, 6, 13, 3, Or.inr (Or.inr (Or.inl ⟨e, rfl, rfl, rfl, rfl⟩))⟩
    have h5 : sg (R 4) L k ≠ 102 := fun e => hex ⟨3, 4, 19, 4, Or.inr (Or.inr (Or.inr (Or.inl ⟨e, rfl, rfl, rfl, rfl⟩)))⟩
    have h2 : sg (R 4) L k ≠ 100 := fun e => hex ⟨4, 4, 0, 0, Or.inr (Or.inr (Or.inr (Or.inr ⟨e, rfl, rfl, rfl, rfl⟩)))⟩
    have d4 : sChr 4 0 = 100 := by decide
    have d3 : sChr 3 0 = 102 := by decide
    have s4 : woE (R 4) L (sChr 4) k 5 = 0 := woE_stop (i := 0) rfl (by rw [d4]; exact h2) 4
    have s3 : woE (R 4) L (sChr 3) k 5 = 0 := woE_stop (i := 0) rfl (by rw [d3]; exact h5) 4
    obtain ⟨w1, w2⟩ := e_word (s := s) (C := C) (w := 4) (n := 5) hH (by decide) (by omega) hk (by decide)
    rw [s4, if_neg (by omega)] at w1
    refine ⟨4, 4, k, ?_, by omega, hk, by omega, Or.inl ⟨w1, fun z q h l g4 g5 g6 => ?_⟩⟩
    · unfold f_X3_wordOf
      rw [if_neg h1, if_neg h5, if_neg h3, if_neg h4]
    · have hm := m_word (z := z) (q := q) (h := h) (l := l) (g4 := g4) (g5 := g5) (g6 := g6) (a := 19) (w := 3) (n := 4) (RDH_up (x := nI 4) (c := 21) (j := c) hH (by decide) (by decide)) (by omega) (by omega) hk (fun i hi => hLe 102 3 4 19 4 (Or.inr (Or.inr (Or.inr (Or.inl ⟨rfl, rfl, rfl, rfl, rfl⟩)))) i hi) (by decide) (by decide)
      rw [s3, if_neg (by omega)] at hm
      rw [m_headN hH hk h1 h2 h3 h4, hm, bn2_w, if_pos (Or.inl rfl)]
      rfl
end Hd
