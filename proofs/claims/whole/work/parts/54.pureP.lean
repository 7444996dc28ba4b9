/-! the pure side P: an E from its start, on both sides -/
section Al
variable {s : Mm} {R P C : Pm} {rid L tb v1 : Nat} {z l : Int32} {g4 g5 g6 : Nat → Int32}
theorem q_all (hH : RDH R P rid L tb v1) : ∀ d lvl, lvl + d = 4 → PartS s R P rid L tb v1 lvl ∧ EithS s R P rid L tb v1 lvl
  | 0, lvl, h => by
    have hp : PartS s R P rid L tb v1 lvl := q_part hH (by omega) (fun w => absurd w (by omega)) (fun w => absurd w (by omega))
    exact ⟨hp, q_eith hH (by omega) hp⟩
  | d + 1, lvl, h => by
    obtain ⟨h1, h2⟩ := q_all hH d (lvl + 1) (by omega)
    have hp : PartS s R P rid L tb v1 lvl := q_part hH (by omega) (fun _ => h1) (fun _ => h2)
    exact ⟨hp, q_eith hH (by omega) hp⟩
theorem m_end {k q : Nat} {o1 o2 : Bool} (hH : RDH R P rid L tb v1) (hk : k ≤ L) (hq : q + opN o1 o2 ≤ 600) (ho : opG o1 o2 0 g6) (h38 : sg (R 4) L k ≠ 38) (h124 : sg (R 4) L k ≠ 124) : f_X7_takesE_B22 (nI v1) 0 (dS P (nI k) z (nI q) (nI (0 + opN o1 o2)) l g4 g5 g6) = some (.inr (1, dS P (nI k) z (nI (q + (opL o1 o2).length)) (nI 0) l (upd g4 v1 (nI (q + (opL o1 o2).length))) (putL g5 q (opL o1 o2)) g6)) := by
  obtain ⟨hr, hlt, hkd, hL, hR, hR4, hP, hT, htb, hv1⟩ := hH
  have h2 := (opL_le (o1 := o1) (o2 := o2)).2
  unfold f_X7_takesE_B22
  rw [m_next hL hP (by omega), ← hT, Option.bind_some, if_pos rfl, if_neg h38, if_neg h124, m_flush hq (by omega) ho (fun h0 => absurd h0 (by omega)), Option.bind_some, if_pos (inb_nI hv1 (by decide)), ix_nI (by omega)]
  generalize (opL o1 o2).length = w
  show (nb (up2 (dS P (nI k) z (nI (q + w)) (nI 0) l g4 (putL g5 q (opL o1 o2)) g6) 24 v1 (nI (q + w))) _) = _
  rw [dS_g4, nb_w]
  show (if nI 0 = 0 then _ else _) = _
  rw [if_pos (show nI 0 = 0 from rfl)]
  rfl
theorem q_E {k u : Nat} (hH : RDH R P rid L tb v1) (hk : k ≤ L) (hu : C 0 4 = nI u) (hb : u ≤ k) :
    (∃ p' C' P', k ≤ p' ∧ p' ≤ L ∧ CG C C' ∧ f_X3_readEither (f_X3_readPart 40) (cS s R rid (nI k) 0 C) 0 = some (cS s R rid (nI p') 1 C') ∧ FR P p' tb v1 g4 g5 P' ∧ f_X7_takesE_H22 (dS P (nI k) z (nI (tb + u)) 0 0 g4 g5 g6) (nI v1) 1 = some (0, P')) ∨
    (∃ p' E z' g4' g6', k < p' ∧ p' ≤ L ∧ E.length ≤ p' - k ∧ (∀ h b, h + 11 ≤ b → hOK E b h (h + 1)) ∧ f_X3_readEither (f_X3_readPart 40) (cS s R rid (nI k) 0 C) 0 = some (cS s R rid (nI p') 0 (addL C u E)) ∧ sg (R 4) L p' ≠ 38 ∧ sg (R 4) L p' ≠ 124 ∧ g4' v1 = nI (tb + u + E.length) ∧ (∀ i, i ≠ v1 → g4' i = g4 i) ∧ f_X7_takesE_H22 (dS P (nI k) z (nI (tb + u)) 0 0 g4 g5 g6) (nI v1) 1 = some (1, dS P (nI p') z' (nI (tb + u + E.length)) 0 0 g4' (putL g5 (tb + u) E) g6')) := by
  have hL := hH.2.2.2.1
  have htb := hH.2.2.2.2.2.2.2.2.1
  rcases (q_all (s := s) hH 4 0 rfl).2 40 (by omega) k u 0 C z g4 g5 g6 hk hu (by omega) (fun h0 => absurd h0 (by omega)) with ⟨p', C', j, P', a1, a2, a3, a4, a5, a6, a7⟩ | ⟨p', D, o1, o2, j, z', g4', g6', a1, a2, a3, a4, a5, b1, b2, a6, a7, b3, a8, a9⟩
  · left
    exact ⟨p', C', P', a1, a2, a3, a4, a6, a7 200 (by omega)⟩
  · right
    have hlen : (D ++ opL o1 o2).length = D.length + opN o1 o2 := by rw [List.length_append, opL_le.1]
    have hm := m_end (z := z') (l := nI 0) (g4 := g4') (g5 := putL g5 (tb + u) D) (q := tb + u + D.length) hH a2 (by omega) b3 b1 b2
    rw [show tb + u + D.length + (opL o1 o2).length = tb + u + (D ++ opL o1 o2).length by rw [List.length_append]; omega, show putL (putL g5 (tb + u) D) (tb + u + D.length) (opL o1 o2) = putL g5 (tb + u) (D ++ opL o1 o2) from putL_app.symm] at hm
    refine ⟨p', D ++ opL o1 o2, z', upd g4' v1 (nI (tb + u + (D ++ opL o1 o2).length)), g6', a1, a2, a3, fun h b hb => a4 h b (by omega), a5, b1, b2, by rw [upd_g, if_pos rfl], fun i hi => by rw [upd_g, if_neg hi]; exact a8 i hi, ?_⟩
    exact (ends_t a9 (ends_0 hm)) 200 (by omega)
end Al
