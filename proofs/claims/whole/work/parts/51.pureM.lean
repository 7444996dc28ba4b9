/-! the pure side M: an operator, in the reference; the class's loops in an E -/
section Ei
variable {s : Mm} {R P C C' : Pm} {rid L tb v1 lvl : Nat} {p p' fl z h l x : Int32} {g4 g5 g6 T : Nat → Int32} {j : Nat}
def andL (o2 : Bool) : List Int32 := if o2 then [-38] else []
/-- an operator is pushed -/
theorem m_push {k q y : Nat} {o : Int32} (hy : y ≤ 100) (hs : f_X7_settle (dS P (nI k) z (nI q) p l g4 g5 g6) o = some (dS P (nI k) z h (nI y) l g4 T g6)) : f_X7_takesE_J122 (dS P (nI k) z (nI q) p l g4 g5 g6) (nI v1) o = some (.inl (1, dS P (nI (k + 1)) z h (nI (y + 1)) l g4 T (upd g6 y o))) := by
  unfold f_X7_takesE_J122
  rw [hs, Option.bind_some]
  show (if inb (nI y) 101 = true then nb (up2 (dS P (nI k) z h (nI y) l g4 T g6) 26 (ix (nI y)) o) _ else none) = _
  rw [if_pos (inb_nI (by omega) (by decide)), ix_nI (by omega), dS_g6, nb_w]
  show (nb (up2 (dS P (nI k) z h (nI y) l g4 T (upd g6 y o)) 0 27 (nI y + 1)) _) = _
  rw [nI_1, dS_27, nb_w, m_at, nb_w]
theorem m_or {k q hh : Nat} {o1 o2 : Bool} (hH : RDH R P rid L tb v1) (hk : k ≤ L) (hq : q + opN o1 o2 ≤ 600) (hh2 : hh + opN o1 o2 ≤ 100) (ho : opG o1 o2 hh g6) (ht : 0 < hh → g6 (hh - 1) = 40) (hx : sg (R 4) L k = 124) : f_X7_takesE_B22 (nI v1) 0 (dS P (nI k) z (nI q) (nI (hh + opN o1 o2)) l g4 g5 g6) = some (.inl (1, dS P (nI (k + 1)) z (nI (q + (opL o1 o2).length)) (nI (hh + 1)) l g4 (putL g5 q (opL o1 o2)) (upd g6 hh 124))) := by
  obtain ⟨hr, hlt, hkd, hL, hR, hR4, hP, hT, htb, hv1⟩ := hH
  unfold f_X7_takesE_B22
  rw [m_next hL hP (by omega), ← hT, Option.bind_some, if_pos rfl, hx, if_neg (by decide), if_pos rfl]
  exact m_push (by omega) (m_flush hq (by omega) ho ht)
theorem m_and {k q hh : Nat} {o1 o2 : Bool} (hH : RDH R P rid L tb v1) (hk : k ≤ L) (hq : q + opN o1 o2 ≤ 600) (hh2 : hh + opN o1 o2 ≤ 100) (ho : opG o1 o2 hh g6) (ht : 0 < hh → g6 (hh - 1) = 40) (hx : sg (R 4) L k = 38) : f_X7_takesE_B22 (nI v1) 0 (dS P (nI k) z (nI q) (nI (hh + opN o1 o2)) l g4 g5 g6) = some (.inl (1, dS P (nI (k + 1)) z (nI (q + (andL o2).length)) (nI (hh + opN o1 false + 1)) l g4 (putL g5 q (andL o2)) (upd g6 (hh + opN o1 false) 38))) := by
  obtain ⟨hr, hlt, hkd, hL, hR, hR4, hP, hT, htb, hv1⟩ := hH
  have e0 : ∀ q' g', f_X7_settle_B0 38 (dS P (nI k) z (nI q') (nI (hh + opN o1 false)) l g4 g' g6) = some (.inr (dS P (nI k) z (nI q') (nI (hh + opN o1 false)) l g4 g' g6)) := fun q' g' => m_set0 (by
    have : opN o1 false ≤ opN o1 o2 := by cases o1 <;> cases o2 <;> decide
    omega) (fun h0 => by
    cases o1 with
    | false =>
      rw [show hh + opN false false - 1 = hh - 1 from rfl, ht h0]
      exact ⟨by decide, fun _ => rfl⟩
    | true =>
      rw [show hh + opN true false - 1 = hh from rfl, ho.1 rfl]
      exact ⟨by decide, fun _ => rfl⟩)
  have hs : f_X7_settle (dS P (nI k) z (nI q) (nI (hh + opN o1 o2)) l g4 g5 g6) 38 = some (dS P (nI k) z (nI (q + (andL o2).length)) (nI (hh + opN o1 false)) l g4 (putL g5 q (andL o2)) g6) := by
    unfold f_X7_settle f_X7_settle_H0
    cases o2 with
    | false =>
      rw [iter_end (r := dS P (nI k) z (nI q) (nI (hh + opN o1 false)) l g4 g5 g6) (by decide) (e0 q g5)]
      rfl
    | true =>
      have e1 : opN o1 true = opN o1 false + 1 := by cases o1 <;> rfl
      have s1 := m_set1 (P := P) (p := nI k) (z := z) (l := l) (g4 := g4) (g5 := g5) (g6 := g6) (v := 38) (q := q) (y := hh + opN o1 false) (o := 38) (by omega) (by omega) (by
        cases o1 with
        | false => exact ho.2 rfl
        | true => exact ho.2 rfl) (Or.inl rfl)
      rw [e1, show hh + (opN o1 false + 1) = hh + opN o1 false + 1 by omega, iter_go (s' := dS P (nI k) z (nI (q + 1)) (nI (hh + opN o1 false)) l g4 (upd g5 q (-38)) g6) (by decide) s1, iter_end (r := dS P (nI k) z (nI (q + 1)) (nI (hh + opN o1 false)) l g4 (upd g5 q (-38)) g6) (by decide) (e0 _ _)]
      rfl
  unfold f_X7_takesE_B22
  rw [m_next hL hP (by omega), ← hT, Option.bind_some, if_pos rfl, hx, if_pos rfl]
  refine m_push ?_ hs
  have : opN o1 false ≤ opN o1 o2 := by cases o1 <;> cases o2 <;> decide
  omega
end Ei
