/-! the pure side 70: acts; its first rows written by wip/whole/pure/gen70.py -/
section Ru
variable {rec : Pm → Int32 → Int32 → Int32 → Int32 → Option (Int32 × Pm)} {P : Pm} {u x o : Int32}
theorem run_10 : f_X0_run rec P 10 u x o = some (x + P 0 2, P) := by
  unfold f_X0_run
  rw [if_pos rfl]
theorem run_11 : f_X0_run rec P 11 u x o = bn2 (rec P (P 0 3) 0 x o) (fun x1 P2 => some ((x1 - (P2 0 4)), P2)) := by
  unfold f_X0_run
  rw [if_neg (show ¬ (11 : Int32) = 10 by decide), if_pos rfl]
theorem run_12 : f_X0_run rec P 12 u x o = bn2 (rec P (P 0 3) 1 x o) (fun x3 P4 => some ((x3 * 2), P4)) := by
  unfold f_X0_run
  rw [if_neg (show ¬ (12 : Int32) = 10 by decide), if_neg (show ¬ (12 : Int32) = 11 by decide), if_pos rfl]
theorem run_20 : f_X0_run rec P 20 u x o = bn2 (rec P u 1 x o) (fun x5 P6 => some ((x5 ^^^ 6), P6)) := by
  unfold f_X0_run
  rw [if_neg (show ¬ (20 : Int32) = 10 by decide), if_neg (show ¬ (20 : Int32) = 11 by decide), if_neg (show ¬ (20 : Int32) = 12 by decide), if_pos rfl]
theorem run_30 : f_X0_run rec P 30 u x o = bn2 (rec P u 0 (x * 3) o) (fun x7 P8 => some (x7, P8)) := by
  unfold f_X0_run
  rw [if_neg (show ¬ (30 : Int32) = 10 by decide), if_neg (show ¬ (30 : Int32) = 11 by decide), if_neg (show ¬ (30 : Int32) = 12 by decide), if_neg (show ¬ (30 : Int32) = 20 by decide), if_pos rfl]
theorem run_40 : f_X0_run rec P 40 u x o = bn2 (rec P u 2 x o) (fun x9 P10 => bn2 (rec P10 (P10 0 3) 1 1 o) (fun x11 P12 => some ((x9 + x11), P12))) := by
  unfold f_X0_run
  rw [if_neg (show ¬ (40 : Int32) = 10 by decide), if_neg (show ¬ (40 : Int32) = 11 by decide), if_neg (show ¬ (40 : Int32) = 12 by decide), if_neg (show ¬ (40 : Int32) = 20 by decide), if_neg (show ¬ (40 : Int32) = 30 by decide), if_pos rfl]
theorem run_50 : f_X0_run rec P 50 u x o = bn2 (rec P u 0 x o) (fun x13 P14 => some ((-x13), P14)) := by
  unfold f_X0_run
  rw [if_neg (show ¬ (50 : Int32) = 10 by decide), if_neg (show ¬ (50 : Int32) = 11 by decide), if_neg (show ¬ (50 : Int32) = 12 by decide), if_neg (show ¬ (50 : Int32) = 20 by decide), if_neg (show ¬ (50 : Int32) = 30 by decide), if_neg (show ¬ (50 : Int32) = 40 by decide), if_pos rfl]
theorem run_51 : f_X0_run rec P 51 u x o = bn2 (rec P u 1 (x + 1) o) (fun x15 P16 => some (x15, P16)) := by
  unfold f_X0_run
  rw [if_neg (show ¬ (51 : Int32) = 10 by decide), if_neg (show ¬ (51 : Int32) = 11 by decide), if_neg (show ¬ (51 : Int32) = 12 by decide), if_neg (show ¬ (51 : Int32) = 20 by decide), if_neg (show ¬ (51 : Int32) = 30 by decide), if_neg (show ¬ (51 : Int32) = 40 by decide), if_neg (show ¬ (51 : Int32) = 50 by decide), if_pos rfl]
theorem run_60 : f_X0_run rec P 60 u x o = bn2 (rec P u 2 (x - (P 0 2)) o) (fun x17 P18 => some (x17, P18)) := by
  unfold f_X0_run
  rw [if_neg (show ¬ (60 : Int32) = 10 by decide), if_neg (show ¬ (60 : Int32) = 11 by decide), if_neg (show ¬ (60 : Int32) = 12 by decide), if_neg (show ¬ (60 : Int32) = 20 by decide), if_neg (show ¬ (60 : Int32) = 30 by decide), if_neg (show ¬ (60 : Int32) = 40 by decide), if_neg (show ¬ (60 : Int32) = 50 by decide), if_neg (show ¬ (60 : Int32) = 51 by decide), if_pos rfl]
theorem run_70 : f_X0_run rec P 70 u x o = bn2 (rec P u 1 x o) (fun x19 P20 => bn2 (rec P20 u 0 2 o) (fun x21 P22 => some ((x19 + x21), P22))) := by
  unfold f_X0_run
  rw [if_neg (show ¬ (70 : Int32) = 10 by decide), if_neg (show ¬ (70 : Int32) = 11 by decide), if_neg (show ¬ (70 : Int32) = 12 by decide), if_neg (show ¬ (70 : Int32) = 20 by decide), if_neg (show ¬ (70 : Int32) = 30 by decide), if_neg (show ¬ (70 : Int32) = 40 by decide), if_neg (show ¬ (70 : Int32) = 50 by decide), if_neg (show ¬ (70 : Int32) = 51 by decide), if_neg (show ¬ (70 : Int32) = 60 by decide), if_pos rfl]
theorem run_71 : f_X0_run rec P 71 u x o = bn2 (rec P u 0 x o) (fun x23 P24 => some ((x23 ^^^ (P24 0 4)), P24)) := by
  unfold f_X0_run
  rw [if_neg (show ¬ (71 : Int32) = 10 by decide), if_neg (show ¬ (71 : Int32) = 11 by decide), if_neg (show ¬ (71 : Int32) = 12 by decide), if_neg (show ¬ (71 : Int32) = 20 by decide), if_neg (show ¬ (71 : Int32) = 30 by decide), if_neg (show ¬ (71 : Int32) = 40 by decide), if_neg (show ¬ (71 : Int32) = 50 by decide), if_neg (show ¬ (71 : Int32) = 51 by decide), if_neg (show ¬ (71 : Int32) = 60 by decide), if_neg (show ¬ (71 : Int32) = 70 by decide), if_pos rfl]
end Ru
def own (k a : Nat) : Nat := ([0, 0, 0, 0, 1, 0, 2, 0, 0, 0, 0, 3, 4, 4, 0, 2, 0, 5, 6, 6, 3] : List Nat).getD (3 * k + a) 0
def ownB (v2 v5 v6 : Int32) : Option ((Int32 × Int32) ⊕ (Int32)) := (if 7 ≤ v6 then some (.inr v5) else (if v5 ≤ 0 then some (.inr v5) else (if inb ((v5 * 3) + v2) 21 = true then (if (tBo (ix ((v5 * 3) + v2))) = 0 then (if inb v5 7 = true then some (.inl ((tAb (ix v5)), (v6 + 1))) else none) else some (.inr v5)) else none)))
theorem own_it : ∀ k, k < 7 → ∀ a, a < 3 → iter (fun t : Int32 × Int32 => ownB (nI a) t.1 t.2) 200 (nI k, 0) = some (nI (own k a)) := by decide +kernel
theorem own_lt : ∀ k, k < 7 → ∀ a, a < 3 → own k a < 7 := by decide
theorem bn2_id {α β : Type} {X : Option (α × β)} : bn2 X (fun a b => some (a, b)) = X := by
  cases X with
  | none => rfl
  | some p => rfl
def bA (A : Pm) (r : Nat) (b : Int32) : Pm := up2 (up2 A 2 r b) 0 0 (nI (r + 1))
def bQ (Q : Pm) (r : Nat) (b : Int32) : Pm := up2 (up2 Q 79 r b) 0 77 (nI (r + 1))
section Ac
variable {A Q Q0 : Pm} {x b u v z : Int32} {n k a r op i kd m : Nat}
theorem from_at (hk : k < 7) (ha : a < 3) (hr : r < 20) (ho : op ≤ 40) (h0 : A 0 0 = nI r) (hb : tBo (3 * own k a + a) = b) (hu : tAb (own k a) = u) : f_X0_from (n + 1) A (nI k) (nI a) x (nI op) = f_X0_run (f_X0_from n) (bA A r b) b u x (nI (op + 1)) := by
  have hw := own_lt k hk a ha
  have hit : iter (fun t : Int32 × Int32 => f_X0_from_B15 (f_X0_from n) A (nI a) x (nI op) t.1 t.2) 200 (nI k, 0) = some (nI (own k a)) := own_it k hk a ha
  have e3 : nI (own k a) * 3 + nI a = nI (3 * own k a + a) := by rw [show (3 : Int32) = nI 3 from rfl, pk_mul, nI_add, Nat.mul_comm]
  show f_X0_fromS (f_X0_from n) A (nI k) (nI a) x (nI op) = _
  unfold f_X0_fromS f_X0_from_H15
  rw [if_pos (show nI op ≤ 40 from nI_le (b := 40) ho (by omega)), hit, Option.bind_some]
  unfold f_X0_from_J54
  rw [if_neg (show ¬ nI (own k a) < 0 from fun w => absurd (nI_pos' (n := own k a) (by omega)) (Int32.not_le.mpr w)), if_pos (show nI (own k a) < 7 from nI_lt (b := 7) hw (by omega)), e3, if_pos (inb_nI (by omega) (by decide)), ix_nI (by omega), hb, h0, if_neg (show ¬ (20 : Int32) ≤ nI r from nI_ge (b := 20) hr (by omega)), if_pos (inb_nI hr (by decide)), ix_nI (by omega), nb_w]
  unfold f_X0_from_J100
  rw [nb_w, if_pos (inb_nI hw (by decide)), ix_nI (by omega), hu, nI_1]
  show bn2 (f_X0_run (f_X0_from n) (up2 (up2 A 2 r b) 0 0 (A 0 0 + 1)) b u x (nI (op + 1))) (fun x3 P4 => some (x3, P4)) = _
  rw [bn2_id, h0, nI_1]
  rfl
/-- both actors, r bodies have run -/
def AC (i kd : Nat) (v : Int32) (Q0 A Q : Pm) (r : Nat) : Prop := A 0 0 = nI r ∧ A 0 2 = nI i ∧ A 0 3 = nI kd ∧ A 0 4 = v ∧ Q 0 77 = nI r ∧ Q 4 i = nI kd ∧ Q 5 i = v ∧ (∀ j, j < r → A 2 j = Q 79 j) ∧ (∀ c, c ≠ 0 → c ≠ 79 → Q c = Q0 c) ∧ ∀ j, j ≠ 77 → Q 0 j = Q0 0 j
theorem AC_b (h : AC i kd v Q0 A Q r) (b : Int32) : AC i kd v Q0 (bA A r b) (bQ Q r b) (r + 1) := by
  obtain ⟨h1, h2, h3, h4, h5, h6, h7, h8, h9, h10⟩ := h
  refine ⟨u_s, ?_, ?_, ?_, u_s, h6, h7, fun j hj => ?_, fun c a1 a2 => ?_, fun j hj => ?_⟩
  · exact (u_ne (Or.inr (by decide))).trans h2
  · exact (u_ne (Or.inr (by decide))).trans h3
  · exact (u_ne (Or.inr (by decide))).trans h4
  · show upd (A 2) r b j = upd (Q 79) r b j
    rw [upd_g, upd_g]
    by_cases c : j = r
    · rw [if_pos c, if_pos c]
    · rw [if_neg c, if_neg c]
      exact h8 j (by omega)
  · unfold bQ
    rw [u_c a1, u_c a2]
    exact h9 c a1 a2
  · unfold bQ
    rw [u_ne (Or.inr hj), u_c (by decide)]
    exact h10 j hj
theorem m_body (h : AC i kd v Q0 A Q r) (hr : r < 20) : f_X7_body Q b = some (bQ Q r b) := by
  unfold f_X7_body f_X7_body_J19
  rw [h.2.2.2.2.1, if_neg (show ¬ (20 : Int32) ≤ nI r from nI_ge (b := 20) hr (by omega)), if_pos (inb_nI hr (by decide)), ix_nI (by omega), nb_w, nb_w, show up2 Q 79 r b 0 77 = nI r from h.2.2.2.2.1, nI_1]
  rfl
/-- one level: both sides, alike -/
def LV (i kd : Nat) (v : Int32) (Q0 : Pm) (n op k a m : Nat) (F : Pm → Int32 → Int32 → Option (Int32 × Pm)) : Prop := ∀ A Q x r, AC i kd v Q0 A Q r → r + m ≤ 20 → ∃ z A' Q' r', f_X0_from n A (nI k) (nI a) x (nI op) = some (z, A') ∧ F Q (nI i) x = some (z, Q') ∧ AC i kd v Q0 A' Q' r' ∧ r' ≤ r + m
theorem lv1 (hk : k < 7) (hw : own k 0 = 0) (hn : 1 ≤ n) (ho : op ≤ 40) : LV i kd v Q0 n op k 0 1 f_X7_borrowerSinks := by
  obtain ⟨n, rfl⟩ : ∃ n', n = n' + 1 := ⟨n - 1, by omega⟩
  intro A Q x r h hr
  have hb := AC_b h 10
  refine ⟨x + nI i, bA A r 10, bQ Q r 10, r + 1, ?_, ?_, hb, by omega⟩
  · rw [from_at (b := 10) hk (by omega) (by omega) ho h.1 (by rw [hw]; decide) rfl, run_10, hb.2.1]
  · unfold f_X7_borrowerSinks
    rw [m_body h (by omega), Option.bind_some]
theorem lv2 (hi : i < 6) (hkd : kd < 7) (hn : 2 ≤ n) (ho : op ≤ 39) : LV i kd v Q0 n op kd 0 2 f_X7_sinksAct := by
  obtain ⟨n, rfl⟩ : ∃ n', n = n' + 1 := ⟨n - 1, by omega⟩
  intro A Q x r h hr
  have h6 : inb (nI i) 6 = true := inb_nI hi (by decide)
  have hx : ix (nI i) = i := ix_nI (by omega)
  have hQ := h.2.2.2.2.2.1
  unfold f_X7_sinksAct f_X7_sinksAct_J40 f_X7_sinksAct_J89
  rw [if_pos h6, hx, hQ]
  have plain : own kd 0 = 0 → ∃ z A' Q' r', f_X0_from (n + 1) A (nI kd) (nI 0) x (nI op) = some (z, A') ∧ bn2 (f_X7_borrowerSinks Q (nI i) x) (fun x1 P2 => some (x1, P2)) = some (z, Q') ∧ AC i kd v Q0 A' Q' r' ∧ r' ≤ r + 2 := by
    intro hw
    obtain ⟨z, A', Q', r', e1, e2, e3, e4⟩ := lv1 (i := i) (kd := kd) (v := v) (Q0 := Q0) (n := n + 1) (op := op) (k := kd) hkd hw (by omega) (by omega) A Q x r h (by omega)
    exact ⟨z, A', Q', r', e1, by rw [e2]; rfl, e3, by omega⟩
  rcases (show kd = 0 ∨ kd = 1 ∨ kd = 2 ∨ kd = 3 ∨ kd = 4 ∨ kd = 5 ∨ kd = 6 by omega) with e | e | e | e | e | e | e
  · subst e; exact plain (by decide)
  · subst e; exact plain (by decide)
  · subst e
    rw [if_pos (by decide), m_body h (by omega), Option.bind_some, from_at (b := 30) (u := 0) hkd (by omega) (by omega) (by omega) h.1 (by decide) (by decide), run_30]
    obtain ⟨z, A', Q', r', e1, e2, e3, e4⟩ := lv1 (i := i) (kd := 2) (v := v) (Q0 := Q0) (n := n) (op := op + 1) (k := 0) (by omega) (by decide) (by omega) (by omega) _ _ (x * 3) _ (AC_b h 30) (by omega)
    exact ⟨z, A', Q', r', by rw [show (0 : Int32) = nI 0 from rfl, e1]; rfl, by rw [e2]; rfl, e3, by omega⟩
  · subst e; exact plain (by decide)
  · subst e
    rw [if_neg (by decide), if_pos (by decide), m_body h (by omega), Option.bind_some, from_at (b := 50) (u := 1) hkd (by omega) (by omega) (by omega) h.1 (by decide) (by decide), run_50]
    obtain ⟨z, A', Q', r', e1, e2, e3, e4⟩ := lv1 (i := i) (kd := 4) (v := v) (Q0 := Q0) (n := n) (op := op + 1) (k := 1) (by omega) (by decide) (by omega) (by omega) _ _ x _ (AC_b h 50) (by omega)
    exact ⟨-z, A', Q', r', by rw [show (1 : Int32) = nI 1 from rfl, show (0 : Int32) = nI 0 from rfl, e1]; rfl, by rw [e2]; rfl, e3, by omega⟩
  · subst e
    rw [if_neg (by decide), if_neg (by decide), if_pos (by decide), m_body h (by omega), Option.bind_some, from_at (b := 30) (u := 0) hkd (by omega) (by omega) (by omega) h.1 (by decide) (by decide), run_30]
    obtain ⟨z, A', Q', r', e1, e2, e3, e4⟩ := lv1 (i := i) (kd := 5) (v := v) (Q0 := Q0) (n := n) (op := op + 1) (k := 0) (by omega) (by decide) (by omega) (by omega) _ _ (x * 3) _ (AC_b h 30) (by omega)
    exact ⟨z, A', Q', r', by rw [show (0 : Int32) = nI 0 from rfl, e1]; rfl, by rw [e2]; rfl, e3, by omega⟩
  · subst e
    rw [if_neg (by decide), if_neg (by decide), if_neg (by decide), if_pos (by decide), m_body h (by omega), Option.bind_some, from_at (b := 71) (u := 3) hkd (by omega) (by omega) (by omega) h.1 (by decide) (by decide), run_71]
    obtain ⟨z, A', Q', r', e1, e2, e3, e4⟩ := lv1 (i := i) (kd := 6) (v := v) (Q0 := Q0) (n := n) (op := op + 1) (k := 3) (by omega) (by decide) (by omega) (by omega) _ _ x _ (AC_b h 71) (by omega)
    refine ⟨z ^^^ v, A', Q', r', ?_, ?_, e3, by omega⟩
    · rw [show (3 : Int32) = nI 3 from rfl, show (0 : Int32) = nI 0 from rfl, e1, bn2_w]
      show some (z ^^^ A' 0 4, A') = _
      rw [e3.2.2.2.1]
    · rw [e2, bn2_w, if_pos h6]
      show some (z ^^^ Q' 5 i, Q') = _
      rw [e3.2.2.2.2.2.2.1]
theorem lv3 (hi : i < 6) (hkd : kd < 7) (hk : k < 7) (hw : own k 1 = 0) (hn : 3 ≤ n) (ho : op ≤ 38) : LV i kd v Q0 n op k 1 3 f_X7_borrowerBorrows := by
  obtain ⟨n, rfl⟩ : ∃ n', n = n' + 1 := ⟨n - 1, by omega⟩
  intro A Q x r h hr
  have h6 : inb (nI i) 6 = true := inb_nI hi (by decide)
  have hx : ix (nI i) = i := ix_nI (by omega)
  unfold f_X7_borrowerBorrows
  rw [m_body h (by omega), Option.bind_some, from_at (b := 11) (u := -1) hk (by omega) (by omega) (by omega) h.1 (by rw [hw]; decide) (by rw [hw]; decide), run_11, (AC_b h 11).2.2.1]
  obtain ⟨z, A', Q', r', e1, e2, e3, e4⟩ := lv2 (i := i) (kd := kd) (v := v) (Q0 := Q0) (n := n) (op := op + 1) hi hkd (by omega) (by omega) _ _ x _ (AC_b h 11) (by omega)
  refine ⟨z - v, A', Q', r', ?_, ?_, e3, by omega⟩
  · rw [show (0 : Int32) = nI 0 from rfl, e1, bn2_w]
    show some (z - A' 0 4, A') = _
    rw [e3.2.2.2.1]
  · rw [e2, bn2_w, if_pos h6, hx, e3.2.2.2.2.2.2.1]
theorem lv4 (hi : i < 6) (hkd : kd < 7) (hn : 4 ≤ n) (ho : op ≤ 37) : LV i kd v Q0 n op 1 1 4 f_X7_lateBorrows := by
  obtain ⟨n, rfl⟩ : ∃ n', n = n' + 1 := ⟨n - 1, by omega⟩
  intro A Q x r h hr
  unfold f_X7_lateBorrows
  rw [m_body h (by omega), Option.bind_some, from_at (b := 20) (u := 0) (by omega) (by omega) (by omega) (by omega) h.1 (by decide) (by decide), run_20]
  obtain ⟨z, A', Q', r', e1, e2, e3, e4⟩ := lv3 (i := i) (kd := kd) (v := v) (Q0 := Q0) (n := n) (op := op + 1) (k := 0) hi hkd (by omega) (by decide) (by omega) (by omega) _ _ x _ (AC_b h 20) (by omega)
  exact ⟨z ^^^ 6, A', Q', r', by rw [show (0 : Int32) = nI 0 from rfl, show (1 : Int32) = nI 1 from rfl, e1]; rfl, by rw [e2]; rfl, e3, by omega⟩
theorem lv5 (hi : i < 6) (hkd : kd < 7) (hn : 5 ≤ n) (ho : op ≤ 36) : LV i kd v Q0 n op kd 1 5 f_X7_borrowsAct := by
  intro A Q x r h hr
  have h6 : inb (nI i) 6 = true := inb_nI hi (by decide)
  have hx : ix (nI i) = i := ix_nI (by omega)
  have hQ := h.2.2.2.2.2.1
  unfold f_X7_borrowsAct
  rw [if_pos h6, hx, hQ]
  have plain : own kd 1 = 0 → ∃ z A' Q' r', f_X0_from n A (nI kd) (nI 1) x (nI op) = some (z, A') ∧ bn2 (f_X7_borrowerBorrows Q (nI i) x) (fun x1 P2 => some (x1, P2)) = some (z, Q') ∧ AC i kd v Q0 A' Q' r' ∧ r' ≤ r + 5 := by
    intro hw
    obtain ⟨z, A', Q', r', e1, e2, e3, e4⟩ := lv3 (i := i) (kd := kd) (v := v) (Q0 := Q0) (n := n) (op := op) (k := kd) hi hkd hkd hw (by omega) (by omega) A Q x r h (by omega)
    exact ⟨z, A', Q', r', e1, by rw [e2]; rfl, e3, by omega⟩
  rcases (show kd = 0 ∨ kd = 1 ∨ kd = 2 ∨ kd = 3 ∨ kd = 4 ∨ kd = 5 ∨ kd = 6 by omega) with e | e | e | e | e | e | e
  · subst e; exact plain (by decide)
  · subst e
    rw [if_pos (by decide)]
    obtain ⟨z, A', Q', r', e1, e2, e3, e4⟩ := lv4 (i := i) (kd := 1) (v := v) (Q0 := Q0) (n := n) (op := op) hi hkd (by omega) (by omega) A Q x r h (by omega)
    exact ⟨z, A', Q', r', e1, by rw [e2]; rfl, e3, by omega⟩
  · subst e; exact plain (by decide)
  · subst e; exact plain (by decide)
  · subst e
    obtain ⟨n, rfl⟩ : ∃ n', n = n' + 1 := ⟨n - 1, by omega⟩
    rw [if_neg (by decide), if_pos (by decide), m_body h (by omega), Option.bind_some, from_at (b := 51) (u := 1) hkd (by omega) (by omega) (by omega) h.1 (by decide) (by decide), run_51]
    obtain ⟨z, A', Q', r', e1, e2, e3, e4⟩ := lv4 (i := i) (kd := 4) (v := v) (Q0 := Q0) (n := n) (op := op + 1) hi hkd (by omega) (by omega) _ _ (x + 1) _ (AC_b h 51) (by omega)
    exact ⟨z, A', Q', r', by rw [show f_X0_from n (bA A r 51) 1 1 (x + 1) (nI (op + 1)) = some (z, A') from e1]; rfl, by rw [e2]; rfl, e3, by omega⟩
  · subst e; exact plain (by decide)
  · subst e
    obtain ⟨n, rfl⟩ : ∃ n', n = n' + 1 := ⟨n - 1, by omega⟩
    rw [if_neg (by decide), if_neg (by decide), if_pos (by decide), m_body h (by omega), Option.bind_some, from_at (b := 70) (u := 3) hkd (by omega) (by omega) (by omega) h.1 (by decide) (by decide), run_70]
    obtain ⟨z, A', Q', r', e1, e2, e3, e4⟩ := lv3 (i := i) (kd := 6) (v := v) (Q0 := Q0) (n := n) (op := op + 1) (k := 3) hi hkd (by omega) (by decide) (by omega) (by omega) _ _ x _ (AC_b h 70) (by omega)
    obtain ⟨z2, A2, Q2, r2, g1, g2, g3, g4⟩ := lv1 (i := i) (kd := 6) (v := v) (Q0 := Q0) (n := n) (op := op + 1) (k := 3) (by omega) (by decide) (by omega) (by omega) A' Q' 2 r' e3 (by omega)
    refine ⟨z + z2, A2, Q2, r2, ?_, ?_, g3, by omega⟩
    · rw [show f_X0_from n (bA A r 70) 3 1 x (nI (op + 1)) = some (z, A') from e1, bn2_w, show f_X0_from n A' 3 0 2 (nI (op + 1)) = some (z2, A2) from g1, bn2_w]
    · rw [e2, bn2_w, g2, bn2_w]
theorem lv6 (hi : i < 6) (hkd : kd < 7) (hk : k < 7) (hw : own k 2 = 0) (hn : 6 ≤ n) (ho : op ≤ 35) : LV i kd v Q0 n op k 2 6 f_X7_borrowerTells := by
  obtain ⟨n, rfl⟩ : ∃ n', n = n' + 1 := ⟨n - 1, by omega⟩
  intro A Q x r h hr
  unfold f_X7_borrowerTells
  rw [m_body h (by omega), Option.bind_some, from_at (b := 12) (u := -1) hk (by omega) (by omega) (by omega) h.1 (by rw [hw]; decide) (by rw [hw]; decide), run_12, (AC_b h 12).2.2.1]
  obtain ⟨z, A', Q', r', e1, e2, e3, e4⟩ := lv5 (i := i) (kd := kd) (v := v) (Q0 := Q0) (n := n) (op := op + 1) hi hkd (by omega) (by omega) _ _ x _ (AC_b h 12) (by omega)
  exact ⟨z * 2, A', Q', r', by rw [show f_X0_from n (bA A r 12) (nI kd) 1 x (nI (op + 1)) = some (z, A') from e1]; rfl, by rw [e2]; rfl, e3, by omega⟩
theorem lv7 (hi : i < 6) (hkd : kd < 7) (hn : 7 ≤ n) (ho : op ≤ 34) : LV i kd v Q0 n op kd 2 12 f_X7_tellsAct := by
  intro A Q x r h hr
  have h6 : inb (nI i) 6 = true := inb_nI hi (by decide)
  have hx : ix (nI i) = i := ix_nI (by omega)
  have hQ := h.2.2.2.2.2.1
  unfold f_X7_tellsAct f_X7_tellsAct_J36 f_X7_tellsAct_J73
  rw [if_pos h6, hx, hQ]
  have plain : own kd 2 = 0 → ∃ z A' Q' r', f_X0_from n A (nI kd) (nI 2) x (nI op) = some (z, A') ∧ bn2 (f_X7_borrowerTells Q (nI i) x) (fun x1 P2 => some (x1, P2)) = some (z, Q') ∧ AC i kd v Q0 A' Q' r' ∧ r' ≤ r + 12 := by
    intro hw
    obtain ⟨z, A', Q', r', e1, e2, e3, e4⟩ := lv6 (i := i) (kd := kd) (v := v) (Q0 := Q0) (n := n) (op := op) (k := kd) hi hkd hkd hw (by omega) (by omega) A Q x r h (by omega)
    exact ⟨z, A', Q', r', e1, by rw [e2]; rfl, e3, by omega⟩
  have forty : own kd 2 = 3 → ∃ z A' Q' r', f_X0_from n A (nI kd) (nI 2) x (nI op) = some (z, A') ∧ Option.bind (f_X7_body Q 40) (fun P3 => bn2 (f_X7_borrowerTells P3 (nI i) x) (fun x4 P5 => bn2 (f_X7_borrowsAct P5 (nI i) 1) (fun x6 P7 => some ((x4 + x6), P7)))) = some (z, Q') ∧ AC i kd v Q0 A' Q' r' ∧ r' ≤ r + 12 := by
    intro hw
    obtain ⟨n, rfl⟩ : ∃ n', n = n' + 1 := ⟨n - 1, by omega⟩
    rw [m_body h (by omega), Option.bind_some, from_at (b := 40) (u := 0) hkd (by omega) (by omega) (by omega) h.1 (by rw [hw]; decide) (by rw [hw]; decide), run_40]
    obtain ⟨z, A', Q', r', e1, e2, e3, e4⟩ := lv6 (i := i) (kd := kd) (v := v) (Q0 := Q0) (n := n) (op := op + 1) (k := 0) hi hkd (by omega) (by decide) (by omega) (by omega) _ _ x _ (AC_b h 40) (by omega)
    obtain ⟨z2, A2, Q2, r2, g1, g2, g3, g4⟩ := lv5 (i := i) (kd := kd) (v := v) (Q0 := Q0) (n := n) (op := op + 1) hi hkd (by omega) (by omega) A' Q' 1 r' e3 (by omega)
    refine ⟨z + z2, A2, Q2, r2, ?_, ?_, g3, by omega⟩
    · rw [show f_X0_from n (bA A r 40) 0 2 x (nI (op + 1)) = some (z, A') from e1, bn2_w, e3.2.2.1, show f_X0_from n A' (nI kd) 1 1 (nI (op + 1)) = some (z2, A2) from g1, bn2_w]
    · rw [e2, bn2_w, g2, bn2_w]
  rcases (show kd = 0 ∨ kd = 1 ∨ kd = 2 ∨ kd = 3 ∨ kd = 4 ∨ kd = 5 ∨ kd = 6 by omega) with e | e | e | e | e | e | e
  · subst e; exact plain (by decide)
  · subst e; exact plain (by decide)
  · subst e; exact plain (by decide)
  · subst e; exact forty (by decide)
  · subst e; exact plain (by decide)
  · subst e
    obtain ⟨n, rfl⟩ : ∃ n', n = n' + 1 := ⟨n - 1, by omega⟩
    rw [if_neg (by decide), if_pos (by decide), m_body h (by omega), Option.bind_some, from_at (b := 60) (u := 2) hkd (by omega) (by omega) (by omega) h.1 (by decide) (by decide), run_60, (AC_b h 60).2.1]
    obtain ⟨z, A', Q', r', e1, e2, e3, e4⟩ := lv6 (i := i) (kd := 5) (v := v) (Q0 := Q0) (n := n) (op := op + 1) (k := 2) hi hkd (by omega) (by decide) (by omega) (by omega) _ _ (x - nI i) _ (AC_b h 60) (by omega)
    exact ⟨z, A', Q', r', by rw [show f_X0_from n (bA A r 60) 2 2 (x - nI i) (nI (op + 1)) = some (z, A') from e1]; rfl, by rw [e2]; rfl, e3, by omega⟩
  · subst e; exact forty (by decide)
end Ac
section At
variable {s t : Mm} {P Q W V : Pm} {lm : Ml} {n d : Nat} {a1 a2 a3 : Int32}
theorem QS_a {r : Int32} (h : RR s P lm) {A : Pm} (hA : AKT (setO s 15 A) Q) (hc : ∀ c, c ≠ 0 → c ≠ 79 → Q c = P c) (h0 : ∀ i, i ≠ 77 → Q 0 i = P 0 i) : QS s lm (some (r, setO s 15 A)) (some (r, Q)) := by
  obtain ⟨⟨n, d, h1⟩, h2, h3, h4, h5, h6⟩ := id h
  have tn : ∀ o, o ≠ 15 → setO s 15 A o = s o := fun o a => setO_n a
  exact ⟨r, _, Q, rfl, rfl, tn 17 (by decide), ⟨n, d, WEL_c h1 (tn 1 (by decide)) (tn 2 (by decide)) (tn 4 (by decide)) (fun c hc2 => hc c (by omega) (by omega)) (fun i hi => h0 i (by omega))⟩, CTS_c h2 (tn 0 (by decide)) (fun o ho => by rw [tn o (kdNe ho (by decide))]; exact CEq.rf) (fun c a b => hc c (by omega) (by omega)) (h0 13 (by decide)) (h0 14 (by decide)) (h0 54 (by decide)), TXT_c h3 (tn 6 (by decide)) (h0 15 (by decide)) (hc 19 (by decide) (by decide)) (hc 30 (by decide) (by decide)), IMG_c h4 (tn 3 (by decide)) (tn 5 (by decide)) (by rw [tn 0 (by decide)]) (fun c a b => hc c (by omega) (by omega)) (fun i a b => h0 i (by omega)), hA, TPS_c h6 (tn 16 (by decide)) (hc 80 (by decide) (by decide)) (hc 81 (by decide) (by decide))⟩
theorem s_act (h : RR s P lm) : QS s lm (f_X6_act s a1 a2 a3) (f_X7_act P a1 a2 a3) := by
  obtain ⟨⟨n, d, h1⟩, h2⟩ := id h
  have hn := h1.2.2.1.1
  have w5 := h1.2.2.2.2.1
  have ef : f_X0_forget (s 15) = some (up2 (s 15) 0 0 0) := rfl
  unfold f_X6_act f_X7_act
  rw [ef, Option.bind_some, nb_w, nb_w, e_known, m_isB, setO_n (show (1 : Nat) ≠ 15 by decide), (AR_kn h1).1, show (up2 P 0 77 0) 0 1 = nI n from (AR_kn h1).2.1, Option.bind_some, Option.bind_some]
  have zero : QS s lm (some ((0 : Int32), setO s 15 (up2 (s 15) 0 0 0))) (some (0, up2 P 0 77 0)) := QS_a h ⟨0, by omega, by rw [setO_s]; exact u_s, u_s, fun i hi => absurd hi (by omega)⟩ (fun c a b => u_c a) (fun i hi => u_ne (Or.inr hi))
  by_cases c : win a1 0 (nI n - 1) = 0
  · rw [if_pos c, if_pos c]
    exact zero
  obtain ⟨j, hj, rfl⟩ := known_r hn c
  rw [if_neg c, if_neg c, e_win, m_win, Option.bind_some, Option.bind_some]
  by_cases c2 : win a2 0 2 = 0
  · rw [if_pos c2, if_pos c2]
    exact zero
  obtain ⟨a, -, ha, rfl⟩ := win_r (b := 0) (c := 2) (by omega) (by omega) c2
  rw [if_neg c2, if_neg c2, setO_s]
  have hj6 : j < 6 := by omega
  obtain ⟨kd, hkd, ek⟩ := (h1.2.2.1.2.2.2.2.2.1.2.1 j hj6).1
  have h6 : inb (nI j) 6 = true := inb_nI hj6 (by decide)
  have hx : ix (nI j) = j := ix_nI (by omega)
  have hAC : AC j kd (s 1 6 j) (up2 P 0 77 0) (up2 (up2 (up2 (up2 (s 15) 0 0 0) 0 2 (nI j)) 0 3 (nI kd)) 0 4 (s 1 6 j)) (up2 P 0 77 0) 0 := by
    refine ⟨rfl, rfl, rfl, rfl, rfl, ?_, ?_, fun i hi => absurd hi (by omega), fun _ _ _ => rfl, fun _ _ => rfl⟩
    · show P 4 j = _
      rw [w5.1.r4]
      exact ek
    · show P 5 j = _
      rw [w5.1.r5]
      rfl
  have eperf : ∀ z A', f_X0_from 40 (up2 (up2 (up2 (up2 (s 15) 0 0 0) 0 2 (nI j)) 0 3 (nI kd)) 0 4 (s 1 6 j)) (nI kd) (nI a) a3 (nI 0) = some (z, A') → f_X0_perform (up2 (s 15) 0 0 0) (s 1) (nI j) (nI a) a3 = some (z, A') := by
    intro z A' e
    unfold f_X0_perform
    rw [nb_w, if_pos h6, nb_w, if_pos h6, nb_w, hx, ek]
    show bn2 (f_X0_from 40 (up2 (up2 (up2 (up2 (s 15) 0 0 0) 0 2 (nI j)) 0 3 (nI kd)) 0 4 (s 1 6 j)) (nI kd) (nI a) a3 (nI 0)) _ = _
    rw [e]
    rfl
  have fin : ∀ (z : Int32) (A' Q' : Pm) (r : Nat), r ≤ 20 → AC j kd (s 1 6 j) (up2 P 0 77 0) A' Q' r → QS s lm (some (z, setO (setO s 15 (up2 (s 15) 0 0 0)) 15 A')) (some (z, Q')) := by
    intro z A' Q' r hr hA
    obtain ⟨g1, g2, g3, g4, g5, g6, g7, g8, g9, g10⟩ := hA
    rw [setO_2]
    refine QS_a h ⟨r, by omega, by rw [setO_s]; exact g1, g5, fun i hi _ => by rw [setO_s]; exact g8 i hi⟩ (fun c a b => ?_) (fun i hi => ?_)
    · rw [g9 c a b, u_c a]
    · rw [g10 i hi, u_ne (Or.inr hi)]
  rcases (show a = 0 ∨ a = 1 ∨ a = 2 by omega) with e | e | e
  · subst e
    obtain ⟨z, A', Q', r', e1, e2, e3, e4⟩ := lv2 (n := 40) (op := 0) hj6 (by omega) (by omega) (by omega) _ _ a3 _ hAC (by omega)
    rw [eperf z A' e1, if_pos (show nI 0 = 0 from rfl), e2, bn2_w, bn2_w, nb_w]
    exact fin _ _ _ _ (by omega) e3
  · subst e
    obtain ⟨z, A', Q', r', e1, e2, e3, e4⟩ := lv5 (n := 40) (op := 0) hj6 (by omega) (by omega) (by omega) _ _ a3 _ hAC (by omega)
    rw [eperf z A' e1, if_neg (show ¬ nI 1 = 0 by decide), if_pos (show nI 1 = 1 from rfl), e2, bn2_w, bn2_w, nb_w]
    exact fin _ _ _ _ (by omega) e3
  · subst e
    obtain ⟨z, A', Q', r', e1, e2, e3, e4⟩ := lv7 (n := 40) (op := 0) hj6 (by omega) (by omega) (by omega) _ _ a3 _ hAC (by omega)
    rw [eperf z A' e1, if_neg (show ¬ nI 2 = 0 by decide), if_neg (show ¬ nI 2 = 1 by decide), e2, bn2_w, bn2_w, nb_w]
    exact fin _ _ _ _ (by omega) e3
end At

