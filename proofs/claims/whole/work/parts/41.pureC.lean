/-! the pure side C: what is told by hand: wanted, can, gone -/
/-- the hand, on both sides; n: how many borrowers there are -/
def HG (n : Nat) (H : Pm) (a b c : Int32) (p4 p5 p6 p7 p8 p9 : Nat → Int32) : Prop := ∃ ns ny nk, ns ≤ 5 ∧ ny ≤ 10 ∧ nk ≤ 8 ∧ (H 0 0 = nI ns ∧ a = nI ns) ∧ (H 0 1 = nI ny ∧ b = nI ny) ∧ (H 0 2 = nI nk ∧ c = nI nk) ∧ (∀ i, i < 5 → H 4 i = p4 i ∧ H 5 i = p5 i) ∧ (∀ i, i < 10 → H 6 i = p6 i ∧ (H 6 i = 1 → H 7 i = p7 i)) ∧ (∀ i, i < 8 → H 8 i = p8 i ∧ H 9 i = p9 i) ∧ (∀ i, i < ns → rg (H 5 i) 10) ∧ (∀ i, i < ny → H 6 i = 1 → ∃ j, j < n ∧ H 7 i = nI j) ∧ ∀ i, i < nk → ∃ j, j < n ∧ H 8 i = nI j
def HR (n : Nat) (H P : Pm) : Prop := HG n H (P 0 44) (P 0 47) (P 0 48) (P 46) (P 47) (P 50) (P 51) (P 52) (P 53)
theorem HR_MB {n : Nat} {H P Q : Pm} (h : HR n H P) (hM : MB P Q) : HR n H Q := by
  unfold HR
  rw [hM.2 44 (by omega), hM.2 47 (by omega), hM.2 48 (by omega), hM.1 46 (by omega), hM.1 47 (by omega), hM.1 50 (by omega), hM.1 51 (by omega), hM.1 52 (by omega), hM.1 53 (by omega)]
  exact h
/-- all that is seen is so, of a well by days -/
def seenAll (F : Pm → Pm) (H : Pm) (ns : Nat) (V : Pm) : Prop := ∀ i, i < ns → itW F (ix (H 5 i)) V 0 0 = H 4 i
theorem up2_cm {W : Pm} {c j c' j' : Nat} {x y : Int32} (h : c ≠ c') : up2 (up2 W c j x) c' j' y = up2 (up2 W c' j' y) c j x := by
  funext k
  by_cases a : k = c
  · subst a
    rw [up2_g, if_neg h, up2_g, if_pos rfl, up2_g, if_pos rfl, up2_g, if_neg h]
  · by_cases b : k = c'
    · subst b
      rw [up2_g, if_pos rfl, up2_g, if_neg a, up2_g, if_neg a, up2_g, if_pos rfl]
    · rw [up2_g, if_neg b, up2_g, if_neg a, up2_g, if_neg a, up2_g, if_neg b]
theorem up2_tw {W : Pm} {c j : Nat} {x y : Int32} : up2 (up2 W c j x) c j y = up2 W c j y := by
  funext k
  by_cases a : k = c
  · subst a
    rw [up2_g, if_pos rfl, up2_g, if_pos rfl, up2_g, if_pos rfl]
    funext i
    rw [upd_g, upd_g, upd_g]
    split
    · rfl
    · rfl
  · rw [up2_g, if_neg a, up2_g, if_neg a, up2_g, if_neg a]
section Hand
variable {s t : Mm} {P Q W V U H K : Pm} {n d e rid ns : Nat} {mk sp fi x y m ab a1 a2 : Int32} {rt : Pm → Nat → Int32}
theorem e_fits (hns : ns ≤ 5) (h0 : H 0 0 = nI ns) {a : Int32} : ∃ r, f_X2_seenFits H a x = some r ∧ (r = 0 ∨ r = 1) ∧ (r ≠ 0 ↔ ∀ i, i < ns → H 5 i = a → H 4 i = x) := by
  obtain ⟨r, h1, h2, h3⟩ := iter_E (body := fun t : Int32 => f_X2_seenFits_B2 H a x t) (fun i u => u = nI i ∧ ∀ k, k < i → H 5 k = a → H 4 k = x) (fun r => (r = 0 ∨ r = 1) ∧ (r ≠ 0 ↔ ∀ i, i < ns → H 5 i = a → H 4 i = x)) ns
    (fun i u hi hI => by
      obtain ⟨rfl, hk⟩ := hI
      show (i < ns ∧ ∃ s', f_X2_seenFits_B2 H a x (nI i) = _ ∧ _) ∨ ∃ r, f_X2_seenFits_B2 H a x (nI i) = _ ∧ _
      unfold f_X2_seenFits_B2 f_X2_seenFits_J32
      rw [h0]
      by_cases c : i = ns
      · subst c
        right
        rw [if_pos (Int32.le_refl _)]
        exact ⟨1, rfl, Or.inr rfl, fun _ => hk, fun _ => by decide⟩
      · rw [if_neg (nI_ge (by omega) (by omega)), if_pos (inb_nI (show i < 5 by omega) (by decide)), ix_nI (by omega)]
        by_cases c5 : H 5 i = a
        · rw [if_pos c5, if_pos (inb_nI (show i < 5 by omega) (by decide))]
          by_cases c4 : H 4 i = x
          · left
            rw [if_pos c4]
            refine ⟨by omega, _, rfl, nI_1 _, fun k hk2 h5 => ?_⟩
            by_cases q : k = i
            · rw [q]; exact c4
            · exact hk k (by omega) h5
          · right
            rw [if_neg c4]
            exact ⟨0, rfl, Or.inl rfl, fun q => absurd rfl q, fun q => absurd (q i (by omega) c5) c4⟩
        · left
          rw [if_neg c5]
          refine ⟨by omega, _, rfl, nI_1 _, fun k hk2 h5 => ?_⟩
          by_cases q : k = i
          · rw [q] at h5; exact absurd h5 c5
          · exact hk k (by omega) h5) ns 0 0 (by omega) ⟨rfl, fun k hk => absurd hk (by omega)⟩ 200 (by omega)
  exact ⟨r, h1, h2, h3⟩
/-- a number one below a count -/
def b1 (M : Nat) : Int32 := if M = 0 then -1 else nI (M - 1)
theorem b1_lt {M k : Nat} (hM : M ≤ 100) (hk : k ≤ 100) : b1 M < nI k ↔ M ≤ k := by
  unfold b1
  by_cases c : M = 0
  · rw [if_pos c]
    exact ⟨fun _ => by omega, fun _ => Int32.lt_of_lt_of_le (show (-1 : Int32) < 0 by decide) (nI_pos' (by omega))⟩
  · rw [if_neg c]
    constructor
    · intro q
      apply Decidable.byContradiction
      intro z
      exact nI_nlt (a := M - 1) (b := k) (by omega) (by omega) q
    · intro q
      exact nI_lt (by omega) (by omega)
theorem e_far (hns : ns ≤ 5) (h0 : H 0 0 = nI ns) (h5 : ∀ i, i < ns → rg (H 5 i) 10) : ∃ M, M ≤ 11 ∧ f_X2_farthestSeen H = some (b1 M) ∧ ∀ i, i < ns → ix (H 5 i) < M := by
  obtain ⟨r, h1, M, h2, rfl, h3⟩ := iter_I (body := fun t : Int32 × Int32 => f_X2_farthestSeen_B4 H t.1 t.2) (fun i u => u.2 = nI i ∧ ∃ M, M ≤ 11 ∧ u.1 = b1 M ∧ ∀ k, k < i → ix (H 5 k) < M) (fun r => ∃ M, M ≤ 11 ∧ r = b1 M ∧ ∀ k, k < ns → ix (H 5 k) < M) ns
    (fun i u hi hI => by
      obtain ⟨u1, u2⟩ := u
      obtain ⟨h1, M, hM, h2, h3⟩ := hI
      dsimp only at h1 h2
      subst h1 h2
      show ∃ s', f_X2_farthestSeen_B4 H (b1 M) (nI i) = _ ∧ _
      unfold f_X2_farthestSeen_B4
      rw [h0, if_neg (nI_ge (by omega) (by omega)), if_pos (inb_nI (show i < 5 by omega) (by decide)), ix_nI (by omega), e_max, Option.bind_some]
      obtain ⟨q, hq, e5⟩ := h5 i hi
      refine ⟨_, rfl, nI_1 _, if M ≤ q then q + 1 else M, ?_, ?_, fun k hk => ?_⟩
      · split
        · omega
        · omega
      · show imax (b1 M) (H 5 i) = _
        unfold imax
        rw [e5]
        by_cases c : M ≤ q
        · rw [if_pos ((b1_lt (by omega) (by omega)).mpr c), if_pos c]
          unfold b1
          rw [if_neg (by omega)]
          rfl
        · rw [if_neg (fun z => c ((b1_lt (by omega) (by omega)).mp z)), if_neg c]
      · by_cases z : k = i
        · rw [z, e5, ix_nI (by omega)]
          split
          · omega
          · omega
        · have := h3 k (by omega)
          split
          · omega
          · omega)
    (fun u hI => by
      obtain ⟨u1, u2⟩ := u
      obtain ⟨h1, M, hM, h2, h3⟩ := hI
      dsimp only at h1 h2
      subst h1 h2
      refine ⟨_, ?_, M, hM, rfl, h3⟩
      show f_X2_farthestSeen_B4 H (b1 M) (nI ns) = _
      unfold f_X2_farthestSeen_B4
      rw [h0, if_pos (Int32.le_refl _)]) ns 0 (-1, 0) (by omega) ⟨rfl, 0, by omega, rfl, fun k hk => absurd hk (by omega)⟩ 200 (by omega)
  refine ⟨M, h2, ?_, h3⟩
  unfold f_X2_farthestSeen f_X2_farthestSeen_H4
  rw [h1]
  rfl
/-- the class: does the trial show all that is seen? -/
theorem c_seen (h : AR n d rid mk sp fi rt s P W) (hns : ns ≤ 5) (h0 : s 4 0 0 = nI ns) (h5 : ∀ i, i < ns → rg (s 4 5 i) 10) (hS : SB s t) (h2 : t 2 = V) (hW : TW n e K V) (he : e < 19000) : ∃ r t', f_X6_trialShowsAllSeen t = some (r, t') ∧ SB s t' ∧ NZ (t' 2) ∧ (r = 0 ∨ r = 1) ∧ (r ≠ 0 ↔ seenAll (dayW rt mk (-1) fi sp) (s 4) ns V) := by
  have hR := AR_RU h
  obtain ⟨M, hM, f1, f2⟩ := e_far hns h0 h5
  have key : seenAll (dayW rt mk (-1) fi sp) (s 4) ns V ↔ ∀ k, k < M → ∀ i, i < ns → s 4 5 i = nI k → s 4 4 i = itW (dayW rt mk (-1) fi sp) k V 0 0 := by
    constructor
    · intro g k hk i hi e
      have := g i hi
      rw [e, ix_nI (by omega)] at this
      exact this.symm
    · intro g i hi
      obtain ⟨q, hq, e5⟩ := h5 i hi
      have hq2 := f2 i hi
      rw [e5, ix_nI (by omega)] at hq2
      rw [e5, ix_nI (by omega)]
      exact (g q hq2 i hi e5).symm
  obtain ⟨r, g1, g2, g3, g4, g5⟩ := iter_E (body := fun t : Int32 × Mm => f_X6_trialShowsAllSeen_B10 (b1 M) t.1 t.2) (fun i u => u.1 = nI i ∧ SB s u.2 ∧ u.2 2 = itW (dayW rt mk (-1) fi sp) i V ∧ ∀ k, k < i → ∀ j, j < ns → s 4 5 j = nI k → s 4 4 j = itW (dayW rt mk (-1) fi sp) k V 0 0)
    (fun r => SB s r.2 ∧ NZ (r.2 2) ∧ (r.1 = 0 ∨ r.1 = 1) ∧ (r.1 ≠ 0 ↔ seenAll (dayW rt mk (-1) fi sp) (s 4) ns V)) M
    (fun i u hi hI => by
      obtain ⟨u1, u⟩ := u
      obtain ⟨k1, k2, k3, k4⟩ := hI
      dsimp only at k1 k2 k3 k4
      subst k1
      have hWi := TW_it (ab := -1) hR hR.1 hW i (by omega)
      show (i < M ∧ ∃ s', f_X6_trialShowsAllSeen_B10 (b1 M) (nI i) u = _ ∧ _) ∨ ∃ r, f_X6_trialShowsAllSeen_B10 (b1 M) (nI i) u = _ ∧ _
      unfold f_X6_trialShowsAllSeen_B10
      by_cases c : i = M
      · subst c
        right
        rw [if_pos ((b1_lt (by omega) (by omega)).mpr (Nat.le_refl _))]
        exact ⟨(1, u), rfl, k2, by show NZ (u 2); rw [k3]; exact hWi.2.1, Or.inr rfl, fun _ => key.mpr k4, fun _ => by show (1 : Int32) ≠ 0; decide⟩
      · rw [if_neg (fun z => by have := (b1_lt (by omega) (by omega)).mp z; omega), k2.1 4 (by decide) (by decide), k3]
        obtain ⟨r, q1, q2, q3⟩ := e_fits (H := s 4) (x := itW (dayW rt mk (-1) fi sp) i V 0 0) (a := nI i) hns h0
        rw [q1, Option.bind_some]
        by_cases c0 : r = 0
        · right
          rw [if_pos c0]
          exact ⟨(0, u), rfl, k2, by show NZ (u 2); rw [k3]; exact hWi.2.1, Or.inl rfl, fun z => absurd rfl z, fun z => absurd c0 (q3.mpr (key.mp z i (by omega)))⟩
        · left
          rw [if_neg c0]
          obtain ⟨u', l1, l2, l3⟩ := c_goTrial h (k := 1) (by omega) k2 k3 hWi (by omega)
          rw [show (1 : Int32) = nI 1 from rfl, l1, Option.bind_some]
          refine ⟨by omega, (nI i + nI 1, u'), rfl, nI_1 _, l2, l3, fun k hk j hj e5 => ?_⟩
          by_cases z : k = i
          · subst z
            exact q3.mp c0 j hj e5
          · exact k4 k (by omega) j hj e5) M 0 (0, t) (by omega) ⟨rfl, hS, h2, fun k hk => absurd hk (by omega)⟩ 200 (by omega)
  refine ⟨r.1, r.2, ?_, g2, g3, g4, g5⟩
  unfold f_X6_trialShowsAllSeen
  rw [hS.1 4 (by decide) (by decide), f1, Option.bind_some]
  exact g1
/-- the reference: is all that is seen so? -/
theorem m_seen (h : AR n d rid mk sp fi rt s P W) (hns : ns ≤ 5) (h0 : P 0 44 = nI ns) (hE : ∀ i, i < 5 → H 4 i = P 46 i ∧ H 5 i = P 47 i) (h5 : ∀ i, i < ns → rg (H 5 i) 10) : ∃ r P', f_X7_isSeen P = some (r, P') ∧ MB P P' ∧ Rest P' W ∧ (r = 0 ∨ r = 1) ∧ (r ≠ 0 ↔ seenAll (dayW rt mk (-1) fi sp) H ns (up2 W 0 3 0)) := by
  have hR := AR_RU h
  have hd := h.2.2.2.2.1
  obtain ⟨r, g1, g2, g3, g4, g5⟩ := iter_E (body := fun t : Int32 × Int32 × Pm => f_X7_isSeen_B4 t.1 t.2.1 t.2.2) (fun i u => u.2.1 = nI i ∧ (∃ s', AS s P W s' u.2.2) ∧ ((u.1 = 1 ∧ seenAll (dayW rt mk (-1) fi sp) H i (up2 W 0 3 0)) ∨ (u.1 = 0 ∧ ¬ seenAll (dayW rt mk (-1) fi sp) H i (up2 W 0 3 0))))
    (fun r => MB P r.2 ∧ Rest r.2 W ∧ (r.1 = 0 ∨ r.1 = 1) ∧ (r.1 ≠ 0 ↔ seenAll (dayW rt mk (-1) fi sp) H ns (up2 W 0 3 0))) ns
    (fun i u hi hI => by
      obtain ⟨u1, u2, u⟩ := u
      obtain ⟨k1, ⟨s', k2⟩, k3⟩ := hI
      dsimp only at k1 k2 k3
      subst k1
      show (i < ns ∧ ∃ s', f_X7_isSeen_B4 u1 (nI i) u = _ ∧ _) ∨ ∃ r, f_X7_isSeen_B4 u1 (nI i) u = _ ∧ _
      unfold f_X7_isSeen_B4
      rw [k2.2.2.1.2 44 (by omega), h0]
      by_cases c : i = ns
      · subst c
        right
        rw [if_pos (Int32.le_refl _)]
        refine ⟨(u1, u), rfl, k2.2.2.1, k2.2.2.2, ?_, ?_⟩
        · rcases k3 with ⟨k3, -⟩ | ⟨k3, -⟩
          · exact Or.inr k3
          · exact Or.inl k3
        · rcases k3 with ⟨rfl, k3⟩ | ⟨rfl, k3⟩
          · exact ⟨fun _ => k3, fun _ => by show (1 : Int32) ≠ 0; decide⟩
          · exact ⟨fun z => absurd rfl z, fun z => absurd z k3⟩
      · rw [if_neg (nI_ge (by omega) (by omega))]
        rcases k3 with ⟨rfl, k3⟩ | ⟨rfl, k3⟩
        · left
          refine ⟨by omega, ?_⟩
          have h' := h.go k2
          obtain ⟨t, Q, l1, l2, hT, hW⟩ := tt_start h'
          obtain ⟨q, hq, e5⟩ := h5 i (by omega)
          obtain ⟨Q', m1, m2, m3, m4⟩ := r_goDays h' (k := q) (by omega) hT.2.2.1 hT.2.2.2.1 hT.2.2.2.2 (if_pos (by decide)) hR.1 hW (by omega)
          obtain ⟨P', m5, m6, m7⟩ := r_end h' m2 (TW_it (ab := -1) hR hR.1 hW q (by omega))
          have hin : inb (nI i) 5 = true := inb_nI (by omega) (by decide)
          have hQ47 : Q 47 i = nI q := by rw [hT.2.2.1.2.2.2.2.2.2.2.2.2.2.2.1 47 (by omega), k2.2.2.1.1 47 (by omega), ← (hE i (by omega)).2, e5]
          have hQ46 : Q' 46 i = H 4 i := by rw [m2.2.2.2.2.2.2.2.2.2.2.2.1 46 (by omega), k2.2.2.1.1 46 (by omega), ← (hE i (by omega)).1]
          rw [if_neg (by decide), l2, Option.bind_some, if_pos hin, ix_nI (by omega), hQ47, m1, Option.bind_some, if_pos hin, m2.1.r00, hQ46]
          unfold f_X7_isSeen_J48
          rw [m5]
          have hA : AS s P W s' P' := ⟨k2.1, k2.2.1, k2.2.2.1.tr m7, m6⟩
          by_cases cc : itW (dayW rt mk (-1) fi sp) q (up2 W 0 3 0) 0 0 = H 4 i
          · rw [if_pos cc, Option.bind_some]
            refine ⟨_, rfl, nI_1 _, ⟨s', hA⟩, Or.inl ⟨rfl, fun k hk => ?_⟩⟩
            by_cases z : k = i
            · rw [z, e5, ix_nI (by omega)]; exact cc
            · exact k3 k (by omega)
          · rw [if_neg cc, Option.bind_some]
            refine ⟨_, rfl, nI_1 _, ⟨s', hA⟩, Or.inr ⟨rfl, fun z => cc ?_⟩⟩
            have := z i (by omega)
            rw [e5, ix_nI (by omega)] at this
            exact this
        · right
          rw [if_pos rfl]
          exact ⟨(0, u), rfl, k2.2.2.1, k2.2.2.2, Or.inl rfl, fun z => absurd rfl z, fun z => absurd (fun k hk => z k (by omega)) k3⟩) ns 0 (1, 0, P) (by omega) ⟨rfl, ⟨s, h.as⟩, Or.inl ⟨rfl, fun k hk => absurd hk (by omega)⟩⟩ 200 (by omega)
  refine ⟨r.1, r.2, ?_, g2, g3, g4, g5⟩
  unfold f_X7_isSeen f_X7_isSeen_H4
  rw [g1]
  show f_X7_isSeen_J59 r.2 r.1 = _
  unfold f_X7_isSeen_J59
  rw [if_pos g4]
end Hand
