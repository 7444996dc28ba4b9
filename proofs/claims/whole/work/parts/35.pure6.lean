/-! the pure side 6: days in a trial, on both sides; what the reference saves and puts back -/
def itW (F : Pm → Pm) : Nat → Pm → Pm
  | 0, W => W
  | k + 1, W => F (itW F k W)
theorem put_put {M W V : Pm} : put (put M W) V = put M V := by
  funext c
  by_cases h : c = 0 ∨ c = 4 ∨ c = 5 ∨ c = 6 ∨ c = 7 ∨ c = 8 ∨ c = 9 ∨ c = 10 ∨ c = 11 ∨ c = 12 ∨ c = 13
  · rcases h with h | h | h | h | h | h | h | h | h | h | h <;> subst h
    · funext i
      by_cases hi : i = 0 ∨ i = 1 ∨ i = 2 ∨ i = 34
      · rcases hi with h | h | h | h <;> subst h <;> rfl
      · rw [put_0n (by omega) (by omega) (by omega) (by omega), put_0n (by omega) (by omega) (by omega) (by omega), put_0n (by omega) (by omega) (by omega) (by omega)]
    all_goals rfl
  · rw [put_n h, put_n h, put_n h]
/-- the well in the reference's memory -/
def WV (P W : Pm) : Prop := P = put P W
theorem WV.of {P W : Pm} (h0 : P 0 0 = W 0 0) (h1 : P 0 1 = W 0 2) (h2 : P 0 2 = W 0 1) (h3 : P 0 34 = W 0 3) (h4 : P 4 = W 5) (h5 : P 5 = W 6) (h6 : P 6 = W 7) (h7 : P 7 = W 8) (h8 : P 8 = W 9) (h9 : P 9 = W 10) (h10 : P 10 = W 11) (h11 : P 11 = W 12) (h12 : P 12 = W 14) (h13 : P 13 = W 13) : WV P W := by
  unfold WV
  funext c
  by_cases h : c = 0 ∨ c = 4 ∨ c = 5 ∨ c = 6 ∨ c = 7 ∨ c = 8 ∨ c = 9 ∨ c = 10 ∨ c = 11 ∨ c = 12 ∨ c = 13
  · rcases h with h | h | h | h | h | h | h | h | h | h | h <;> subst h
    · funext i
      by_cases hi : i = 0 ∨ i = 1 ∨ i = 2 ∨ i = 34
      · rcases hi with h | h | h | h <;> subst h
        · exact h0
        · exact h1
        · exact h2
        · exact h3
      · rw [put_0n (by omega) (by omega) (by omega) (by omega)]
    · exact h4
    · exact h5
    · exact h6
    · exact h7
    · exact h8
    · exact h9
    · exact h10
    · exact h11
    · exact h12
    · exact h13
  · rw [put_n h]
theorem WV.put {M W : Pm} : WV (put M W) W := put_put.symm
section WVr
variable {P W : Pm}
theorem WV.r00 (h : WV P W) : P 0 0 = W 0 0 := congrFun (congrFun h 0) 0
theorem WV.r01 (h : WV P W) : P 0 1 = W 0 2 := congrFun (congrFun h 0) 1
theorem WV.r02 (h : WV P W) : P 0 2 = W 0 1 := congrFun (congrFun h 0) 2
theorem WV.r034 (h : WV P W) : P 0 34 = W 0 3 := congrFun (congrFun h 0) 34
theorem WV.r4 (h : WV P W) : P 4 = W 5 := congrFun h 4
theorem WV.r5 (h : WV P W) : P 5 = W 6 := congrFun h 5
theorem WV.r6 (h : WV P W) : P 6 = W 7 := congrFun h 6
theorem WV.r7 (h : WV P W) : P 7 = W 8 := congrFun h 7
theorem WV.r8 (h : WV P W) : P 8 = W 9 := congrFun h 8
theorem WV.r9 (h : WV P W) : P 9 = W 10 := congrFun h 9
theorem WV.r10 (h : WV P W) : P 10 = W 11 := congrFun h 10
theorem WV.r11 (h : WV P W) : P 11 = W 12 := congrFun h 11
theorem WV.r12 (h : WV P W) : P 12 = W 14 := congrFun h 12
theorem WV.r13 (h : WV P W) : P 13 = W 13 := congrFun h 13
end WVr
/-- the class's memory but for the trial and the countries' facts -/
def SB (s t : Mm) : Prop := (∀ o, o ≠ 2 → kdo o ≠ 1 → t o = s o) ∧ ∀ o, kdo o = 1 → CEq (s o) (t o)
theorem CEq.rf {C : Pm} : CEq C C := fun _ _ => rfl
theorem CEq.tr {A B C : Pm} (h : CEq A B) (h2 : CEq B C) : CEq A C := fun c hc => (h c hc).trans (h2 c hc)
theorem SB.rf {s : Mm} : SB s s := ⟨fun _ _ _ => rfl, fun _ _ => CEq.rf⟩
theorem SB.tr {s t u : Mm} (h : SB s t) (h2 : SB t u) : SB s u := ⟨fun o h0 h1 => (h2.1 o h0 h1).trans (h.1 o h0 h1), fun o h1 => (h.2 o h1).tr (h2.2 o h1)⟩
theorem SB.two {s : Mm} {V : Pm} : SB s (setO s 2 V) := ⟨fun o h0 _ => setO_n h0, fun o h1 => by
  rw [setO_n (fun e => by subst e; cases h1)]
  exact CEq.rf⟩
/-- what is known of a country that holds -/
def Cty (C : Pm) (mk sp fi : Int32) (rt : Pm → Nat → Int32) : Prop := RateC C rt ∧ C 0 0 = mk ∧ C 0 1 = sp ∧ C 0 2 = fi ∧ rg mk 99 ∧ rg sp 99 ∧ rg fi 99 ∧ ∀ W j, rg (rt W j) 991
theorem rules_SB {s t : Mm} (h : SB s t) : f_X6_rules t = f_X6_rules s := by
  unfold f_X6_rules
  rw [h.1 0 (by decide) (by decide)]
section Tri
variable {s : Mm} {W : Pm} {n d rid : Nat} {mk sp fi ab : Int32} {rt : Pm → Nat → Int32} {C : Pm}
theorem DI_it {F : Pm → Pm} (hF : ∀ W d, d < 2 ^ 29 → DI n d W → DI n (d + 1) (F W)) (h : DI n d W) : ∀ k, d + k < 2 ^ 29 → DI n (d + k) (itW F k W)
  | 0, _ => h
  | k + 1, hk => hF (itW F k W) (d + k) (by omega) (DI_it hF h k (by omega))
theorem NZ_it {F : Pm → Pm} (hF : ∀ W d, d < 2 ^ 29 → DI n d W → DI n (d + 1) (F W)) (hN : ∀ W d, d < 2 ^ 29 → DI n d W → NZ W → NZ (F W)) (h : DI n d W) (h2 : NZ W) : ∀ k, d + k < 2 ^ 29 → NZ (itW F k W)
  | 0, _ => h2
  | k + 1, hk => hN (itW F k W) (d + k) (by omega) (DI_it hF h k (by omega)) (NZ_it hF hN h h2 k (by omega))
theorem dayDI (hC : Cty C mk sp fi rt) {m : Int32} (hm : rg m 99) : ∀ W d, d < 2 ^ 29 → DI n d W → DI n (d + 1) (dayW rt m ab fi sp W) := fun W d hd h => DI_day h hd hm hC.2.2.2.2.2.2.1 hC.2.2.2.2.2.1 hC.2.2.2.2.2.2.2
theorem dayNZ {m : Int32} : ∀ W d, d < 2 ^ 29 → DI n d W → NZ W → NZ (dayW rt m ab fi sp W) := fun W d hd h hN => NZ_day hN (h.L (by omega))
/-- one day of the trial -/
theorem e_tday {m : Int32} (hk : kdo rid = 1) (hC : Cty C mk sp fi rt) (hCs : CEq C (s rid)) (hD : DI n d (s 2)) (hd : d < 2 ^ 29) : ∃ p1 p2, f_X5_goDay (s 2) (s rid) m ab = some (p1, p2) ∧ p1 = dayW rt m ab fi sp (s 2) ∧ CEq C p2 ∧ SB s (setO (setO s 2 p1) rid p2) ∧ (setO (setO s 2 p1) rid p2) 2 = p1 ∧ CEq C ((setO (setO s 2 p1) rid p2) rid) := by
  obtain ⟨D', h1, h2⟩ := e_day (W := s 2) (mk := m) (ab := ab) (hD.L (by omega)) hC.1 hCs
  have hne : rid ≠ 2 := fun e => by subst e; cases hk
  refine ⟨_, D', h1, by rw [hC.2.2.2.1, hC.2.2.1], h2, ⟨fun o h0 h1 => ?_, fun o h1 => ?_⟩, ?_, ?_⟩
  · rw [setO_n (fun e => h1 (by rw [e]; exact hk)), setO_n h0]
  · by_cases e : o = rid
    · subst e
      rw [setO_s]
      exact CEq.tr (fun c hc => (hCs c hc).symm) h2
    · rw [setO_n e, setO_n (fun e => by subst e; cases h1)]
      exact CEq.rf
  · rw [setO_n (fun e => hne e.symm), setO_s]
  · rw [setO_s]
    exact h2
/-- k days of the trial -/
theorem e_goTrial {k : Nat} (hk61 : k ≤ 61) (hr : f_X6_rules s = some rid) (hk : kdo rid = 1) (hC : Cty C mk sp fi rt) (hCs : CEq C (s rid)) (hD : DI n d (s 2)) (hd : d < 2 ^ 28) : ∃ t, f_X6_goTrial s (nI k) = some t ∧ SB s t ∧ t 2 = itW (dayW rt mk (-5) fi sp) k (s 2) ∧ CEq C (t rid) := by
  obtain ⟨t, h1, h2⟩ := iter_I (body := fun t : Int32 × Mm => f_X6_goTrial_B7 (nI k) rid t.1 t.2) (fun i t => t.1 = nI i ∧ SB s t.2 ∧ t.2 2 = itW (dayW rt mk (-5) fi sp) i (s 2) ∧ CEq C (t.2 rid)) (fun t => SB s t ∧ t 2 = itW (dayW rt mk (-5) fi sp) k (s 2) ∧ CEq C (t rid)) k
    (fun i t hi hI => by
      obtain ⟨v, t⟩ := t
      obtain ⟨hv, hS, h2, hCt⟩ := hI
      dsimp only at hv hS h2 hCt
      subst hv
      have hDt : DI n (d + i) (t 2) := by
        rw [h2]
        exact DI_it (dayDI hC hC.2.2.2.2.1) hD i (by omega)
      have hm : (t rid) 0 0 = mk := by rw [← hCt 0 (by decide)]; exact hC.2.1
      obtain ⟨p1, p2, e1, e2, e3, e4, e5, e6⟩ := e_tday (m := mk) (ab := -5) hk hC hCt hDt (by omega)
      show ∃ s', f_X6_goTrial_B7 (nI k) rid (nI i) t = _ ∧ _
      unfold f_X6_goTrial_B7
      rw [if_neg (nI_ge hi (by omega)), hm, e1, nI_1]
      refine ⟨_, rfl, rfl, hS.tr e4, ?_, e6⟩
      show (setO (setO t 2 p1) rid p2) 2 = _
      rw [e5, e2, h2]
      rfl)
    (fun t hI => by
      obtain ⟨v, t⟩ := t
      obtain ⟨hv, hS, h2, hCt⟩ := hI
      dsimp only at hv hS h2 hCt
      subst hv
      refine ⟨t, ?_, hS, h2, hCt⟩
      show f_X6_goTrial_B7 (nI k) rid (nI k) t = _
      unfold f_X6_goTrial_B7
      rw [if_pos (Int32.le_refl _)]) k 0 (0, s) (by omega) ⟨rfl, SB.rf, rfl, hCs⟩ 200 (by omega)
  refine ⟨t, ?_, h2⟩
  unfold f_X6_goTrial
  rw [hr, Option.bind_some, if_pos hk]
  unfold f_X6_goTrial_H7
  rw [h1]
  rfl
/-- the trial begins -/
theorem e_start (h1 : NZ (s 1)) (h2 : NZ (s 2)) : f_X6_startTrial s = some (setO s 2 (up2 (s 1) 0 3 0)) := by
  unfold f_X6_startTrial
  rw [e_copy h2 h1]
  rfl
end Tri
section Sav
variable {P Q W V : Pm} {n d : Nat} {mk sp fi : Int32} {rt : Pm → Nat → Int32} {f : Nat → Int32}
/-- k days of the reference -/
theorem m_goDays {k : Nat} (hk61 : k ≤ 61) (hW : WV P W) (hD : DI n d W) (hd : d < 2 ^ 28) (hS : nI (d + k) ≤ P 0 33) (hmk : rg mk 99) (hem : rg (emk P mk) 99) (hfi : rg fi 99) (hsp : rg sp 99) (hrt : ∀ W j, rg (rt W j) 991) (hC : CtyM P mk sp fi rt) :
    ∃ f', f_X7_goDays P (nI k) = some (put (setO P 33 f') (itW (dayW rt (emk P mk) (P 0 31) fi sp) k W)) := by
  have hP0 : put (setO P 33 (P 33)) W = P := by
    rw [← put_pile, ← hW]
    exact setO_i
  obtain ⟨P', h1, h2⟩ := iter_I (body := fun t : Int32 × Pm => f_X7_goDays_B2 (nI k) t.1 t.2) (fun i t => t.1 = nI i ∧ ∃ f', t.2 = put (setO P 33 f') (itW (dayW rt (emk P mk) (P 0 31) fi sp) i W)) (fun t => ∃ f', t = put (setO P 33 f') (itW (dayW rt (emk P mk) (P 0 31) fi sp) k W)) k
    (fun i t hi hI => by
      obtain ⟨v, t⟩ := t
      obtain ⟨hv, f1, ht⟩ := hI
      dsimp only at hv ht
      subst hv
      subst ht
      have hDt : DI n (d + i) (itW (dayW rt (emk P mk) (P 0 31) fi sp) i W) := DI_it (fun W d hd h => DI_day h hd hem hfi hsp hrt) hD i (by omega)
      obtain ⟨f2, e⟩ := m_day (f := f1) hDt (by omega) (Int32.le_trans (nI_le (by omega) (by omega)) hS) hmk hem hfi hsp hrt hC
      show ∃ s', f_X7_goDays_B2 (nI k) (nI i) _ = _ ∧ _
      unfold f_X7_goDays_B2
      rw [if_neg (nI_ge hi (by omega)), e, nI_1]
      exact ⟨_, rfl, rfl, f2, rfl⟩)
    (fun t hI => by
      obtain ⟨v, t⟩ := t
      obtain ⟨hv, f1, ht⟩ := hI
      dsimp only at hv ht
      subst hv
      subst ht
      refine ⟨_, ?_, f1, rfl⟩
      show f_X7_goDays_B2 (nI k) (nI k) _ = _
      unfold f_X7_goDays_B2
      rw [if_pos (Int32.le_refl _)]) k 0 (0, P) (by omega) ⟨rfl, P 33, hP0.symm⟩ 200 (by omega)
  obtain ⟨f', rfl⟩ := h2
  refine ⟨f', ?_⟩
  unfold f_X7_goDays f_X7_goDays_H2
  rw [h1]
  rfl
/-- the reference within a trial that began at P with the well W: the well is V now -/
def TR (P W Q V : Pm) : Prop := WV Q V ∧ Q 0 33 = 2000000000 ∧ Q 0 35 = W 0 0 ∧ Q 0 36 = W 0 1 ∧ Q 38 = cpn 6 (P 38) (W 7) ∧ Q 39 = cpn 6 (P 39) (W 8) ∧ Q 40 = cpn 6 (P 40) (W 9) ∧ Q 41 = cpn 6 (P 41) (W 10) ∧ Q 42 = cpn 6 (P 42) (W 11) ∧ Q 43 = cpn 6 (P 43) (W 12) ∧ Q 44 = cpn 6 (P 44) (W 13) ∧
  (∀ c, ¬ (c = 0 ∨ (4 ≤ c ∧ c ≤ 13) ∨ c = 33 ∨ (38 ≤ c ∧ c ≤ 44)) → Q c = P c) ∧ ∀ i, ¬ (i ≤ 2 ∨ i = 30 ∨ i = 31 ∨ (33 ≤ i ∧ i ≤ 36)) → Q 0 i = P 0 i
/-- the reference at rest, with the well W -/
def Rest (P W : Pm) : Prop := WV P (up2 W 0 3 (P 0 34)) ∧ P 0 30 = -1 ∧ P 0 31 = -1 ∧ P 0 33 = 9999
/-- the same but for what is scratch -/
def MB (P P' : Pm) : Prop := (∀ c, ¬ (c = 0 ∨ c = 33 ∨ (38 ≤ c ∧ c ≤ 44)) → P' c = P c) ∧ ∀ i, ¬ (33 ≤ i ∧ i ≤ 36) → P' 0 i = P 0 i
theorem MB.rf : MB P P := ⟨fun _ _ => rfl, fun _ _ => rfl⟩
theorem MB.tr {R : Pm} (h : MB P Q) (h2 : MB Q R) : MB P R := ⟨fun c hc => (h2.1 c hc).trans (h.1 c hc), fun i hi => (h2.2 i hi).trans (h.2 i hi)⟩
theorem m_save (hR : Rest P W) : ∃ Q, f_X7_save P = some Q ∧ TR P W Q (up2 W 0 3 0) ∧ Q 0 30 = -1 ∧ Q 0 31 = -1 := by
  obtain ⟨hW, r1, r2, r3⟩ := hR
  unfold f_X7_save f_X7_save_H30
  simp only [nb]
  generalize hS : up2 (up2 (up2 (up2 P 0 33 2000000000) 0 34 0) 0 35 (up2 (up2 P 0 33 2000000000) 0 34 0 0 0)) 0 36 (up2 (up2 (up2 P 0 33 2000000000) 0 34 0) 0 35 (up2 (up2 P 0 33 2000000000) 0 34 0 0 0) 0 2) = S
  have hc : ∀ c, c ≠ 0 → S c = P c := fun c hc => by rw [← hS, up2_g, if_neg hc, up2_g, if_neg hc, up2_g, if_neg hc, up2_g, if_neg hc]
  have h0 : ∀ i, ¬ (33 ≤ i ∧ i ≤ 36) → S 0 i = P 0 i := fun i hi => by
    rw [← hS]
    simp only [up2_g, if_true, upd_g]
    rw [if_neg (by omega), if_neg (by omega), if_neg (by omega), if_neg (by omega)]
  obtain ⟨Q, h1, h2⟩ := l_S (P := S)
  rw [h1, Option.bind_some]
  have hn : ∀ c, ¬ (38 ≤ c ∧ c ≤ 44) → Q c = S c := fun c hc => by
    rw [h2]
    exact cl_S_n (by omega) (by omega) (by omega) (by omega) (by omega) (by omega) (by omega)
  have hQ0 : Q 0 = S 0 := hn 0 (by omega)
  refine ⟨Q, rfl, ⟨WV.of ?_ ?_ ?_ ?_ ?_ ?_ ?_ ?_ ?_ ?_ ?_ ?_ ?_ ?_, ?_, ?_, ?_, ?_, ?_, ?_, ?_, ?_, ?_, ?_, ?_, ?_⟩, ?_, ?_⟩
  · rw [hQ0, h0 0 (by omega), hW.r00]; rfl
  · rw [hQ0, h0 1 (by omega), hW.r01]; rfl
  · rw [hQ0, h0 2 (by omega), hW.r02]; rfl
  · rw [hQ0, ← hS]; rfl
  · rw [hn 4 (by omega), hc 4 (by omega), hW.r4]; rfl
  · rw [hn 5 (by omega), hc 5 (by omega), hW.r5]; rfl
  · rw [hn 6 (by omega), hc 6 (by omega), hW.r6]; rfl
  · rw [hn 7 (by omega), hc 7 (by omega), hW.r7]; rfl
  · rw [hn 8 (by omega), hc 8 (by omega), hW.r8]; rfl
  · rw [hn 9 (by omega), hc 9 (by omega), hW.r9]; rfl
  · rw [hn 10 (by omega), hc 10 (by omega), hW.r10]; rfl
  · rw [hn 11 (by omega), hc 11 (by omega), hW.r11]; rfl
  · rw [hn 12 (by omega), hc 12 (by omega), hW.r12]; rfl
  · rw [hn 13 (by omega), hc 13 (by omega), hW.r13]; rfl
  · rw [hQ0, ← hS]; rfl
  · rw [hQ0, ← hS]; exact hW.r00
  · rw [hQ0, ← hS]; exact hW.r02
  · rw [h2, cl_S_38, hc 38 (by omega), hc 6 (by omega), hW.r6]; rfl
  · rw [h2, cl_S_39, hc 39 (by omega), hc 7 (by omega), hW.r7]; rfl
  · rw [h2, cl_S_40, hc 40 (by omega), hc 8 (by omega), hW.r8]; rfl
  · rw [h2, cl_S_41, hc 41 (by omega), hc 9 (by omega), hW.r9]; rfl
  · rw [h2, cl_S_42, hc 42 (by omega), hc 10 (by omega), hW.r10]; rfl
  · rw [h2, cl_S_43, hc 43 (by omega), hc 11 (by omega), hW.r11]; rfl
  · rw [h2, cl_S_44, hc 44 (by omega), hc 13 (by omega), hW.r13]; rfl
  · intro c hcc
    rw [hn c (by omega), hc c (by omega)]
  · intro i hi
    rw [hQ0, h0 i (by omega)]
  · rw [hQ0, h0 30 (by omega)]; exact r1
  · rw [hQ0, h0 31 (by omega)]; exact r2
theorem cpn_cc {k : Nat} {a b g : Nat → Int32} (h : ∀ i, k ≤ i → a i = g i) : cpn k a (cpn k b g) = g := by
  funext i
  unfold cpn
  split
  · rfl
  · exact h i (by omega)
theorem m_putBack (hT : TR P W Q V) (hR : Rest P W) (hW : NZ W) (hV : NZ V) (h5 : V 5 = W 5) (h6 : V 6 = W 6) (h14 : V 14 = W 14) (h02 : V 0 2 = W 0 2) : ∃ P', f_X7_putBack Q = some P' ∧ Rest P' W ∧ MB P P' := by
  obtain ⟨hQV, t33, t35, t36, t38, t39, t40, t41, t42, t43, t44, tc, t0⟩ := hT
  obtain ⟨hPW, r30, r31, r33⟩ := hR
  unfold f_X7_putBack f_X7_putBack_H35
  simp only [nb]
  generalize hS : up2 (up2 (up2 (up2 (up2 Q 0 33 9999) 0 30 (-1)) 0 31 (-1)) 0 0 (up2 (up2 (up2 Q 0 33 9999) 0 30 (-1)) 0 31 (-1) 0 35)) 0 2 (up2 (up2 (up2 (up2 Q 0 33 9999) 0 30 (-1)) 0 31 (-1)) 0 0 (up2 (up2 (up2 Q 0 33 9999) 0 30 (-1)) 0 31 (-1) 0 35) 0 36) = S
  have hc : ∀ c, c ≠ 0 → S c = Q c := fun c hc => by rw [← hS, up2_g, if_neg hc, up2_g, if_neg hc, up2_g, if_neg hc, up2_g, if_neg hc, up2_g, if_neg hc]
  have h0 : ∀ i, ¬ (i = 0 ∨ i = 2 ∨ i = 30 ∨ i = 31 ∨ i = 33) → S 0 i = Q 0 i := fun i hi => by
    rw [← hS]
    simp only [up2_g, if_true, upd_g]
    rw [if_neg (by omega), if_neg (by omega), if_neg (by omega), if_neg (by omega), if_neg (by omega)]
  have s0 : S 0 0 = W 0 0 := by rw [← hS]; exact t35
  have s2 : S 0 2 = W 0 1 := by rw [← hS]; exact t36
  obtain ⟨P', h1, h2⟩ := l_B (P := S)
  rw [h1, Option.bind_some]
  have hn : ∀ c, ¬ ((6 ≤ c ∧ c ≤ 11) ∨ c = 13) → P' c = S c := fun c hc => by
    rw [h2]
    exact cl_B_n (by omega) (by omega) (by omega) (by omega) (by omega) (by omega) (by omega)
  have e0 : P' 0 = S 0 := hn 0 (by omega)
  have e6 : P' 6 = W 7 := by
    rw [h2, cl_B_6, hc 6 (by decide), hc 38 (by decide), t38, hQV.r6]
    exact cpn_cc (fun i hi => by rw [hV.2.2.1 7 i (by omega) (by omega) hi, hW.2.2.1 7 i (by omega) (by omega) hi])
  have e7 : P' 7 = W 8 := by
    rw [h2, cl_B_7, hc 7 (by decide), hc 39 (by decide), t39, hQV.r7]
    exact cpn_cc (fun i hi => by rw [hV.2.2.1 8 i (by omega) (by omega) hi, hW.2.2.1 8 i (by omega) (by omega) hi])
  have e8 : P' 8 = W 9 := by
    rw [h2, cl_B_8, hc 8 (by decide), hc 40 (by decide), t40, hQV.r8]
    exact cpn_cc (fun i hi => by rw [hV.2.2.1 9 i (by omega) (by omega) hi, hW.2.2.1 9 i (by omega) (by omega) hi])
  have e9 : P' 9 = W 10 := by
    rw [h2, cl_B_9, hc 9 (by decide), hc 41 (by decide), t41, hQV.r9]
    exact cpn_cc (fun i hi => by rw [hV.2.2.1 10 i (by omega) (by omega) hi, hW.2.2.1 10 i (by omega) (by omega) hi])
  have e10 : P' 10 = W 11 := by
    rw [h2, cl_B_10, hc 10 (by decide), hc 42 (by decide), t42, hQV.r10]
    exact cpn_cc (fun i hi => by rw [hV.2.2.1 11 i (by omega) (by omega) hi, hW.2.2.1 11 i (by omega) (by omega) hi])
  have e11 : P' 11 = W 12 := by
    rw [h2, cl_B_11, hc 11 (by decide), hc 43 (by decide), t43, hQV.r11]
    exact cpn_cc (fun i hi => by rw [hV.2.2.1 12 i (by omega) (by omega) hi, hW.2.2.1 12 i (by omega) (by omega) hi])
  have e13 : P' 13 = W 13 := by
    rw [h2, cl_B_13, hc 13 (by decide), hc 44 (by decide), t44, hQV.r13]
    exact cpn_cc (fun i hi => by rw [hV.2.2.1 13 i (by omega) (by omega) hi, hW.2.2.1 13 i (by omega) (by omega) hi])
  have e4 : P' 4 = W 5 := by rw [hn 4 (by omega), hc 4 (by omega), hQV.r4, h5]
  have e5 : P' 5 = W 6 := by rw [hn 5 (by omega), hc 5 (by omega), hQV.r5, h6]
  have e12 : P' 12 = W 14 := by rw [hn 12 (by omega), hc 12 (by omega), hQV.r12, h14]
  have e01 : P' 0 1 = W 0 2 := by rw [e0, h0 1 (by omega), hQV.r01, h02]
  refine ⟨P', rfl, ⟨WV.of ?_ ?_ ?_ ?_ ?_ ?_ ?_ ?_ ?_ ?_ ?_ ?_ ?_ ?_, ?_, ?_, ?_⟩, fun c hcc => ?_, fun i hi => ?_⟩
  · rw [e0]; exact s0
  · exact e01
  · rw [e0]; exact s2
  · rfl
  · exact e4
  · exact e5
  · exact e6
  · exact e7
  · exact e8
  · exact e9
  · exact e10
  · exact e11
  · exact e12
  · exact e13
  · rw [e0, ← hS]; rfl
  · rw [e0, ← hS]; rfl
  · rw [e0, ← hS]; rfl
  · by_cases hw : 4 ≤ c ∧ c ≤ 13
    · rcases (show c = 4 ∨ c = 5 ∨ c = 6 ∨ c = 7 ∨ c = 8 ∨ c = 9 ∨ c = 10 ∨ c = 11 ∨ c = 12 ∨ c = 13 by omega) with h | h | h | h | h | h | h | h | h | h <;> subst h
      · exact e4.trans hPW.r4.symm
      · exact e5.trans hPW.r5.symm
      · exact e6.trans hPW.r6.symm
      · exact e7.trans hPW.r7.symm
      · exact e8.trans hPW.r8.symm
      · exact e9.trans hPW.r9.symm
      · exact e10.trans hPW.r10.symm
      · exact e11.trans hPW.r11.symm
      · exact e12.trans hPW.r12.symm
      · exact e13.trans hPW.r13.symm
    · rw [hn c (by omega), hc c (by omega), tc c (by omega)]
  · rw [e0]
    by_cases hi2 : i ≤ 2 ∨ i = 30 ∨ i = 31
    · rcases (show i = 0 ∨ i = 1 ∨ i = 2 ∨ i = 30 ∨ i = 31 by omega) with h | h | h | h | h <;> subst h
      · rw [s0]; exact hPW.r00.symm
      · rw [← e0, e01]; exact hPW.r01.symm
      · rw [s2]; exact hPW.r02.symm
      · rw [r30, ← hS]; rfl
      · rw [r31, ← hS]; rfl
    · rw [h0 i (by omega), t0 i (by omega)]
end Sav
