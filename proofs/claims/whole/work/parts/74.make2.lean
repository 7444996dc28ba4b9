section Zr2
variable {X : NX} {D : va_G} {gc : Nat → ClassId} {A : Nat → Prop} {own : String} {cc : ByteArray} {nL : Nat} {ws w : va_W} {ck cn pc nx : Nat} {L : List (Nat × Value)} {st : List Value}
theorem z_newq {index N' : Nat} {n : Int32} (hX : Cz X D gc A own cc nL) (hclink : Cond.classLink own index "WellLendsDepth$Country" ∈ gT) (hover : va_AO "WellLendsDepth$Country" X.2.2.2.2.1) (hn : ¬ n < 0) (hN : n.toNatClampNeg = N') (hbytes : N' * 4 ≤ 536870912) (hr : ck + 1 ≤ X.2.2.2.1.cells ∧ cn + N' ≤ X.2.2.2.1.slots) (hd : decode cc pc = .ok (.anewarray index, 3) ∧ pc + 3 = nx)
    (kk : ∀ q : Nat, WL X D A nL (ws ++ [(q, .inl (gc 3, N', .inr (.inr (.inr (.inr (fun _ => none))))))]) (ck + 1) (cn + N') nx L (.ref q :: st)) : WL X D A nL ws ck cn pc L (.int n :: st) := by
  intro H locs ls hP hD hS hl
  obtain ⟨hx, hb, hml, hown, hts, hlo, hK, hA, hLK⟩ := hX
  obtain ⟨hd, rfl⟩ := hd
  refine va_newq hx hb hown (hts _ hclink) hover hK hP hD hS hA hn hN hbytes hr.1 hr.2 hd (fun q cA H1 hK1 hP1 hD1 hS1 => ?_)
  obtain ⟨_, _, _, _, _, e1⟩ := (hK.2 3 _ rfl).2
  obtain ⟨_, _, _, _, _, e2⟩ := (hK1.2 5 (cA, .object "WellLendsDepth$Country") rfl).2
  have e : cA = gc 3 := Option.some.inj (e2.symm.trans e1)
  subst e
  exact kk q H1 locs ls hP1 hD1 hS1 hl
/-- a known object into an array of Countries -/
theorem z_astq {q0 qk a v n : Nat} {vs : List Value} {f : Nat → Option Nat} {i : Int32} (hX : Cz X D gc A own cc nL) (ha : ws[q0]? = some (a, .inl (gc 3, n, .inr (.inr (.inr (.inr f)))))) (hv : ws[qk]? = some (v, .inr (1, vs))) (hin : vp_in i n) {j : Nat} (hj : i.toNatClampNeg = j) (hd : decode cc pc = .ok (.aastore, 1) ∧ pc + 1 = nx)
    (kk : WL X D A nL (ws.set q0 (a, .inl (gc 3, n, .inr (.inr (.inr (.inr (va_up f j (some v)))))))) ck cn nx L st) : WL X D A nL ws ck cn pc L (.ref v :: .int i :: .ref a :: st) := by
  intro H locs ls hP hD hS hl
  obtain ⟨hx, hb, hml, hown, hts, hlo, hK, hA, hLK⟩ := hX
  obtain ⟨hd, rfl⟩ := hd
  subst hj
  exact va_astq hx hb hK hP hD hS q0 3 qk 1 ha rfl hv rfl hin hd (fun H1 locs1 hP1 hD1 hS1 => kk H1 locs1 ls hP1 hD1 hS1 hl)
/-- an int into an array of ints -/
theorem z_iast {q0 a n : Nat} {f : Nat → Int32} {i x : Int32} (hX : Cz X D gc A own cc nL) (ha : ws[q0]? = some (a, .inl (gc 0, n, .inl f))) (hin : vp_in i n) {j : Nat} (hj : i.toNatClampNeg = j) (hd : decode cc pc = .ok (.iastore, 1) ∧ pc + 1 = nx)
    (kk : WL X D A nL (ws.set q0 (a, .inl (gc 0, n, .inl (upd f j x)))) ck cn nx L st) : WL X D A nL ws ck cn pc L (.int x :: .int i :: .ref a :: st) := by
  intro H locs ls hP hD hS hl
  obtain ⟨hx, hb, hml, hown, hts, hlo, hK, hA, hLK⟩ := hX
  obtain ⟨hd, rfl⟩ := hd
  subst hj
  exact va_iast hx hb hK hP hD hS q0 0 ha rfl hin hd (fun H1 locs1 hP1 hD1 hS1 => kk H1 locs1 ls hP1 hD1 hS1 hl)
/-- a field of an object -/
theorem z_get {k index j N q0 q : Nat} {C ref name desc : String} {T : u_T} {v : Value} {fs : List Value} (hX : Cz X D gc A own cc nL) (hin : ∀ w ∈ u_ws C T N, w ∈ gT) (hlk : Cond.fieldLink own index ref name desc ∈ gT) (hc : cl8[k]? = some (C, T, N)) (hj : j < N) (hT : (T j).1 = ref) (hT2 : ((T j).2.1, (T j).2.2.1) = (name, desc)) (he : ws[q]? = some (q0, .inr (k, fs))) (hv : fs[j]? = some v) (hd : decode cc pc = .ok (.getfield index, 3) ∧ pc + 3 = nx)
    (kk : WL X D A nL ws ck cn nx L (v :: st)) : WL X D A nL ws ck cn pc L (.ref q0 :: st) := by
  intro H locs ls hP hD hS hl
  obtain ⟨hx, hb, hml, hown, hts, hlo, hK, hA, hLK⟩ := hX
  obtain ⟨hd, rfl⟩ := hd
  have hn1 := (Prod.mk.inj hT2).1
  have hds := (Prod.mk.inj hT2).2
  exact va_get hx hb hts hin hown hK hP q he hc j hj (by rw [hn1, hds]; exact hts _ hlk) (by rw [hT]; exact fun _ h => h) hv hd (kk H locs ls hP hD hS hl)
/-- what the tables say of the members between nest mates and of the array of Countries -/
def EX (U : State) : Prop := va_Nw (.methodLinkNest zR6 11 yX5_init "WellLendsDepth") U ∧ va_Nw (.methodLinkNest zR6 26 yX2_init "WellLendsDepth") U ∧ va_Nw (.methodLinkNest zR6 36 yX3_init "WellLendsDepth") U ∧ va_Nw (.methodLinkNest zR6 43 yX1_init "WellLendsDepth") U ∧ va_Nw (.methodLinkNest zR6 54 yX0_init "WellLendsDepth") U ∧ va_Nw (.methodLinkNest zR3 26 yX1_init "WellLendsDepth") U ∧ va_AO "WellLendsDepth$Country" U
theorem EX.warm {s U : State} (hW : s.WarmedH U.vm) (h : EX s) : EX U := ⟨h.1.warmM hW, h.2.1.warmM hW, h.2.2.1.warmM hW, h.2.2.2.1.warmM hW, h.2.2.2.2.1.warmM hW, h.2.2.2.2.2.1.warmM hW, h.2.2.2.2.2.2.moved hW.alike⟩
theorem EX.same {u U : State} (hvm : u.vm = U.vm) (h : EX u) : EX U := ⟨h.1.same rfl hvm, h.2.1.same rfl hvm, h.2.2.1.same rfl hvm, h.2.2.2.1.same rfl hvm, h.2.2.2.2.1.same rfl hvm, h.2.2.2.2.2.1.same rfl hvm, h.2.2.2.2.2.2.moved (by rw [hvm]; exact Vm.Alike.refl U.vm)⟩
end Zr2
