/-! making 5: an array of six arrays of sixty longs (written by hand: wip/whole/make/rows77.txt) -/
def mnI (cc : ClassId) : Cell := arrV cc 60 (fun _ => .long 0)
def mnO (cA : ClassId) (h i : Nat) : Cell := arrV cA 6 (fun j => if j < i then .ref (h + 1 + j) else .null)
/-- the state when i of the six rows stand -/
def mnS (T : State) (cA cc : ClassId) : Nat → State
  | 0 => T.pushCell (mnO cA T.heap.size 0)
  | i + 1 => ((mnS T cA cc i).pushCell (mnI cc)).setCell T.heap.size (mnO cA T.heap.size (i + 1))
theorem mnO_up (cA : ClassId) (h i : Nat) : (mnO cA h i).setSlot i (.ref (h + 1 + i)) = mnO cA h (i + 1) := by
  unfold mnO
  rw [arrV_store]
  congr 1
  funext j
  show (if j = i then _ else _) = _
  by_cases h1 : j = i
  · subst h1
    rw [if_pos rfl, if_pos (Nat.lt_succ_self j)]
  · rw [if_neg h1]
    show (if j < i then _ else _) = _
    by_cases h2 : j < i
    · rw [if_pos h2, if_pos (by omega)]
    · rw [if_neg h2, if_neg (by omega)]
theorem mnS_all (T : State) (cA cc : ClassId) : ∀ i : Nat, (mnS T cA cc i).heap.size = T.heap.size + 1 + i ∧ (mnS T cA cc i).vm = T.vm ∧ (mnS T cA cc i).slotsUsed = T.slotsUsed + 6 + i * 60 ∧ (mnS T cA cc i).heap[T.heap.size]? = some (mnO cA T.heap.size i) ∧ (∀ a : Nat, a < T.heap.size → (mnS T cA cc i).heap[a]? = T.heap[a]?) ∧ ∀ j : Nat, j < i → (mnS T cA cc i).heap[T.heap.size + 1 + j]? = some (mnI cc)
  | 0 => ⟨by simp [mnS], rfl, by simp [mnS, mnO, arrV_size], by simp [mnS], fun a ha => State.heap_pushCell_of_lt _ _ ha, fun j hj => absurd hj (Nat.not_lt_zero j)⟩
  | i + 1 => by
    obtain ⟨h1, h2, h3, h4, h5, h6⟩ := mnS_all T cA cc i
    have hz : T.heap.size < (mnS T cA cc i).heap.size := by
      rw [h1]
      omega
    have hp : ((mnS T cA cc i).pushCell (mnI cc)).heap[T.heap.size]? = some (mnO cA T.heap.size i) := by
      rw [State.heap_pushCell_of_lt (h := hz)]
      exact h4
    refine ⟨?_, h2, ?_, State.heap_setCell_self hp, fun a ha => ?_, fun j hj => ?_⟩
    · show (((mnS T cA cc i).pushCell (mnI cc)).heap.setIfInBounds _ _).size = _
      rw [Array.size_setIfInBounds, State.heap_size_pushCell, h1]
      omega
    · show (mnS T cA cc i).slotsUsed + (mnI cc).slots.size = _
      rw [h3]
      unfold mnI
      rw [arrV_size]
      omega
    · show (((mnS T cA cc i).pushCell (mnI cc)).setCell _ _).heap[a]? = _
      have ha2 : a < (mnS T cA cc i).heap.size := Nat.lt_trans ha hz
      rw [State.heap_setCell_other (show T.heap.size ≠ a by omega), State.heap_pushCell_of_lt (h := ha2)]
      exact h5 a ha
    · show (((mnS T cA cc i).pushCell (mnI cc)).setCell _ _).heap[_]? = _
      rw [State.heap_setCell_other (show T.heap.size ≠ T.heap.size + 1 + j by omega)]
      by_cases hji : j < i
      · have ha2 : T.heap.size + 1 + j < (mnS T cA cc i).heap.size := by
          rw [h1]
          omega
        rw [State.heap_pushCell_of_lt (h := ha2)]
        exact h6 j hji
      · have e : j = i := by omega
        subst e
        rw [← h1]
        exact State.heap_pushCell_size _ _
theorem mnS_top (T : State) (f : JFrame) (cA cc : ClassId) : ∀ i : Nat, mnS (T.setTop f) cA cc i = (mnS T cA cc i).setTop f
  | 0 => rfl
  | i + 1 => by
    show ((mnS (T.setTop f) cA cc i).pushCell _).setCell _ _ = _
    rw [mnS_top T f cA cc i]
    rfl
section MN
variable {p : Program} {l : Launch} {e : Env} {R : Room} {s : State} {m : MethodId} {args : Array Value} {below : List Frame} {meth : Method} {c : Code} {T : State} {locs : List Loc} {cells slots : Nat}
theorem mnS_st (X : Stand p l e R s m args below meth c T locs cells slots) (cA cc : ClassId) : ∀ i : Nat, Stand p l e R s m args below meth c (mnS T cA cc i) (locs ++ (List.range i).map fun j => (⟨T.heap.size, j⟩ : Loc)) (cells + 1 + i) (slots + 6 + i * 60)
  | 0 => by
    have h := X.pushed (mnO cA T.heap.size 0)
    have e : (mnO cA T.heap.size 0).slots.size = 6 := arrV_size _ _ _
    rw [e] at h
    simpa [mnS] using h
  | i + 1 => by
    have hi := mnS_st X cA cc i
    obtain ⟨h1, h2, h3, h4, h5, h6⟩ := mnS_all T cA cc i
    have hz : T.heap.size < (mnS T cA cc i).heap.size := by
      rw [h1]
      omega
    have hp : ((mnS T cA cc i).pushCell (mnI cc)).heap[T.heap.size]? = some (mnO cA T.heap.size i) := by
      rw [State.heap_pushCell_of_lt (h := hz)]
      exact h4
    have h := (hi.pushed (mnI cc)).stored hp i (.ref (T.heap.size + 1 + i))
    have e : (mnI cc).slots.size = 60 := arrV_size _ _ _
    rw [mnO_up, e, List.append_assoc] at h
    have e2 : (List.range (i + 1)).map (fun j => (⟨T.heap.size, j⟩ : Loc)) = (List.range i).map (fun j => (⟨T.heap.size, j⟩ : Loc)) ++ [⟨T.heap.size, i⟩] := by
      rw [List.range_succ, List.map_append]
      rfl
    rw [e2, show slots + 6 + (i + 1) * 60 = slots + 6 + i * 60 + 60 by omega]
    exact h
end MN
section MW
variable {E : CtlPost} {e : Env} {d : Bool} {acts : List Action} {s : State}
theorem mn_new {cA cc : ClassId} {k : Class} {type : FieldType} {n : Nat} {v : Value} (hk : s.vm.classes[cA]? = some k) (hkind : k.kind = .array cc type) (h1 : ¬ n > e.platform.arrayLengthLimit) (h2 : ¬ n * componentBytes type > e.platform.maxHeapBytes) (hf : fits type v = true) (hd : v.isDefault = true) (h3 : s.heap.size < e.platform.maxCells) (h4 : s.slotsUsed + n ≤ e.platform.maxSlots) {Q : Addr → Pre} (hq : Q s.heap.size d acts (s.pushCell (arrV cA n fun _ => v))) : wp (Jvm.newArray cA n v) Q E e d acts s := by
  have hfit : ∀ i w, (Array.replicate n v)[i]? = some w → s.fitsSlot cA .none i w = true := by
    intro i w hw
    rw [Array.getElem?_replicate] at hw
    by_cases hi : i < n
    · rw [if_pos hi] at hw
      cases hw
      simp [State.fitsSlot, State.slotType?, hk, hkind, hf]
    · rw [if_neg hi] at hw
      cases hw
  have ha : allocActs (Array.replicate n v) s.heap.size acts = acts := by
    have h : ((Array.replicate n v).all (·.isDefault)) = true := by
      rw [Array.all_replicate]
      split <;> simp [hd]
    unfold allocActs
    rw [if_pos h]
  rw [← arrV_new] at hq
  simp only [Jvm.newArray, Jvm.arrayFits, wp_bind', W.ask, W.ite, h1, if_false, wp_pure', W.theClass, hk, hkind, h2, W.alloc, W.stop, Option.some.injEq, exists_eq_left', Array.size_replicate, ha]
  rw [if_neg (by omega)]
  exact ⟨h3, h4, hfit, hq⟩
end MW
section MW2
variable {E : CtlPost} {e : Env} {d : Bool} {acts : List Action} {s : State}
theorem mn_row {cc c0 : ClassId} {kC : Class} (hk : s.vm.classes[cc]? = some kC) (hkind : kC.kind = .array c0 .long) (h1 : ¬ 60 > e.platform.arrayLengthLimit) (h2 : ¬ 60 * componentBytes .long > e.platform.maxHeapBytes) (h3 : s.heap.size < e.platform.maxCells) (h4 : s.slotsUsed + 60 ≤ e.platform.maxSlots) {Q : Addr → Pre} (hq : Q s.heap.size d acts (s.pushCell (mnI cc))) : wp (multianewarray.make cc [60]) Q E e d acts s := by
  rw [multianewarray.make]
  simp only [wp_bind', W.ite, show ¬ ((60 : Int32) < 0) from by decide, if_false, wp_pure', W.theClass, hk, hkind, Option.some.injEq, exists_eq_left']
  exact mn_new hk hkind h1 h2 rfl rfl h3 h4 hq
theorem mn_make {cA cc c0 : ClassId} {kA kC : Class} (hk : s.vm.classes[cA]? = some kA) (hkind : kA.kind = .array cc (.array .long)) (hkC : s.vm.classes[cc]? = some kC) (hkindC : kC.kind = .array c0 .long) (h1 : ¬ 60 > e.platform.arrayLengthLimit) (h2 : ¬ 480 > e.platform.maxHeapBytes) (h3 : s.heap.size + 7 ≤ e.platform.maxCells) (h4 : s.slotsUsed + 366 ≤ e.platform.maxSlots) {Q : Addr → Pre} (hq : ∀ d' acts', Q s.heap.size d' acts' (mnS s cA cc 6)) : wp (multianewarray.make cA [6, 60]) Q E e d acts s := by
  rw [multianewarray.make]
  simp only [wp_bind', W.ite, show ¬ ((6 : Int32) < 0) from by decide, if_false, wp_pure', W.theClass, hk, hkind, Option.some.injEq, exists_eq_left']
  refine mn_new hk hkind (show ¬ 6 > _ by omega) (show ¬ 6 * 4 > _ by omega) rfl rfl (by omega) (show s.slotsUsed + 6 ≤ _ by omega) ?_
  have e6 : ((6 : Int32) == 0) = false := by decide
  rw [e6]
  simp only [Bool.false_eq_true, if_false, W.ite, wp_bind', wp_pure']
  rw [Std.Legacy.Range.forIn_eq_forIn_range']
  show wp (forIn (List.range' 0 6 1) PUnit.unit _) _ E e d acts _
  refine wp_forIn_inv (fun rest u => ∃ i : Nat, i ≤ 6 ∧ rest = List.range' i (6 - i) ∧ u = mnS s cA cc i) _ _ ⟨0, by omega, rfl, rfl⟩ ?_ ?_
  · rintro x rest u d' acts' Q' ⟨i, hi, hl, rfl⟩ hn
    have hi6 : i < 6 := by
      rcases Nat.lt_or_ge i 6 with h | h
      · exact h
      · rw [show 6 - i = 0 by omega] at hl
        cases hl
    rw [show 6 - i = (6 - (i + 1)) + 1 by omega, List.range'_succ] at hl
    obtain ⟨rfl, rfl⟩ := List.cons.inj hl
    obtain ⟨z1, z2, z3, z4, z5, z6⟩ := mnS_all s cA cc x
    have hz : s.heap.size < (mnS s cA cc x).heap.size := by
      rw [z1]
      omega
    simp only [wp_bind']
    refine mn_row (by rw [z2]; exact hkC) hkindC h1 (show ¬ 60 * 8 > _ by omega) (by rw [z1]; omega) (by rw [z3]; omega) ?_
    simp only [wp_bind', W.writeLoc, wp_pure']
    refine ⟨mnO cA s.heap.size x, by rw [State.heap_pushCell_of_lt (h := hz)]; exact z4, (fun h => by cases h), (by show x < (arrV _ _ _).slots.size; rw [arrV_size]; exact hi6), ?_, hn _ _ _ ⟨x + 1, hi6, rfl, ?_⟩⟩
    · show State.fitsSlot _ cA .none x _ = true
      simp [State.fitsSlot, State.slotType?, z2, hk, hkind, fits, FieldType.isReference]
    · rw [z1, mnO_up]
      rfl
  · rintro u d' acts' ⟨i, hi, hl, rfl⟩
    have e : i = 6 := by
      rcases Nat.lt_or_ge i 6 with h | h
      · rw [show 6 - i = (6 - (i + 1)) + 1 by omega, List.range'_succ] at hl
        cases hl
      · omega
    subst e
    exact hq _ _
end MW2
theorem arrV_cg {cI : ClassId} {N : Nat} {f g : Nat → Value} (h : ∀ j : Nat, j < N → f j = g j) : arrV cI N f = arrV cI N g := by
  have e : (fun j : Fin N => f j.val) = (fun j : Fin N => g j.val) := funext fun j => h j.val j.isLt
  unfold arrV
  rw [e]
theorem va_D_more {A : Nat → Prop} {ws nw : va_W} {n : Nat} (hD : va_D A ws) (hlt : ∀ (k : Nat) (x : Nat × va_E), ws[k]? = some x → x.1 < n) (hnw : ∀ (k : Nat) (x : Nat × va_E), nw[k]? = some x → x.1 = n + k) (hA : ∀ q : Nat, n ≤ q → A q) : va_D A (ws ++ nw) := by
  have key : ∀ (i : Nat) (p : Nat × va_E), (ws ++ nw)[i]? = some p → (i < ws.length ∧ ws[i]? = some p ∧ p.1 < n) ∨ (ws.length ≤ i ∧ p.1 = n + (i - ws.length)) := by
    intro i p h
    by_cases hi : i < ws.length
    · rw [List.getElem?_append_left hi] at h
      exact Or.inl ⟨hi, h, hlt i p h⟩
    · rw [List.getElem?_append_right (by omega)] at h
      exact Or.inr ⟨by omega, hnw _ p h⟩
  refine ⟨fun i j p q hi hj hpq => ?_, fun k q hk => ?_⟩
  · rcases key i p hi with ⟨a1, a2, a3⟩ | ⟨a1, a2⟩
    · rcases key j q hj with ⟨b1, b2, b3⟩ | ⟨b1, b2⟩
      · exact hD.1 i j p q a2 b2 hpq
      · omega
    · rcases key j q hj with ⟨b1, b2, b3⟩ | ⟨b1, b2⟩
      · omega
      · omega
  · rcases key k q hk with ⟨a1, a2, a3⟩ | ⟨a1, a2⟩
    · exact hD.2 k q a2
    · exact hA _ (by omega)
def mnW (gc : Nat → ClassId) (b : Nat → Nat) : va_W := [(b 3, .inl (gc 4, 6, .inr (.inr (.inr (.inr (fun j => some (b (4 + j)))))))), (b 4, .inl (gc 1, 60, .inr (.inl fun _ => 0))), (b 5, .inl (gc 1, 60, .inr (.inl fun _ => 0))), (b 6, .inl (gc 1, 60, .inr (.inl fun _ => 0))), (b 7, .inl (gc 1, 60, .inr (.inl fun _ => 0))), (b 8, .inl (gc 1, 60, .inr (.inl fun _ => 0))), (b 9, .inl (gc 1, 60, .inr (.inl fun _ => 0)))]
section Zm
variable {X : NX} {D : va_G} {gc : Nat → ClassId} {A : Nat → Prop} {cc : ByteArray} {nL : Nat} {ws w : va_W} {ck cn pc nx : Nat} {L : List (Nat × Value)} {st : List Value}
theorem z_mnew (hX : Cz X D gc A zR4 cc nL) (hr : ck + 7 ≤ X.2.2.2.1.cells ∧ cn + 366 ≤ X.2.2.2.1.slots) (hd : decode cc pc = .ok (.multianewarray 16 2, 4) ∧ pc + 4 = nx)
    (kk : ∀ b : Nat → Nat, WL X D A nL (ws ++ mnW gc b) (ck + 7) (cn + 366) nx L (.ref (b 3) :: st)) : WL X D A nL ws ck cn pc L (.int 60 :: .int 6 :: st) := by
  obtain ⟨p, l, e, R, s, m, args, below, meth, c, Q⟩ := X
  intro H locs ls hP hD hS hl T hT X0
  obtain ⟨hx, hb, hml, hown, hts, hlo, hK, hA, kA, hkA, hkindA⟩ := hX
  obtain ⟨hd, rfl⟩ := hd
  subst hT
  obtain ⟨comp, kC, c0, hcomp, hkC, hkindC⟩ := Cond.arrayClass_spec (hts _ ac_long)
  have g1 : s.vm.findClass ("[" ++ FieldType.long.toString) = some (gc 1) := (hK.2 1 _ rfl).2
  have g4 : s.vm.findClass ("[" ++ (FieldType.array .long).toString) = some (gc 4) := (hK.2 4 _ rfl).2
  have ec : comp = gc 1 := Option.some.inj (hcomp.symm.trans g1)
  subst ec
  have hpl : e.platform.magicAccessors = ({} : Platform).magicAccessors := by rw [X0.admits.platform]
  obtain ⟨cq, hfq, hcl⟩ := Cond.classLink_spec hown (hts _ ck_X4_16) e.platform hpl
  have eq4 : cq = gc 4 := Option.some.inj (hfq.symm.trans g4)
  subst eq4
  obtain ⟨hg₁, hwarm₁, hready₁⟩ := State.classEntry (e := e) X0.warmed hcl
  generalize T.vm.noted m.cls 16 (.cls (gc 4)) = vm₁ at hg₁ hwarm₁ hready₁
  have hal : s.vm.Alike vm₁ := hwarm₁.alike
  obtain ⟨kA₁, hkA₁, heA⟩ := hal.2.2 _ _ hkA
  obtain ⟨kC₁, hkC₁, heC⟩ := hal.2.2 _ _ hkC
  have X1 := X0.noted hwarm₁
  obtain ⟨hr1, hr2⟩ := X0.roomAbove hr.1 hr.2
  have XF := mnS_st X1 (gc 4) (gc 1) 6
  obtain ⟨z1, z2, z3, z4, z5, z6⟩ := mnS_all (T.setVm vm₁) (gc 4) (gc 1) 6
  have hlt : ∀ (k : Nat) (x : Nat × va_E), ws[k]? = some x → x.1 < T.heap.size := fun k x hx => (hP k x hx).lt
  have hb4 : ∀ j : Nat, T.heap.size + (4 + j - 3) = T.heap.size + 1 + j := fun j => by omega
  have hnewat : ∀ q ∈ mnW gc (fun c => T.heap.size + (c - 3)), va_at D cl8 q (mnS (T.setVm vm₁) (gc 4) (gc 1) 6).heap := by
    refine List.forall_mem_cons.mpr ⟨?_, List.forall_mem_cons.mpr ⟨?_, List.forall_mem_cons.mpr ⟨?_, List.forall_mem_cons.mpr ⟨?_, List.forall_mem_cons.mpr ⟨?_, List.forall_mem_cons.mpr ⟨?_, List.forall_mem_cons.mpr ⟨?_, fun _ h => absurd h List.not_mem_nil⟩⟩⟩⟩⟩⟩⟩
    · show (mnS (T.setVm vm₁) (gc 4) (gc 1) 6).heap[T.heap.size]? = some (vp_cell (gc 4) (6, .inr (.inr (.inr (.inr (fun j => some (T.heap.size + (4 + j - 3))))))))
      refine z4.trans (congrArg some ?_)
      rw [vp_cell_q]
      refine arrV_cg (fun j hj => ?_)
      show (if j < 6 then _ else _) = _
      rw [if_pos hj, hb4]
      rfl
    · exact z6 0 (by decide)
    · exact z6 1 (by decide)
    · exact z6 2 (by decide)
    · exact z6 3 (by decide)
    · exact z6 4 (by decide)
    · exact z6 5 (by decide)
  have hnk : ∀ (k : Nat) (x : Nat × va_E), (mnW gc (fun c => T.heap.size + (c - 3)))[k]? = some x → x.1 = T.heap.size + k := by
    intro k x hk
    match k, hk with
    | 0, hk => cases hk; rfl
    | 1, hk => cases hk; rfl
    | 2, hk => cases hk; rfl
    | 3, hk => cases hk; rfl
    | 4, hk => cases hk; rfl
    | 5, hk => cases hk; rfl
    | 6, hk => cases hk; rfl
    | k + 7, hk => cases hk
  have hP1 : va_P D cl8 (ws ++ mnW gc (fun c => T.heap.size + (c - 3))) (mnS (T.setVm vm₁) (gc 4) (gc 1) 6).heap :=
    (hP.kept (fun k x hx => z5 x.1 (hlt k x hx))).app (fun k x hx => hnewat x (List.mem_of_getElem? hx))
  have hD1 : va_D A (ws ++ mnW gc (fun c => T.heap.size + (c - 3))) := va_D_more hD hlt hnk (fun q hq => hA q (Nat.le_trans hS.1 hq))
  have hS1 : va_S A s.heap (mnS (T.setVm vm₁) (gc 4) (gc 1) 6).heap (locs ++ (List.range 6).map fun j => (⟨T.heap.size, j⟩ : Loc)) := by
    refine ⟨?_, fun q h1 h2 => ?_, fun z hz => ?_⟩
    · have h1 := hS.1
      have h2 : (mnS (T.setVm vm₁) (gc 4) (gc 1) 6).heap.size = T.heap.size + 1 + 6 := z1
      show s.heap.size ≤ _
      rw [h2]
      have h3 : s.heap.size ≤ T.heap.size := h1
      omega
    · exact (z5 q (Nat.lt_of_lt_of_le h1 hS.1)).trans (hS.2.1 q h1 h2)
    · rcases List.mem_append.mp hz with h | h
      · exact hS.2.2 z h
      · obtain ⟨j, -, rfl⟩ := List.mem_map.mp h
        exact hA _ hS.1
  have XG : Stand p l e R s m args below meth c (mnS (T.setVm vm₁) (gc 4) (gc 1) 6) (locs ++ (List.range 6).map fun j => (⟨T.heap.size, j⟩ : Loc)) (ck + 7) (cn + 366) := XF
  obtain ⟨t, a1, b1⟩ := kk (fun c => T.heap.size + (c - 3)) _ _ ls hP1 hD1 hS1 hl (mnS (T.setVm vm₁) (gc 4) (gc 1) 6) rfl XG
  refine ⟨t, ?_, b1⟩
  subst hb
  have hl1 : ¬ 60 > e.platform.arrayLengthLimit := by
    rw [Launch.admits_arrayLengthLimit X0.admits]
    omega
  have hl2 : ¬ 480 > e.platform.maxHeapBytes := by
    rw [Launch.admits_maxHeapBytes X0.admits]
    omega
  jvm_step X0.here [hx, hd]
  simp only [multianewarray.sem, wp_bind', W.resolveClassAt_links (State.method?_setTop (F0 m pc ls (.int 60 :: .int 6 :: st)) X0.here.top) hg₁]
  rw [W.popN, if_neg (by decide)]
  refine ⟨F0 m pc ls (.int 60 :: .int 6 :: st), State.topJava?_setTop' (s := T.setVm vm₁) _ X0.here.top, [.int 6, .int 60], st, rfl, rfl, ?_⟩
  simp only [List.mapM_cons, List.mapM_nil, wp_bind', wp_pure']
  refine mn_make (kA := kA₁) (kC := kC₁) (cc := gc 1) (c0 := c0) hkA₁ (by rw [heA]; exact hkindA) hkC₁ (by rw [heC]; exact hkindC) hl1 hl2 (by show T.heap.size + 7 ≤ _; omega) (by show T.slotsUsed + 366 ≤ _; omega) (fun d' acts' => ?_)
  have eS : ((T.setTop (F0 m pc ls (.int 60 :: .int 6 :: st))).setVm vm₁).setTop { F0 m pc ls (.int 60 :: .int 6 :: st) with stack := st } = (T.setVm vm₁).setTop { F0 m pc ls (.int 60 :: .int 6 :: st) with stack := st } := by
    show ((T.setVm vm₁).setTop _).setTop _ = _
    rw [State.setTop_setTop]
  rw [eS, mnS_top]
  simp only [wp_bind', W.mark, W.pushRef, State.topJava?_setTop' _ XG.here.top, Option.some.injEq, exists_eq_left', State.setTop_setTop, State.heap_setTop]
  intro acts
  simp [jvm, XG.here.top]
  exact a1
end Zm
