/-! making 1: what the tables say of it; rows over worlds of what has been made so far; written by wip/whole/make/gen73.py -/
theorem ac_int : Cond.arrayClass .int ∈ gT := gmk (sm_1 (List.mem_of_getElem? (i := 93) (by decide +kernel))) rfl
theorem ac_long : Cond.arrayClass .long ∈ gT := gmk (sm_2 (List.mem_of_getElem? (i := 12) (by decide +kernel))) rfl
theorem ac_boolean : Cond.arrayClass .boolean ∈ gT := gmk (sm_5 (List.mem_of_getElem? (i := 75) (by decide +kernel))) rfl
theorem ib_0 : Cond.instantiable zR0 5 ∈ gT := gmk (sm_1 (List.mem_of_getElem? (i := 210) (by decide +kernel))) rfl
theorem ib_1 : Cond.instantiable zR1 11 ∈ gT := gmk (sm_1 (List.mem_of_getElem? (i := 142) (by decide +kernel))) rfl
theorem ib_2 : Cond.instantiable zR2 9 ∈ gT := gmk (sm_1 (List.mem_of_getElem? (i := 95) (by decide +kernel))) rfl
theorem ib_3 : Cond.instantiable zR3 5 ∈ gT := gmk (sm_1 (List.mem_of_getElem? (i := 136) (by decide +kernel))) rfl
theorem ib_4 : Cond.instantiable zR4 3 ∈ gT := gmk (sm_1 (List.mem_of_getElem? (i := 233) (by decide +kernel))) rfl
theorem ib_5 : Cond.instantiable zR5 14 ∈ gT := gmk (sm_1 (List.mem_of_getElem? (i := 24) (by decide +kernel))) rfl
theorem ib_6 : Cond.instantiable zR6 14 ∈ gT := gmk (sm_1 (List.mem_of_getElem? (i := 16) (by decide +kernel))) rfl
theorem ib_7 : Cond.instantiable zR7 83 ∈ gT := gmk (sm_4 (List.mem_of_getElem? (i := 60) (by decide +kernel))) rfl
theorem ck_X6_9 : Cond.classLink zR6 9 zR5 ∈ gT := gmk (sm_1 (List.mem_of_getElem? (i := 23) (by decide +kernel))) rfl
theorem ck_X6_24 : Cond.classLink zR6 24 zR2 ∈ gT := gmk (sm_1 (List.mem_of_getElem? (i := 94) (by decide +kernel))) rfl
theorem ck_X6_34 : Cond.classLink zR6 34 zR3 ∈ gT := gmk (sm_1 (List.mem_of_getElem? (i := 135) (by decide +kernel))) rfl
theorem ck_X6_41 : Cond.classLink zR6 41 zR1 ∈ gT := gmk (sm_1 (List.mem_of_getElem? (i := 206) (by decide +kernel))) rfl
theorem ck_X6_52 : Cond.classLink zR6 52 zR0 ∈ gT := gmk (sm_1 (List.mem_of_getElem? (i := 209) (by decide +kernel))) rfl
theorem ck_X6_59 : Cond.classLink zR6 59 zR4 ∈ gT := gmk (sm_1 (List.mem_of_getElem? (i := 232) (by decide +kernel))) rfl
theorem ck_X3_24 : Cond.classLink zR3 24 zR1 ∈ gT := gmk (sm_1 (List.mem_of_getElem? (i := 141) (by decide +kernel))) rfl
theorem ck_X4_16 : Cond.classLink zR4 16 "[[J" ∈ gT := gmk (sm_1 (List.mem_of_getElem? (i := 238) (by decide +kernel))) rfl
theorem ck_L_7 : Cond.classLink R_law 7 zR6 ∈ gT := gmk (sm_1 (List.mem_of_getElem? (i := 15) (by decide +kernel))) rfl
theorem ck_L_10 : Cond.classLink R_law 10 zR7 ∈ gT := gmk (sm_4 (List.mem_of_getElem? (i := 59) (by decide +kernel))) rfl
theorem oi_X6 : Cond.methodLink zR6 3 objectInit ∈ gT := gmk (sm_1 (List.mem_of_getElem? (i := 20) (by decide +kernel))) rfl
theorem oi_X5 : Cond.methodLink zR5 3 objectInit ∈ gT := gmk (sm_1 (List.mem_of_getElem? (i := 28) (by decide +kernel))) rfl
theorem oi_X2 : Cond.methodLink zR2 1 objectInit ∈ gT := gmk (sm_1 (List.mem_of_getElem? (i := 99) (by decide +kernel))) rfl
theorem oi_X3 : Cond.methodLink zR3 1 objectInit ∈ gT := gmk (sm_1 (List.mem_of_getElem? (i := 140) (by decide +kernel))) rfl
theorem oi_X1 : Cond.methodLink zR1 1 objectInit ∈ gT := gmk (sm_1 (List.mem_of_getElem? (i := 146) (by decide +kernel))) rfl
theorem oi_X0 : Cond.methodLink zR0 3 objectInit ∈ gT := gmk (sm_1 (List.mem_of_getElem? (i := 214) (by decide +kernel))) rfl
theorem oi_X4 : Cond.methodLink zR4 1 objectInit ∈ gT := gmk (sm_1 (List.mem_of_getElem? (i := 237) (by decide +kernel))) rfl
theorem oi_X7 : Cond.methodLink zR7 1 objectInit ∈ gT := gmk (sm_4 (List.mem_of_getElem? (i := 64) (by decide +kernel))) rfl
theorem oi_in : Cond.instanceMethod objectInit ∈ gT := gmk (sm_1 (List.mem_of_getElem? (i := 21) (by decide +kernel))) rfl
theorem oi_cd : Cond.code objectInit ⟨#[0xb1]⟩ 1 none ∈ gT := gmk (sm_1 (List.mem_of_getElem? (i := 22) rfl)) rfl
theorem ao_C : Cond.arrayOver (.object "WellLendsDepth$Country") ∈ lw_tbl := sm_1 (List.mem_of_getElem? (i := 208) (by decide +kernel))
theorem ao_L : Cond.arrayOver (.array .long) ∈ lw_tbl := sm_1 (List.mem_of_getElem? (i := 239) (by decide +kernel))
abbrev NX : Type := Program × Launch × Env × Room × State × MethodId × Array Value × List Frame × Method × Code × (State → Prop)
def WL (X : NX) (D : va_G) (A : Nat → Prop) (nL : Nat) (ws : va_W) (k n pc : Nat) (L : List (Nat × Value)) (st : List Value) : Prop :=
  ∀ (H : Heap) (locs : List Loc) (ls : Array Slot), va_P D cl8 ws H → va_D A ws → va_S A X.2.2.2.2.1.heap H locs → lv_has ls nL L →
    W X.1 X.2.1 X.2.2.1 X.2.2.2.1 X.2.2.2.2.1 X.2.2.2.2.2.1 X.2.2.2.2.2.2.1 X.2.2.2.2.2.2.2.1 X.2.2.2.2.2.2.2.2.1 X.2.2.2.2.2.2.2.2.2.1 H locs k n X.2.2.2.2.2.2.2.2.2.2 (F0 X.2.2.2.2.2.1 pc ls st)
def tyG (gc : Nat → ClassId) : List (ClassId × FieldType) := [(gc 0, .int), (gc 1, .long), (gc 2, .boolean), (gc 3, .object "WellLendsDepth$Country"), (gc 4, .array .long)]
/-- the class of long[][] is the one over that of long[] -/
def LK (gc : Nat → ClassId) (U : State) : Prop := ∃ kA : Class, U.vm.classes[gc 4]? = some kA ∧ kA.kind = .array (gc 1) (.array .long)
theorem LK.moved {gc : Nat → ClassId} {u U : State} (hvm : u.vm.Alike U.vm) (h : LK gc u) : LK gc U := by
  obtain ⟨kA, h1, h2⟩ := h
  obtain ⟨k', hk', he⟩ := hvm.2.2 _ _ h1
  exact ⟨k', hk', by rw [he]; exact h2⟩
def Cz (X : NX) (D : va_G) (gc : Nat → ClassId) (A : Nat → Prop) (own : String) (cc : ByteArray) (nL : Nat) : Prop :=
  X.1.tables.exec = Jvm.exec ∧ X.2.2.2.2.2.2.2.2.2.1.code = cc ∧ X.2.2.2.2.2.2.2.2.2.1.maxLocals = nL ∧ X.2.2.2.2.1.vm.findClass own = some X.2.2.2.2.2.1.cls ∧ (∀ w ∈ gT, w.before X.2.2.2.2.2.2.1 X.2.2.2.2.1 = true) ∧ X.2.2.2.2.2.2.2.2.1.locks = false ∧ va_K D cl8 (tyG gc) X.2.2.2.2.1 ∧ (∀ q : Nat, X.2.2.2.2.1.heap.size ≤ q → A q) ∧ LK gc X.2.2.2.2.1
section Zr
variable {X : NX} {D : va_G} {gc : Nat → ClassId} {A : Nat → Prop} {own : String} {cc : ByteArray} {nL : Nat} {ws w : va_W} {ck cn pc nx : Nat} {L : List (Nat × Value)} {st : List Value}
theorem z_aload_n {k : Fin 4} {i : Nat} {x : Nat} (hX : Cz X D gc A own cc nL) (hi : (k : Nat) = i) (q : Nat) (hq : L[q]? = some (i, .ref x)) (hd : decode cc pc = .ok (.aload_n k, 1) ∧ pc + 1 = nx) (kk : WL X D A nL ws ck cn nx L (.ref x :: st)) : WL X D A nL ws ck cn pc L st := by
  intro H locs ls hP hD hS hl
  obtain ⟨hd, rfl⟩ := hd
  exact lv_aload_n hX.1 hX.2.1 hd hi (lv_at hl q hq) (kk H locs ls hP hD hS hl)
theorem z_iload_n {k : Fin 4} {i : Nat} {x : Int32} (hX : Cz X D gc A own cc nL) (hi : (k : Nat) = i) (q : Nat) (hq : L[q]? = some (i, .int x)) (hd : decode cc pc = .ok (.iload_n k, 1) ∧ pc + 1 = nx) (kk : WL X D A nL ws ck cn nx L (.int x :: st)) : WL X D A nL ws ck cn pc L st := by
  intro H locs ls hP hD hS hl
  obtain ⟨hd, rfl⟩ := hd
  exact lv_iload_n hX.1 hX.2.1 hd hi (lv_at hl q hq) (kk H locs ls hP hD hS hl)
theorem z_istore_n {k : Fin 4} {i : Nat} {x : Int32} {L2 : List (Nat × Value)} (hX : Cz X D gc A own cc nL) (hi : (k : Nat) = i) (hn : i < nL) (hl2 : (i, Value.int x) :: L.filter (fun q => !(q.1 == i) && !(q.1 + 1 == i && q.2.category == 2)) = L2) (hd : decode cc pc = .ok (.istore_n k, 1) ∧ pc + 1 = nx) (kk : WL X D A nL ws ck cn nx L2 st) : WL X D A nL ws ck cn pc L (.int x :: st) := by
  intro H locs ls hP hD hS hl
  obtain ⟨hd, rfl⟩ := hd
  exact lv_istore_n hX.1 hX.2.1 hd hi hl hn hl2 (fun ls2 hl3 => kk H locs ls2 hP hD hS hl3)
theorem z_astore_n {k : Fin 4} {i : Nat} {x : Nat} {L2 : List (Nat × Value)} (hX : Cz X D gc A own cc nL) (hi : (k : Nat) = i) (hn : i < nL) (hl2 : (i, Value.ref x) :: L.filter (fun q => !(q.1 == i) && !(q.1 + 1 == i && q.2.category == 2)) = L2) (hd : decode cc pc = .ok (.astore_n k, 1) ∧ pc + 1 = nx) (kk : WL X D A nL ws ck cn nx L2 st) : WL X D A nL ws ck cn pc L (.ref x :: st) := by
  intro H locs ls hP hD hS hl
  obtain ⟨hd, rfl⟩ := hd
  exact lv_astore_n hX.1 hX.2.1 hd hi hl hn hl2 (fun ls2 hl3 => kk H locs ls2 hP hD hS hl3)
theorem z_iinc {i : Nat} {n : Int} {x v : Int32} {L2 : List (Nat × Value)} (hX : Cz X D gc A own cc nL) (q : Nat) (hq : L[q]? = some (i, .int x)) (hv : x + Int32.ofInt n = v) (hn : i < nL) (hl2 : (i, Value.int v) :: L.filter (fun q => !(q.1 == i) && !(q.1 + 1 == i && q.2.category == 2)) = L2) (hd : decode cc pc = .ok (.iinc i n, 3) ∧ pc + 3 = nx) (kk : WL X D A nL ws ck cn nx L2 st) : WL X D A nL ws ck cn pc L st := by
  intro H locs ls hP hD hS hl
  obtain ⟨hd, rfl⟩ := hd
  exact lv_iinc hX.1 hX.2.1 hd hl hq hv hn hl2 (fun ls2 hl3 => kk H locs ls2 hP hD hS hl3)
theorem z_iconst {n : Int} {v : Int32} (hX : Cz X D gc A own cc nL) (hv : Int32.ofInt n = v) (hd : decode cc pc = .ok (.iconst n, 1) ∧ pc + 1 = nx) (kk : WL X D A nL ws ck cn nx L (.int v :: st)) : WL X D A nL ws ck cn pc L st := by
  intro H locs ls hP hD hS hl
  obtain ⟨hd, rfl⟩ := hd
  exact lv_iconst hX.1 hX.2.1 hd hv (kk H locs ls hP hD hS hl)
theorem z_bipush {n : Int} {v : Int32} (hX : Cz X D gc A own cc nL) (hv : (Int8.ofInt n).toInt32 = v) (hd : decode cc pc = .ok (.bipush n, 2) ∧ pc + 2 = nx) (kk : WL X D A nL ws ck cn nx L (.int v :: st)) : WL X D A nL ws ck cn pc L st := by
  intro H locs ls hP hD hS hl
  obtain ⟨hd, rfl⟩ := hd
  exact lv_bipush hX.1 hX.2.1 hd hv (kk H locs ls hP hD hS hl)
theorem z_sipush {n : Int} {v : Int32} (hX : Cz X D gc A own cc nL) (hv : (Int16.ofInt n).toInt32 = v) (hd : decode cc pc = .ok (.sipush n, 3) ∧ pc + 3 = nx) (kk : WL X D A nL ws ck cn nx L (.int v :: st)) : WL X D A nL ws ck cn pc L st := by
  intro H locs ls hP hD hS hl
  obtain ⟨hd, rfl⟩ := hd
  exact lv_sipush hX.1 hX.2.1 hd hv (kk H locs ls hP hD hS hl)
theorem z_dup {v : Value} (hX : Cz X D gc A own cc nL) (hv : v.category = 1) (hd : decode cc pc = .ok (.dup, 1) ∧ pc + 1 = nx) (kk : WL X D A nL ws ck cn nx L (v :: v :: st)) : WL X D A nL ws ck cn pc L (v :: st) := by
  intro H locs ls hP hD hS hl
  obtain ⟨hd, rfl⟩ := hd
  exact lv_dup hX.1 hX.2.1 hd hv (kk H locs ls hP hD hS hl)
theorem z_geT {x y : Int32} {off : Int} {tgt : Nat} (hX : Cz X D gc A own cc nL) (hc : y ≤ x) (hd : decode cc pc = .ok (.if_icmp .ge off, 3) ∧ pc + 3 = nx ∧ (pc : Int) + off = (tgt : Int)) (kk : WL X D A nL ws ck cn tgt L st) : WL X D A nL ws ck cn pc L (.int y :: .int x :: st) := by
  intro H locs ls hP hD hS hl
  obtain ⟨hd, rfl, ht⟩ := hd
  exact lv_icmp_ge hX.1 hX.2.1 hd ht (fun _ => kk H locs ls hP hD hS hl) (fun h => absurd hc h)
theorem z_geF {x y : Int32} {off : Int} {tgt : Nat} (hX : Cz X D gc A own cc nL) (hc : ¬ y ≤ x) (hd : decode cc pc = .ok (.if_icmp .ge off, 3) ∧ pc + 3 = nx ∧ (pc : Int) + off = (tgt : Int)) (kk : WL X D A nL ws ck cn nx L st) : WL X D A nL ws ck cn pc L (.int y :: .int x :: st) := by
  intro H locs ls hP hD hS hl
  obtain ⟨hd, rfl, ht⟩ := hd
  exact lv_icmp_ge hX.1 hX.2.1 hd ht (fun h => absurd h hc) (fun _ => kk H locs ls hP hD hS hl)
theorem z_goto {off : Int} {tgt : Nat} (hX : Cz X D gc A own cc nL) (hd : decode cc pc = .ok (.goto off, 3) ∧ (pc : Int) + off = (tgt : Int)) (kk : WL X D A nL ws ck cn tgt L st) : WL X D A nL ws ck cn pc L st := by
  intro H locs ls hP hD hS hl
  exact lv_goto hX.1 hX.2.1 hd.1 hd.2 (kk H locs ls hP hD hS hl)
/-- Object's own constructor -/
theorem z_obj {x index : Nat} (hX : Cz X D gc A own cc nL) (hlk : Cond.methodLink own index objectInit ∈ gT) (hw8 : (st.map fun v => v.category).sum ≤ 8) (hr : 1 ≤ X.2.2.2.1.frames ∧ 20 ≤ X.2.2.2.1.locals) (hd : decode cc pc = .ok (.invokespecial index, 3) ∧ pc + 3 = nx) (kk : WL X D A nL ws ck cn nx L st) : WL X D A nL ws ck cn pc L (.ref x :: st) := by
  intro H locs ls hP hD hS hl
  obtain ⟨hx, hb, hml, hown, hts, hlo, hK, hA, hLK⟩ := hX
  obtain ⟨hd, rfl⟩ := hd
  refine W.objInit hx hb hown (hts _ hlk) (hts _ oi_in) (hts _ oi_cd) rfl (by rw [hml]; exact hl.1) rfl hd hr.1 ?_ ?_
  · show 2 * 0 + _ + 12 ≤ _
    have := hr.2
    omega
  · exact kk H locs ls hP hD hS hl
/-- an array of ints, longs or booleans -/
theorem z_newa {atype : ArrayType} {i N' : Nat} {n : Int32} (hX : Cz X D gc A own cc nL) (harr : Cond.arrayClass (newarray.typeOf atype) ∈ gT) (hi : (tyG gc)[i]? = some (gc i, newarray.typeOf atype)) {a0 : vp_A} (ha : ∀ cA : ClassId, vp_cell cA a0 = arrV cA N' (fun _ => defaultValue (newarray.typeOf atype))) (hra : ∀ (U : State) (cA : ClassId), va_RA U cA (newarray.typeOf atype) → U.vm.findClass ("[" ++ (newarray.typeOf atype).toString) = some cA) (hn : ¬ n < 0) (hN : n.toNatClampNeg = N') (hbytes : N' * componentBytes (newarray.typeOf atype) ≤ 536870912) (hr : ck + 1 ≤ X.2.2.2.1.cells ∧ cn + N' ≤ X.2.2.2.1.slots) (hd : decode cc pc = .ok (.newarray atype, 2) ∧ pc + 2 = nx)
    (kk : ∀ q : Nat, WL X D A nL (ws ++ [(q, .inl (gc i, a0))]) (ck + 1) (cn + N') nx L (.ref q :: st)) : WL X D A nL ws ck cn pc L (.int n :: st) := by
  intro H locs ls hP hD hS hl
  obtain ⟨hx, hb, hml, hown, hts, hlo, hK, hA, hLK⟩ := hX
  obtain ⟨hd, rfl⟩ := hd
  refine va_newa hx hb (atype := atype) (hts _ harr) rfl hK hP hD hS hA ha hn hN hbytes hr.1 hr.2 hd (fun q cA H1 hK1 hP1 hD1 hS1 => ?_)
  have e1 := hra _ _ (hK.2 i _ hi).2
  have e2 := hra _ _ (hK1.2 5 (cA, newarray.typeOf atype) rfl).2
  have e : cA = gc i := Option.some.inj (e2.symm.trans e1)
  subst e
  exact kk q H1 locs ls hP1 hD1 hS1 hl
/-- a field of the object that is being made -/
theorem z_put {k index j N q0 : Nat} {C ref name desc : String} {T : u_T} {zty : Nat → FieldType} {v : Value} {fs : List Value} (hX : Cz X D gc A own cc nL) (hin : ∀ w ∈ u_ws C T N, w ∈ gT) (hty : ∀ k, k < N → parseFieldDescriptor (T k).2.2.1 = some (zty k)) (hnm : ∀ a, a < N → ∀ b, b < N → a ≠ b → (T a).2.1 ≠ (T b).2.1) (hlk : Cond.fieldLink own index ref name desc ∈ gT) (hc : cl8[k]? = some (C, T, N)) (hj : j < N) (hT : (T j).1 = ref) (hT2 : ((T j).2.1, (T j).2.2.1) = (name, desc)) (hini : X.2.2.2.2.2.2.2.2.1.name = "<init>") (hdecl : (T j).1 = own) (hn : narrow (zty j) v = v) (hfit : fits (zty j) v = true) (hlen : fs.length = N) (hd : decode cc pc = .ok (.putfield index, 3) ∧ pc + 3 = nx)
    (kk : WL X D A nL ((q0, .inr (k, fs.set j v)) :: w) ck cn nx L st) : WL X D A nL ((q0, .inr (k, fs)) :: w) ck cn pc L (v :: .ref q0 :: st) := by
  intro H locs ls hP hD hS hl
  obtain ⟨hx, hb, hml, hown, hts, hlo, hK, hA, hLK⟩ := hX
  obtain ⟨hd, rfl⟩ := hd
  have hn1 := (Prod.mk.inj hT2).1
  have hds := (Prod.mk.inj hT2).2
  cases hf : (T j).2.2.2 with
  | true => exact va_putF hx hb hts hin zty hty hnm hown hK hP hD hS 0 rfl hc j hj (by rw [hn1, hds]; exact hts _ hlk) (by rw [hT]; exact fun _ h => h) hf hini hdecl (hty j hj) hn hfit (by rw [hlen]; exact hj) hd (fun H1 locs1 hP1 hD1 hS1 => kk H1 locs1 ls hP1 hD1 hS1 hl)
  | false => exact va_put hx hb hts hin zty hty hnm hown hK hP hD hS 0 rfl hc j hj (by rw [hn1, hds]; exact hts _ hlk) (by rw [hT]; exact fun _ h => h) hf (hty j hj) hn hfit (by rw [hlen]; exact hj) hd (fun H1 locs1 hP1 hD1 hS1 => kk H1 locs1 ls hP1 hD1 hS1 hl)
/-- a constructor: what it makes of a new object -/
def CI (l : Launch) (D : va_G) (gc : Nat → ClassId) (k : Nat) (y : MethodName) (b : ByteArray) (maxL : Nat) (rm : Room) (mc ms : Nat) (fs0 : List Value) (Ex : State → Prop) (B : (Nat → Nat → Nat) → va_W) : Prop :=
  ∀ q0 sz : Nat, Met l y (wsY y b maxL none) rm (va_Pc [.ref q0] (fun U => U.heap.size = sz ∧ va_P D cl8 [(q0, .inr (k, fs0))] U.heap ∧ va_K D cl8 (tyG gc) U ∧ LK gc U ∧ Ex U ∧ va_D (fun _ => True) [(q0, .inr (k, fs0))])) (va_Qv (fun a : Nat → Nat → Nat => a 0 0 = q0) (fun a t => va_P D cl8 (B a) t.heap ∧ va_D (va_A [(q0, .inr (k, fs0))] sz) (B a)) (va_A [(q0, .inr (k, fs0))] sz)) mc ms (va_A [(q0, .inr (k, fs0))] sz)
theorem CI.of {l : Launch} {k : Nat} {y : MethodName} {b : ByteArray} {maxL : Nat} {rm : Room} {mc ms : Nat} {fs0 : List Value} {Ex : State → Prop} {B : (Nat → Nat → Nat) → va_W} (hy : plainFor y = true) (hm : 1 ≤ maxL) (ho : y.cls = own) (hyn : y.name = "<init>")
    (body : ∀ (X : NX) (A : Nat → Prop) (q0 : Nat), X.2.1 = l → Cz X D gc A own b maxL → X.2.2.2.1 = rm → X.2.2.2.2.2.2.2.2.1.name = "<init>" → Ex X.2.2.2.2.1 →
      (∀ a : Nat → Nat → Nat, a 0 0 = q0 → ∀ (pc ck cn : Nat) (L : List (Nat × Value)), ck ≤ mc → cn ≤ ms → decode b pc = .ok (.return_, 1) → WL X D A maxL (B a) ck cn pc L []) → WL X D A maxL [(q0, .inr (k, fs0))] 0 0 0 [(0, .ref q0)] []) : CI l D gc k y b maxL rm mc ms fs0 Ex B := by
  subst ho
  intro q0 sz
  refine met_ofWF (cc := b) (maxL := maxL) (ret := none) hy rfl ?_
  intro p e s m args below meth c s₁ BL hml hv
  obtain ⟨rfl, hsz, hP, hK, hLK, hEx, hD0⟩ := hv
  subst hsz
  have hts := atoms_spec (ws := wsY y b maxL none) BL.pre
  have hl := lv_entry [.ref q0] (n := maxL) hm
  rw [lg_entry_eq]
  have hD := hD0.self (sz := s.heap.size)
  have hA : ∀ q : Nat, s.heap.size ≤ q → va_A [(q0, .inr (k, fs0))] s.heap.size q := fun q h => Or.inr h
  refine body (p, l, e, (headSpec (wsY y b maxL none) rm).room, s, m, [Value.ref q0].toArray, below, meth, c, MQ below (va_Qv (fun a : Nat → Nat → Nat => a 0 0 = q0) (fun a t => va_P D cl8 (B a) t.heap ∧ va_D (va_A [(q0, .inr (k, fs0))] s.heap.size) (B a)) (va_A [(q0, .inr (k, fs0))] s.heap.size)) [Value.ref q0].toArray s mc ms (va_A [(q0, .inr (k, fs0))] s.heap.size)) _ q0 rfl ⟨BL.exec, BL.bytes, hml, findClass_of_methodNamed BL.named, fun w hw => hts w (List.mem_cons_of_mem _ hw), BL.notSynchronized, hK, hA, hLK⟩ rfl ((name_of_methodNamed BL.named BL.method).1.trans hyn) hEx ?_ s.heap [] _ hP hD va_S.rf hl
  intro a ha pc ck cn L h1 h2 hd H locs ls hP1 hD1 hS1 hl1
  refine W.widen (k := mc) (n := ms) h1 h2 ?_
  exact W.vret BL.exec BL.bytes BL.returns (fun t ht hW => ⟨⟨a, rfl, ha, by rw [ht]; exact hP1, hD1⟩, hS1.F ht⟩) hS1.2.2 hd BL.notSynchronized
theorem rangeA (ws : va_W) (e : Nat × va_E) : (List.range ws.length).map (fun i => (ws ++ [e])[i]?) = ws.map some := by
  apply List.ext_getElem?
  intro i
  rw [List.getElem?_map, List.getElem?_map]
  by_cases h : i < ws.length
  · rw [List.getElem?_range h]
    show some ((ws ++ [e])[i]?) = _
    rw [List.getElem?_append_left h, List.getElem?_eq_getElem h]
    rfl
  · rw [List.getElem?_eq_none (by rw [List.length_range]; omega), List.getElem?_eq_none (by omega)]
    rfl
theorem oneA (ws : va_W) (e : Nat × va_E) : ([ws.length] : List Nat).map (fun i => (ws ++ [e])[i]?) = [e].map some := by
  show [(ws ++ [e])[ws.length]?] = [some e]
  rw [List.getElem?_append_right (Nat.le_refl _), Nat.sub_self]
  rfl
theorem oneF (ws : va_W) (e : Nat × va_E) : ([ws.length] : List Nat).filterMap (fun i => (ws ++ [e])[i]?) = [e] := by
  have h : (ws ++ [e])[ws.length]? = some e := by
    rw [List.getElem?_append_right (Nat.le_refl _), Nat.sub_self]
    rfl
  show (List.filterMap (fun i => (ws ++ [e])[i]?) (ws.length :: [])) = [e]
  rw [List.filterMap_cons_some (f := fun i => (ws ++ [e])[i]?) h]
  rfl
theorem nd_of : ∀ l : List Nat, l.Nodup → va_nd l = true
  | [], _ => rfl
  | a :: l, h => by
    have h2 := List.nodup_cons.mp h
    show (decide (a ∉ l) && va_nd l) = true
    rw [nd_of l h2.2, Bool.and_true]
    exact decide_eq_true h2.1
theorem nd_range (n : Nat) : va_nd (List.range n) = true := nd_of _ List.nodup_range

theorem z_initN {k N maxL idx idx2 mc ms p1 p2 : Nat} {C host : String} {T : u_T} {zty : Nat → FieldType} {y : MethodName} {b : ByteArray} {rm : Room} {fs0 : List Value} {Ex : State → Prop} {B : (Nat → Nat → Nat) → va_W} (hX : Cz X D gc A own cc nL) (hM : CI X.2.1 D gc k y b maxL rm mc ms fs0 Ex B) (hin : ∀ w ∈ u_ws C T N, w ∈ gT) (hty : ∀ k, k < N → parseFieldDescriptor (T k).2.2.1 = some (zty k)) (hc : cl8[k]? = some (C, T, N)) (hck : Cond.classLink own idx C ∈ gT) (hib : Cond.instantiable C N ∈ gT) (hF : MF y b maxL none 0) (hcls : y.cls = C) (hyn : y.name = "<init>") (hinst : Cond.instanceMethod y ∈ gT) (hlk : va_Nw (.methodLinkNest own idx2 y host) X.2.2.2.2.1) (hEx : ∀ U : State, X.2.2.2.2.1.WarmedH U.vm → Ex U) (hExv : ∀ U U' : State, U.vm = U'.vm → Ex U → Ex U') (hfs : ∀ j, j < N → defaultValue (zty j) = vp_V fs0 j) (hrm : rm.cells = mc ∧ rm.slots = ms ∧ rm.frames + 1 ≤ X.2.2.2.1.frames ∧ 8 + (maxL + 11) + rm.locals ≤ X.2.2.2.1.locals) (hr : ck + 1 + mc ≤ X.2.2.2.1.cells ∧ cn + N + ms ≤ X.2.2.2.1.slots) (hw8 : ∀ q : Nat, ((Value.ref q :: st).map fun v => v.category).sum ≤ 8) (d1 : decode cc pc = .ok (.new idx, 3) ∧ pc + 3 = p1) (d2 : decode cc p1 = .ok (.dup, 1) ∧ p1 + 1 = p2) (d3 : decode cc p2 = .ok (.invokespecial idx2, 3) ∧ p2 + 3 = nx)
    (kk : ∀ a : Nat → Nat → Nat, WL X D A nL (ws ++ B a) (ck + 1 + mc) (cn + N + ms) nx L (.ref (a 0 0) :: st)) : WL X D A nL ws ck cn pc L st := by
  intro H locs ls hP hD hS hl
  obtain ⟨hx, hb, hml, hown, hts, hlo, hK, hA, hLK⟩ := hX
  obtain ⟨d1, rfl⟩ := d1
  obtain ⟨d2, rfl⟩ := d2
  obtain ⟨d3, rfl⟩ := d3
  subst hcls
  refine va_new hx hb hts hin zty hty hown (hts _ hck) (hts _ hib) (hts _ hF.2.1) hK hP hD hS hA hc hfs (by omega) (by omega) d1 (fun q H1 hP1 hD1 hS1 => ?_)
  refine lv_dup hx hb d2 rfl ?_
  have hPc := hP1.sub (ws' := [(q, .inr (k, fs0))]) [ws.length] (oneF ws _)
  have hDc := hD1.sub (ws' := [(q, .inr (k, fs0))]) [ws.length] rfl (oneA ws _)
  have hFc := va_free (wc := [(q, .inr (k, fs0))]) hD1 hS1 hA [ws.length] (oneA ws _)
  refine va_callv (va_runIN (As := []) (rest := .ref q :: st) ⟨hx, hb, hml, hown, hts⟩ (hM q H1.size) ⟨va_cnB 0 hts (goodIn_g (wsY_in hF.1)) rfl hrm.1 hrm.2.1 hlk (hts _ hF.2.1) hF.2.2 hrm.2.2, hyn, hts _ hinst⟩ ⟨fun a U g mk z => ⟨z.1, z.2.1, z.2.2.1, va_K.moved (u := U) (U := U.calling g mk a) (Vm.Alike.refl U.vm) z.2.2.2.1, LK.moved (u := U) (U := U.calling g mk a) (Vm.Alike.refl U.vm) z.2.2.2.2.1, hExv U (U.calling g mk a) rfl z.2.2.2.2.2.1, z.2.2.2.2.2.2⟩, fun U hU hW => ⟨rfl, by rw [hU], by rw [hU]; exact hPc, va_K.moved hW.alike hK, LK.moved hW.alike hLK, hEx U hW, hDc.weaken (fun _ _ _ _ => trivial)⟩⟩ rfl rfl hl.1 rfl (lv_room (hw8 q)) d3 hr) hS1 (fun q _ h => hFc q h) hFc (fun a t H2 locs2 ht hvm hw hB hz hk hS2 => ?_)
  obtain ⟨hB1, hB2⟩ := hB
  rw [ht] at hB1
  obtain ⟨hP2, hD2⟩ := va_join (wc := [(q, .inr (k, fs0))]) (wr := ws) (w1 := B a) hP1 hD1 [ws.length] (List.range ws.length) (oneA ws _) (rangeA ws _) (nd_range _) (fun i hi h => by
    rw [List.mem_range] at hi
    rw [List.mem_singleton] at h
    omega) hk hFc hB1 hB2
  have hw' : a 0 0 = q := hw
  rw [← hw']
  exact kk a H2 locs2 ls hP2 hD2 hS2 hl

theorem z_initP {k N maxL idx idx2 mc ms p1 p2 : Nat} {C : String} {T : u_T} {zty : Nat → FieldType} {y : MethodName} {b : ByteArray} {rm : Room} {fs0 : List Value} {Ex : State → Prop} {B : (Nat → Nat → Nat) → va_W} (hX : Cz X D gc A own cc nL) (hM : CI X.2.1 D gc k y b maxL rm mc ms fs0 Ex B) (hin : ∀ w ∈ u_ws C T N, w ∈ gT) (hty : ∀ k, k < N → parseFieldDescriptor (T k).2.2.1 = some (zty k)) (hc : cl8[k]? = some (C, T, N)) (hck : Cond.classLink own idx C ∈ gT) (hib : Cond.instantiable C N ∈ gT) (hF : MF y b maxL none 0) (hcls : y.cls = C) (hyn : y.name = "<init>") (hinst : Cond.instanceMethod y ∈ gT) (hlk : Cond.methodLink own idx2 y ∈ gT) (hEx : ∀ U : State, X.2.2.2.2.1.WarmedH U.vm → Ex U) (hExv : ∀ U U' : State, U.vm = U'.vm → Ex U → Ex U') (hfs : ∀ j, j < N → defaultValue (zty j) = vp_V fs0 j) (hrm : rm.cells = mc ∧ rm.slots = ms ∧ rm.frames + 1 ≤ X.2.2.2.1.frames ∧ 8 + (maxL + 11) + rm.locals ≤ X.2.2.2.1.locals) (hr : ck + 1 + mc ≤ X.2.2.2.1.cells ∧ cn + N + ms ≤ X.2.2.2.1.slots) (hw8 : ∀ q : Nat, ((Value.ref q :: st).map fun v => v.category).sum ≤ 8) (d1 : decode cc pc = .ok (.new idx, 3) ∧ pc + 3 = p1) (d2 : decode cc p1 = .ok (.dup, 1) ∧ p1 + 1 = p2) (d3 : decode cc p2 = .ok (.invokespecial idx2, 3) ∧ p2 + 3 = nx)
    (kk : ∀ a : Nat → Nat → Nat, WL X D A nL (ws ++ B a) (ck + 1 + mc) (cn + N + ms) nx L (.ref (a 0 0) :: st)) : WL X D A nL ws ck cn pc L st := by
  intro H locs ls hP hD hS hl
  obtain ⟨hx, hb, hml, hown, hts, hlo, hK, hA, hLK⟩ := hX
  obtain ⟨d1, rfl⟩ := d1
  obtain ⟨d2, rfl⟩ := d2
  obtain ⟨d3, rfl⟩ := d3
  subst hcls
  refine va_new hx hb hts hin zty hty hown (hts _ hck) (hts _ hib) (hts _ hF.2.1) hK hP hD hS hA hc hfs (by omega) (by omega) d1 (fun q H1 hP1 hD1 hS1 => ?_)
  refine lv_dup hx hb d2 rfl ?_
  have hPc := hP1.sub (ws' := [(q, .inr (k, fs0))]) [ws.length] (oneF ws _)
  have hDc := hD1.sub (ws' := [(q, .inr (k, fs0))]) [ws.length] rfl (oneA ws _)
  have hFc := va_free (wc := [(q, .inr (k, fs0))]) hD1 hS1 hA [ws.length] (oneA ws _)
  refine va_callv (va_runI (As := []) (rest := .ref q :: st) ⟨hx, hb, hml, hown, hts⟩ (hM q H1.size) ⟨callB_of 0 hts (goodIn_g (wsY_in hF.1)) rfl hrm.1 hrm.2.1 (hts _ hF.2.1) (hts _ hlk) hF.2.2 hrm.2.2, hyn, hts _ hinst⟩ ⟨fun a U g mk z => ⟨z.1, z.2.1, z.2.2.1, va_K.moved (u := U) (U := U.calling g mk a) (Vm.Alike.refl U.vm) z.2.2.2.1, LK.moved (u := U) (U := U.calling g mk a) (Vm.Alike.refl U.vm) z.2.2.2.2.1, hExv U (U.calling g mk a) rfl z.2.2.2.2.2.1, z.2.2.2.2.2.2⟩, fun U hU hW => ⟨rfl, by rw [hU], by rw [hU]; exact hPc, va_K.moved hW.alike hK, LK.moved hW.alike hLK, hEx U hW, hDc.weaken (fun _ _ _ _ => trivial)⟩⟩ rfl rfl hl.1 rfl (lv_room (hw8 q)) d3 hr) hS1 (fun q _ h => hFc q h) hFc (fun a t H2 locs2 ht hvm hw hB hz hk hS2 => ?_)
  obtain ⟨hB1, hB2⟩ := hB
  rw [ht] at hB1
  obtain ⟨hP2, hD2⟩ := va_join (wc := [(q, .inr (k, fs0))]) (wr := ws) (w1 := B a) hP1 hD1 [ws.length] (List.range ws.length) (oneA ws _) (rangeA ws _) (nd_range _) (fun i hi h => by
    rw [List.mem_range] at hi
    rw [List.mem_singleton] at h
    omega) hk hFc hB1 hB2
  have hw' : a 0 0 = q := hw
  rw [← hw']
  exact kk a H2 locs2 ls hP2 hD2 hS2 hl
end Zr

