/-! making 6: the constructors of Tapes and of the class itself; written by wip/whole/make/gen75.py -/
def fs0_4 : List Value := [.null, .null, .null]
theorem hfs_4 : ∀ j, j < 3 → defaultValue (zty4 j) = vp_V fs0_4 j := by decide +kernel
def rmI_4 : Room := ⟨1, 9, 378, 20⟩
def Bk_4 (gc : Nat → ClassId) (a : Nat → Nat → Nat) : va_W := (a 0 0, .inr (4, [.ref (a 0 1), .ref (a 0 2), .ref (a 1 3)])) :: ([((a 0 1), .inl (gc 0, 6, .inl (upd ((upd ((upd ((upd ((upd ((upd (fun _ => 0) 0 (-1))) 1 (-1))) 2 (-1))) 3 (-1))) 4 (-1))) 5 (-1)))), ((a 0 2), .inl (gc 0, 6, .inl fun _ => 0))] ++ mnW gc (fun c => a 1 c))
theorem mk_4 (l : Launch) (D : va_G) (gc : Nat → ClassId) : CI l D gc 4 yX4_init bX4_init 2 rmI_4 9 378 fs0_4 EX (Bk_4 gc) := by
  refine CI.of rfl (by decide) rfl rfl (fun X A q0 hl hX hr hini hE kk => ?_)
  show WL X D A 2 [(q0, .inr (4, [.null, .null, .null]))] 0 0 0 _ []
  refine z_aload_n (k := 0) hX rfl 0 rfl dX4_init_0 ?_
  refine z_obj hX oi_X4 (by decide) (by rw [hr]; decide) dX4_init_1 ?_
  refine z_aload_n (k := 0) hX rfl 0 rfl dX4_init_4 ?_
  refine z_bipush (v := 6) hX (by decide) dX4_init_5 ?_
  refine z_newa (atype := .int) (i := 0) (a0 := (6, .inl fun _ => 0)) (N' := 6) hX ac_int rfl (fun _ => rfl) (fun _ _ h => h) (by decide) (by decide) (by decide) (by rw [hr]; decide) dX4_init_7 (fun r1 => ?_)
  show WL X D A 2 ((q0, .inr (4, [.null, .null, .null])) :: [(r1, .inl (gc 0, 6, .inl fun _ => 0))]) 1 6 9 _ [.ref r1, .ref q0]
  refine z_put (j := 0) hX zin4 zok4 znm4 fl_X4_9 rfl (by decide) rfl rfl hini rfl rfl rfl rfl dX4_init_9 ?_
  show WL X D A 2 ((q0, .inr (4, [.ref r1, .null, .null])) :: [(r1, .inl (gc 0, 6, .inl fun _ => 0))]) 1 6 12 _ []
  refine z_aload_n (k := 0) hX rfl 0 rfl dX4_init_12 ?_
  refine z_bipush (v := 6) hX (by decide) dX4_init_13 ?_
  refine z_newa (atype := .int) (i := 0) (a0 := (6, .inl fun _ => 0)) (N' := 6) hX ac_int rfl (fun _ => rfl) (fun _ _ h => h) (by decide) (by decide) (by decide) (by rw [hr]; decide) dX4_init_15 (fun r2 => ?_)
  show WL X D A 2 ((q0, .inr (4, [.ref r1, .null, .null])) :: [(r1, .inl (gc 0, 6, .inl fun _ => 0)), (r2, .inl (gc 0, 6, .inl fun _ => 0))]) 2 12 17 _ [.ref r2, .ref q0]
  refine z_put (j := 1) hX zin4 zok4 znm4 fl_X4_13 rfl (by decide) rfl rfl hini rfl rfl rfl rfl dX4_init_17 ?_
  show WL X D A 2 ((q0, .inr (4, [.ref r1, .ref r2, .null])) :: [(r1, .inl (gc 0, 6, .inl fun _ => 0)), (r2, .inl (gc 0, 6, .inl fun _ => 0))]) 2 12 20 _ []
  refine z_aload_n (k := 0) hX rfl 0 rfl dX4_init_20 ?_
  refine z_bipush (v := 6) hX (by decide) dX4_init_21 ?_
  refine z_bipush (v := 60) hX (by decide) dX4_init_23 ?_
  refine z_mnew hX (by rw [hr]; decide) dX4_init_25 (fun b3 => ?_)
  show WL X D A 2 ((q0, .inr (4, [.ref r1, .ref r2, .null])) :: ([(r1, .inl (gc 0, 6, .inl fun _ => 0)), (r2, .inl (gc 0, 6, .inl fun _ => 0))] ++ mnW gc b3)) 9 378 29 _ [.ref (b3 3), .ref q0]
  refine z_put (j := 2) hX zin4 zok4 znm4 fl_X4_18 rfl (by decide) rfl rfl hini rfl rfl rfl rfl dX4_init_29 ?_
  show WL X D A 2 ((q0, .inr (4, [.ref r1, .ref r2, .ref (b3 3)])) :: ([(r1, .inl (gc 0, 6, .inl fun _ => 0)), (r2, .inl (gc 0, 6, .inl fun _ => 0))] ++ mnW gc b3)) 9 378 32 _ []
  refine z_iconst (v := 0) hX rfl dX4_init_32 ?_
  refine z_istore_n (k := 1) (L2 := [(1, .int 0), (0, .ref q0)]) hX rfl (by decide) rfl dX4_init_33 ?_
  refine z_iload_n (k := 1) hX rfl 0 rfl dX4_init_34 ?_
  refine z_bipush (v := 6) hX (by decide) dX4_init_35 ?_
  refine z_geF hX (by decide) dX4_init_37 ?_
  refine z_aload_n (k := 0) hX rfl 1 rfl dX4_init_40 ?_
  refine z_get (j := 0) (q := 0) hX zin4 fl_X4_9 rfl (by decide) rfl rfl rfl rfl dX4_init_41 ?_
  refine z_iload_n (k := 1) hX rfl 0 rfl dX4_init_44 ?_
  refine z_iconst (v := (-1)) hX rfl dX4_init_45 ?_
  refine z_iast (q0 := 1) (j := 0) hX rfl (show ¬ (_ ∨ _) from by decide) (by decide) dX4_init_46 ?_
  show WL X D A 2 ((q0, .inr (4, [.ref r1, .ref r2, .ref (b3 3)])) :: ([(r1, .inl (gc 0, 6, .inl (upd (fun _ => 0) 0 (-1)))), (r2, .inl (gc 0, 6, .inl fun _ => 0))] ++ mnW gc b3)) 9 378 47 _ []
  refine z_iinc (v := 1) (L2 := [(1, .int 1), (0, .ref q0)]) hX 0 rfl (by decide) (by decide) rfl dX4_init_47 ?_
  refine z_goto hX dX4_init_50 ?_
  refine z_iload_n (k := 1) hX rfl 0 rfl dX4_init_34 ?_
  refine z_bipush (v := 6) hX (by decide) dX4_init_35 ?_
  refine z_geF hX (by decide) dX4_init_37 ?_
  refine z_aload_n (k := 0) hX rfl 1 rfl dX4_init_40 ?_
  refine z_get (j := 0) (q := 0) hX zin4 fl_X4_9 rfl (by decide) rfl rfl rfl rfl dX4_init_41 ?_
  refine z_iload_n (k := 1) hX rfl 0 rfl dX4_init_44 ?_
  refine z_iconst (v := (-1)) hX rfl dX4_init_45 ?_
  refine z_iast (q0 := 1) (j := 1) hX rfl (show ¬ (_ ∨ _) from by decide) (by decide) dX4_init_46 ?_
  show WL X D A 2 ((q0, .inr (4, [.ref r1, .ref r2, .ref (b3 3)])) :: ([(r1, .inl (gc 0, 6, .inl (upd ((upd (fun _ => 0) 0 (-1))) 1 (-1)))), (r2, .inl (gc 0, 6, .inl fun _ => 0))] ++ mnW gc b3)) 9 378 47 _ []
  refine z_iinc (v := 2) (L2 := [(1, .int 2), (0, .ref q0)]) hX 0 rfl (by decide) (by decide) rfl dX4_init_47 ?_
  refine z_goto hX dX4_init_50 ?_
  refine z_iload_n (k := 1) hX rfl 0 rfl dX4_init_34 ?_
  refine z_bipush (v := 6) hX (by decide) dX4_init_35 ?_
  refine z_geF hX (by decide) dX4_init_37 ?_
  refine z_aload_n (k := 0) hX rfl 1 rfl dX4_init_40 ?_
  refine z_get (j := 0) (q := 0) hX zin4 fl_X4_9 rfl (by decide) rfl rfl rfl rfl dX4_init_41 ?_
  refine z_iload_n (k := 1) hX rfl 0 rfl dX4_init_44 ?_
  refine z_iconst (v := (-1)) hX rfl dX4_init_45 ?_
  refine z_iast (q0 := 1) (j := 2) hX rfl (show ¬ (_ ∨ _) from by decide) (by decide) dX4_init_46 ?_
  show WL X D A 2 ((q0, .inr (4, [.ref r1, .ref r2, .ref (b3 3)])) :: ([(r1, .inl (gc 0, 6, .inl (upd ((upd ((upd (fun _ => 0) 0 (-1))) 1 (-1))) 2 (-1)))), (r2, .inl (gc 0, 6, .inl fun _ => 0))] ++ mnW gc b3)) 9 378 47 _ []
  refine z_iinc (v := 3) (L2 := [(1, .int 3), (0, .ref q0)]) hX 0 rfl (by decide) (by decide) rfl dX4_init_47 ?_
  refine z_goto hX dX4_init_50 ?_
  refine z_iload_n (k := 1) hX rfl 0 rfl dX4_init_34 ?_
  refine z_bipush (v := 6) hX (by decide) dX4_init_35 ?_
  refine z_geF hX (by decide) dX4_init_37 ?_
  refine z_aload_n (k := 0) hX rfl 1 rfl dX4_init_40 ?_
  refine z_get (j := 0) (q := 0) hX zin4 fl_X4_9 rfl (by decide) rfl rfl rfl rfl dX4_init_41 ?_
  refine z_iload_n (k := 1) hX rfl 0 rfl dX4_init_44 ?_
  refine z_iconst (v := (-1)) hX rfl dX4_init_45 ?_
  refine z_iast (q0 := 1) (j := 3) hX rfl (show ¬ (_ ∨ _) from by decide) (by decide) dX4_init_46 ?_
  show WL X D A 2 ((q0, .inr (4, [.ref r1, .ref r2, .ref (b3 3)])) :: ([(r1, .inl (gc 0, 6, .inl (upd ((upd ((upd ((upd (fun _ => 0) 0 (-1))) 1 (-1))) 2 (-1))) 3 (-1)))), (r2, .inl (gc 0, 6, .inl fun _ => 0))] ++ mnW gc b3)) 9 378 47 _ []
  refine z_iinc (v := 4) (L2 := [(1, .int 4), (0, .ref q0)]) hX 0 rfl (by decide) (by decide) rfl dX4_init_47 ?_
  refine z_goto hX dX4_init_50 ?_
  refine z_iload_n (k := 1) hX rfl 0 rfl dX4_init_34 ?_
  refine z_bipush (v := 6) hX (by decide) dX4_init_35 ?_
  refine z_geF hX (by decide) dX4_init_37 ?_
  refine z_aload_n (k := 0) hX rfl 1 rfl dX4_init_40 ?_
  refine z_get (j := 0) (q := 0) hX zin4 fl_X4_9 rfl (by decide) rfl rfl rfl rfl dX4_init_41 ?_
  refine z_iload_n (k := 1) hX rfl 0 rfl dX4_init_44 ?_
  refine z_iconst (v := (-1)) hX rfl dX4_init_45 ?_
  refine z_iast (q0 := 1) (j := 4) hX rfl (show ¬ (_ ∨ _) from by decide) (by decide) dX4_init_46 ?_
  show WL X D A 2 ((q0, .inr (4, [.ref r1, .ref r2, .ref (b3 3)])) :: ([(r1, .inl (gc 0, 6, .inl (upd ((upd ((upd ((upd ((upd (fun _ => 0) 0 (-1))) 1 (-1))) 2 (-1))) 3 (-1))) 4 (-1)))), (r2, .inl (gc 0, 6, .inl fun _ => 0))] ++ mnW gc b3)) 9 378 47 _ []
  refine z_iinc (v := 5) (L2 := [(1, .int 5), (0, .ref q0)]) hX 0 rfl (by decide) (by decide) rfl dX4_init_47 ?_
  refine z_goto hX dX4_init_50 ?_
  refine z_iload_n (k := 1) hX rfl 0 rfl dX4_init_34 ?_
  refine z_bipush (v := 6) hX (by decide) dX4_init_35 ?_
  refine z_geF hX (by decide) dX4_init_37 ?_
  refine z_aload_n (k := 0) hX rfl 1 rfl dX4_init_40 ?_
  refine z_get (j := 0) (q := 0) hX zin4 fl_X4_9 rfl (by decide) rfl rfl rfl rfl dX4_init_41 ?_
  refine z_iload_n (k := 1) hX rfl 0 rfl dX4_init_44 ?_
  refine z_iconst (v := (-1)) hX rfl dX4_init_45 ?_
  refine z_iast (q0 := 1) (j := 5) hX rfl (show ¬ (_ ∨ _) from by decide) (by decide) dX4_init_46 ?_
  show WL X D A 2 ((q0, .inr (4, [.ref r1, .ref r2, .ref (b3 3)])) :: ([(r1, .inl (gc 0, 6, .inl (upd ((upd ((upd ((upd ((upd ((upd (fun _ => 0) 0 (-1))) 1 (-1))) 2 (-1))) 3 (-1))) 4 (-1))) 5 (-1)))), (r2, .inl (gc 0, 6, .inl fun _ => 0))] ++ mnW gc b3)) 9 378 47 _ []
  refine z_iinc (v := 6) (L2 := [(1, .int 6), (0, .ref q0)]) hX 0 rfl (by decide) (by decide) rfl dX4_init_47 ?_
  refine z_goto hX dX4_init_50 ?_
  refine z_iload_n (k := 1) hX rfl 0 rfl dX4_init_34 ?_
  refine z_bipush (v := 6) hX (by decide) dX4_init_35 ?_
  refine z_geT hX (by decide) dX4_init_37 ?_
  exact kk (fun o c => match o with | 0 => (match c with | 0 => q0 | 1 => r1 | 2 => r2 | _ => 0) | 1 => b3 c | _ => 0) rfl 53 9 378 _ (by decide) (by decide) dX4_init_53
theorem fm_of {α β : Type} (f : α → Option β) : ∀ (is : List α) (l : List β), is.map f = l.map some → is.filterMap f = l
  | [], [], _ => rfl
  | [], _ :: _, h => by cases h
  | _ :: _, [], h => by cases h
  | i :: is, x :: l, h => by
    have h1 : f i = some x := (List.cons.inj h).1
    have h2 : is.map f = l.map some := (List.cons.inj h).2
    rw [List.filterMap_cons_some h1, fm_of f is l h2]
theorem swapA (e0 x : Nat × va_E) (w : va_W) : (0 :: (w.length + 1) :: (List.range w.length).map (fun i => i + 1)).map (fun i => (e0 :: (w ++ [x]))[i]?) = (e0 :: x :: w).map some := by
  have h1 : (e0 :: (w ++ [x]))[w.length + 1]? = some x := by
    show (w ++ [x])[w.length]? = some x
    rw [List.getElem?_append_right (Nat.le_refl _), Nat.sub_self]
    rfl
  have h2 : ((List.range w.length).map (fun i => i + 1)).map (fun i => (e0 :: (w ++ [x]))[i]?) = w.map some := by
    rw [List.map_map]
    exact rangeA w x
  show some e0 :: (e0 :: (w ++ [x]))[w.length + 1]? :: _ = some e0 :: some x :: w.map some
  rw [h1, h2]
theorem swapN (n : Nat) : va_nd (0 :: (n + 1) :: (List.range n).map (fun i => i + 1)) = true := by
  refine nd_of _ (List.nodup_cons.mpr ⟨fun h => ?_, List.nodup_cons.mpr ⟨fun h => ?_, ?_⟩⟩)
  · rcases List.mem_cons.mp h with h | h
    · omega
    · obtain ⟨i, -, h⟩ := List.mem_map.mp h
      omega
  · obtain ⟨i, hi, h⟩ := List.mem_map.mp h
    have := List.mem_range.mp hi
    omega
  · refine List.Pairwise.map _ (fun a b h => ?_) (List.nodup_range (n := n))
    omega
section Zc
variable {X : NX} {D : va_G} {gc : Nat → ClassId} {A : Nat → Prop} {own : String} {cc : ByteArray} {nL : Nat} {ws w : va_W} {ck cn pc nx : Nat} {L : List (Nat × Value)} {st : List Value}
theorem z_initNc {e0 : Nat × va_E} {k N maxL idx idx2 mc ms p1 p2 : Nat} {C host : String} {T : u_T} {zty : Nat → FieldType} {y : MethodName} {b : ByteArray} {rm : Room} {fs0 : List Value} {Ex : State → Prop} {B : (Nat → Nat → Nat) → va_W} (hX : Cz X D gc A own cc nL) (hM : CI X.2.1 D gc k y b maxL rm mc ms fs0 Ex B) (hin : ∀ w ∈ u_ws C T N, w ∈ gT) (hty : ∀ k, k < N → parseFieldDescriptor (T k).2.2.1 = some (zty k)) (hc : cl8[k]? = some (C, T, N)) (hck : Cond.classLink own idx C ∈ gT) (hib : Cond.instantiable C N ∈ gT) (hF : MF y b maxL none 0) (hcls : y.cls = C) (hyn : y.name = "<init>") (hinst : Cond.instanceMethod y ∈ gT) (hlk : va_Nw (.methodLinkNest own idx2 y host) X.2.2.2.2.1) (hEx : ∀ U : State, X.2.2.2.2.1.WarmedH U.vm → Ex U) (hExv : ∀ U U' : State, U.vm = U'.vm → Ex U → Ex U') (hfs : ∀ j, j < N → defaultValue (zty j) = vp_V fs0 j) (hrm : rm.cells = mc ∧ rm.slots = ms ∧ rm.frames + 1 ≤ X.2.2.2.1.frames ∧ 8 + (maxL + 11) + rm.locals ≤ X.2.2.2.1.locals) (hr : ck + 1 + mc ≤ X.2.2.2.1.cells ∧ cn + N + ms ≤ X.2.2.2.1.slots) (hw8 : ∀ q : Nat, ((Value.ref q :: st).map fun v => v.category).sum ≤ 8) (d1 : decode cc pc = .ok (.new idx, 3) ∧ pc + 3 = p1) (d2 : decode cc p1 = .ok (.dup, 1) ∧ p1 + 1 = p2) (d3 : decode cc p2 = .ok (.invokespecial idx2, 3) ∧ p2 + 3 = nx)
    (kk : ∀ a : Nat → Nat → Nat, WL X D A nL (e0 :: (w ++ B a)) (ck + 1 + mc) (cn + N + ms) nx L (.ref (a 0 0) :: st)) : WL X D A nL (e0 :: w) ck cn pc L st :=
  z_initN hX hM hin hty hc hck hib hF hcls hyn hinst hlk hEx hExv hfs hrm hr hw8 d1 d2 d3 (fun a => kk a)
theorem z_initPc {e0 : Nat × va_E} {k N maxL idx idx2 mc ms p1 p2 : Nat} {C : String} {T : u_T} {zty : Nat → FieldType} {y : MethodName} {b : ByteArray} {rm : Room} {fs0 : List Value} {Ex : State → Prop} {B : (Nat → Nat → Nat) → va_W} (hX : Cz X D gc A own cc nL) (hM : CI X.2.1 D gc k y b maxL rm mc ms fs0 Ex B) (hin : ∀ w ∈ u_ws C T N, w ∈ gT) (hty : ∀ k, k < N → parseFieldDescriptor (T k).2.2.1 = some (zty k)) (hc : cl8[k]? = some (C, T, N)) (hck : Cond.classLink own idx C ∈ gT) (hib : Cond.instantiable C N ∈ gT) (hF : MF y b maxL none 0) (hcls : y.cls = C) (hyn : y.name = "<init>") (hinst : Cond.instanceMethod y ∈ gT) (hlk : Cond.methodLink own idx2 y ∈ gT) (hEx : ∀ U : State, X.2.2.2.2.1.WarmedH U.vm → Ex U) (hExv : ∀ U U' : State, U.vm = U'.vm → Ex U → Ex U') (hfs : ∀ j, j < N → defaultValue (zty j) = vp_V fs0 j) (hrm : rm.cells = mc ∧ rm.slots = ms ∧ rm.frames + 1 ≤ X.2.2.2.1.frames ∧ 8 + (maxL + 11) + rm.locals ≤ X.2.2.2.1.locals) (hr : ck + 1 + mc ≤ X.2.2.2.1.cells ∧ cn + N + ms ≤ X.2.2.2.1.slots) (hw8 : ∀ q : Nat, ((Value.ref q :: st).map fun v => v.category).sum ≤ 8) (d1 : decode cc pc = .ok (.new idx, 3) ∧ pc + 3 = p1) (d2 : decode cc p1 = .ok (.dup, 1) ∧ p1 + 1 = p2) (d3 : decode cc p2 = .ok (.invokespecial idx2, 3) ∧ p2 + 3 = nx)
    (kk : ∀ a : Nat → Nat → Nat, WL X D A nL (e0 :: (w ++ B a)) (ck + 1 + mc) (cn + N + ms) nx L (.ref (a 0 0) :: st)) : WL X D A nL (e0 :: w) ck cn pc L st :=
  z_initP hX hM hin hty hc hck hib hF hcls hyn hinst hlk hEx hExv hfs hrm hr hw8 d1 d2 d3 (fun a => kk a)
theorem z_newqc {e0 : Nat × va_E} {index N' : Nat} {n : Int32} (hX : Cz X D gc A own cc nL) (hclink : Cond.classLink own index "WellLendsDepth$Country" ∈ gT) (hover : va_AO "WellLendsDepth$Country" X.2.2.2.2.1) (hn : ¬ n < 0) (hN : n.toNatClampNeg = N') (hbytes : N' * 4 ≤ 536870912) (hr : ck + 1 ≤ X.2.2.2.1.cells ∧ cn + N' ≤ X.2.2.2.1.slots) (hd : decode cc pc = .ok (.anewarray index, 3) ∧ pc + 3 = nx)
    (kk : ∀ q : Nat, WL X D A nL (e0 :: (w ++ [(q, .inl (gc 3, N', .inr (.inr (.inr (.inr (fun _ => none))))))])) (ck + 1) (cn + N') nx L (.ref q :: st)) : WL X D A nL (e0 :: w) ck cn pc L (.int n :: st) :=
  z_newq hX hclink hover hn hN hbytes hr hd (fun q => kk q)
theorem z_initNd {e0 e1 : Nat × va_E} {k N maxL idx idx2 mc ms p1 p2 : Nat} {C host : String} {T : u_T} {zty : Nat → FieldType} {y : MethodName} {b : ByteArray} {rm : Room} {fs0 : List Value} {Ex : State → Prop} {B : (Nat → Nat → Nat) → va_W} (hX : Cz X D gc A own cc nL) (hM : CI X.2.1 D gc k y b maxL rm mc ms fs0 Ex B) (hin : ∀ w ∈ u_ws C T N, w ∈ gT) (hty : ∀ k, k < N → parseFieldDescriptor (T k).2.2.1 = some (zty k)) (hc : cl8[k]? = some (C, T, N)) (hck : Cond.classLink own idx C ∈ gT) (hib : Cond.instantiable C N ∈ gT) (hF : MF y b maxL none 0) (hcls : y.cls = C) (hyn : y.name = "<init>") (hinst : Cond.instanceMethod y ∈ gT) (hlk : va_Nw (.methodLinkNest own idx2 y host) X.2.2.2.2.1) (hEx : ∀ U : State, X.2.2.2.2.1.WarmedH U.vm → Ex U) (hExv : ∀ U U' : State, U.vm = U'.vm → Ex U → Ex U') (hfs : ∀ j, j < N → defaultValue (zty j) = vp_V fs0 j) (hrm : rm.cells = mc ∧ rm.slots = ms ∧ rm.frames + 1 ≤ X.2.2.2.1.frames ∧ 8 + (maxL + 11) + rm.locals ≤ X.2.2.2.1.locals) (hr : ck + 1 + mc ≤ X.2.2.2.1.cells ∧ cn + N + ms ≤ X.2.2.2.1.slots) (hw8 : ∀ q : Nat, ((Value.ref q :: st).map fun v => v.category).sum ≤ 8) (d1 : decode cc pc = .ok (.new idx, 3) ∧ pc + 3 = p1) (d2 : decode cc p1 = .ok (.dup, 1) ∧ p1 + 1 = p2) (d3 : decode cc p2 = .ok (.invokespecial idx2, 3) ∧ p2 + 3 = nx)
    (kk : ∀ a : Nat → Nat → Nat, WL X D A nL (e0 :: e1 :: (w ++ B a)) (ck + 1 + mc) (cn + N + ms) nx L (.ref (a 0 0) :: st)) : WL X D A nL (e0 :: e1 :: w) ck cn pc L st :=
  z_initN hX hM hin hty hc hck hib hF hcls hyn hinst hlk hEx hExv hfs hrm hr hw8 d1 d2 d3 (fun a => kk a)
theorem z_initPd {e0 e1 : Nat × va_E} {k N maxL idx idx2 mc ms p1 p2 : Nat} {C : String} {T : u_T} {zty : Nat → FieldType} {y : MethodName} {b : ByteArray} {rm : Room} {fs0 : List Value} {Ex : State → Prop} {B : (Nat → Nat → Nat) → va_W} (hX : Cz X D gc A own cc nL) (hM : CI X.2.1 D gc k y b maxL rm mc ms fs0 Ex B) (hin : ∀ w ∈ u_ws C T N, w ∈ gT) (hty : ∀ k, k < N → parseFieldDescriptor (T k).2.2.1 = some (zty k)) (hc : cl8[k]? = some (C, T, N)) (hck : Cond.classLink own idx C ∈ gT) (hib : Cond.instantiable C N ∈ gT) (hF : MF y b maxL none 0) (hcls : y.cls = C) (hyn : y.name = "<init>") (hinst : Cond.instanceMethod y ∈ gT) (hlk : Cond.methodLink own idx2 y ∈ gT) (hEx : ∀ U : State, X.2.2.2.2.1.WarmedH U.vm → Ex U) (hExv : ∀ U U' : State, U.vm = U'.vm → Ex U → Ex U') (hfs : ∀ j, j < N → defaultValue (zty j) = vp_V fs0 j) (hrm : rm.cells = mc ∧ rm.slots = ms ∧ rm.frames + 1 ≤ X.2.2.2.1.frames ∧ 8 + (maxL + 11) + rm.locals ≤ X.2.2.2.1.locals) (hr : ck + 1 + mc ≤ X.2.2.2.1.cells ∧ cn + N + ms ≤ X.2.2.2.1.slots) (hw8 : ∀ q : Nat, ((Value.ref q :: st).map fun v => v.category).sum ≤ 8) (d1 : decode cc pc = .ok (.new idx, 3) ∧ pc + 3 = p1) (d2 : decode cc p1 = .ok (.dup, 1) ∧ p1 + 1 = p2) (d3 : decode cc p2 = .ok (.invokespecial idx2, 3) ∧ p2 + 3 = nx)
    (kk : ∀ a : Nat → Nat → Nat, WL X D A nL (e0 :: e1 :: (w ++ B a)) (ck + 1 + mc) (cn + N + ms) nx L (.ref (a 0 0) :: st)) : WL X D A nL (e0 :: e1 :: w) ck cn pc L st :=
  z_initP hX hM hin hty hc hck hib hF hcls hyn hinst hlk hEx hExv hfs hrm hr hw8 d1 d2 d3 (fun a => kk a)
theorem z_swap {e0 x : Nat × va_E} (kk : WL X D A nL (e0 :: x :: w) ck cn pc L st) : WL X D A nL (e0 :: (w ++ [x])) ck cn pc L st := by
  intro H locs ls hP hD hS hl
  exact kk H locs ls (hP.sub _ (fm_of _ _ _ (swapA e0 x w))) (hD.sub _ (swapN w.length) (swapA e0 x w)) hS hl
theorem z_astqc {e0 : Nat × va_E} {a v n : Nat} {vs : List Value} {B : va_W} {f : Nat → Option Nat} {i : Int32} (hX : Cz X D gc A own cc nL) (hin : vp_in i n) {j : Nat} (hj : i.toNatClampNeg = j) (hd : decode cc pc = .ok (.aastore, 1) ∧ pc + 1 = nx)
    (kk : WL X D A nL (e0 :: (a, .inl (gc 3, n, .inr (.inr (.inr (.inr (va_up f j (some v))))))) :: (w ++ (v, .inr (1, vs)) :: B)) ck cn nx L st) : WL X D A nL (e0 :: (a, .inl (gc 3, n, .inr (.inr (.inr (.inr f))))) :: (w ++ (v, .inr (1, vs)) :: B)) ck cn pc L (.ref v :: .int i :: .ref a :: st) := by
  refine z_astq (q0 := 1) (qk := w.length + 2) hX rfl (vs := vs) ?_ hin hj hd kk
  show (w ++ (v, .inr (1, vs)) :: B)[w.length]? = _
  rw [List.getElem?_append_right (Nat.le_refl _), Nat.sub_self]
  rfl
end Zc
