/-! a row an instruction, over WW; written by wip/whole/gen_rows.py -/
section Rows2
variable {X : MX} {G : GE} {own : String} {cc : ByteArray} {nL : Nat} {σ : Mm} {lm : Ml} {pc nx : Nat} {L : List (Nat × Value)} {st : List Value}
theorem r_iconst {n : Int} {v : Int32} (hX : Cx X G own cc nL) (hv : Int32.ofInt n = v) (hd : decode cc pc = .ok (.iconst n, 1) ∧ pc + 1 = nx) (kk : WW X G nL σ lm nx L (.int v :: st)) : WW X G nL σ lm pc L (st) := by
  intro H locs ls hw hS hl
  obtain ⟨hd, rfl⟩ := hd
  exact lv_iconst hX.1 hX.2.1 hd hv (kk H locs ls hw hS hl)
theorem r_bipush {n : Int} {v : Int32} (hX : Cx X G own cc nL) (hv : (Int8.ofInt n).toInt32 = v) (hd : decode cc pc = .ok (.bipush n, 2) ∧ pc + 2 = nx) (kk : WW X G nL σ lm nx L (.int v :: st)) : WW X G nL σ lm pc L (st) := by
  intro H locs ls hw hS hl
  obtain ⟨hd, rfl⟩ := hd
  exact lv_bipush hX.1 hX.2.1 hd hv (kk H locs ls hw hS hl)
theorem r_sipush {n : Int} {v : Int32} (hX : Cx X G own cc nL) (hv : (Int16.ofInt n).toInt32 = v) (hd : decode cc pc = .ok (.sipush n, 3) ∧ pc + 3 = nx) (kk : WW X G nL σ lm nx L (.int v :: st)) : WW X G nL σ lm pc L (st) := by
  intro H locs ls hw hS hl
  obtain ⟨hd, rfl⟩ := hd
  exact lv_sipush hX.1 hX.2.1 hd hv (kk H locs ls hw hS hl)
theorem r_lconst {n : Fin 2} {v : Int64} (hX : Cx X G own cc nL) (hv : Int64.ofNat (n : Nat) = v) (hd : decode cc pc = .ok (.lconst n, 1) ∧ pc + 1 = nx) (kk : WW X G nL σ lm nx L (.long v :: st)) : WW X G nL σ lm pc L (st) := by
  intro H locs ls hw hS hl
  obtain ⟨hd, rfl⟩ := hd
  exact lv_lconst hX.1 hX.2.1 hd hv (kk H locs ls hw hS hl)
theorem r_iload_n {k : Fin 4} {i : Nat} {x : Int32} (hX : Cx X G own cc nL) (hi : (k : Nat) = i) (q : Nat) (hq : L[q]? = some (i, .int x)) (hd : decode cc pc = .ok (.iload_n k, 1) ∧ pc + 1 = nx) (kk : WW X G nL σ lm nx L (.int x :: st)) : WW X G nL σ lm pc L (st) := by
  intro H locs ls hw hS hl
  obtain ⟨hd, rfl⟩ := hd
  exact lv_iload_n hX.1 hX.2.1 hd hi (lv_at hl q hq) (kk H locs ls hw hS hl)
theorem r_iload {i : Nat} {x : Int32} (hX : Cx X G own cc nL) (q : Nat) (hq : L[q]? = some (i, .int x)) (hd : decode cc pc = .ok (.iload i, 2) ∧ pc + 2 = nx) (kk : WW X G nL σ lm nx L (.int x :: st)) : WW X G nL σ lm pc L (st) := by
  intro H locs ls hw hS hl
  obtain ⟨hd, rfl⟩ := hd
  exact lv_iload hX.1 hX.2.1 hd (lv_at hl q hq) (kk H locs ls hw hS hl)
theorem r_lload_n {k : Fin 4} {i : Nat} {x : Int64} (hX : Cx X G own cc nL) (hi : (k : Nat) = i) (q : Nat) (hq : L[q]? = some (i, .long x)) (hd : decode cc pc = .ok (.lload_n k, 1) ∧ pc + 1 = nx) (kk : WW X G nL σ lm nx L (.long x :: st)) : WW X G nL σ lm pc L (st) := by
  intro H locs ls hw hS hl
  obtain ⟨hd, rfl⟩ := hd
  exact lv_lload_n hX.1 hX.2.1 hd hi (lv_at hl q hq) (kk H locs ls hw hS hl)
theorem r_lload {i : Nat} {x : Int64} (hX : Cx X G own cc nL) (q : Nat) (hq : L[q]? = some (i, .long x)) (hd : decode cc pc = .ok (.lload i, 2) ∧ pc + 2 = nx) (kk : WW X G nL σ lm nx L (.long x :: st)) : WW X G nL σ lm pc L (st) := by
  intro H locs ls hw hS hl
  obtain ⟨hd, rfl⟩ := hd
  exact lv_lload hX.1 hX.2.1 hd (lv_at hl q hq) (kk H locs ls hw hS hl)
theorem r_aload_n {k : Fin 4} {i : Nat} {x : Nat} (hX : Cx X G own cc nL) (hi : (k : Nat) = i) (q : Nat) (hq : L[q]? = some (i, .ref x)) (hd : decode cc pc = .ok (.aload_n k, 1) ∧ pc + 1 = nx) (kk : WW X G nL σ lm nx L (.ref x :: st)) : WW X G nL σ lm pc L (st) := by
  intro H locs ls hw hS hl
  obtain ⟨hd, rfl⟩ := hd
  exact lv_aload_n hX.1 hX.2.1 hd hi (lv_at hl q hq) (kk H locs ls hw hS hl)
theorem r_aload {i : Nat} {x : Nat} (hX : Cx X G own cc nL) (q : Nat) (hq : L[q]? = some (i, .ref x)) (hd : decode cc pc = .ok (.aload i, 2) ∧ pc + 2 = nx) (kk : WW X G nL σ lm nx L (.ref x :: st)) : WW X G nL σ lm pc L (st) := by
  intro H locs ls hw hS hl
  obtain ⟨hd, rfl⟩ := hd
  exact lv_aload hX.1 hX.2.1 hd (lv_at hl q hq) (kk H locs ls hw hS hl)
theorem r_istore_n {k : Fin 4} {i : Nat} {x : Int32} {L2 : List (Nat × Value)} (hX : Cx X G own cc nL) (hi : (k : Nat) = i) (hn : i < nL) (hl2 : (i, Value.int x) :: L.filter (fun q => !(q.1 == i) && !(q.1 + 1 == i && q.2.category == 2)) = L2) (hd : decode cc pc = .ok (.istore_n k, 1) ∧ pc + 1 = nx) (kk : WW X G nL σ lm nx L2 st) : WW X G nL σ lm pc L (.int x :: st) := by
  intro H locs ls hw hS hl
  obtain ⟨hd, rfl⟩ := hd
  exact lv_istore_n hX.1 hX.2.1 hd hi hl hn hl2 (fun ls2 hl3 => kk H locs ls2 hw hS hl3)
theorem r_istore {i : Nat} {x : Int32} {L2 : List (Nat × Value)} (hX : Cx X G own cc nL) (hn : i < nL) (hl2 : (i, Value.int x) :: L.filter (fun q => !(q.1 == i) && !(q.1 + 1 == i && q.2.category == 2)) = L2) (hd : decode cc pc = .ok (.istore i, 2) ∧ pc + 2 = nx) (kk : WW X G nL σ lm nx L2 st) : WW X G nL σ lm pc L (.int x :: st) := by
  intro H locs ls hw hS hl
  obtain ⟨hd, rfl⟩ := hd
  exact lv_istore hX.1 hX.2.1 hd hl hn hl2 (fun ls2 hl3 => kk H locs ls2 hw hS hl3)
theorem r_astore_n {k : Fin 4} {i : Nat} {x : Nat} {L2 : List (Nat × Value)} (hX : Cx X G own cc nL) (hi : (k : Nat) = i) (hn : i < nL) (hl2 : (i, Value.ref x) :: L.filter (fun q => !(q.1 == i) && !(q.1 + 1 == i && q.2.category == 2)) = L2) (hd : decode cc pc = .ok (.astore_n k, 1) ∧ pc + 1 = nx) (kk : WW X G nL σ lm nx L2 st) : WW X G nL σ lm pc L (.ref x :: st) := by
  intro H locs ls hw hS hl
  obtain ⟨hd, rfl⟩ := hd
  exact lv_astore_n hX.1 hX.2.1 hd hi hl hn hl2 (fun ls2 hl3 => kk H locs ls2 hw hS hl3)
theorem r_astore {i : Nat} {x : Nat} {L2 : List (Nat × Value)} (hX : Cx X G own cc nL) (hn : i < nL) (hl2 : (i, Value.ref x) :: L.filter (fun q => !(q.1 == i) && !(q.1 + 1 == i && q.2.category == 2)) = L2) (hd : decode cc pc = .ok (.astore i, 2) ∧ pc + 2 = nx) (kk : WW X G nL σ lm nx L2 st) : WW X G nL σ lm pc L (.ref x :: st) := by
  intro H locs ls hw hS hl
  obtain ⟨hd, rfl⟩ := hd
  exact lv_astore hX.1 hX.2.1 hd hl hn hl2 (fun ls2 hl3 => kk H locs ls2 hw hS hl3)
theorem r_lstore_n {k : Fin 4} {i : Nat} {x : Int64} {L2 : List (Nat × Value)} (hX : Cx X G own cc nL) (hi : (k : Nat) = i) (hn : i + 1 < nL) (hl2 : (i, Value.long x) :: L.filter (fun q => !(q.1 == i) && (!(q.1 == i + 1) && !(q.1 + 1 == i && q.2.category == 2))) = L2) (hd : decode cc pc = .ok (.lstore_n k, 1) ∧ pc + 1 = nx) (kk : WW X G nL σ lm nx L2 st) : WW X G nL σ lm pc L (.long x :: st) := by
  intro H locs ls hw hS hl
  obtain ⟨hd, rfl⟩ := hd
  exact lv_lstore_n hX.1 hX.2.1 hd hi hl hn hl2 (fun ls2 hl3 => kk H locs ls2 hw hS hl3)
theorem r_lstore {i : Nat} {x : Int64} {L2 : List (Nat × Value)} (hX : Cx X G own cc nL) (hn : i + 1 < nL) (hl2 : (i, Value.long x) :: L.filter (fun q => !(q.1 == i) && (!(q.1 == i + 1) && !(q.1 + 1 == i && q.2.category == 2))) = L2) (hd : decode cc pc = .ok (.lstore i, 2) ∧ pc + 2 = nx) (kk : WW X G nL σ lm nx L2 st) : WW X G nL σ lm pc L (.long x :: st) := by
  intro H locs ls hw hS hl
  obtain ⟨hd, rfl⟩ := hd
  exact lv_lstore hX.1 hX.2.1 hd hl hn hl2 (fun ls2 hl3 => kk H locs ls2 hw hS hl3)
theorem r_iinc {i : Nat} {n : Int} {x v : Int32} {L2 : List (Nat × Value)} (hX : Cx X G own cc nL) (q : Nat) (hq : L[q]? = some (i, .int x)) (hv : x + Int32.ofInt n = v) (hn : i < nL) (hl2 : (i, Value.int v) :: L.filter (fun q => !(q.1 == i) && !(q.1 + 1 == i && q.2.category == 2)) = L2) (hd : decode cc pc = .ok (.iinc i n, 3) ∧ pc + 3 = nx) (kk : WW X G nL σ lm nx L2 st) : WW X G nL σ lm pc L st := by
  intro H locs ls hw hS hl
  obtain ⟨hd, rfl⟩ := hd
  exact lv_iinc hX.1 hX.2.1 hd hl hq hv hn hl2 (fun ls2 hl3 => kk H locs ls2 hw hS hl3)
theorem r_iadd {x y : Int32} (hX : Cx X G own cc nL)  (hd : decode cc pc = .ok (.iadd, 1) ∧ pc + 1 = nx) (kk : WW X G nL σ lm nx L (.int (x + y) :: st)) : WW X G nL σ lm pc L (.int y :: .int x :: st) := by
  intro H locs ls hw hS hl
  obtain ⟨hd, rfl⟩ := hd
  exact lv_iadd hX.1 hX.2.1 hd (kk H locs ls hw hS hl)
theorem r_isub {x y : Int32} (hX : Cx X G own cc nL)  (hd : decode cc pc = .ok (.isub, 1) ∧ pc + 1 = nx) (kk : WW X G nL σ lm nx L (.int (x - y) :: st)) : WW X G nL σ lm pc L (.int y :: .int x :: st) := by
  intro H locs ls hw hS hl
  obtain ⟨hd, rfl⟩ := hd
  exact lv_isub hX.1 hX.2.1 hd (kk H locs ls hw hS hl)
theorem r_imul {x y : Int32} (hX : Cx X G own cc nL)  (hd : decode cc pc = .ok (.imul, 1) ∧ pc + 1 = nx) (kk : WW X G nL σ lm nx L (.int (x * y) :: st)) : WW X G nL σ lm pc L (.int y :: .int x :: st) := by
  intro H locs ls hw hS hl
  obtain ⟨hd, rfl⟩ := hd
  exact lv_imul hX.1 hX.2.1 hd (kk H locs ls hw hS hl)
theorem r_iand {x y : Int32} (hX : Cx X G own cc nL)  (hd : decode cc pc = .ok (.iand, 1) ∧ pc + 1 = nx) (kk : WW X G nL σ lm nx L (.int (x &&& y) :: st)) : WW X G nL σ lm pc L (.int y :: .int x :: st) := by
  intro H locs ls hw hS hl
  obtain ⟨hd, rfl⟩ := hd
  exact lv_iand hX.1 hX.2.1 hd (kk H locs ls hw hS hl)
theorem r_ior {x y : Int32} (hX : Cx X G own cc nL)  (hd : decode cc pc = .ok (.ior, 1) ∧ pc + 1 = nx) (kk : WW X G nL σ lm nx L (.int (x ||| y) :: st)) : WW X G nL σ lm pc L (.int y :: .int x :: st) := by
  intro H locs ls hw hS hl
  obtain ⟨hd, rfl⟩ := hd
  exact lv_ior hX.1 hX.2.1 hd (kk H locs ls hw hS hl)
theorem r_ixor {x y : Int32} (hX : Cx X G own cc nL)  (hd : decode cc pc = .ok (.ixor, 1) ∧ pc + 1 = nx) (kk : WW X G nL σ lm nx L (.int (x ^^^ y) :: st)) : WW X G nL σ lm pc L (.int y :: .int x :: st) := by
  intro H locs ls hw hS hl
  obtain ⟨hd, rfl⟩ := hd
  exact lv_ixor hX.1 hX.2.1 hd (kk H locs ls hw hS hl)
theorem r_ishl {x y : Int32} (hX : Cx X G own cc nL)  (hd : decode cc pc = .ok (.ishl, 1) ∧ pc + 1 = nx) (kk : WW X G nL σ lm nx L (.int (x <<< (y &&& 31)) :: st)) : WW X G nL σ lm pc L (.int y :: .int x :: st) := by
  intro H locs ls hw hS hl
  obtain ⟨hd, rfl⟩ := hd
  exact lv_ishl hX.1 hX.2.1 hd (kk H locs ls hw hS hl)
theorem r_ishr {x y : Int32} (hX : Cx X G own cc nL)  (hd : decode cc pc = .ok (.ishr, 1) ∧ pc + 1 = nx) (kk : WW X G nL σ lm nx L (.int (x >>> (y &&& 31)) :: st)) : WW X G nL σ lm pc L (.int y :: .int x :: st) := by
  intro H locs ls hw hS hl
  obtain ⟨hd, rfl⟩ := hd
  exact lv_ishr hX.1 hX.2.1 hd (kk H locs ls hw hS hl)
theorem r_idiv {x y : Int32} (hX : Cx X G own cc nL) (hne : ¬ y = 0) (hd : decode cc pc = .ok (.idiv, 1) ∧ pc + 1 = nx) (kk : WW X G nL σ lm nx L (.int (x / y) :: st)) : WW X G nL σ lm pc L (.int y :: .int x :: st) := by
  intro H locs ls hw hS hl
  obtain ⟨hd, rfl⟩ := hd
  exact lv_idiv hX.1 hX.2.1 hd hne (kk H locs ls hw hS hl)
theorem r_irem {x y : Int32} (hX : Cx X G own cc nL) (hne : ¬ y = 0) (hd : decode cc pc = .ok (.irem, 1) ∧ pc + 1 = nx) (kk : WW X G nL σ lm nx L (.int (x - x / y * y) :: st)) : WW X G nL σ lm pc L (.int y :: .int x :: st) := by
  intro H locs ls hw hS hl
  obtain ⟨hd, rfl⟩ := hd
  exact lv_irem hX.1 hX.2.1 hd hne (kk H locs ls hw hS hl)
theorem r_ineg {x : Int32} (hX : Cx X G own cc nL)  (hd : decode cc pc = .ok (.ineg, 1) ∧ pc + 1 = nx) (kk : WW X G nL σ lm nx L (.int (-x) :: st)) : WW X G nL σ lm pc L (.int x :: st) := by
  intro H locs ls hw hS hl
  obtain ⟨hd, rfl⟩ := hd
  exact lv_ineg hX.1 hX.2.1 hd (kk H locs ls hw hS hl)
theorem r_ladd {x y : Int64} (hX : Cx X G own cc nL)  (hd : decode cc pc = .ok (.ladd, 1) ∧ pc + 1 = nx) (kk : WW X G nL σ lm nx L (.long (x + y) :: st)) : WW X G nL σ lm pc L (.long y :: .long x :: st) := by
  intro H locs ls hw hS hl
  obtain ⟨hd, rfl⟩ := hd
  exact lv_ladd hX.1 hX.2.1 hd (kk H locs ls hw hS hl)
theorem r_land {x y : Int64} (hX : Cx X G own cc nL)  (hd : decode cc pc = .ok (.land, 1) ∧ pc + 1 = nx) (kk : WW X G nL σ lm nx L (.long (x &&& y) :: st)) : WW X G nL σ lm pc L (.long y :: .long x :: st) := by
  intro H locs ls hw hS hl
  obtain ⟨hd, rfl⟩ := hd
  exact lv_land hX.1 hX.2.1 hd (kk H locs ls hw hS hl)
theorem r_lor {x y : Int64} (hX : Cx X G own cc nL)  (hd : decode cc pc = .ok (.lor, 1) ∧ pc + 1 = nx) (kk : WW X G nL σ lm nx L (.long (x ||| y) :: st)) : WW X G nL σ lm pc L (.long y :: .long x :: st) := by
  intro H locs ls hw hS hl
  obtain ⟨hd, rfl⟩ := hd
  exact lv_lor hX.1 hX.2.1 hd (kk H locs ls hw hS hl)
theorem r_ldiv {x y : Int64} (hX : Cx X G own cc nL) (hne : ¬ y = 0) (hd : decode cc pc = .ok (.ldiv, 1) ∧ pc + 1 = nx) (kk : WW X G nL σ lm nx L (.long (x / y) :: st)) : WW X G nL σ lm pc L (.long y :: .long x :: st) := by
  intro H locs ls hw hS hl
  obtain ⟨hd, rfl⟩ := hd
  exact lv_ldiv hX.1 hX.2.1 hd hne (kk H locs ls hw hS hl)
theorem r_lrem {x y : Int64} (hX : Cx X G own cc nL) (hne : ¬ y = 0) (hd : decode cc pc = .ok (.lrem, 1) ∧ pc + 1 = nx) (kk : WW X G nL σ lm nx L (.long (x - x / y * y) :: st)) : WW X G nL σ lm pc L (.long y :: .long x :: st) := by
  intro H locs ls hw hS hl
  obtain ⟨hd, rfl⟩ := hd
  exact lv_lrem hX.1 hX.2.1 hd hne (kk H locs ls hw hS hl)
theorem r_lshl {x : Int64} {y : Int32} (hX : Cx X G own cc nL)  (hd : decode cc pc = .ok (.lshl, 1) ∧ pc + 1 = nx) (kk : WW X G nL σ lm nx L (.long (x <<< (y.toInt64 &&& 63)) :: st)) : WW X G nL σ lm pc L (.int y :: .long x :: st) := by
  intro H locs ls hw hS hl
  obtain ⟨hd, rfl⟩ := hd
  exact lv_lshl hX.1 hX.2.1 hd rfl (kk H locs ls hw hS hl)
theorem r_lcmp {x y : Int64} (hX : Cx X G own cc nL)  (hd : decode cc pc = .ok (.lcmp, 1) ∧ pc + 1 = nx) (kk : WW X G nL σ lm nx L (.int (lg_cmp x y) :: st)) : WW X G nL σ lm pc L (.long y :: .long x :: st) := by
  intro H locs ls hw hS hl
  obtain ⟨hd, rfl⟩ := hd
  exact W.lcmp hX.1 hX.2.1 hd (kk H locs ls hw hS hl)
theorem r_i2l {x : Int32} (hX : Cx X G own cc nL)  (hd : decode cc pc = .ok (.i2l, 1) ∧ pc + 1 = nx) (kk : WW X G nL σ lm nx L (.long x.toInt64 :: st)) : WW X G nL σ lm pc L (.int x :: st) := by
  intro H locs ls hw hS hl
  obtain ⟨hd, rfl⟩ := hd
  exact lv_i2l hX.1 hX.2.1 hd rfl (kk H locs ls hw hS hl)
theorem r_l2i {x : Int64} (hX : Cx X G own cc nL)  (hd : decode cc pc = .ok (.l2i, 1) ∧ pc + 1 = nx) (kk : WW X G nL σ lm nx L (.int x.toInt32 :: st)) : WW X G nL σ lm pc L (.long x :: st) := by
  intro H locs ls hw hS hl
  obtain ⟨hd, rfl⟩ := hd
  exact lv_l2i hX.1 hX.2.1 hd rfl (kk H locs ls hw hS hl)
theorem r_i2b {x : Int32} (hX : Cx X G own cc nL)  (hd : decode cc pc = .ok (.i2b, 1) ∧ pc + 1 = nx) (kk : WW X G nL σ lm nx L (.int x.toInt8.toInt32 :: st)) : WW X G nL σ lm pc L (.int x :: st) := by
  intro H locs ls hw hS hl
  obtain ⟨hd, rfl⟩ := hd
  exact lv_i2b hX.1 hX.2.1 hd rfl (kk H locs ls hw hS hl)
theorem r_i2s {x : Int32} (hX : Cx X G own cc nL)  (hd : decode cc pc = .ok (.i2s, 1) ∧ pc + 1 = nx) (kk : WW X G nL σ lm nx L (.int x.toInt16.toInt32 :: st)) : WW X G nL σ lm pc L (.int x :: st) := by
  intro H locs ls hw hS hl
  obtain ⟨hd, rfl⟩ := hd
  exact lv_i2s hX.1 hX.2.1 hd rfl (kk H locs ls hw hS hl)
theorem r_i2c {x : Int32} (hX : Cx X G own cc nL)  (hd : decode cc pc = .ok (.i2c, 1) ∧ pc + 1 = nx) (kk : WW X G nL σ lm nx L (.int (x.toUInt32 % 65536).toInt32 :: st)) : WW X G nL σ lm pc L (.int x :: st) := by
  intro H locs ls hw hS hl
  obtain ⟨hd, rfl⟩ := hd
  exact lv_i2c hX.1 hX.2.1 hd rfl (kk H locs ls hw hS hl)
theorem r_dup {va : Value} (hX : Cx X G own cc nL) (hc : va.category = 1) (hd : decode cc pc = .ok (.dup, 1) ∧ pc + 1 = nx) (kk : WW X G nL σ lm nx L (va :: va :: st)) : WW X G nL σ lm pc L (va :: st) := by
  intro H locs ls hw hS hl
  obtain ⟨hd, rfl⟩ := hd
  exact lv_dup hX.1 hX.2.1 hd hc (kk H locs ls hw hS hl)
theorem r_pop {va : Value} (hX : Cx X G own cc nL) (hc : va.category = 1) (hd : decode cc pc = .ok (.pop, 1) ∧ pc + 1 = nx) (kk : WW X G nL σ lm nx L (st)) : WW X G nL σ lm pc L (va :: st) := by
  intro H locs ls hw hS hl
  obtain ⟨hd, rfl⟩ := hd
  exact lv_pop hX.1 hX.2.1 hd hc (kk H locs ls hw hS hl)
theorem r_dup2 {va vb : Value} (hX : Cx X G own cc nL) (hc : va.category = 1) (hc2 : vb.category = 1) (hd : decode cc pc = .ok (.dup2, 1) ∧ pc + 1 = nx) (kk : WW X G nL σ lm nx L (va :: vb :: va :: vb :: st)) : WW X G nL σ lm pc L (va :: vb :: st) := by
  intro H locs ls hw hS hl
  obtain ⟨hd, rfl⟩ := hd
  exact lv_dup2_11 hX.1 hX.2.1 hd hc hc2 (kk H locs ls hw hS hl)
theorem r_ldc {index : Nat} {v : Int32} (hX : Cx X G own cc nL) (hk : Cond.constant own index v ∈ gT) (hd : decode cc pc = .ok (.ldc index, 2) ∧ pc + 2 = nx) (kk : WW X G nL σ lm nx L (.int v :: st)) : WW X G nL σ lm pc L st := by
  intro H locs ls hw hS hl
  obtain ⟨hd, rfl⟩ := hd
  exact lv_ldc hX.1 hX.2.1 hX.2.2.2.1 (hX.2.2.2.2.1 _ hk) hd (kk H locs ls hw hS hl)
theorem r_ldcw {index : Nat} {v : Int32} (hX : Cx X G own cc nL) (hk : Cond.constant own index v ∈ gT) (hd : decode cc pc = .ok (.ldc_w index, 3) ∧ pc + 3 = nx) (kk : WW X G nL σ lm nx L (.int v :: st)) : WW X G nL σ lm pc L st := by
  intro H locs ls hw hS hl
  obtain ⟨hd, rfl⟩ := hd
  exact lv_ldcw hX.1 hX.2.1 hX.2.2.2.1 (hX.2.2.2.2.1 _ hk) hd (kk H locs ls hw hS hl)
theorem r_ldc2 {index : Nat} {v : Int64} (hX : Cx X G own cc nL) (hk : Cond.constantLong own index v ∈ gT) (hd : decode cc pc = .ok (.ldc2_w index, 3) ∧ pc + 3 = nx) (kk : WW X G nL σ lm nx L (.long v :: st)) : WW X G nL σ lm pc L st := by
  intro H locs ls hw hS hl
  obtain ⟨hd, rfl⟩ := hd
  exact lv_ldc2 hX.1 hX.2.1 hX.2.2.2.1 (hX.2.2.2.2.1 _ hk) hd (kk H locs ls hw hS hl)
theorem r_if_eq {x : Int32} {off : Int} {tgt : Nat} (hX : Cx X G own cc nL) (hd : decode cc pc = .ok (.ifCond .eq off, 3) ∧ pc + 3 = nx ∧ (pc : Int) + off = (tgt : Int)) (kt : x = 0 → WW X G nL σ lm tgt L st) (kf : ¬ x = 0 → WW X G nL σ lm nx L st) : WW X G nL σ lm pc L (.int x :: st) := by
  intro H locs ls hw hS hl
  obtain ⟨hd, rfl, ht⟩ := hd
  exact lv_if_eq hX.1 hX.2.1 hd ht (fun h => kt h H locs ls hw hS hl) (fun h => kf h H locs ls hw hS hl)
theorem r_if_ne {x : Int32} {off : Int} {tgt : Nat} (hX : Cx X G own cc nL) (hd : decode cc pc = .ok (.ifCond .ne off, 3) ∧ pc + 3 = nx ∧ (pc : Int) + off = (tgt : Int)) (kt : ¬ x = 0 → WW X G nL σ lm tgt L st) (kf : x = 0 → WW X G nL σ lm nx L st) : WW X G nL σ lm pc L (.int x :: st) := by
  intro H locs ls hw hS hl
  obtain ⟨hd, rfl, ht⟩ := hd
  exact lv_if_ne hX.1 hX.2.1 hd ht (fun h => kt h H locs ls hw hS hl) (fun h => kf h H locs ls hw hS hl)
theorem r_if_lt {x : Int32} {off : Int} {tgt : Nat} (hX : Cx X G own cc nL) (hd : decode cc pc = .ok (.ifCond .lt off, 3) ∧ pc + 3 = nx ∧ (pc : Int) + off = (tgt : Int)) (kt : x < 0 → WW X G nL σ lm tgt L st) (kf : ¬ x < 0 → WW X G nL σ lm nx L st) : WW X G nL σ lm pc L (.int x :: st) := by
  intro H locs ls hw hS hl
  obtain ⟨hd, rfl, ht⟩ := hd
  exact lv_if_lt hX.1 hX.2.1 hd ht (fun h => kt h H locs ls hw hS hl) (fun h => kf h H locs ls hw hS hl)
theorem r_if_ge {x : Int32} {off : Int} {tgt : Nat} (hX : Cx X G own cc nL) (hd : decode cc pc = .ok (.ifCond .ge off, 3) ∧ pc + 3 = nx ∧ (pc : Int) + off = (tgt : Int)) (kt : 0 ≤ x → WW X G nL σ lm tgt L st) (kf : ¬ 0 ≤ x → WW X G nL σ lm nx L st) : WW X G nL σ lm pc L (.int x :: st) := by
  intro H locs ls hw hS hl
  obtain ⟨hd, rfl, ht⟩ := hd
  exact lv_if_ge hX.1 hX.2.1 hd ht (fun h => kt h H locs ls hw hS hl) (fun h => kf h H locs ls hw hS hl)
theorem r_if_gt {x : Int32} {off : Int} {tgt : Nat} (hX : Cx X G own cc nL) (hd : decode cc pc = .ok (.ifCond .gt off, 3) ∧ pc + 3 = nx ∧ (pc : Int) + off = (tgt : Int)) (kt : 0 < x → WW X G nL σ lm tgt L st) (kf : ¬ 0 < x → WW X G nL σ lm nx L st) : WW X G nL σ lm pc L (.int x :: st) := by
  intro H locs ls hw hS hl
  obtain ⟨hd, rfl, ht⟩ := hd
  exact lv_if_gt hX.1 hX.2.1 hd ht (fun h => kt h H locs ls hw hS hl) (fun h => kf h H locs ls hw hS hl)
theorem r_if_le {x : Int32} {off : Int} {tgt : Nat} (hX : Cx X G own cc nL) (hd : decode cc pc = .ok (.ifCond .le off, 3) ∧ pc + 3 = nx ∧ (pc : Int) + off = (tgt : Int)) (kt : x ≤ 0 → WW X G nL σ lm tgt L st) (kf : ¬ x ≤ 0 → WW X G nL σ lm nx L st) : WW X G nL σ lm pc L (.int x :: st) := by
  intro H locs ls hw hS hl
  obtain ⟨hd, rfl, ht⟩ := hd
  exact lv_if_le hX.1 hX.2.1 hd ht (fun h => kt h H locs ls hw hS hl) (fun h => kf h H locs ls hw hS hl)
theorem r_icmp_eq {x y : Int32} {off : Int} {tgt : Nat} (hX : Cx X G own cc nL) (hd : decode cc pc = .ok (.if_icmp .eq off, 3) ∧ pc + 3 = nx ∧ (pc : Int) + off = (tgt : Int)) (kt : x = y → WW X G nL σ lm tgt L st) (kf : ¬ x = y → WW X G nL σ lm nx L st) : WW X G nL σ lm pc L (.int y :: .int x :: st) := by
  intro H locs ls hw hS hl
  obtain ⟨hd, rfl, ht⟩ := hd
  exact lv_icmp_eq hX.1 hX.2.1 hd ht (fun h => kt h H locs ls hw hS hl) (fun h => kf h H locs ls hw hS hl)
theorem r_icmp_ne {x y : Int32} {off : Int} {tgt : Nat} (hX : Cx X G own cc nL) (hd : decode cc pc = .ok (.if_icmp .ne off, 3) ∧ pc + 3 = nx ∧ (pc : Int) + off = (tgt : Int)) (kt : ¬ x = y → WW X G nL σ lm tgt L st) (kf : x = y → WW X G nL σ lm nx L st) : WW X G nL σ lm pc L (.int y :: .int x :: st) := by
  intro H locs ls hw hS hl
  obtain ⟨hd, rfl, ht⟩ := hd
  exact lv_icmp_ne hX.1 hX.2.1 hd ht (fun h => kt h H locs ls hw hS hl) (fun h => kf h H locs ls hw hS hl)
theorem r_icmp_lt {x y : Int32} {off : Int} {tgt : Nat} (hX : Cx X G own cc nL) (hd : decode cc pc = .ok (.if_icmp .lt off, 3) ∧ pc + 3 = nx ∧ (pc : Int) + off = (tgt : Int)) (kt : x < y → WW X G nL σ lm tgt L st) (kf : ¬ x < y → WW X G nL σ lm nx L st) : WW X G nL σ lm pc L (.int y :: .int x :: st) := by
  intro H locs ls hw hS hl
  obtain ⟨hd, rfl, ht⟩ := hd
  exact lv_icmp_lt hX.1 hX.2.1 hd ht (fun h => kt h H locs ls hw hS hl) (fun h => kf h H locs ls hw hS hl)
theorem r_icmp_ge {x y : Int32} {off : Int} {tgt : Nat} (hX : Cx X G own cc nL) (hd : decode cc pc = .ok (.if_icmp .ge off, 3) ∧ pc + 3 = nx ∧ (pc : Int) + off = (tgt : Int)) (kt : y ≤ x → WW X G nL σ lm tgt L st) (kf : ¬ y ≤ x → WW X G nL σ lm nx L st) : WW X G nL σ lm pc L (.int y :: .int x :: st) := by
  intro H locs ls hw hS hl
  obtain ⟨hd, rfl, ht⟩ := hd
  exact lv_icmp_ge hX.1 hX.2.1 hd ht (fun h => kt h H locs ls hw hS hl) (fun h => kf h H locs ls hw hS hl)
theorem r_icmp_gt {x y : Int32} {off : Int} {tgt : Nat} (hX : Cx X G own cc nL) (hd : decode cc pc = .ok (.if_icmp .gt off, 3) ∧ pc + 3 = nx ∧ (pc : Int) + off = (tgt : Int)) (kt : y < x → WW X G nL σ lm tgt L st) (kf : ¬ y < x → WW X G nL σ lm nx L st) : WW X G nL σ lm pc L (.int y :: .int x :: st) := by
  intro H locs ls hw hS hl
  obtain ⟨hd, rfl, ht⟩ := hd
  exact lv_icmp_gt hX.1 hX.2.1 hd ht (fun h => kt h H locs ls hw hS hl) (fun h => kf h H locs ls hw hS hl)
theorem r_icmp_le {x y : Int32} {off : Int} {tgt : Nat} (hX : Cx X G own cc nL) (hd : decode cc pc = .ok (.if_icmp .le off, 3) ∧ pc + 3 = nx ∧ (pc : Int) + off = (tgt : Int)) (kt : x ≤ y → WW X G nL σ lm tgt L st) (kf : ¬ x ≤ y → WW X G nL σ lm nx L st) : WW X G nL σ lm pc L (.int y :: .int x :: st) := by
  intro H locs ls hw hS hl
  obtain ⟨hd, rfl, ht⟩ := hd
  exact lv_icmp_le hX.1 hX.2.1 hd ht (fun h => kt h H locs ls hw hS hl) (fun h => kf h H locs ls hw hS hl)
theorem r_goto {off : Int} {tgt : Nat} (hX : Cx X G own cc nL) (hd : decode cc pc = .ok (.goto off, 3) ∧ (pc : Int) + off = (tgt : Int)) (kk : WW X G nL σ lm tgt L st) : WW X G nL σ lm pc L st := by
  intro H locs ls hw hS hl
  exact lv_goto hX.1 hX.2.1 hd.1 hd.2 (kk H locs ls hw hS hl)
theorem i32n {x k : Int32} {n : Int} (h : ¬ x = k) (hn : k.toInt = n) : x.toInt ≠ n := fun e => h (Int32.toInt_inj.mp (e.trans hn.symm))
theorem r_tswI {x k : Int32} {dflt lo hi : Int} {offs : Array Int} {len : Nat} {off : Int} {tgt : Nat} (hX : Cx X G own cc nL) (hx : x = k) (h : (decide (k.toInt < lo) || decide (hi < k.toInt)) = false) (ho : offs[(k.toInt - lo).toNat]? = some off) (ht : (pc : Int) + off = (tgt : Int)) (hd : decode cc pc = .ok (.tableswitch dflt lo hi offs, len)) (kk : WW X G nL σ lm tgt L st) : WW X G nL σ lm pc L (.int x :: st) := by
  intro H locs ls hw hS hl
  subst hx
  rw [Bool.or_eq_false_iff, decide_eq_false_iff_not, decide_eq_false_iff_not] at h
  exact lv_tableIn hX.1 hX.2.1 hd h.1 h.2 ho ht (kk H locs ls hw hS hl)
theorem r_tswD {x : Int32} {dflt lo hi : Int} {offs : Array Int} {len : Nat} {tgt : Nat} (hX : Cx X G own cc nL) (h : x.toInt < lo ∨ hi < x.toInt) (ht : (pc : Int) + dflt = (tgt : Int)) (hd : decode cc pc = .ok (.tableswitch dflt lo hi offs, len)) (kk : WW X G nL σ lm tgt L st) : WW X G nL σ lm pc L (.int x :: st) := by
  intro H locs ls hw hS hl
  exact lv_tableOut hX.1 hX.2.1 hd h ht (kk H locs ls hw hS hl)
theorem r_lsw {x : Int32} {dflt : Int} {ps : Array (Int × Int)} {len : Nat} {off : Int} {tgt : Nat} (hX : Cx X G own cc nL) (hp : (ps.toList.zip (ps.toList.drop 1)).all (fun (a, next) => a.1 < next.1) = true) (ho : Op.lookupswitch.offset ps.toList dflt x.toInt = off) (ht : (pc : Int) + off = (tgt : Int)) (hd : decode cc pc = .ok (.lookupswitch dflt ps, len)) (kk : WW X G nL σ lm tgt L st) : WW X G nL σ lm pc L (.int x :: st) := by
  intro H locs ls hw hS hl
  exact lv_lookup hX.1 hX.2.1 hd hp ho ht (kk H locs ls hw hS hl)
/-- a method's contract: from this memory, with these arguments, it returns rv and leaves that memory -/
def wsY (y : MethodName) (b : ByteArray) (maxL : Nat) (ret : Option FieldType) : List Cond := Cond.code y b maxL ret :: gT
def QcY (G : GE) (rv : Option Value) (σ : Mm) (lm : Ml) : Array Value → State → Outcome → State → Prop := fun _ st o t => (o = .returned rv ∧ va_P (gD G) cl8 (wl G σ lm) t.heap) ∧ va_F (AA G) st t
def PcY (G : GE) (av : List Value) (σ : Mm) (lm : Ml) : Array Value → State → Prop := va_Pc av (fun U => va_P (gD G) cl8 (wl G σ lm) U.heap ∧ KF G U)
def CM (l : Launch) (G : GE) (y : MethodName) (b : ByteArray) (maxL : Nat) (ret : Option FieldType) (rm : Room) (av : List Value) (σ : Mm) (lm : Ml) (rv : Option Value) (σ2 : Mm) (lm2 : Ml) : Prop :=
  Met l y (wsY y b maxL ret) rm (PcY G av σ lm) (QcY G rv σ2 lm2) 0 0 (AA G)
def isQ (X : MX) (G : GE) (ret : Option FieldType) (rv : Option Value) (σ : Mm) (lm : Ml) : Prop :=
  X.2.2.2.2.2.2.2.2.1.sig.returnType = ret ∧ X.2.2.2.2.2.2.2.2.2.2.1 = MQ X.2.2.2.2.2.2.2.1 (QcY G rv σ lm) X.2.2.2.2.2.2.1 X.2.2.2.2.1 X.2.2.2.2.2.2.2.2.2.2.2.1 X.2.2.2.2.2.2.2.2.2.2.2.2 (AA G)
theorem met_ofWF {l : Launch} {y : MethodName} {ws ws' : List Cond} {rm : Room} {Pc : Array Value → State → Prop} {Qc : Array Value → State → Outcome → State → Prop} {mc ms : Nat} {free : Addr → Prop} {cc : ByteArray} {maxL : Nat} {ret : Option FieldType}
    (hy : plainFor y = true) (hw : ws = Cond.code y cc maxL ret :: ws')
    (body : ∀ p e s m args below meth c s₁, BodyLoose p l y (headSpec ws rm) cc maxL ret e s m args below meth c s₁ → c.maxLocals = maxL → Pc args s →
      W p l e (headSpec ws rm).room s m args below meth c s.heap [] 0 0 (MQ below Qc args s mc ms free) (entryFrame m args maxL)) : Met l y ws rm Pc Qc mc ms free := by
  refine MetFree.of_bodySF (code := cc) (maxLocals := maxL) (ret := ret) hy ?_ ?_
  · intro args s m h hn
    obtain ⟨meth, c, h1, h2, h3, h4, h5, h6, -, -⟩ := Cond.code_spec hn (atoms_spec (ws := ws) h _ (by rw [hw]; exact List.mem_cons_self))
    exact ⟨meth, c, h1, h2, h3, h4, h5, h6⟩
  · intro p e s m args below meth c s₁ B hml hP _
    have hh0 : s₁.heap = s.heap := by rw [B.state]; rfl
    obtain ⟨t, a1, o, b1, b2, b3⟩ := body p e s m args below meth c s₁ B hml hP s₁ hh0 (Stand.of_body B)
    exact ⟨t, o, a1, b1, b2, ⟨b3.1, b3.2⟩⟩
theorem CM.of {l : Launch} {y : MethodName} {b : ByteArray} {maxL : Nat} {ret : Option FieldType} {rm : Room} {av : List Value} {rv : Option Value} {σ2 : Mm} {lm2 : Ml} {L0 : List (Nat × Value)} {own : String} (hy : plainFor y = true) (ho : y.cls = own) (hsl : (lg_sl av).length ≤ maxL) (hL0 : lv_args 0 av = L0)
    (body : ∀ X : MX, X.2.1 = l → Cx X G own b maxL → rmX X = rm → isQ X G ret rv σ2 lm2 → WW X G maxL σ lm 0 L0 []) : CM l G y b maxL ret rm av σ lm rv σ2 lm2 := by
  subst ho
  refine met_ofWF (cc := b) (maxL := maxL) (ret := ret) hy rfl ?_
  intro p e s m args below meth c s₁ B hml hv
  obtain ⟨rfl, hP, hKF⟩ := hv
  have hts := atoms_spec (ws := wsY y b maxL ret) B.pre
  have hl := lv_entry av (n := maxL) hsl
  rw [hL0] at hl
  rw [lg_entry_eq]
  exact body (p, l, e, (headSpec (wsY y b maxL ret) rm).room, s, m, av.toArray, below, meth, c, MQ below (QcY G rv σ2 lm2) av.toArray s 0 0 (AA G), 0, 0) rfl ⟨B.exec, B.bytes, hml, findClass_of_methodNamed B.named, fun w hw => hts w (List.mem_cons_of_mem _ hw), ⟨B.notSynchronized, Nat.zero_le _, Nat.zero_le _⟩, hKF⟩ rfl ⟨B.returns, rfl⟩ s.heap [] _ hP va_S.rf hl
theorem r_iret {v : Int32} (hX : Cx X G own cc nL) (hQ : isQ X G (some .int) (some (.int v)) σ lm) (hd : decode cc pc = .ok (.ireturn, 1)) : WW X G nL σ lm pc L [.int v] := by
  intro H locs ls hw hS hl
  rw [hQ.2]
  exact W.iret hX.1 hX.2.1 hQ.1 (fun t ht hW => ⟨⟨rfl, by rw [ht]; exact hw⟩, hS.F ht⟩) hS.2.2 hd hX.2.2.2.2.2.1.1
theorem r_zret {v : Int32} (hX : Cx X G own cc nL) (hz : v = 0 ∨ v = 1) (hQ : isQ X G (some .boolean) (some (.int v)) σ lm) (hd : decode cc pc = .ok (.ireturn, 1)) : WW X G nL σ lm pc L [.int v] := by
  intro H locs ls hw hS hl
  rw [hQ.2]
  exact W.zret hX.1 hX.2.1 hQ.1 (zb_n hz) (fun t ht hW => ⟨⟨rfl, by rw [ht]; exact hw⟩, hS.F ht⟩) hS.2.2 hd hX.2.2.2.2.2.1.1
theorem r_lret {v : Int64} (hX : Cx X G own cc nL) (hQ : isQ X G (some .long) (some (.long v)) σ lm) (hd : decode cc pc = .ok (.lreturn, 1)) : WW X G nL σ lm pc L [.long v] := by
  intro H locs ls hw hS hl
  rw [hQ.2]
  exact W.lret hX.1 hX.2.1 hQ.1 (fun t ht hW => ⟨⟨rfl, by rw [ht]; exact hw⟩, hS.F ht⟩) hS.2.2 hd hX.2.2.2.2.2.1.1
theorem r_aret {a : Nat} {n : String} (hX : Cx X G own cc nL) (hQ : isQ X G (some (.object n)) (some (.ref a)) σ lm) (hd : decode cc pc = .ok (.areturn, 1)) : WW X G nL σ lm pc L [.ref a] := by
  intro H locs ls hw hS hl
  rw [hQ.2]
  exact W.aret hX.1 hX.2.1 hQ.1 (Or.inl ⟨n, rfl⟩) (Or.inr ⟨a, rfl⟩) (fun t ht hW => ⟨⟨rfl, by rw [ht]; exact hw⟩, hS.F ht⟩) hS.2.2 hd hX.2.2.2.2.2.1.1
theorem r_vret (hX : Cx X G own cc nL) (hQ : isQ X G none none σ lm) (hd : decode cc pc = .ok (.return_, 1)) : WW X G nL σ lm pc L [] := by
  intro H locs ls hw hS hl
  rw [hQ.2]
  exact W.vret hX.1 hX.2.1 hQ.1 (fun t ht hW => ⟨⟨rfl, by rw [ht]; exact hw⟩, hS.F ht⟩) hS.2.2 hd hX.2.2.2.2.2.1.1
theorem goodIn_g {ws : List Cond} (h : ∀ w ∈ ws, w ∈ gT) : GoodIn gT ws := fun w hw => ⟨h w hw, good_of_word (gT_good (h w hw))⟩
theorem wsY_in {y : MethodName} {b : ByteArray} {maxL : Nat} {ret : Option FieldType} (h : Cond.code y b maxL ret ∈ gT) : ∀ w ∈ wsY y b maxL ret, w ∈ gT := fun w hw => (List.mem_cons.mp hw).elim (fun e => by rw [e]; exact h) id
theorem pcY_blind {av : List Value} : FrameBlind (PcY G av σ lm) := fun a U g mk q => ⟨q.1, q.2.1, by
  obtain ⟨k1, k2, k3, k4⟩ := q.2.2
  exact KF.to (locs := []) ⟨k1, k2, k3, k4⟩ (State.WarmedH.refl U) va_S.rf⟩
theorem pcY_pre {H : Heap} {locs : List Loc} {s : State} {av : List Value} (hw : va_P (gD G) cl8 (wl G σ lm) H) (hS : va_S (AA G) s.heap H locs) (hK : KF G s) (U : State) (hU : U.heap = H) (hW : s.WarmedH U.vm) : PcY G av σ lm av.toArray U := ⟨rfl, by rw [hU]; exact hw, hK.to hW (by rw [hU]; exact hS)⟩
theorem ww_call {rv : Option Value} {σ2 : Mm} {lm2 : Ml} {st0 : List Value} {a : Array Value}
    (hr : ∀ (H : Heap) (locs : List Loc) (ls : Array Slot), va_P (gD G) cl8 (wl G σ lm) H → va_S (AA G) X.2.2.2.2.1.heap H locs → lv_has ls nL L → va_Run X.1 X.2.1 X.2.2.1 X.2.2.2.1 X.2.2.2.2.1 X.2.2.2.2.2.1 X.2.2.2.2.2.2.1 X.2.2.2.2.2.2.2.1 X.2.2.2.2.2.2.2.2.1 X.2.2.2.2.2.2.2.2.2.1 H locs X.2.2.2.2.2.2.2.2.2.2.2.1 X.2.2.2.2.2.2.2.2.2.2.2.2 0 0 (F0 X.2.2.2.2.2.1 pc ls st0) st (QcY G rv σ2 lm2 a) (AA G))
    (kk : WW X G nL σ2 lm2 (pc + 3) L (rv.toList ++ st)) : WW X G nL σ lm pc L st0 := by
  intro H locs ls hw hS hl T hT XX
  obtain ⟨v, st₀, t, T', Lc, h0, X', hL, e1, e2, ⟨⟨hv, hP2⟩, hz, hk⟩, stp⟩ := hr H locs ls hw hS hl T hT XX
  cases hv
  rw [h0] at hz hk
  obtain ⟨t2, a1, b1⟩ := kk T'.heap (locs ++ Lc) ls (by rw [e1]; exact hP2) ⟨Nat.le_trans hS.1 (by rw [e1]; exact hz), fun q h1 h2 => by
      rw [e1, hk q (Nat.lt_of_lt_of_le h1 hS.1) h2]
      exact hS.2.1 q h1 h2, fun q hq => by
      rcases List.mem_append.mp hq with h | h
      · exact hS.2.2 q h
      · exact hL q h⟩ hl T' rfl X'
  exact ⟨t2, stp t2 a1, b1⟩
theorem r_callV {y : MethodName} {b : ByteArray} {maxL n index o k N : Nat} {T : u_T} {ret : Option FieldType} {rm rmc : Room} {As st0 : List Value} {σ1 σ2 σ3 : Mm} {lm2 : Ml} {rv : Option Value} (hX : Cx X G own cc nL) (hR : rmX X = rmc) (hM : CM X.2.1 G y b maxL ret rm (.ref (gA G o 0) :: As) σ1 lm rv σ2 lm2) (h1 : σ1 = σ) (h2 : σ2 = σ3) (hF : MF y b maxL ret n) (hlk : Cond.methodLink own index y ∈ gT) (hin : Cond.instanceMethod y ∈ gT) (hse : Cond.selects y.cls y y ∈ gT) (ho : kdo o = k) (hc : cl8[k]? = some (y.cls, T, N)) (hrm : rm.cells = 0 ∧ rm.slots = 0 ∧ rm.frames + 1 ≤ rmc.frames ∧ 8 + (maxL + 11) + rm.locals ≤ rmc.locals) (hn : As.length = n) (hst : st0 = As.reverse ++ .ref (gA G o 0) :: st) (hw8 : (st.map fun v => v.category).sum ≤ 8)
    (hd : decode cc pc = .ok (.invokevirtual index, 3) ∧ pc + 3 = nx) (kk : WW X G nL σ3 lm2 nx L (rv.toList ++ st)) : WW X G nL σ lm pc L st0 := by
  obtain ⟨hd, rfl⟩ := hd
  subst h1
  subst h2
  subst hR
  obtain ⟨hx, hb, hml, hown, hts, hlo, hK⟩ := hX
  refine ww_call (rv := rv) (σ2 := σ2) (lm2 := lm2) (a := (Value.ref (gA G o 0) :: As).toArray) (fun H locs ls hw hS hl => ?_) kk
  have hk8 : k < 8 := (List.getElem?_eq_some_iff.mp hc).1
  obtain ⟨q0, hq⟩ := prs_in ho hk8 (c := 0) List.mem_cons_self
  have he := wl_at (G := G) (σ := σ1) (lm := lm) hq
  rw [ho] at he
  exact va_runV (C := y.cls) (Ts := gT) ⟨hx, hb, hml, hown, hts⟩ hM (cwV n hts (goodIn_g (fun w hw => by
      unfold wsV at hw
      rcases List.mem_append.mp hw with h | h
      · simp only [List.mem_cons, List.not_mem_nil, or_false] at h
        rcases h with rfl | rfl | rfl | rfl
        · exact hlk
        · exact hin
        · exact hse
        · exact hF.2.1
      · exact wsY_in hF.1 w h)) rfl hrm.1 hrm.2.1 ⟨rfl, hF.2.2⟩ hrm.2.2) ⟨pcY_blind, va_recv hK.1 hw hc he, pcY_pre hw hS hK⟩ rfl hn hl.1 hst (lv_room hw8) hd hlo.2
theorem r_callS {y : MethodName} {b : ByteArray} {maxL n index : Nat} {ret : Option FieldType} {rm rmc : Room} {As st0 : List Value} {σ1 σ2 σ3 : Mm} {lm2 : Ml} {rv : Option Value} (hX : Cx X G own cc nL) (hR : rmX X = rmc) (hM : CM X.2.1 G y b maxL ret rm As σ1 lm rv σ2 lm2) (h1 : σ1 = σ) (h2 : σ2 = σ3) (hF : MF y b maxL ret n) (hlk : Cond.methodLink own index y ∈ gT) (hsta : Cond.static y ∈ gT) (hrm : rm.cells = 0 ∧ rm.slots = 0 ∧ rm.frames + 1 ≤ rmc.frames ∧ 8 + (maxL + 11) + rm.locals ≤ rmc.locals) (hn : As.length = n) (hst : st0 = As.reverse ++ st) (hw8 : (st.map fun v => v.category).sum ≤ 8)
    (hd : decode cc pc = .ok (.invokestatic index, 3) ∧ pc + 3 = nx) (kk : WW X G nL σ3 lm2 nx L (rv.toList ++ st)) : WW X G nL σ lm pc L st0 := by
  obtain ⟨hd, rfl⟩ := hd
  subst h1
  subst h2
  subst hR
  obtain ⟨hx, hb, hml, hown, hts, hlo, hK⟩ := hX
  refine ww_call (rv := rv) (σ2 := σ2) (lm2 := lm2) (a := As.toArray) (fun H locs ls hw hS hl => ?_) kk
  exact va_runS (Ts := gT) ⟨hx, hb, hml, hown, hts⟩ hM ⟨callB_of n hts (goodIn_g (wsY_in hF.1)) rfl hrm.1 hrm.2.1 (hts _ hF.2.1) (hts _ hlk) hF.2.2 hrm.2.2, hts _ hsta⟩ ⟨pcY_blind, pcY_pre hw hS hK⟩ rfl hn hl.1 hst (lv_room hw8) hd hlo.2
theorem r_callVi {y : MethodName} {b : ByteArray} {maxL n index o k N : Nat} {T : u_T} {ret : Option FieldType} {rm rmc : Room} {As st0 : List Value} {σ1 σ2 σ3 : Mm} {lm2 : Ml} {v : Value} (hX : Cx X G own cc nL) (hR : rmX X = rmc) (hM : CM X.2.1 G y b maxL ret rm (.ref (gA G o 0) :: As) σ1 lm (some v) σ2 lm2) (h1 : σ1 = σ) (h2 : σ2 = σ3) (hF : MF y b maxL ret n) (hlk : Cond.methodLink own index y ∈ gT) (hin : Cond.instanceMethod y ∈ gT) (hse : Cond.selects y.cls y y ∈ gT) (ho : kdo o = k) (hc : cl8[k]? = some (y.cls, T, N)) (hrm : rm.cells = 0 ∧ rm.slots = 0 ∧ rm.frames + 1 ≤ rmc.frames ∧ 8 + (maxL + 11) + rm.locals ≤ rmc.locals) (hn : As.length = n) (hst : st0 = As.reverse ++ .ref (gA G o 0) :: st) (hw8 : (st.map fun v => v.category).sum ≤ 8)
    (hd : decode cc pc = .ok (.invokevirtual index, 3) ∧ pc + 3 = nx) (kk : WW X G nL σ3 lm2 nx L (v :: st)) : WW X G nL σ lm pc L st0 := r_callV (rv := some v) hX hR hM h1 h2 hF hlk hin hse ho hc hrm hn hst hw8 hd kk
theorem r_callVv {y : MethodName} {b : ByteArray} {maxL n index o k N : Nat} {T : u_T} {ret : Option FieldType} {rm rmc : Room} {As st0 : List Value} {σ1 σ2 σ3 : Mm} {lm2 : Ml} (hX : Cx X G own cc nL) (hR : rmX X = rmc) (hM : CM X.2.1 G y b maxL ret rm (.ref (gA G o 0) :: As) σ1 lm none σ2 lm2) (h1 : σ1 = σ) (h2 : σ2 = σ3) (hF : MF y b maxL ret n) (hlk : Cond.methodLink own index y ∈ gT) (hin : Cond.instanceMethod y ∈ gT) (hse : Cond.selects y.cls y y ∈ gT) (ho : kdo o = k) (hc : cl8[k]? = some (y.cls, T, N)) (hrm : rm.cells = 0 ∧ rm.slots = 0 ∧ rm.frames + 1 ≤ rmc.frames ∧ 8 + (maxL + 11) + rm.locals ≤ rmc.locals) (hn : As.length = n) (hst : st0 = As.reverse ++ .ref (gA G o 0) :: st) (hw8 : (st.map fun v => v.category).sum ≤ 8)
    (hd : decode cc pc = .ok (.invokevirtual index, 3) ∧ pc + 3 = nx) (kk : WW X G nL σ3 lm2 nx L st) : WW X G nL σ lm pc L st0 := r_callV (rv := none) hX hR hM h1 h2 hF hlk hin hse ho hc hrm hn hst hw8 hd kk
theorem r_callSi {y : MethodName} {b : ByteArray} {maxL n index : Nat} {ret : Option FieldType} {rm rmc : Room} {As st0 : List Value} {σ1 σ2 σ3 : Mm} {lm2 : Ml} {v : Value} (hX : Cx X G own cc nL) (hR : rmX X = rmc) (hM : CM X.2.1 G y b maxL ret rm As σ1 lm (some v) σ2 lm2) (h1 : σ1 = σ) (h2 : σ2 = σ3) (hF : MF y b maxL ret n) (hlk : Cond.methodLink own index y ∈ gT) (hsta : Cond.static y ∈ gT) (hrm : rm.cells = 0 ∧ rm.slots = 0 ∧ rm.frames + 1 ≤ rmc.frames ∧ 8 + (maxL + 11) + rm.locals ≤ rmc.locals) (hn : As.length = n) (hst : st0 = As.reverse ++ st) (hw8 : (st.map fun v => v.category).sum ≤ 8)
    (hd : decode cc pc = .ok (.invokestatic index, 3) ∧ pc + 3 = nx) (kk : WW X G nL σ3 lm2 nx L (v :: st)) : WW X G nL σ lm pc L st0 := r_callS (rv := some v) hX hR hM h1 h2 hF hlk hsta hrm hn hst hw8 hd kk

end Rows2
