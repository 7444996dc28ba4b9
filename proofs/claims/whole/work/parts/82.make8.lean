/-! making 8: from what was made to the world of both objects (by hand: wip/whole/make/rows82.txt) -/
/-- where an object's cell stands among those that were made: 32 is the reference -/
def rhO (o c : Nat) : Nat := match o with
  | 0 => 0 | 1 => 2 | 2 => 4 | 3 => 6 | 4 => 8 | 5 => 10 | 6 => 12 | 7 => 14 | 8 => 20 | 9 => 22 | 10 => 24 | 11 => 26 | 12 => 28 | 13 => 30 | 14 => 13 | 15 => 16
  | 16 => if c < 3 then 18 else 19
  | 17 => 32
  | _ => 33
def gM (a6 a7 : Nat → Nat → Nat) (x : Nat × Nat) : Nat := match x.1 with
  | 32 => a7 0 x.2
  | o => a6 o x.2
def aM (a6 a7 : Nat → Nat → Nat) (o c : Nat) : Nat := gM a6 a7 (rhO o c, c)
def prC : List (Nat × List Nat) := [(0, [0, 8]), (2, cls 5), (4, cls 5), (6, cls 5), (8, cls 2), (10, cls 2), (12, cls 3), (13, cls 1), (14, cls 1), (16, cls 0), (18, [0, 1, 2]), (19, [3, 4, 5, 6, 7, 8, 9]), (20, cls 1), (22, cls 1), (24, cls 1), (26, cls 1), (28, cls 1), (30, cls 1), (32, cls 7)]
def prW : List (Nat × Nat) := prC.flatMap fun x => x.2.map fun c => (x.1, c)
theorem prW_in : ∀ x ∈ prs, (rhO x.1 x.2, x.2) ∈ prW := by decide +kernel
theorem prs_rh : (prs.map fun x => (rhO x.1 x.2, x.2)).Nodup := by decide +kernel
abbrev w0M (gc : Nat → ClassId) (a6 a7 : Nat → Nat → Nat) : va_W := ([] ++ Bk_6 gc a6) ++ Bk_7 gc a7
theorem fstW (gc : Nat → ClassId) (a6 a7 : Nat → Nat → Nat) : (w0M gc a6 a7).map Prod.fst = prW.map (gM a6 a7) := by rfl
theorem gM_at {gc : Nat → ClassId} {a6 a7 : Nat → Nat → Nat} {i : Nat} {x : Nat × Nat} (h : prW[i]? = some x) : ∃ e : va_E, (w0M gc a6 a7)[i]? = some (gM a6 a7 x, e) := by
  have h1 : ((w0M gc a6 a7).map Prod.fst)[i]? = some (gM a6 a7 x) := by
    rw [fstW, List.getElem?_map, h]
    rfl
  rw [List.getElem?_map] at h1
  cases h2 : (w0M gc a6 a7)[i]? with
  | none => rw [h2] at h1; cases h1
  | some p =>
    rw [h2] at h1
    have e : p.1 = gM a6 a7 x := Option.some.inj h1
    rw [← e]
    exact ⟨p.2, rfl⟩
theorem inj_M {A : Nat → Prop} {gc gcc : Nat → ClassId} {D : va_G} {gx : Nat → Nat} {a6 a7 : Nat → Nat → Nat} (hD : va_D A (w0M gc a6 a7)) : Inj (aM a6 a7, D, gcc, gx) := by
  intro i j x y hi hj e
  obtain ⟨ix1, hx⟩ := List.getElem?_of_mem (prW_in x (List.mem_of_getElem? hi))
  obtain ⟨iy1, hy⟩ := List.getElem?_of_mem (prW_in y (List.mem_of_getElem? hj))
  obtain ⟨e1, h1⟩ := gM_at (gc := gc) (a6 := a6) (a7 := a7) hx
  obtain ⟨e2, h2⟩ := gM_at (gc := gc) (a6 := a6) (a7 := a7) hy
  have hij : ix1 = iy1 := hD.1 ix1 iy1 _ _ h1 h2 e
  subst hij
  have hr : (rhO x.1 x.2, x.2) = (rhO y.1 y.2, y.2) := Option.some.inj (hx.symm.trans hy)
  have hlt : i < (prs.map fun x => (rhO x.1 x.2, x.2)).length := by
    rw [List.length_map]
    exact (List.getElem?_eq_some_iff.mp hi).1
  refine (List.getElem?_inj hlt prs_rh).mp ?_
  rw [List.getElem?_map, List.getElem?_map, hi, hj]
  show some (rhO x.1 x.2, x.2) = some (rhO y.1 y.2, y.2)
  rw [hr]
theorem aa_M {A : Nat → Prop} {gc gcc : Nat → ClassId} {D : va_G} {gx : Nat → Nat} {a6 a7 : Nat → Nat → Nat} (hD : va_D A (w0M gc a6 a7)) : ∀ q : Nat, AA (aM a6 a7, D, gcc, gx) q → A q := by
  rintro q ⟨x, hx, rfl⟩
  obtain ⟨i, hi⟩ := List.getElem?_of_mem (prW_in x hx)
  obtain ⟨e, h⟩ := gM_at (gc := gc) (a6 := a6) (a7 := a7) hi
  exact hD.2 i _ h
/-- the memory of what was just made -/
def mW0 : Pm := fun c => match c with | 0 => (fun i => if i = 0 then 100 else 0) | _ => fun _ => 0
def mK0 : Pm := fun c => match c with | 0 => (fun i => if i = 0 then 10 else 0) | _ => fun _ => 0
def mZ0 : Pm := fun _ _ => 0
def mR0 : Pm := fun c => match c with | 0 => (fun i => if i = 4 then 14 else 0) | _ => fun _ => 0
def mX0 : Pm := fun c => match c with | 0 => (fun i => if i = 11 then -1 else if i = 12 then -1 else 0) | _ => fun _ => 0
def mT0 : Pm := fun c => match c with | 1 => (upd ((upd ((upd ((upd ((upd ((upd (fun _ => 0) 0 (-1))) 1 (-1))) 2 (-1))) 3 (-1))) 4 (-1))) 5 (-1)) | _ => fun _ => 0
def mP0 : Pm := fun c => match c with
  | 0 => (fun i => if i = 0 then 100 else if i = 14 then -1 else if i = 30 then -1 else if i = 31 then -1 else if i = 33 then 9999 else if i = 54 then -1 else 0)
  | 30 => (upd ((upd ((upd ((upd ((upd ((upd ((upd ((upd ((upd ((upd ((upd ((upd ((upd ((upd ((upd ((upd ((upd ((upd ((upd ((upd ((upd ((upd ((upd (fun _ => 0) 0 100)) 1 101)) 2 97)) 3 114)) 4 99)) 5 104)) 6 101)) 7 97)) 8 112)) 9 109)) 10 97)) 11 114)) 12 107)) 13 115)) 14 112)) 15 114)) 16 105)) 17 110)) 18 103)) 19 102)) 20 105)) 21 110)) 22 101)
  | 80 => (upd ((upd ((upd ((upd ((upd ((upd (fun _ => 0) 0 (-1))) 1 (-1))) 2 (-1))) 3 (-1))) 4 (-1))) 5 (-1))
  | _ => fun _ => 0
def mS0 : Mm := fun o => match o with
  | 0 => mX0 | 1 => mW0 | 2 => mW0 | 3 => mW0 | 4 => mZ0 | 5 => mZ0 | 6 => mR0 | 15 => mZ0 | 16 => mT0 | 17 => mP0
  | _ => mK0
def mL0 : Ml := fun _ _ _ => 0
theorem vat_5 {D : va_G} {H : Heap} {G : GE} {o : Nat} {Q : Pl} (h : ∀ q ∈ Bk_5 (gC G) (fun _ c => gA G o c), va_at D cl8 q H) : ∀ c ∈ cls 5, va_at D cl8 (gA G o c, eK 5 G o mW0 Q c) H := by
  have h0 := (List.forall_mem_cons.mp h).1
  have t0 := (List.forall_mem_cons.mp h).2
  have h1 := (List.forall_mem_cons.mp t0).1
  have t1 := (List.forall_mem_cons.mp t0).2
  have h2 := (List.forall_mem_cons.mp t1).1
  have t2 := (List.forall_mem_cons.mp t1).2
  have h3 := (List.forall_mem_cons.mp t2).1
  have t3 := (List.forall_mem_cons.mp t2).2
  have h4 := (List.forall_mem_cons.mp t3).1
  have t4 := (List.forall_mem_cons.mp t3).2
  have h5 := (List.forall_mem_cons.mp t4).1
  have t5 := (List.forall_mem_cons.mp t4).2
  have h6 := (List.forall_mem_cons.mp t5).1
  have t6 := (List.forall_mem_cons.mp t5).2
  have h7 := (List.forall_mem_cons.mp t6).1
  have t7 := (List.forall_mem_cons.mp t6).2
  have h8 := (List.forall_mem_cons.mp t7).1
  have t8 := (List.forall_mem_cons.mp t7).2
  have h9 := (List.forall_mem_cons.mp t8).1
  have t9 := (List.forall_mem_cons.mp t8).2
  have h10 := (List.forall_mem_cons.mp t9).1
  have t10 := (List.forall_mem_cons.mp t9).2
  exact List.forall_mem_cons.mpr ⟨h0, List.forall_mem_cons.mpr ⟨h1, List.forall_mem_cons.mpr ⟨h2, List.forall_mem_cons.mpr ⟨h3, List.forall_mem_cons.mpr ⟨h4, List.forall_mem_cons.mpr ⟨h5, List.forall_mem_cons.mpr ⟨h6, List.forall_mem_cons.mpr ⟨h7, List.forall_mem_cons.mpr ⟨h8, List.forall_mem_cons.mpr ⟨h9, List.forall_mem_cons.mpr ⟨h10, fun _ h => absurd h List.not_mem_nil⟩⟩⟩⟩⟩⟩⟩⟩⟩⟩⟩
theorem vat_2 {D : va_G} {H : Heap} {G : GE} {o : Nat} {Q : Pl} (h : ∀ q ∈ Bk_2 (gC G) (fun _ c => gA G o c), va_at D cl8 q H) : ∀ c ∈ cls 2, va_at D cl8 (gA G o c, eK 2 G o mZ0 Q c) H := by
  have h0 := (List.forall_mem_cons.mp h).1
  have t0 := (List.forall_mem_cons.mp h).2
  have h1 := (List.forall_mem_cons.mp t0).1
  have t1 := (List.forall_mem_cons.mp t0).2
  have h2 := (List.forall_mem_cons.mp t1).1
  have t2 := (List.forall_mem_cons.mp t1).2
  have h3 := (List.forall_mem_cons.mp t2).1
  have t3 := (List.forall_mem_cons.mp t2).2
  have h4 := (List.forall_mem_cons.mp t3).1
  have t4 := (List.forall_mem_cons.mp t3).2
  have h5 := (List.forall_mem_cons.mp t4).1
  have t5 := (List.forall_mem_cons.mp t4).2
  have h6 := (List.forall_mem_cons.mp t5).1
  have t6 := (List.forall_mem_cons.mp t5).2
  exact List.forall_mem_cons.mpr ⟨h0, List.forall_mem_cons.mpr ⟨h1, List.forall_mem_cons.mpr ⟨h2, List.forall_mem_cons.mpr ⟨h3, List.forall_mem_cons.mpr ⟨h4, List.forall_mem_cons.mpr ⟨h5, List.forall_mem_cons.mpr ⟨h6, fun _ h => absurd h List.not_mem_nil⟩⟩⟩⟩⟩⟩⟩
theorem vat_1 {D : va_G} {H : Heap} {G : GE} {o : Nat} {Q : Pl} (h : ∀ q ∈ Bk_1 (gC G) (fun _ c => gA G o c), va_at D cl8 q H) : ∀ c ∈ cls 1, va_at D cl8 (gA G o c, eK 1 G o mK0 Q c) H := by
  have h0 := (List.forall_mem_cons.mp h).1
  have t0 := (List.forall_mem_cons.mp h).2
  have h1 := (List.forall_mem_cons.mp t0).1
  have t1 := (List.forall_mem_cons.mp t0).2
  have h2 := (List.forall_mem_cons.mp t1).1
  have t2 := (List.forall_mem_cons.mp t1).2
  have h3 := (List.forall_mem_cons.mp t2).1
  have t3 := (List.forall_mem_cons.mp t2).2
  have h4 := (List.forall_mem_cons.mp t3).1
  have t4 := (List.forall_mem_cons.mp t3).2
  have h5 := (List.forall_mem_cons.mp t4).1
  have t5 := (List.forall_mem_cons.mp t4).2
  have h6 := (List.forall_mem_cons.mp t5).1
  have t6 := (List.forall_mem_cons.mp t5).2
  exact List.forall_mem_cons.mpr ⟨h0, List.forall_mem_cons.mpr ⟨h1, List.forall_mem_cons.mpr ⟨h2, List.forall_mem_cons.mpr ⟨h3, List.forall_mem_cons.mpr ⟨h4, List.forall_mem_cons.mpr ⟨h5, List.forall_mem_cons.mpr ⟨h6, fun _ h => absurd h List.not_mem_nil⟩⟩⟩⟩⟩⟩⟩
theorem vat_0 {D : va_G} {H : Heap} {G : GE} {o : Nat} {Q : Pl} (h : ∀ q ∈ Bk_0 (gC G) (fun _ c => gA G o c), va_at D cl8 q H) : ∀ c ∈ cls 0, va_at D cl8 (gA G o c, eK 0 G o mZ0 Q c) H := by
  have h0 := (List.forall_mem_cons.mp h).1
  have t0 := (List.forall_mem_cons.mp h).2
  have h1 := (List.forall_mem_cons.mp t0).1
  have t1 := (List.forall_mem_cons.mp t0).2
  exact List.forall_mem_cons.mpr ⟨h0, List.forall_mem_cons.mpr ⟨h1, fun _ h => absurd h List.not_mem_nil⟩⟩
set_option maxRecDepth 20000 in
theorem vat_7 {D : va_G} {H : Heap} {G : GE} {o : Nat} (h : ∀ q ∈ Bk_7 (gC G) (fun _ c => gA G o c), va_at D cl8 q H) : ∀ c ∈ cls 7, va_at D cl8 (gA G o c, eK 7 G o mP0 (fun _ _ => 0) c) H := by
  have h0 := (List.forall_mem_cons.mp h).1
  have t0 := (List.forall_mem_cons.mp h).2
  have h1 := (List.forall_mem_cons.mp t0).1
  have t1 := (List.forall_mem_cons.mp t0).2
  have h2 := (List.forall_mem_cons.mp t1).1
  have t2 := (List.forall_mem_cons.mp t1).2
  have h3 := (List.forall_mem_cons.mp t2).1
  have t3 := (List.forall_mem_cons.mp t2).2
  have h4 := (List.forall_mem_cons.mp t3).1
  have t4 := (List.forall_mem_cons.mp t3).2
  have h5 := (List.forall_mem_cons.mp t4).1
  have t5 := (List.forall_mem_cons.mp t4).2
  have h6 := (List.forall_mem_cons.mp t5).1
  have t6 := (List.forall_mem_cons.mp t5).2
  have h7 := (List.forall_mem_cons.mp t6).1
  have t7 := (List.forall_mem_cons.mp t6).2
  have h8 := (List.forall_mem_cons.mp t7).1
  have t8 := (List.forall_mem_cons.mp t7).2
  have h9 := (List.forall_mem_cons.mp t8).1
  have t9 := (List.forall_mem_cons.mp t8).2
  have h10 := (List.forall_mem_cons.mp t9).1
  have t10 := (List.forall_mem_cons.mp t9).2
  have h11 := (List.forall_mem_cons.mp t10).1
  have t11 := (List.forall_mem_cons.mp t10).2
  have h12 := (List.forall_mem_cons.mp t11).1
  have t12 := (List.forall_mem_cons.mp t11).2
  have h13 := (List.forall_mem_cons.mp t12).1
  have t13 := (List.forall_mem_cons.mp t12).2
  have h14 := (List.forall_mem_cons.mp t13).1
  have t14 := (List.forall_mem_cons.mp t13).2
  have h15 := (List.forall_mem_cons.mp t14).1
  have t15 := (List.forall_mem_cons.mp t14).2
  have h16 := (List.forall_mem_cons.mp t15).1
  have t16 := (List.forall_mem_cons.mp t15).2
  have h17 := (List.forall_mem_cons.mp t16).1
  have t17 := (List.forall_mem_cons.mp t16).2
  have h18 := (List.forall_mem_cons.mp t17).1
  have t18 := (List.forall_mem_cons.mp t17).2
  have h19 := (List.forall_mem_cons.mp t18).1
  have t19 := (List.forall_mem_cons.mp t18).2
  have h20 := (List.forall_mem_cons.mp t19).1
  have t20 := (List.forall_mem_cons.mp t19).2
  have h21 := (List.forall_mem_cons.mp t20).1
  have t21 := (List.forall_mem_cons.mp t20).2
  have h22 := (List.forall_mem_cons.mp t21).1
  have t22 := (List.forall_mem_cons.mp t21).2
  have h23 := (List.forall_mem_cons.mp t22).1
  have t23 := (List.forall_mem_cons.mp t22).2
  have h24 := (List.forall_mem_cons.mp t23).1
  have t24 := (List.forall_mem_cons.mp t23).2
  have h25 := (List.forall_mem_cons.mp t24).1
  have t25 := (List.forall_mem_cons.mp t24).2
  have h26 := (List.forall_mem_cons.mp t25).1
  have t26 := (List.forall_mem_cons.mp t25).2
  have h27 := (List.forall_mem_cons.mp t26).1
  have t27 := (List.forall_mem_cons.mp t26).2
  have h28 := (List.forall_mem_cons.mp t27).1
  have t28 := (List.forall_mem_cons.mp t27).2
  have h29 := (List.forall_mem_cons.mp t28).1
  have t29 := (List.forall_mem_cons.mp t28).2
  have h30 := (List.forall_mem_cons.mp t29).1
  have t30 := (List.forall_mem_cons.mp t29).2
  have h31 := (List.forall_mem_cons.mp t30).1
  have t31 := (List.forall_mem_cons.mp t30).2
  have h32 := (List.forall_mem_cons.mp t31).1
  have t32 := (List.forall_mem_cons.mp t31).2
  have h33 := (List.forall_mem_cons.mp t32).1
  have t33 := (List.forall_mem_cons.mp t32).2
  have h34 := (List.forall_mem_cons.mp t33).1
  have t34 := (List.forall_mem_cons.mp t33).2
  have h35 := (List.forall_mem_cons.mp t34).1
  have t35 := (List.forall_mem_cons.mp t34).2
  have h36 := (List.forall_mem_cons.mp t35).1
  have t36 := (List.forall_mem_cons.mp t35).2
  have h37 := (List.forall_mem_cons.mp t36).1
  have t37 := (List.forall_mem_cons.mp t36).2
  have h38 := (List.forall_mem_cons.mp t37).1
  have t38 := (List.forall_mem_cons.mp t37).2
  have h39 := (List.forall_mem_cons.mp t38).1
  have t39 := (List.forall_mem_cons.mp t38).2
  have h40 := (List.forall_mem_cons.mp t39).1
  have t40 := (List.forall_mem_cons.mp t39).2
  have h41 := (List.forall_mem_cons.mp t40).1
  have t41 := (List.forall_mem_cons.mp t40).2
  have h42 := (List.forall_mem_cons.mp t41).1
  have t42 := (List.forall_mem_cons.mp t41).2
  have h43 := (List.forall_mem_cons.mp t42).1
  have t43 := (List.forall_mem_cons.mp t42).2
  have h44 := (List.forall_mem_cons.mp t43).1
  have t44 := (List.forall_mem_cons.mp t43).2
  have h45 := (List.forall_mem_cons.mp t44).1
  have t45 := (List.forall_mem_cons.mp t44).2
  have h46 := (List.forall_mem_cons.mp t45).1
  have t46 := (List.forall_mem_cons.mp t45).2
  have h47 := (List.forall_mem_cons.mp t46).1
  have t47 := (List.forall_mem_cons.mp t46).2
  have h48 := (List.forall_mem_cons.mp t47).1
  have t48 := (List.forall_mem_cons.mp t47).2
  have h49 := (List.forall_mem_cons.mp t48).1
  have t49 := (List.forall_mem_cons.mp t48).2
  have h50 := (List.forall_mem_cons.mp t49).1
  have t50 := (List.forall_mem_cons.mp t49).2
  have h51 := (List.forall_mem_cons.mp t50).1
  have t51 := (List.forall_mem_cons.mp t50).2
  have h52 := (List.forall_mem_cons.mp t51).1
  have t52 := (List.forall_mem_cons.mp t51).2
  have h53 := (List.forall_mem_cons.mp t52).1
  have t53 := (List.forall_mem_cons.mp t52).2
  have h54 := (List.forall_mem_cons.mp t53).1
  have t54 := (List.forall_mem_cons.mp t53).2
  exact List.forall_mem_cons.mpr ⟨h0, List.forall_mem_cons.mpr ⟨h1, List.forall_mem_cons.mpr ⟨h2, List.forall_mem_cons.mpr ⟨h3, List.forall_mem_cons.mpr ⟨h4, List.forall_mem_cons.mpr ⟨h5, List.forall_mem_cons.mpr ⟨h6, List.forall_mem_cons.mpr ⟨h7, List.forall_mem_cons.mpr ⟨h8, List.forall_mem_cons.mpr ⟨h9, List.forall_mem_cons.mpr ⟨h10, List.forall_mem_cons.mpr ⟨h11, List.forall_mem_cons.mpr ⟨h12, List.forall_mem_cons.mpr ⟨h13, List.forall_mem_cons.mpr ⟨h14, List.forall_mem_cons.mpr ⟨h15, List.forall_mem_cons.mpr ⟨h16, List.forall_mem_cons.mpr ⟨h17, List.forall_mem_cons.mpr ⟨h18, List.forall_mem_cons.mpr ⟨h19, List.forall_mem_cons.mpr ⟨h20, List.forall_mem_cons.mpr ⟨h21, List.forall_mem_cons.mpr ⟨h22, List.forall_mem_cons.mpr ⟨h23, List.forall_mem_cons.mpr ⟨h24, List.forall_mem_cons.mpr ⟨h25, List.forall_mem_cons.mpr ⟨h26, List.forall_mem_cons.mpr ⟨h27, List.forall_mem_cons.mpr ⟨h28, List.forall_mem_cons.mpr ⟨h29, List.forall_mem_cons.mpr ⟨h30, List.forall_mem_cons.mpr ⟨h31, List.forall_mem_cons.mpr ⟨h32, List.forall_mem_cons.mpr ⟨h33, List.forall_mem_cons.mpr ⟨h34, List.forall_mem_cons.mpr ⟨h35, List.forall_mem_cons.mpr ⟨h36, List.forall_mem_cons.mpr ⟨h37, List.forall_mem_cons.mpr ⟨h38, List.forall_mem_cons.mpr ⟨h39, List.forall_mem_cons.mpr ⟨h40, List.forall_mem_cons.mpr ⟨h41, List.forall_mem_cons.mpr ⟨h42, List.forall_mem_cons.mpr ⟨h43, List.forall_mem_cons.mpr ⟨h44, List.forall_mem_cons.mpr ⟨h45, List.forall_mem_cons.mpr ⟨h46, List.forall_mem_cons.mpr ⟨h47, List.forall_mem_cons.mpr ⟨h48, List.forall_mem_cons.mpr ⟨h49, List.forall_mem_cons.mpr ⟨h50, List.forall_mem_cons.mpr ⟨h51, List.forall_mem_cons.mpr ⟨h52, List.forall_mem_cons.mpr ⟨h53, List.forall_mem_cons.mpr ⟨h54, fun _ h => absurd h List.not_mem_nil⟩⟩⟩⟩⟩⟩⟩⟩⟩⟩⟩⟩⟩⟩⟩⟩⟩⟩⟩⟩⟩⟩⟩⟩⟩⟩⟩⟩⟩⟩⟩⟩⟩⟩⟩⟩⟩⟩⟩⟩⟩⟩⟩⟩⟩⟩⟩⟩⟩⟩⟩⟩⟩⟩⟩
theorem mem_P {D : va_G} {ws : va_W} {H : Heap} (h : va_P D cl8 ws H) : ∀ q ∈ ws, va_at D cl8 q H := by
  intro q hq
  obtain ⟨k, hk⟩ := List.getElem?_of_mem hq
  exact h k q hk
/-- the reader, without its country -/
theorem vat_3 {D : va_G} {H : Heap} {G : GE} {Q : Pl} {a : Nat → Nat → Nat} (h : ∀ q ∈ Bk_3 (gC G) a, va_at D cl8 q H) (h0 : gA G 6 0 = a 0 0) (h4 : gA G 6 4 = a 0 4) (h14 : gA G 14 0 = a 1 0) : ∀ c ∈ cls 3, va_at D cl8 (gA G 6 c, eK 3 G 6 mR0 Q c) H := by
  have x0 := (List.forall_mem_cons.mp h).1
  have x4 := (List.forall_mem_cons.mp (List.forall_mem_cons.mp h).2).1
  refine List.forall_mem_cons.mpr ⟨?_, List.forall_mem_cons.mpr ⟨?_, fun _ h => absurd h List.not_mem_nil⟩⟩
  · show va_at D cl8 (gA G 6 0, .inr (3, [.int 0, .int 0, .int 0, .ref (gA G 6 4), .ref (gA G 14 0)])) H
    rw [h0, h4, h14]
    exact x0
  · show va_at D cl8 (gA G 6 4, .inl (gC G 0, 100, .inl fun _ => 0)) H
    rw [h4]
    exact x4
theorem vat_4 {D : va_G} {H : Heap} {G : GE} {a : Nat → Nat → Nat} (h : ∀ q ∈ Bk_4 (gC G) a, va_at D cl8 q H) (h0 : ∀ c, c < 3 → gA G 16 c = a 0 c) (h1 : ∀ c, ¬ c < 3 → gA G 16 c = a 1 c) : ∀ c ∈ cls 4, va_at D cl8 (gA G 16 c, eK 4 G 16 mT0 (fun _ _ => 0) c) H := by
  have x0 := (List.forall_mem_cons.mp h).1
  have t0 := (List.forall_mem_cons.mp h).2
  have x1 := (List.forall_mem_cons.mp t0).1
  have t1 := (List.forall_mem_cons.mp t0).2
  have x2 := (List.forall_mem_cons.mp t1).1
  have t2 := (List.forall_mem_cons.mp t1).2
  have x3 := (List.forall_mem_cons.mp t2).1
  have t3 := (List.forall_mem_cons.mp t2).2
  have x4 := (List.forall_mem_cons.mp t3).1
  have t4 := (List.forall_mem_cons.mp t3).2
  have x5 := (List.forall_mem_cons.mp t4).1
  have t5 := (List.forall_mem_cons.mp t4).2
  have x6 := (List.forall_mem_cons.mp t5).1
  have t6 := (List.forall_mem_cons.mp t5).2
  have x7 := (List.forall_mem_cons.mp t6).1
  have t7 := (List.forall_mem_cons.mp t6).2
  have x8 := (List.forall_mem_cons.mp t7).1
  have t8 := (List.forall_mem_cons.mp t7).2
  have x9 := (List.forall_mem_cons.mp t8).1
  have g0 := h0 0 (by decide)
  have g1 := h0 1 (by decide)
  have g2 := h0 2 (by decide)
  have g3 := h1 3 (by decide)
  have g4 := h1 4 (by decide)
  have g5 := h1 5 (by decide)
  have g6 := h1 6 (by decide)
  have g7 := h1 7 (by decide)
  have g8 := h1 8 (by decide)
  have g9 := h1 9 (by decide)
  have gj : (fun j => some (gA G 16 (4 + j))) = fun j => some (a 1 (4 + j)) := funext fun j => congrArg some (h1 (4 + j) (by omega))
  refine List.forall_mem_cons.mpr ⟨?_, List.forall_mem_cons.mpr ⟨?_, List.forall_mem_cons.mpr ⟨?_, List.forall_mem_cons.mpr ⟨?_, List.forall_mem_cons.mpr ⟨?_, List.forall_mem_cons.mpr ⟨?_, List.forall_mem_cons.mpr ⟨?_, List.forall_mem_cons.mpr ⟨?_, List.forall_mem_cons.mpr ⟨?_, List.forall_mem_cons.mpr ⟨?_, fun _ h => absurd h List.not_mem_nil⟩⟩⟩⟩⟩⟩⟩⟩⟩⟩
  · show va_at D cl8 (gA G 16 0, .inr (4, [.ref (gA G 16 1), .ref (gA G 16 2), .ref (gA G 16 3)])) H
    rw [g0, g1, g2, g3]
    exact x0
  · show va_at D cl8 (gA G 16 1, _) H
    rw [g1]
    exact x1
  · show va_at D cl8 (gA G 16 2, _) H
    rw [g2]
    exact x2
  · show va_at D cl8 (gA G 16 3, .inl (gC G 4, 6, .inr (.inr (.inr (.inr (fun j => some (gA G 16 (4 + j)))))))) H
    rw [g3, gj]
    exact x3
  · show va_at D cl8 (gA G 16 4, _) H
    rw [g4]
    exact x4
  · show va_at D cl8 (gA G 16 5, _) H
    rw [g5]
    exact x5
  · show va_at D cl8 (gA G 16 6, _) H
    rw [g6]
    exact x6
  · show va_at D cl8 (gA G 16 7, _) H
    rw [g7]
    exact x7
  · show va_at D cl8 (gA G 16 8, _) H
    rw [g8]
    exact x8
  · show va_at D cl8 (gA G 16 9, _) H
    rw [g9]
    exact x9
