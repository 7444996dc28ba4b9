/-! making 9: the world of both objects stands (by hand) -/
theorem wl_M {D : va_G} {H : Heap} {gc : Nat → ClassId} {gx : Nat → Nat} {a6 a7 : Nat → Nat → Nat} (h : va_P D cl8 (w0M gc a6 a7) H) : va_P D cl8 (wl (aM a6 a7, D, gc, gx) mS0 mL0) H := by
  obtain ⟨m6, m7⟩ := List.forall_mem_append.mp (mem_P h)
  have m6 : ∀ q ∈ Bk_6 gc a6, va_at D cl8 q H := m6
  have z0 := (List.forall_mem_cons.mp m6).1
  have y0 := (List.forall_mem_cons.mp m6).2
  have z1 := (List.forall_mem_cons.mp y0).1
  have r15 := (List.forall_mem_cons.mp y0).2
  obtain ⟨r14, b15⟩ := List.forall_mem_append.mp r15
  obtain ⟨r13, b14⟩ := List.forall_mem_append.mp r14
  obtain ⟨r12, b13⟩ := List.forall_mem_append.mp r13
  obtain ⟨r11, b12⟩ := List.forall_mem_append.mp r12
  obtain ⟨r10, b11⟩ := List.forall_mem_append.mp r11
  obtain ⟨r9, b10⟩ := List.forall_mem_append.mp r10
  obtain ⟨r8, b9⟩ := List.forall_mem_append.mp r9
  obtain ⟨r7, b8⟩ := List.forall_mem_append.mp r8
  obtain ⟨r6, b7⟩ := List.forall_mem_append.mp r7
  obtain ⟨r5, b6⟩ := List.forall_mem_append.mp r6
  obtain ⟨r4, b5⟩ := List.forall_mem_append.mp r5
  obtain ⟨r3, b4⟩ := List.forall_mem_append.mp r4
  obtain ⟨r2, b3⟩ := List.forall_mem_append.mp r3
  obtain ⟨r1, b2⟩ := List.forall_mem_append.mp r2
  obtain ⟨r0, b1⟩ := List.forall_mem_append.mp r1
  have b6a : ∀ q ∈ Bk_1 gc (fun _ c => a6 13 c), va_at D cl8 q H := fun q hq => b6 q (List.mem_cons_of_mem _ (List.mem_append_right _ hq))
  generalize hG : ((aM a6 a7, D, gc, gx) : GE) = G
  have key : ∀ o : Nat, o < 18 → ∀ c ∈ cls (kdo o), va_at D cl8 (gA G o c, eK (kdo o) G o (mS0 o) (mL0 o) c) H := by
    intro o ho
    subst hG
    match o, ho with
    | 0, _ =>
      refine List.forall_mem_cons.mpr ⟨z0, List.forall_mem_cons.mpr ⟨?_, fun _ h => absurd h List.not_mem_nil⟩⟩
      refine Eq.trans z1 (congrArg some ?_)
      show vp_cell _ _ = vp_cell _ (6, .inr (.inr (.inr (.inr (fun j => some (gA (aM a6 a7, D, gc, gx) (8 + j) 0))))))
      rw [vp_cell_q, vp_cell_q]
      refine arrV_cg (fun j hj => ?_)
      match j, hj with
      | 0, _ => rfl
      | 1, _ => rfl
      | 2, _ => rfl
      | 3, _ => rfl
      | 4, _ => rfl
      | 5, _ => rfl
    | 1, _ => exact vat_5 (G := (aM a6 a7, D, gc, gx)) (o := 1) (Q := mL0 1) b1
    | 2, _ => exact vat_5 (G := (aM a6 a7, D, gc, gx)) (o := 2) (Q := mL0 2) b2
    | 3, _ => exact vat_5 (G := (aM a6 a7, D, gc, gx)) (o := 3) (Q := mL0 3) b3
    | 4, _ => exact vat_2 (G := (aM a6 a7, D, gc, gx)) (o := 4) (Q := mL0 4) b4
    | 5, _ => exact vat_2 (G := (aM a6 a7, D, gc, gx)) (o := 5) (Q := mL0 5) b5
    | 6, _ => exact vat_3 (G := (aM a6 a7, D, gc, gx)) (Q := mL0 6) b6 rfl rfl rfl
    | 7, _ => exact vat_1 (G := (aM a6 a7, D, gc, gx)) (o := 7) (Q := mL0 7) b7
    | 8, _ => exact vat_1 (G := (aM a6 a7, D, gc, gx)) (o := 8) (Q := mL0 8) b10
    | 9, _ => exact vat_1 (G := (aM a6 a7, D, gc, gx)) (o := 9) (Q := mL0 9) b11
    | 10, _ => exact vat_1 (G := (aM a6 a7, D, gc, gx)) (o := 10) (Q := mL0 10) b12
    | 11, _ => exact vat_1 (G := (aM a6 a7, D, gc, gx)) (o := 11) (Q := mL0 11) b13
    | 12, _ => exact vat_1 (G := (aM a6 a7, D, gc, gx)) (o := 12) (Q := mL0 12) b14
    | 13, _ => exact vat_1 (G := (aM a6 a7, D, gc, gx)) (o := 13) (Q := mL0 13) b15
    | 14, _ => exact vat_1 (G := (aM a6 a7, D, gc, gx)) (o := 14) (Q := mL0 14) b6a
    | 15, _ => exact vat_0 (G := (aM a6 a7, D, gc, gx)) (o := 15) (Q := mL0 15) b8
    | 16, _ => exact vat_4 (G := (aM a6 a7, D, gc, gx)) b9 (fun c hc => by show gM a6 a7 (if c < 3 then 18 else 19, c) = _; rw [if_pos hc]; rfl) (fun c hc => by show gM a6 a7 (if c < 3 then 18 else 19, c) = _; rw [if_neg hc]; rfl)
    | 17, _ => exact vat_7 (G := (aM a6 a7, D, gc, gx)) (o := 17) m7
    | n + 18, ho => exact absurd ho (by omega)
  intro k q hk
  unfold wl at hk
  rw [List.getElem?_map] at hk
  cases hx : prs[k]? with
  | none => rw [hx] at hk; cases hk
  | some x =>
    rw [hx] at hk
    cases hk
    obtain ⟨o, ho, hc⟩ := List.mem_flatMap.mp (List.mem_of_getElem? hx)
    obtain ⟨c, hc2, rfl⟩ := List.mem_map.mp hc
    exact key o (List.mem_range.mp ho) c hc2
