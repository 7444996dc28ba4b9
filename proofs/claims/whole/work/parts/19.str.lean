/-! the text constants: the JDK's own methods on them -/
def sLen (k : Nat) : Int32 := nI (sLn.getD k 0)
def sChr (k j : Nat) : Int32 := ((((sBy.getD k []).getD j 0) &&& 255).toUInt32 % 65536).toInt32
theorem slen_sh {k : Nat} (hk : k < 7) : nI (sLn.getD k 0) >>> ((0 : Int32) &&& 31) = sLen k := by
  rcases (show k = 0 ∨ k = 1 ∨ k = 2 ∨ k = 3 ∨ k = 4 ∨ k = 5 ∨ k = 6 by omega) with rfl | rfl | rfl | rfl | rfl | rfl | rfl <;> decide
theorem sln_lt {k : Nat} (hk : k < 7) : sLn.getD k 0 < 2 ^ 31 := by
  rcases (show k = 0 ∨ k = 1 ∨ k = 2 ∨ k = 3 ∨ k = 4 ∨ k = 5 ∨ k = 6 by omega) with rfl | rfl | rfl | rfl | rfl | rfl | rfl <;> decide
def strR (r : Room) : Bool := Nat.ble 8 r.frames && Nat.ble 400 r.locals
theorem strR_e {r : Room} (h : strR r = true) : 8 ≤ r.frames ∧ 400 ≤ r.locals := by
  unfold strR at h
  rw [Bool.and_eq_true] at h
  exact ⟨Nat.le_of_ble_eq_true h.1, Nat.le_of_ble_eq_true h.2⟩
abbrev rmN (n : Nat) : Room := { frames := n, cells := 0, slots := 0, locals := 40 * n }
section Str
variable {X : MX} {G : GE} {own : String} {cc : ByteArray} {nL : Nat} {σ : Mm} {lm : Ml} {pc nx : Nat} {L : List (Nat × Value)} {st : List Value}
theorem r_gstC (hX : Cx X G zRJ0 cc nL) (hd : decode cc pc = .ok (.getstatic 38, 3) ∧ pc + 3 = nx) (kk : WW X G nL σ lm nx L (.int 1 :: st)) : WW X G nL σ lm pc L st := by
  intro H locs ls hw hS hl
  obtain ⟨hx, hb, hml, hown, hts, hlo, hK, hI, hSF, hR, hN⟩ := hX
  obtain ⟨hd, rfl⟩ := hd
  exact va_gets hx hb hSF.2.2.2.2.1 hS hown (hts _ fl_J0_38) (fun _ h => h) hd (kk H locs ls hw hS hl)
theorem r_gstF (hX : Cx X G zRJ0 cc nL) (hd : decode cc pc = .ok (.getstatic 1053, 3) ∧ pc + 3 = nx) (k0 : WW X G nL σ lm nx L (.null :: st)) (k1 : ∀ t, WW X G nL σ lm nx L (.ref t :: st)) : WW X G nL σ lm pc L st := by
  intro H locs ls hw hS hl
  obtain ⟨hx, hb, hml, hown, hts, hlo, hK, hI, hSF, hR, hN⟩ := hX
  obtain ⟨hd, rfl⟩ := hd
  rcases hSF.2.2.2.2.2.1 with h | ⟨t, h⟩
  · exact va_gets hx hb h hS hown (hts _ fl_J0_1053) (fun _ h => h) hd (k0 H locs ls hw hS hl)
  · exact va_gets hx hb h hS hown (hts _ fl_J0_1053) (fun _ h => h) hd (k1 t H locs ls hw hS hl)
theorem r_sgv {k : Nat} (hk : k < 7) (hX : Cx X G zRJ0 cc nL) (hd : decode cc pc = .ok (.getfield 9, 3) ∧ pc + 3 = nx) (kk : WW X G nL σ lm nx L (.ref (gX G (20 + k)) :: st)) : WW X G nL σ lm pc L (.ref (gX G (10 + k)) :: st) := by
  intro H locs ls hw hS hl
  obtain ⟨hx, hb, hml, hown, hts, hlo, hK, hI, hSF, hR, hN⟩ := hX
  obtain ⟨hd, rfl⟩ := hd
  exact vk_getf hx hb (hSF.2.2.2.2.2.2.1 k hk).2.2.1 hS hown (hts _ fl_J0_9) (fun _ h => h) hd (kk H locs ls hw hS hl)
theorem r_sgc {k : Nat} (hk : k < 7) (hX : Cx X G zRJ0 cc nL) (hd : decode cc pc = .ok (.getfield 15, 3) ∧ pc + 3 = nx) (kk : WW X G nL σ lm nx L (.int 0 :: st)) : WW X G nL σ lm pc L (.ref (gX G (10 + k)) :: st) := by
  intro H locs ls hw hS hl
  obtain ⟨hx, hb, hml, hown, hts, hlo, hK, hI, hSF, hR, hN⟩ := hX
  obtain ⟨hd, rfl⟩ := hd
  exact vk_getf hx hb (hSF.2.2.2.2.2.2.1 k hk).2.1 hS hown (hts _ fl_J0_15) (fun _ h => h) hd (kk H locs ls hw hS hl)
theorem r_sal {k : Nat} (hk : k < 7) (hX : Cx X G own cc nL) (hd : decode cc pc = .ok (.arraylength, 1) ∧ pc + 1 = nx) (kk : WW X G nL σ lm nx L (.int (nI (sLn.getD k 0)) :: st)) : WW X G nL σ lm pc L (.ref (gX G (20 + k)) :: st) := by
  intro H locs ls hw hS hl
  obtain ⟨hx, hb, hml, hown, hts, hlo, hK, hI, hSF, hR, hN⟩ := hX
  obtain ⟨hd, rfl⟩ := hd
  exact va_tlen hx hb (hSF.2.2.2.2.2.2.1 k hk).2.2.2 hS rfl hd (kk H locs ls hw hS hl)
theorem r_sba {k : Nat} {i : Int32} (hk : k < 7) (hi : inb i (sLn.getD k 0) = true) (hX : Cx X G own cc nL) (hd : decode cc pc = .ok (.baload, 1) ∧ pc + 1 = nx) (kk : WW X G nL σ lm nx L (.int ((sBy.getD k []).getD (ix i) 0) :: st)) : WW X G nL σ lm pc L (.int i :: .ref (gX G (20 + k)) :: st) := by
  intro H locs ls hw hS hl
  obtain ⟨hx, hb, hml, hown, hts, hlo, hK, hI, hSF, hR, hN⟩ := hX
  obtain ⟨hd, rfl⟩ := hd
  exact va_tb hx hb (hSF.2.2.2.2.2.2.1 k hk).2.2.2 hS (inb_in hi) rfl hd (kk H locs ls hw hS hl)
theorem r_ldcS {k index : Nat} {tx : String} (hX : Cx X G zR3 cc nL) (hq : sTx[k]? = some (index, tx)) (hd : decode cc pc = .ok (.ldc index, 2) ∧ pc + 2 = nx) (kk : WW X G nL σ lm nx L (.ref (gX G (10 + k)) :: st)) : WW X G nL σ lm pc L st := by
  intro H locs ls hw hS hl
  obtain ⟨hx, hb, hml, hown, hts, hlo, hK, hI, hSF, hR, hN⟩ := hX
  obtain ⟨hd, rfl⟩ := hd
  exact va_ldcS hx hb hown (hR k _ hq) hd (kk H locs ls hw hS hl)
/-- the end of a method that answers a byte, a char -/
theorem r_nret {v : Int32} {ty : FieldType} (hn : narrow ty (.int v) = .int v) (hX : Cx X G own cc nL) (hQ : isQ X G (some ty) (some (.int v)) σ lm) (hd : decode cc pc = .ok (.ireturn, 1)) : WW X G nL σ lm pc L [.int v] := by
  intro H locs ls hw hS hl
  rw [hQ.2]
  exact W.zret hX.1 hX.2.1 hQ.1 hn (fun t ht hW => ⟨⟨rfl, by rw [ht]; exact hw⟩, hS.F ht⟩) hS.2.2 hd hX.2.2.2.2.2.1.1
theorem r_callT {y : MethodName} {b : ByteArray} {maxL n index k : Nat} {ret : Option FieldType} {rm rmc : Room} {As st0 : List Value} {lm2 : Ml} {σ2 : Mm} {v : Value} (hk : k < 7) (hX : Cx X G own cc nL) (hR : rmX X = rmc) (hM : CM X.2.1 G y b maxL ret rm (.ref (gX G (10 + k)) :: As) σ lm (some v) σ2 lm2) (hF : MF y b maxL ret n) (hlk : Cond.methodLink own index y ∈ gT) (hin : Cond.instanceMethod y ∈ gT) (hse : Cond.selects y.cls y y ∈ gT) (hcl : y.cls = "java/lang/String") (hrm : rm.cells = 0 ∧ rm.slots = 0 ∧ rm.frames + 1 ≤ rmc.frames ∧ 8 + (maxL + 11) + rm.locals ≤ rmc.locals) (hn : As.length = n) (hst : st0 = As.reverse ++ .ref (gX G (10 + k)) :: st) (hw8 : (st.map fun v => v.category).sum ≤ 8)
    (hd : decode cc pc = .ok (.invokevirtual index, 3) ∧ pc + 3 = nx) (kk : WW X G nL σ2 lm2 nx L (v :: st)) : WW X G nL σ lm pc L st0 := by
  obtain ⟨hd, rfl⟩ := hd
  subst hR
  obtain ⟨hx, hb, hml, hown, hts, hlo, hK⟩ := hX
  refine ww_call (rv := some v) (σ2 := σ2) (lm2 := lm2) (a := (Value.ref (gX G (10 + k)) :: As).toArray) (fun H locs ls hw hS hl => ?_) kk
  exact va_runV (C := y.cls) (Ts := gT) ⟨hx, hb, hml, hown, hts⟩ hM (cwV n hts (goodIn_g (fun w hw => by
      unfold wsV at hw
      rcases List.mem_append.mp hw with h | h
      · simp only [List.mem_cons, List.not_mem_nil, or_false] at h
        rcases h with rfl | rfl | rfl | rfl
        · exact hlk
        · exact hin
        · exact hse
        · exact hF.2.1
      · exact wsY_in hF.1 w h)) rfl hrm.1 hrm.2.1 ⟨rfl, hF.2.2⟩ hrm.2.2) ⟨pcY_blind, by rw [hcl]; exact vk_recv (adK := fun k => gX G (10 + k)) (i := k) hK.2.2.1.2.2.2.2.2.2 hk hS, pcY_pre hw hS hK⟩ rfl hn hl.1 hst (lv_room hw8) hd hlo.2
theorem r_callS0 {y : MethodName} {b : ByteArray} {maxL n index : Nat} {ret : Option FieldType} {rm rmc : Room} {As st0 : List Value} (hX : Cx X G own cc nL) (hR : rmX X = rmc) (hM : CM X.2.1 G y b maxL ret rm As σ lm none σ lm) (hF : MF y b maxL ret n) (hlk : Cond.methodLink own index y ∈ gT) (hsta : Cond.static y ∈ gT) (hrm : rm.cells = 0 ∧ rm.slots = 0 ∧ rm.frames + 1 ≤ rmc.frames ∧ 8 + (maxL + 11) + rm.locals ≤ rmc.locals) (hn : As.length = n) (hst : st0 = As.reverse ++ st) (hw8 : (st.map fun v => v.category).sum ≤ 8)
    (hd : decode cc pc = .ok (.invokestatic index, 3) ∧ pc + 3 = nx) (kk : WW X G nL σ lm nx L st) : WW X G nL σ lm pc L st0 := r_callS (rv := none) hX hR hM rfl rfl hF hlk hsta hrm hn hst hw8 hd kk
end Str
set_option maxHeartbeats 4000000 in
theorem c_J3n (l : Launch) (G : GE) {σ : Mm} {lm : Ml} {i n : Int32} (h0 : ¬ i < 0) (h1 : i < n) : CM l G yJ3_checkIndex_8e157 bJ3_checkIndex_8e157 3 (some .int) (rmN 0) [.int i, .int n, .null] σ lm (some (.int i)) σ lm := by
  refine CM.of (own := zRJ3) (L0 := [(0, .int i), (1, .int n), (2, .null)]) (by decide +kernel) rfl (Nat.le_of_ble_eq_true rfl) rfl (fun X hl hX hR hQ => ?_)
  refine r_iload_n hX rfl 0 rfl dJ3_checkIndex_8e157_0 ?_
  refine r_if_lt hX dJ3_checkIndex_8e157_1 (fun h => absurd h h0) (fun _ => ?_)
  refine r_iload_n hX rfl 0 rfl dJ3_checkIndex_8e157_4 ?_
  refine r_iload_n hX rfl 1 rfl dJ3_checkIndex_8e157_5 ?_
  refine r_icmp_lt hX dJ3_checkIndex_8e157_6 (fun _ => ?_) (fun h => absurd h1 h)
  refine r_iload_n hX rfl 0 rfl dJ3_checkIndex_8e157_16 ?_
  exact r_iret hX hQ dJ3_checkIndex_8e157_17
set_option maxHeartbeats 4000000 in
theorem c_J3r (l : Launch) (G : GE) {σ : Mm} {lm : Ml} {i n : Int32} {t : Nat} (h0 : ¬ i < 0) (h1 : i < n) : CM l G yJ3_checkIndex_8e157 bJ3_checkIndex_8e157 3 (some .int) (rmN 0) [.int i, .int n, .ref t] σ lm (some (.int i)) σ lm := by
  refine CM.of (own := zRJ3) (L0 := [(0, .int i), (1, .int n), (2, .ref t)]) (by decide +kernel) rfl (Nat.le_of_ble_eq_true rfl) rfl (fun X hl hX hR hQ => ?_)
  refine r_iload_n hX rfl 0 rfl dJ3_checkIndex_8e157_0 ?_
  refine r_if_lt hX dJ3_checkIndex_8e157_1 (fun h => absurd h h0) (fun _ => ?_)
  refine r_iload_n hX rfl 0 rfl dJ3_checkIndex_8e157_4 ?_
  refine r_iload_n hX rfl 1 rfl dJ3_checkIndex_8e157_5 ?_
  refine r_icmp_lt hX dJ3_checkIndex_8e157_6 (fun _ => ?_) (fun h => absurd h1 h)
  refine r_iload_n hX rfl 0 rfl dJ3_checkIndex_8e157_16 ?_
  exact r_iret hX hQ dJ3_checkIndex_8e157_17
set_option maxHeartbeats 4000000 in
theorem c_J0c (l : Launch) (G : GE) {σ : Mm} {lm : Ml} {i n : Int32} (h0 : ¬ i < 0) (h1 : i < n) : CM l G yJ0_checkIndex_df160 bJ0_checkIndex_df160 2 none (rmN 1) [.int i, .int n] σ lm none σ lm := by
  refine CM.of (own := zRJ0) (L0 := [(0, .int i), (1, .int n)]) (by decide +kernel) rfl (Nat.le_of_ble_eq_true rfl) rfl (fun X hl hX hR hQ => ?_)
  refine r_iload_n hX rfl 0 rfl dJ0_checkIndex_df160_0 ?_
  refine r_iload_n hX rfl 1 rfl dJ0_checkIndex_df160_1 ?_
  refine r_gstF hX dJ0_checkIndex_df160_2 ?_ (fun t => ?_)
  · refine r_callSi hX hR (c_J3n X.2.1 G h0 h1) rfl rfl mf_J3_checkIndex_8e157 ml_J0_1059 st_J3_checkIndex_8e157 ⟨rfl, rfl, Nat.le_of_ble_eq_true rfl, Nat.le_of_ble_eq_true rfl⟩ rfl (st := []) rfl (Nat.le_of_ble_eq_true rfl) dJ0_checkIndex_df160_5 ?_
    refine r_pop hX rfl dJ0_checkIndex_df160_8 ?_
    exact r_vret hX hQ dJ0_checkIndex_df160_9
  · refine r_callSi hX hR (c_J3r X.2.1 G h0 h1) rfl rfl mf_J3_checkIndex_8e157 ml_J0_1059 st_J3_checkIndex_8e157 ⟨rfl, rfl, Nat.le_of_ble_eq_true rfl, Nat.le_of_ble_eq_true rfl⟩ rfl (st := []) rfl (Nat.le_of_ble_eq_true rfl) dJ0_checkIndex_df160_5 ?_
    refine r_pop hX rfl dJ0_checkIndex_df160_8 ?_
    exact r_vret hX hQ dJ0_checkIndex_df160_9
theorem inb_lI {i : Int32} {n : Nat} (h : inb i n = true) (hn : n < 2 ^ 31) : ¬ i < 0 ∧ i < nI n := by
  have h1 := inb_lt h
  have h2 := inb_in h
  obtain ⟨j, hj, rfl⟩ := vp_in_of h2 hn
  exact ⟨nI_pos (by omega), nI_lt hj hn⟩
set_option maxHeartbeats 4000000 in
theorem c_J1 (l : Launch) (G : GE) {σ : Mm} {lm : Ml} {i : Int32} {k : Nat} (hk : k < 7) (hi : inb i (sLn.getD k 0) = true) : CM l G yJ1_charAt_3b067 bJ1_charAt_3b067 2 (some .char) (rmN 2) [.ref (gX G (20 + k)), .int i] σ lm (some (.int (sChr k (ix i)))) σ lm := by
  obtain ⟨h0, h1⟩ := inb_lI hi (sln_lt hk)
  refine CM.of (own := zRJ1) (L0 := [(0, .ref (gX G (20 + k))), (1, .int i)]) (by decide +kernel) rfl (Nat.le_of_ble_eq_true rfl) rfl (fun X hl hX hR hQ => ?_)
  refine r_iload_n hX rfl 1 rfl dJ1_charAt_3b067_0 ?_
  refine r_aload_n hX rfl 0 rfl dJ1_charAt_3b067_1 ?_
  refine r_sal hk hX dJ1_charAt_3b067_2 ?_
  refine r_callS0 hX hR (c_J0c X.2.1 G h0 h1) mf_J0_checkIndex_df160 ml_J1_9 st_J0_checkIndex_df160 ⟨rfl, rfl, Nat.le_of_ble_eq_true rfl, Nat.le_of_ble_eq_true rfl⟩ rfl (st := []) rfl (Nat.le_of_ble_eq_true rfl) dJ1_charAt_3b067_3 ?_
  refine r_aload_n hX rfl 0 rfl dJ1_charAt_3b067_6 ?_
  refine r_iload_n hX rfl 1 rfl dJ1_charAt_3b067_7 ?_
  refine r_sba hk hi hX dJ1_charAt_3b067_8 ?_
  refine r_sipush (v := 255) hX (by decide) dJ1_charAt_3b067_9 ?_
  refine r_iand hX dJ1_charAt_3b067_12 ?_
  refine r_i2c hX dJ1_charAt_3b067_13 ?_
  exact r_nret (pk_nc _) hX hQ dJ1_charAt_3b067_14
set_option maxHeartbeats 4000000 in
theorem c_J0k (l : Launch) (G : GE) {σ : Mm} {lm : Ml} {k : Nat} (hk : k < 7) : CM l G yJ0_coder_7d493 bJ0_coder_7d493 1 (some .byte) (rmN 0) [.ref (gX G (10 + k))] σ lm (some (.int 0)) σ lm := by
  refine CM.of (own := zRJ0) (L0 := [(0, .ref (gX G (10 + k)))]) (by decide +kernel) rfl (Nat.le_of_ble_eq_true rfl) rfl (fun X hl hX hR hQ => ?_)
  refine r_gstC hX dJ0_coder_7d493_0 ?_
  refine r_if_eq hX dJ0_coder_7d493_3 (fun h => absurd h (by decide)) (fun _ => ?_)
  refine r_aload_n hX rfl 0 rfl dJ0_coder_7d493_6 ?_
  refine r_sgc hk hX dJ0_coder_7d493_7 ?_
  refine r_goto hX dJ0_coder_7d493_10 ?_
  exact r_nret rfl hX hQ dJ0_coder_7d493_14
set_option maxHeartbeats 4000000 in
theorem c_J0i (l : Launch) (G : GE) {σ : Mm} {lm : Ml} {k : Nat} (hk : k < 7) : CM l G yJ0_isLatin1_aae02 bJ0_isLatin1_aae02 1 (some .boolean) (rmN 0) [.ref (gX G (10 + k))] σ lm (some (.int 1)) σ lm := by
  refine CM.of (own := zRJ0) (L0 := [(0, .ref (gX G (10 + k)))]) (by decide +kernel) rfl (Nat.le_of_ble_eq_true rfl) rfl (fun X hl hX hR hQ => ?_)
  refine r_gstC hX dJ0_isLatin1_aae02_0 ?_
  refine r_if_eq hX dJ0_isLatin1_aae02_3 (fun h => absurd h (by decide)) (fun _ => ?_)
  refine r_aload_n hX rfl 0 rfl dJ0_isLatin1_aae02_6 ?_
  refine r_sgc hk hX dJ0_isLatin1_aae02_7 ?_
  refine r_if_ne hX dJ0_isLatin1_aae02_10 (fun h => absurd rfl h) (fun _ => ?_)
  refine r_iconst (v := 1) hX (by decide) dJ0_isLatin1_aae02_13 ?_
  refine r_goto hX dJ0_isLatin1_aae02_14 ?_
  exact r_zret hX (Or.inr rfl) hQ dJ0_isLatin1_aae02_18
set_option maxHeartbeats 4000000 in
theorem c_J0l (l : Launch) (G : GE) {σ : Mm} {lm : Ml} {k : Nat} (hk : k < 7) : CM l G yJ0_length_8abf5 bJ0_length_8abf5 1 (some .int) (rmN 1) [.ref (gX G (10 + k))] σ lm (some (.int (sLen k))) σ lm := by
  rw [← slen_sh hk]
  refine CM.of (own := zRJ0) (L0 := [(0, .ref (gX G (10 + k)))]) (by decide +kernel) rfl (Nat.le_of_ble_eq_true rfl) rfl (fun X hl hX hR hQ => ?_)
  refine r_aload_n hX rfl 0 rfl dJ0_length_8abf5_0 ?_
  refine r_sgv hk hX dJ0_length_8abf5_1 ?_
  refine r_sal hk hX dJ0_length_8abf5_4 ?_
  refine r_aload_n hX rfl 0 rfl dJ0_length_8abf5_5 ?_
  refine r_callT hk hX hR (c_J0k X.2.1 G hk) mf_J0_coder_7d493 ml_J0_335 in_J0_coder_7d493 se_J0_coder_7d493 rfl ⟨rfl, rfl, Nat.le_of_ble_eq_true rfl, Nat.le_of_ble_eq_true rfl⟩ rfl (st := [.int (nI (sLn.getD k 0))]) rfl (Nat.le_of_ble_eq_true rfl) dJ0_length_8abf5_6 ?_
  refine r_ishr hX dJ0_length_8abf5_9 ?_
  exact r_iret hX hQ dJ0_length_8abf5_10
set_option maxHeartbeats 4000000 in
theorem c_J0h (l : Launch) (G : GE) {σ : Mm} {lm : Ml} {i : Int32} {k : Nat} (hk : k < 7) (hi : inb i (sLn.getD k 0) = true) : CM l G yJ0_charAt_5068e bJ0_charAt_5068e 2 (some .char) (rmN 3) [.ref (gX G (10 + k)), .int i] σ lm (some (.int (sChr k (ix i)))) σ lm := by
  refine CM.of (own := zRJ0) (L0 := [(0, .ref (gX G (10 + k))), (1, .int i)]) (by decide +kernel) rfl (Nat.le_of_ble_eq_true rfl) rfl (fun X hl hX hR hQ => ?_)
  refine r_aload_n hX rfl 0 rfl dJ0_charAt_5068e_0 ?_
  refine r_callT hk hX hR (c_J0i X.2.1 G hk) mf_J0_isLatin1_aae02 ml_J0_492 in_J0_isLatin1_aae02 se_J0_isLatin1_aae02 rfl ⟨rfl, rfl, Nat.le_of_ble_eq_true rfl, Nat.le_of_ble_eq_true rfl⟩ rfl (st := []) rfl (Nat.le_of_ble_eq_true rfl) dJ0_charAt_5068e_1 ?_
  refine r_if_eq hX dJ0_charAt_5068e_4 (fun h => absurd h (by decide)) (fun _ => ?_)
  refine r_aload_n hX rfl 0 rfl dJ0_charAt_5068e_7 ?_
  refine r_sgv hk hX dJ0_charAt_5068e_8 ?_
  refine r_iload_n hX rfl 1 rfl dJ0_charAt_5068e_11 ?_
  refine r_callSi hX hR (c_J1 X.2.1 G hk hi) rfl rfl mf_J1_charAt_3b067 ml_J0_495 st_J1_charAt_3b067 ⟨rfl, rfl, Nat.le_of_ble_eq_true rfl, Nat.le_of_ble_eq_true rfl⟩ rfl (st := []) rfl (Nat.le_of_ble_eq_true rfl) dJ0_charAt_5068e_12 ?_
  exact r_nret (pk_nc _) hX hQ dJ0_charAt_5068e_15
section Str2
variable {X : MX} {G : GE} {own : String} {cc : ByteArray} {nL : Nat} {σ : Mm} {lm : Ml} {pc nx : Nat} {L : List (Nat × Value)} {st : List Value}
theorem r_slen {k index : Nat} {rmc : Room} (hX : Cx X G own cc nL) (hR : rmX X = rmc) (hrm : strR rmc = true) (hk : k < 7) (hlk : Cond.methodLink own index yJ0_length_8abf5 ∈ gT) (hw8 : (st.map fun v => v.category).sum ≤ 8) (hd : decode cc pc = .ok (.invokevirtual index, 3) ∧ pc + 3 = nx) (kk : WW X G nL σ lm nx L (.int (sLen k) :: st)) : WW X G nL σ lm pc L (.ref (gX G (10 + k)) :: st) := by
  obtain ⟨g1, g2⟩ := strR_e hrm
  exact r_callT hk hX hR (c_J0l X.2.1 G hk) mf_J0_length_8abf5 hlk in_J0_length_8abf5 se_J0_length_8abf5 rfl ⟨rfl, rfl, by show 1 + 1 ≤ _; omega, by show 8 + (1 + 11) + 40 * 1 ≤ _; omega⟩ rfl (st := st) rfl hw8 hd kk
theorem r_schr {k index : Nat} {i : Int32} {rmc : Room} (hX : Cx X G own cc nL) (hR : rmX X = rmc) (hrm : strR rmc = true) (hk : k < 7) (hi : inb i (sLn.getD k 0) = true) (hlk : Cond.methodLink own index yJ0_charAt_5068e ∈ gT) (hw8 : (st.map fun v => v.category).sum ≤ 8) (hd : decode cc pc = .ok (.invokevirtual index, 3) ∧ pc + 3 = nx) (kk : WW X G nL σ lm nx L (.int (sChr k (ix i)) :: st)) : WW X G nL σ lm pc L (.int i :: .ref (gX G (10 + k)) :: st) := by
  obtain ⟨g1, g2⟩ := strR_e hrm
  exact r_callT hk hX hR (c_J0h X.2.1 G hk hi) mf_J0_charAt_5068e hlk in_J0_charAt_5068e se_J0_charAt_5068e rfl ⟨rfl, rfl, by show 3 + 1 ≤ _; omega, by show 8 + (2 + 11) + 40 * 3 ≤ _; omega⟩ rfl (st := st) rfl hw8 hd kk
end Str2
