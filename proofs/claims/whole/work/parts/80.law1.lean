/-! the law's loop: one round of each kind; written by wip/whole/make/gen80.py -/
/-- the script's cells are as they were -/
def XS (X : MX) (G : GE) (b N : Nat) (xs : Nat → Int32) : Prop := va_X b N xs X.2.2.2.2.1 X.2.2.2.2.1.heap ∧ b < X.2.2.2.2.1.heap.size ∧ ¬ AA G b
/-- the round's six cells are there -/
def VI (i : Int32) (N : Nat) : Prop := ∀ j : Int32, 0 ≤ j → j ≤ 5 → vp_in (i + j) N
abbrev LL (G : GE) (b : Nat) (i : Int32) : List (Nat × Value) := [(3, .int i), (2, .ref (gA G 17 0)), (1, .ref (gA G 0 0)), (0, .ref b)]
theorem m1_e {t : Mm} {P : Pm} (h : t 17 = P) : m1 t 17 P = t := by
  rw [← h]
  exact setO_i
theorem lgc {r : Int64} : lg_cmp r r = 0 := by
  unfold lg_cmp
  rw [if_neg (show ¬ r > r from fun h => Int64.lt_irrefl h), if_pos rfl]
theorem RR_put {t : Mm} {Q : Pm} {lm : Ml} (h : RR t Q lm) : RR (m1 t 17 Q) (m1 t 17 Q 17) lm := by
  have e : m1 t 17 Q 17 = Q := setO_s
  rw [e]
  obtain ⟨⟨n, d, w⟩, ⟨f, hf, c1, c2, c3, c4⟩, tx, im, ak, tp⟩ := h
  refine ⟨⟨n, d, w⟩, ⟨f, hf, c1, c2, fun g hg => ?_, c4⟩, tx, im, ak, tp⟩
  have e8 : m1 t 17 Q (8 + g) = t (8 + g) := setO_n (by omega)
  rw [e8]
  exact c3 g hg
section Law
variable {X : MX} {G : GE} {b N : Nat} {xs : Nat → Int32} {i : Int32} {σ : Mm} {lm : Ml} {pc nx : Nat} {L : List (Nat × Value)} {st : List Value} {nL : Nat} {own : String} {cc : ByteArray}
theorem r_xld {j : Int32} (hX : Cx X G own cc nL) (hS : XS X G b N xs) (hin : vp_in j N) (hd : decode cc pc = .ok (.iaload, 1) ∧ pc + 1 = nx) (kk : WW X G nL σ lm nx L (.int (xs (ix j)) :: st)) : WW X G nL σ lm pc L (.int j :: .ref b :: st) := by
  intro H locs ls hw hS2 hl
  obtain ⟨hx, hb, hml, hown, hts, hlo, hK⟩ := hX
  obtain ⟨hd, rfl⟩ := hd
  exact va_sld hx hb hS.1 hS.2.1 hS.2.2 hS2 hin hd (kk H locs ls hw hS2 hl)
theorem r_xlen (hX : Cx X G own cc nL) (hS : XS X G b N xs) (hd : decode cc pc = .ok (.arraylength, 1) ∧ pc + 1 = nx) (kk : WW X G nL σ lm nx L (.int (Int32.ofNat N) :: st)) : WW X G nL σ lm pc L (.ref b :: st) := by
  intro H locs ls hw hS2 hl
  obtain ⟨hx, hb, hml, hown, hts, hlo, hK⟩ := hX
  obtain ⟨hd, rfl⟩ := hd
  exact va_slen hx hb hS.1 hS.2.1 hS.2.2 hS2 hd (kk H locs ls hw hS2 hl)

theorem law_0 (hX : Cx X G R_law code 4) (hR : rmX X = room_1) (hS : XS X G b N xs) (hv : VI i N) (h : RR σ (σ 17) lm) (kk : ∀ σ2 lm2, RR σ2 (σ2 17) lm2 → WW X G 4 σ2 lm2 1340 (LL G b i) []) : WW X G 4 σ lm 196 (LL G b i) [] := by
  obtain ⟨r, t, Q, e1, e2, e17, h2⟩ := s_borrower (a1 := (xs (ix (i + 1)))) (a2 := (xs (ix (i + 2)))) (a3 := (xs (ix (i + 3)))) (a4 := (xs (ix (i + 4)))) h
  refine r_aload_n (k := 1) hX rfl 2 rfl dL_law_196 ?_
  refine r_aload_n (k := 0) hX rfl 3 rfl dL_law_197 ?_
  refine r_iload_n (k := 3) hX rfl 0 rfl dL_law_198 ?_
  refine r_iconst (v := 1) hX rfl dL_law_199 ?_
  refine r_iadd hX dL_law_200 ?_
  refine r_xld hX hS (hv 1 (by decide) (by decide)) dL_law_201 ?_
  refine r_aload_n (k := 0) hX rfl 3 rfl dL_law_202 ?_
  refine r_iload_n (k := 3) hX rfl 0 rfl dL_law_203 ?_
  refine r_iconst (v := 2) hX rfl dL_law_204 ?_
  refine r_iadd hX dL_law_205 ?_
  refine r_xld hX hS (hv 2 (by decide) (by decide)) dL_law_206 ?_
  refine r_aload_n (k := 0) hX rfl 3 rfl dL_law_207 ?_
  refine r_iload_n (k := 3) hX rfl 0 rfl dL_law_208 ?_
  refine r_iconst (v := 3) hX rfl dL_law_209 ?_
  refine r_iadd hX dL_law_210 ?_
  refine r_xld hX hS (hv 3 (by decide) (by decide)) dL_law_211 ?_
  refine r_aload_n (k := 0) hX rfl 3 rfl dL_law_212 ?_
  refine r_iload_n (k := 3) hX rfl 0 rfl dL_law_213 ?_
  refine r_iconst (v := 4) hX rfl dL_law_214 ?_
  refine r_iadd hX dL_law_215 ?_
  refine r_xld hX hS (hv 4 (by decide) (by decide)) dL_law_216 ?_
  refine r_callVi hX hR (c_X6_borrower X.2.1 G e1) rfl rfl mf_X6_borrower ml_L_13 in_X6_borrower se_X6_borrower (k := 6) rfl rfl ⟨rfl, rfl, by decide, by decide⟩ rfl rfl (Nat.le_of_ble_eq_true rfl) dL_law_217 ?_
  refine r_aload_n (k := 2) hX rfl 1 rfl dL_law_220 ?_
  refine r_aload_n (k := 0) hX rfl 3 rfl dL_law_221 ?_
  refine r_iload_n (k := 3) hX rfl 0 rfl dL_law_222 ?_
  refine r_iconst (v := 1) hX rfl dL_law_223 ?_
  refine r_iadd hX dL_law_224 ?_
  refine r_xld hX hS (hv 1 (by decide) (by decide)) dL_law_225 ?_
  refine r_aload_n (k := 0) hX rfl 3 rfl dL_law_226 ?_
  refine r_iload_n (k := 3) hX rfl 0 rfl dL_law_227 ?_
  refine r_iconst (v := 2) hX rfl dL_law_228 ?_
  refine r_iadd hX dL_law_229 ?_
  refine r_xld hX hS (hv 2 (by decide) (by decide)) dL_law_230 ?_
  refine r_aload_n (k := 0) hX rfl 3 rfl dL_law_231 ?_
  refine r_iload_n (k := 3) hX rfl 0 rfl dL_law_232 ?_
  refine r_iconst (v := 3) hX rfl dL_law_233 ?_
  refine r_iadd hX dL_law_234 ?_
  refine r_xld hX hS (hv 3 (by decide) (by decide)) dL_law_235 ?_
  refine r_aload_n (k := 0) hX rfl 3 rfl dL_law_236 ?_
  refine r_iload_n (k := 3) hX rfl 0 rfl dL_law_237 ?_
  refine r_iconst (v := 4) hX rfl dL_law_238 ?_
  refine r_iadd hX dL_law_239 ?_
  refine r_xld hX hS (hv 4 (by decide) (by decide)) dL_law_240 ?_
  refine r_callVi hX hR (c_X7_borrower X.2.1 G (σ := t) (P := σ 17) e2) (m1_e e17) rfl mf_X7_borrower ml_L_17 in_X7_borrower se_X7_borrower (k := 7) rfl rfl ⟨rfl, rfl, by decide, by decide⟩ rfl rfl (Nat.le_of_ble_eq_true rfl) dL_law_241 ?_
  exact r_icmp_eq hX dL_law_244 (fun _ => kk (m1 t 17 Q) lm (RR_put h2)) (fun hc => absurd rfl hc)
theorem law_1 (hX : Cx X G R_law code 4) (hR : rmX X = room_1) (hS : XS X G b N xs) (hv : VI i N) (h : RR σ (σ 17) lm) (kk : ∀ σ2 lm2, RR σ2 (σ2 17) lm2 → WW X G 4 σ2 lm2 1340 (LL G b i) []) : WW X G 4 σ lm 249 (LL G b i) [] := by
  obtain ⟨r, t, Q, e1, e2, e17, h2⟩ := s_of (a1 := (xs (ix (i + 1)))) (a2 := (xs (ix (i + 2)))) h
  refine r_aload_n (k := 1) hX rfl 2 rfl dL_law_249 ?_
  refine r_aload_n (k := 0) hX rfl 3 rfl dL_law_250 ?_
  refine r_iload_n (k := 3) hX rfl 0 rfl dL_law_251 ?_
  refine r_iconst (v := 1) hX rfl dL_law_252 ?_
  refine r_iadd hX dL_law_253 ?_
  refine r_xld hX hS (hv 1 (by decide) (by decide)) dL_law_254 ?_
  refine r_aload_n (k := 0) hX rfl 3 rfl dL_law_255 ?_
  refine r_iload_n (k := 3) hX rfl 0 rfl dL_law_256 ?_
  refine r_iconst (v := 2) hX rfl dL_law_257 ?_
  refine r_iadd hX dL_law_258 ?_
  refine r_xld hX hS (hv 2 (by decide) (by decide)) dL_law_259 ?_
  refine r_callVi hX hR (c_X6_of X.2.1 G e1) rfl rfl mf_X6_of ml_L_18 in_X6_of se_X6_of (k := 6) rfl rfl ⟨rfl, rfl, by decide, by decide⟩ rfl rfl (Nat.le_of_ble_eq_true rfl) dL_law_260 ?_
  refine r_aload_n (k := 2) hX rfl 1 rfl dL_law_263 ?_
  refine r_aload_n (k := 0) hX rfl 3 rfl dL_law_264 ?_
  refine r_iload_n (k := 3) hX rfl 0 rfl dL_law_265 ?_
  refine r_iconst (v := 1) hX rfl dL_law_266 ?_
  refine r_iadd hX dL_law_267 ?_
  refine r_xld hX hS (hv 1 (by decide) (by decide)) dL_law_268 ?_
  refine r_aload_n (k := 0) hX rfl 3 rfl dL_law_269 ?_
  refine r_iload_n (k := 3) hX rfl 0 rfl dL_law_270 ?_
  refine r_iconst (v := 2) hX rfl dL_law_271 ?_
  refine r_iadd hX dL_law_272 ?_
  refine r_xld hX hS (hv 2 (by decide) (by decide)) dL_law_273 ?_
  refine r_callVi hX hR (c_X7_of X.2.1 G (σ := t) (P := σ 17) e2) (m1_e e17) rfl mf_X7_of ml_L_22 in_X7_of se_X7_of (k := 7) rfl rfl ⟨rfl, rfl, by decide, by decide⟩ rfl rfl (Nat.le_of_ble_eq_true rfl) dL_law_274 ?_
  exact r_icmp_eq hX dL_law_277 (fun _ => kk (m1 t 17 Q) lm (RR_put h2)) (fun hc => absurd rfl hc)
theorem law_2 (hX : Cx X G R_law code 4) (hR : rmX X = room_1) (hS : XS X G b N xs) (hv : VI i N) (h : RR σ (σ 17) lm) (kk : ∀ σ2 lm2, RR σ2 (σ2 17) lm2 → WW X G 4 σ2 lm2 1340 (LL G b i) []) : WW X G 4 σ lm 282 (LL G b i) [] := by
  obtain ⟨r, t, Q, e1, e2, e17, h2⟩ := s_set (a1 := (xs (ix (i + 1)))) (a2 := (xs (ix (i + 2)))) (a3 := (xs (ix (i + 3)))) h
  refine r_aload_n (k := 1) hX rfl 2 rfl dL_law_282 ?_
  refine r_aload_n (k := 0) hX rfl 3 rfl dL_law_283 ?_
  refine r_iload_n (k := 3) hX rfl 0 rfl dL_law_284 ?_
  refine r_iconst (v := 1) hX rfl dL_law_285 ?_
  refine r_iadd hX dL_law_286 ?_
  refine r_xld hX hS (hv 1 (by decide) (by decide)) dL_law_287 ?_
  refine r_aload_n (k := 0) hX rfl 3 rfl dL_law_288 ?_
  refine r_iload_n (k := 3) hX rfl 0 rfl dL_law_289 ?_
  refine r_iconst (v := 2) hX rfl dL_law_290 ?_
  refine r_iadd hX dL_law_291 ?_
  refine r_xld hX hS (hv 2 (by decide) (by decide)) dL_law_292 ?_
  refine r_aload_n (k := 0) hX rfl 3 rfl dL_law_293 ?_
  refine r_iload_n (k := 3) hX rfl 0 rfl dL_law_294 ?_
  refine r_iconst (v := 3) hX rfl dL_law_295 ?_
  refine r_iadd hX dL_law_296 ?_
  refine r_xld hX hS (hv 3 (by decide) (by decide)) dL_law_297 ?_
  refine r_callVi hX hR (c_X6_set X.2.1 G e1) rfl rfl mf_X6_set ml_L_23 in_X6_set se_X6_set (k := 6) rfl rfl ⟨rfl, rfl, by decide, by decide⟩ rfl rfl (Nat.le_of_ble_eq_true rfl) dL_law_298 ?_
  refine r_aload_n (k := 2) hX rfl 1 rfl dL_law_301 ?_
  refine r_aload_n (k := 0) hX rfl 3 rfl dL_law_302 ?_
  refine r_iload_n (k := 3) hX rfl 0 rfl dL_law_303 ?_
  refine r_iconst (v := 1) hX rfl dL_law_304 ?_
  refine r_iadd hX dL_law_305 ?_
  refine r_xld hX hS (hv 1 (by decide) (by decide)) dL_law_306 ?_
  refine r_aload_n (k := 0) hX rfl 3 rfl dL_law_307 ?_
  refine r_iload_n (k := 3) hX rfl 0 rfl dL_law_308 ?_
  refine r_iconst (v := 2) hX rfl dL_law_309 ?_
  refine r_iadd hX dL_law_310 ?_
  refine r_xld hX hS (hv 2 (by decide) (by decide)) dL_law_311 ?_
  refine r_aload_n (k := 0) hX rfl 3 rfl dL_law_312 ?_
  refine r_iload_n (k := 3) hX rfl 0 rfl dL_law_313 ?_
  refine r_iconst (v := 3) hX rfl dL_law_314 ?_
  refine r_iadd hX dL_law_315 ?_
  refine r_xld hX hS (hv 3 (by decide) (by decide)) dL_law_316 ?_
  refine r_callVi hX hR (c_X7_set X.2.1 G (σ := t) (P := σ 17) e2) (m1_e e17) rfl mf_X7_set ml_L_27 in_X7_set se_X7_set (k := 7) rfl rfl ⟨rfl, rfl, by decide, by decide⟩ rfl rfl (Nat.le_of_ble_eq_true rfl) dL_law_317 ?_
  exact r_icmp_eq hX dL_law_320 (fun _ => kk (m1 t 17 Q) lm (RR_put h2)) (fun hc => absurd rfl hc)
theorem law_3 (hX : Cx X G R_law code 4) (hR : rmX X = room_1) (hS : XS X G b N xs) (hv : VI i N) (h : RR σ (σ 17) lm) (kk : ∀ σ2 lm2, RR σ2 (σ2 17) lm2 → WW X G 4 σ2 lm2 1340 (LL G b i) []) : WW X G 4 σ lm 325 (LL G b i) [] := by
  obtain ⟨r, t, Q, e1, e2, e17, h2⟩ := s_row (a1 := (xs (ix (i + 1)))) (a2 := (xs (ix (i + 2)))) (a3 := (xs (ix (i + 3)))) h
  refine r_aload_n (k := 1) hX rfl 2 rfl dL_law_325 ?_
  refine r_aload_n (k := 0) hX rfl 3 rfl dL_law_326 ?_
  refine r_iload_n (k := 3) hX rfl 0 rfl dL_law_327 ?_
  refine r_iconst (v := 1) hX rfl dL_law_328 ?_
  refine r_iadd hX dL_law_329 ?_
  refine r_xld hX hS (hv 1 (by decide) (by decide)) dL_law_330 ?_
  refine r_aload_n (k := 0) hX rfl 3 rfl dL_law_331 ?_
  refine r_iload_n (k := 3) hX rfl 0 rfl dL_law_332 ?_
  refine r_iconst (v := 2) hX rfl dL_law_333 ?_
  refine r_iadd hX dL_law_334 ?_
  refine r_xld hX hS (hv 2 (by decide) (by decide)) dL_law_335 ?_
  refine r_aload_n (k := 0) hX rfl 3 rfl dL_law_336 ?_
  refine r_iload_n (k := 3) hX rfl 0 rfl dL_law_337 ?_
  refine r_iconst (v := 3) hX rfl dL_law_338 ?_
  refine r_iadd hX dL_law_339 ?_
  refine r_xld hX hS (hv 3 (by decide) (by decide)) dL_law_340 ?_
  refine r_callVi hX hR (c_X6_row X.2.1 G e1) rfl rfl mf_X6_row ml_L_28 in_X6_row se_X6_row (k := 6) rfl rfl ⟨rfl, rfl, by decide, by decide⟩ rfl rfl (Nat.le_of_ble_eq_true rfl) dL_law_341 ?_
  refine r_aload_n (k := 2) hX rfl 1 rfl dL_law_344 ?_
  refine r_aload_n (k := 0) hX rfl 3 rfl dL_law_345 ?_
  refine r_iload_n (k := 3) hX rfl 0 rfl dL_law_346 ?_
  refine r_iconst (v := 1) hX rfl dL_law_347 ?_
  refine r_iadd hX dL_law_348 ?_
  refine r_xld hX hS (hv 1 (by decide) (by decide)) dL_law_349 ?_
  refine r_aload_n (k := 0) hX rfl 3 rfl dL_law_350 ?_
  refine r_iload_n (k := 3) hX rfl 0 rfl dL_law_351 ?_
  refine r_iconst (v := 2) hX rfl dL_law_352 ?_
  refine r_iadd hX dL_law_353 ?_
  refine r_xld hX hS (hv 2 (by decide) (by decide)) dL_law_354 ?_
  refine r_aload_n (k := 0) hX rfl 3 rfl dL_law_355 ?_
  refine r_iload_n (k := 3) hX rfl 0 rfl dL_law_356 ?_
  refine r_iconst (v := 3) hX rfl dL_law_357 ?_
  refine r_iadd hX dL_law_358 ?_
  refine r_xld hX hS (hv 3 (by decide) (by decide)) dL_law_359 ?_
  refine r_callVi hX hR (c_X7_row X.2.1 G (σ := t) (P := σ 17) e2) (m1_e e17) rfl mf_X7_row ml_L_31 in_X7_row se_X7_row (k := 7) rfl rfl ⟨rfl, rfl, by decide, by decide⟩ rfl rfl (Nat.le_of_ble_eq_true rfl) dL_law_360 ?_
  exact r_icmp_eq hX dL_law_363 (fun _ => kk (m1 t 17 Q) lm (RR_put h2)) (fun hc => absurd rfl hc)
theorem law_4 (hX : Cx X G R_law code 4) (hR : rmX X = room_1) (hS : XS X G b N xs) (hv : VI i N) (h : RR σ (σ 17) lm) (kk : ∀ σ2 lm2, RR σ2 (σ2 17) lm2 → WW X G 4 σ2 lm2 1340 (LL G b i) []) : WW X G 4 σ lm 368 (LL G b i) [] := by
  obtain ⟨r, t, Q, e1, e2, e17, h2⟩ := s_depth (a1 := (xs (ix (i + 1)))) h
  refine r_aload_n (k := 1) hX rfl 2 rfl dL_law_368 ?_
  refine r_aload_n (k := 0) hX rfl 3 rfl dL_law_369 ?_
  refine r_iload_n (k := 3) hX rfl 0 rfl dL_law_370 ?_
  refine r_iconst (v := 1) hX rfl dL_law_371 ?_
  refine r_iadd hX dL_law_372 ?_
  refine r_xld hX hS (hv 1 (by decide) (by decide)) dL_law_373 ?_
  refine r_callVi hX hR (c_X6_depth X.2.1 G e1) rfl rfl mf_X6_depth ml_L_32 in_X6_depth se_X6_depth (k := 6) rfl rfl ⟨rfl, rfl, by decide, by decide⟩ rfl rfl (Nat.le_of_ble_eq_true rfl) dL_law_374 ?_
  refine r_aload_n (k := 2) hX rfl 1 rfl dL_law_377 ?_
  refine r_aload_n (k := 0) hX rfl 3 rfl dL_law_378 ?_
  refine r_iload_n (k := 3) hX rfl 0 rfl dL_law_379 ?_
  refine r_iconst (v := 1) hX rfl dL_law_380 ?_
  refine r_iadd hX dL_law_381 ?_
  refine r_xld hX hS (hv 1 (by decide) (by decide)) dL_law_382 ?_
  refine r_callVi hX hR (c_X7_depth X.2.1 G (σ := t) (P := σ 17) e2) (m1_e e17) rfl mf_X7_depth ml_L_36 in_X7_depth se_X7_depth (k := 7) rfl rfl ⟨rfl, rfl, by decide, by decide⟩ rfl rfl (Nat.le_of_ble_eq_true rfl) dL_law_383 ?_
  exact r_icmp_eq hX dL_law_386 (fun _ => kk (m1 t 17 Q) lm (RR_put h2)) (fun hc => absurd rfl hc)
theorem law_5 (hX : Cx X G R_law code 4) (hR : rmX X = room_1) (hS : XS X G b N xs) (hv : VI i N) (h : RR σ (σ 17) lm) (kk : ∀ σ2 lm2, RR σ2 (σ2 17) lm2 → WW X G 4 σ2 lm2 1340 (LL G b i) []) : WW X G 4 σ lm 391 (LL G b i) [] := by
  obtain ⟨r, t, Q, e1, e2, e17, h2⟩ := s_change (a1 := (xs (ix (i + 1)))) (a2 := (xs (ix (i + 2)))) h
  refine r_aload_n (k := 1) hX rfl 2 rfl dL_law_391 ?_
  refine r_aload_n (k := 0) hX rfl 3 rfl dL_law_392 ?_
  refine r_iload_n (k := 3) hX rfl 0 rfl dL_law_393 ?_
  refine r_iconst (v := 1) hX rfl dL_law_394 ?_
  refine r_iadd hX dL_law_395 ?_
  refine r_xld hX hS (hv 1 (by decide) (by decide)) dL_law_396 ?_
  refine r_aload_n (k := 0) hX rfl 3 rfl dL_law_397 ?_
  refine r_iload_n (k := 3) hX rfl 0 rfl dL_law_398 ?_
  refine r_iconst (v := 2) hX rfl dL_law_399 ?_
  refine r_iadd hX dL_law_400 ?_
  refine r_xld hX hS (hv 2 (by decide) (by decide)) dL_law_401 ?_
  refine r_callVi hX hR (c_X6_change X.2.1 G e1) rfl rfl mf_X6_change ml_L_37 in_X6_change se_X6_change (k := 6) rfl rfl ⟨rfl, rfl, by decide, by decide⟩ rfl rfl (Nat.le_of_ble_eq_true rfl) dL_law_402 ?_
  refine r_aload_n (k := 2) hX rfl 1 rfl dL_law_405 ?_
  refine r_aload_n (k := 0) hX rfl 3 rfl dL_law_406 ?_
  refine r_iload_n (k := 3) hX rfl 0 rfl dL_law_407 ?_
  refine r_iconst (v := 1) hX rfl dL_law_408 ?_
  refine r_iadd hX dL_law_409 ?_
  refine r_xld hX hS (hv 1 (by decide) (by decide)) dL_law_410 ?_
  refine r_aload_n (k := 0) hX rfl 3 rfl dL_law_411 ?_
  refine r_iload_n (k := 3) hX rfl 0 rfl dL_law_412 ?_
  refine r_iconst (v := 2) hX rfl dL_law_413 ?_
  refine r_iadd hX dL_law_414 ?_
  refine r_xld hX hS (hv 2 (by decide) (by decide)) dL_law_415 ?_
  refine r_callVi hX hR (c_X7_change X.2.1 G (σ := t) (P := σ 17) e2) (m1_e e17) rfl mf_X7_change ml_L_40 in_X7_change se_X7_change (k := 7) rfl rfl ⟨rfl, rfl, by decide, by decide⟩ rfl rfl (Nat.le_of_ble_eq_true rfl) dL_law_416 ?_
  exact r_icmp_eq hX dL_law_419 (fun _ => kk (m1 t 17 Q) lm (RR_put h2)) (fun hc => absurd rfl hc)
theorem law_6 (hX : Cx X G R_law code 4) (hR : rmX X = room_1) (hS : XS X G b N xs) (hv : VI i N) (h : RR σ (σ 17) lm) (kk : ∀ σ2 lm2, RR σ2 (σ2 17) lm2 → WW X G 4 σ2 lm2 1340 (LL G b i) []) : WW X G 4 σ lm 424 (LL G b i) [] := by
  obtain ⟨r, t, Q, e1, e2, e17, h2⟩ := s_call (a1 := (xs (ix (i + 1)))) h
  refine r_aload_n (k := 1) hX rfl 2 rfl dL_law_424 ?_
  refine r_aload_n (k := 0) hX rfl 3 rfl dL_law_425 ?_
  refine r_iload_n (k := 3) hX rfl 0 rfl dL_law_426 ?_
  refine r_iconst (v := 1) hX rfl dL_law_427 ?_
  refine r_iadd hX dL_law_428 ?_
  refine r_xld hX hS (hv 1 (by decide) (by decide)) dL_law_429 ?_
  refine r_callVi hX hR (c_X6_call X.2.1 G e1) rfl rfl mf_X6_call ml_L_41 in_X6_call se_X6_call (k := 6) rfl rfl ⟨rfl, rfl, by decide, by decide⟩ rfl rfl (Nat.le_of_ble_eq_true rfl) dL_law_430 ?_
  refine r_aload_n (k := 2) hX rfl 1 rfl dL_law_433 ?_
  refine r_aload_n (k := 0) hX rfl 3 rfl dL_law_434 ?_
  refine r_iload_n (k := 3) hX rfl 0 rfl dL_law_435 ?_
  refine r_iconst (v := 1) hX rfl dL_law_436 ?_
  refine r_iadd hX dL_law_437 ?_
  refine r_xld hX hS (hv 1 (by decide) (by decide)) dL_law_438 ?_
  refine r_callVi hX hR (c_X7_call X.2.1 G (σ := t) (P := σ 17) e2) (m1_e e17) rfl mf_X7_call ml_L_44 in_X7_call se_X7_call (k := 7) rfl rfl ⟨rfl, rfl, by decide, by decide⟩ rfl rfl (Nat.le_of_ble_eq_true rfl) dL_law_439 ?_
  exact r_icmp_eq hX dL_law_442 (fun _ => kk (m1 t 17 Q) lm (RR_put h2)) (fun hc => absurd rfl hc)
theorem law_7 (hX : Cx X G R_law code 4) (hR : rmX X = room_1) (hS : XS X G b N xs) (hv : VI i N) (h : RR σ (σ 17) lm) (kk : ∀ σ2 lm2, RR σ2 (σ2 17) lm2 → WW X G 4 σ2 lm2 1340 (LL G b i) []) : WW X G 4 σ lm 447 (LL G b i) [] := by
  obtain ⟨r, t, Q, e1, e2, e17, h2⟩ := s_feed (a1 := (xs (ix (i + 1)))) h
  refine r_aload_n (k := 1) hX rfl 2 rfl dL_law_447 ?_
  refine r_aload_n (k := 0) hX rfl 3 rfl dL_law_448 ?_
  refine r_iload_n (k := 3) hX rfl 0 rfl dL_law_449 ?_
  refine r_iconst (v := 1) hX rfl dL_law_450 ?_
  refine r_iadd hX dL_law_451 ?_
  refine r_xld hX hS (hv 1 (by decide) (by decide)) dL_law_452 ?_
  refine r_callVi hX hR (c_X6_feed X.2.1 G e1) rfl rfl mf_X6_feed ml_L_45 in_X6_feed se_X6_feed (k := 6) rfl rfl ⟨rfl, rfl, by decide, by decide⟩ rfl rfl (Nat.le_of_ble_eq_true rfl) dL_law_453 ?_
  refine r_aload_n (k := 2) hX rfl 1 rfl dL_law_456 ?_
  refine r_aload_n (k := 0) hX rfl 3 rfl dL_law_457 ?_
  refine r_iload_n (k := 3) hX rfl 0 rfl dL_law_458 ?_
  refine r_iconst (v := 1) hX rfl dL_law_459 ?_
  refine r_iadd hX dL_law_460 ?_
  refine r_xld hX hS (hv 1 (by decide) (by decide)) dL_law_461 ?_
  refine r_callVi hX hR (c_X7_feed X.2.1 G (σ := t) (P := σ 17) e2) (m1_e e17) rfl mf_X7_feed ml_L_48 in_X7_feed se_X7_feed (k := 7) rfl rfl ⟨rfl, rfl, by decide, by decide⟩ rfl rfl (Nat.le_of_ble_eq_true rfl) dL_law_462 ?_
  exact r_icmp_eq hX dL_law_465 (fun _ => kk (m1 t 17 Q) lm (RR_put h2)) (fun hc => absurd rfl hc)
theorem law_8 (hX : Cx X G R_law code 4) (hR : rmX X = room_1) (hS : XS X G b N xs) (hv : VI i N) (h : RR σ (σ 17) lm) (kk : ∀ σ2 lm2, RR σ2 (σ2 17) lm2 → WW X G 4 σ2 lm2 1340 (LL G b i) []) : WW X G 4 σ lm 470 (LL G b i) [] := by
  obtain ⟨r, t, Q, e1, e2, e17, h2⟩ := s_country  h
  refine r_aload_n (k := 1) hX rfl 2 rfl dL_law_470 ?_
  refine r_callVi hX hR (c_X6_country X.2.1 G e1) rfl rfl mf_X6_country ml_L_49 in_X6_country se_X6_country (k := 6) rfl rfl ⟨rfl, rfl, by decide, by decide⟩ rfl rfl (Nat.le_of_ble_eq_true rfl) dL_law_471 ?_
  refine r_aload_n (k := 2) hX rfl 1 rfl dL_law_474 ?_
  refine r_callVi hX hR (c_X7_country X.2.1 G (σ := t) (P := σ 17) e2) (m1_e e17) rfl mf_X7_country ml_L_53 in_X7_country se_X7_country (k := 7) rfl rfl ⟨rfl, rfl, by decide, by decide⟩ rfl rfl (Nat.le_of_ble_eq_true rfl) dL_law_475 ?_
  exact r_icmp_eq hX dL_law_478 (fun _ => kk (m1 t 17 Q) lm (RR_put h2)) (fun hc => absurd rfl hc)
theorem law_9 (hX : Cx X G R_law code 4) (hR : rmX X = room_1) (hS : XS X G b N xs) (hv : VI i N) (h : RR σ (σ 17) lm) (kk : ∀ σ2 lm2, RR σ2 (σ2 17) lm2 → WW X G 4 σ2 lm2 1340 (LL G b i) []) : WW X G 4 σ lm 483 (LL G b i) [] := by
  obtain ⟨r, e1, e2⟩ := s_told (a1 := (xs (ix (i + 1)))) h
  refine r_aload_n (k := 1) hX rfl 2 rfl dL_law_483 ?_
  refine r_aload_n (k := 0) hX rfl 3 rfl dL_law_484 ?_
  refine r_iload_n (k := 3) hX rfl 0 rfl dL_law_485 ?_
  refine r_iconst (v := 1) hX rfl dL_law_486 ?_
  refine r_iadd hX dL_law_487 ?_
  refine r_xld hX hS (hv 1 (by decide) (by decide)) dL_law_488 ?_
  refine r_callVi hX hR (c_X6_told X.2.1 G e1) rfl rfl mf_X6_told ml_L_54 in_X6_told se_X6_told (k := 6) rfl rfl ⟨rfl, rfl, by decide, by decide⟩ rfl rfl (Nat.le_of_ble_eq_true rfl) dL_law_489 ?_
  refine r_aload_n (k := 2) hX rfl 1 rfl dL_law_492 ?_
  refine r_aload_n (k := 0) hX rfl 3 rfl dL_law_493 ?_
  refine r_iload_n (k := 3) hX rfl 0 rfl dL_law_494 ?_
  refine r_iconst (v := 1) hX rfl dL_law_495 ?_
  refine r_iadd hX dL_law_496 ?_
  refine r_xld hX hS (hv 1 (by decide) (by decide)) dL_law_497 ?_
  refine r_callVi hX hR (c_X7_told X.2.1 G (σ := σ) (P := σ 17) e2) (m1_e rfl) (m1_e rfl) mf_X7_told ml_L_57 in_X7_told se_X7_told (k := 7) rfl rfl ⟨rfl, rfl, by decide, by decide⟩ rfl rfl (Nat.le_of_ble_eq_true rfl) dL_law_498 ?_
  exact r_icmp_eq hX dL_law_501 (fun _ => kk σ lm h) (fun hc => absurd rfl hc)
theorem law_10 (hX : Cx X G R_law code 4) (hR : rmX X = room_1) (hS : XS X G b N xs) (hv : VI i N) (h : RR σ (σ 17) lm) (kk : ∀ σ2 lm2, RR σ2 (σ2 17) lm2 → WW X G 4 σ2 lm2 1340 (LL G b i) []) : WW X G 4 σ lm 506 (LL G b i) [] := by
  obtain ⟨r, t, Q, e1, e2, e17, h2⟩ := s_pass (a1 := (xs (ix (i + 1)))) h
  refine r_aload_n (k := 1) hX rfl 2 rfl dL_law_506 ?_
  refine r_aload_n (k := 0) hX rfl 3 rfl dL_law_507 ?_
  refine r_iload_n (k := 3) hX rfl 0 rfl dL_law_508 ?_
  refine r_iconst (v := 1) hX rfl dL_law_509 ?_
  refine r_iadd hX dL_law_510 ?_
  refine r_xld hX hS (hv 1 (by decide) (by decide)) dL_law_511 ?_
  refine r_callVi hX hR (c_X6_pass X.2.1 G e1) rfl rfl mf_X6_pass ml_L_58 in_X6_pass se_X6_pass (k := 6) rfl rfl ⟨rfl, rfl, by decide, by decide⟩ rfl rfl (Nat.le_of_ble_eq_true rfl) dL_law_512 ?_
  refine r_aload_n (k := 2) hX rfl 1 rfl dL_law_515 ?_
  refine r_aload_n (k := 0) hX rfl 3 rfl dL_law_516 ?_
  refine r_iload_n (k := 3) hX rfl 0 rfl dL_law_517 ?_
  refine r_iconst (v := 1) hX rfl dL_law_518 ?_
  refine r_iadd hX dL_law_519 ?_
  refine r_xld hX hS (hv 1 (by decide) (by decide)) dL_law_520 ?_
  refine r_callVi hX hR (c_X7_pass X.2.1 G (σ := t) (P := σ 17) e2) (m1_e e17) rfl mf_X7_pass ml_L_61 in_X7_pass se_X7_pass (k := 7) rfl rfl ⟨rfl, rfl, by decide, by decide⟩ rfl rfl (Nat.le_of_ble_eq_true rfl) dL_law_521 ?_
  exact r_icmp_eq hX dL_law_524 (fun _ => kk (m1 t 17 Q) lm (RR_put h2)) (fun hc => absurd rfl hc)
theorem law_11 (hX : Cx X G R_law code 4) (hR : rmX X = room_1) (hS : XS X G b N xs) (hv : VI i N) (h : RR σ (σ 17) lm) (kk : ∀ σ2 lm2, RR σ2 (σ2 17) lm2 → WW X G 4 σ2 lm2 1340 (LL G b i) []) : WW X G 4 σ lm 529 (LL G b i) [] := by
  obtain ⟨r, t, Q, e1, e2, e17, h2⟩ := s_on (a1 := (xs (ix (i + 1)))) (a2 := (xs (ix (i + 2)))) h
  refine r_aload_n (k := 1) hX rfl 2 rfl dL_law_529 ?_
  refine r_aload_n (k := 0) hX rfl 3 rfl dL_law_530 ?_
  refine r_iload_n (k := 3) hX rfl 0 rfl dL_law_531 ?_
  refine r_iconst (v := 1) hX rfl dL_law_532 ?_
  refine r_iadd hX dL_law_533 ?_
  refine r_xld hX hS (hv 1 (by decide) (by decide)) dL_law_534 ?_
  refine r_aload_n (k := 0) hX rfl 3 rfl dL_law_535 ?_
  refine r_iload_n (k := 3) hX rfl 0 rfl dL_law_536 ?_
  refine r_iconst (v := 2) hX rfl dL_law_537 ?_
  refine r_iadd hX dL_law_538 ?_
  refine r_xld hX hS (hv 2 (by decide) (by decide)) dL_law_539 ?_
  refine r_callVi hX hR (c_X6_on X.2.1 G e1) rfl rfl mf_X6_on ml_L_62 in_X6_on se_X6_on (k := 6) rfl rfl ⟨rfl, rfl, by decide, by decide⟩ rfl rfl (Nat.le_of_ble_eq_true rfl) dL_law_540 ?_
  refine r_aload_n (k := 2) hX rfl 1 rfl dL_law_543 ?_
  refine r_aload_n (k := 0) hX rfl 3 rfl dL_law_544 ?_
  refine r_iload_n (k := 3) hX rfl 0 rfl dL_law_545 ?_
  refine r_iconst (v := 1) hX rfl dL_law_546 ?_
  refine r_iadd hX dL_law_547 ?_
  refine r_xld hX hS (hv 1 (by decide) (by decide)) dL_law_548 ?_
  refine r_aload_n (k := 0) hX rfl 3 rfl dL_law_549 ?_
  refine r_iload_n (k := 3) hX rfl 0 rfl dL_law_550 ?_
  refine r_iconst (v := 2) hX rfl dL_law_551 ?_
  refine r_iadd hX dL_law_552 ?_
  refine r_xld hX hS (hv 2 (by decide) (by decide)) dL_law_553 ?_
  refine r_callVi hX hR (c_X7_on X.2.1 G (σ := t) (P := σ 17) e2) (m1_e e17) rfl mf_X7_on ml_L_65 in_X7_on se_X7_on (k := 7) rfl rfl ⟨rfl, rfl, by decide, by decide⟩ rfl rfl (Nat.le_of_ble_eq_true rfl) dL_law_554 ?_
  exact r_icmp_eq hX dL_law_557 (fun _ => kk (m1 t 17 Q) lm (RR_put h2)) (fun hc => absurd rfl hc)
theorem law_12 (hX : Cx X G R_law code 4) (hR : rmX X = room_1) (hS : XS X G b N xs) (hv : VI i N) (h : RR σ (σ 17) lm) (kk : ∀ σ2 lm2, RR σ2 (σ2 17) lm2 → WW X G 4 σ2 lm2 1340 (LL G b i) []) : WW X G 4 σ lm 562 (LL G b i) [] := by
  obtain ⟨r, t, Q, e1, e2, e17, h2⟩ := s_lowest (a1 := (xs (ix (i + 1)))) (a2 := (xs (ix (i + 2)))) h
  refine r_aload_n (k := 1) hX rfl 2 rfl dL_law_562 ?_
  refine r_aload_n (k := 0) hX rfl 3 rfl dL_law_563 ?_
  refine r_iload_n (k := 3) hX rfl 0 rfl dL_law_564 ?_
  refine r_iconst (v := 1) hX rfl dL_law_565 ?_
  refine r_iadd hX dL_law_566 ?_
  refine r_xld hX hS (hv 1 (by decide) (by decide)) dL_law_567 ?_
  refine r_aload_n (k := 0) hX rfl 3 rfl dL_law_568 ?_
  refine r_iload_n (k := 3) hX rfl 0 rfl dL_law_569 ?_
  refine r_iconst (v := 2) hX rfl dL_law_570 ?_
  refine r_iadd hX dL_law_571 ?_
  refine r_xld hX hS (hv 2 (by decide) (by decide)) dL_law_572 ?_
  refine r_callVi hX hR (c_X6_lowest X.2.1 G e1) rfl rfl mf_X6_lowest ml_L_66 in_X6_lowest se_X6_lowest (k := 6) rfl rfl ⟨rfl, rfl, by decide, by decide⟩ rfl rfl (Nat.le_of_ble_eq_true rfl) dL_law_573 ?_
  refine r_aload_n (k := 2) hX rfl 1 rfl dL_law_576 ?_
  refine r_aload_n (k := 0) hX rfl 3 rfl dL_law_577 ?_
  refine r_iload_n (k := 3) hX rfl 0 rfl dL_law_578 ?_
  refine r_iconst (v := 1) hX rfl dL_law_579 ?_
  refine r_iadd hX dL_law_580 ?_
  refine r_xld hX hS (hv 1 (by decide) (by decide)) dL_law_581 ?_
  refine r_aload_n (k := 0) hX rfl 3 rfl dL_law_582 ?_
  refine r_iload_n (k := 3) hX rfl 0 rfl dL_law_583 ?_
  refine r_iconst (v := 2) hX rfl dL_law_584 ?_
  refine r_iadd hX dL_law_585 ?_
  refine r_xld hX hS (hv 2 (by decide) (by decide)) dL_law_586 ?_
  refine r_callVi hX hR (c_X7_lowest X.2.1 G (σ := t) (P := σ 17) e2) (m1_e e17) rfl mf_X7_lowest ml_L_69 in_X7_lowest se_X7_lowest (k := 7) rfl rfl ⟨rfl, rfl, by decide, by decide⟩ rfl rfl (Nat.le_of_ble_eq_true rfl) dL_law_587 ?_
  exact r_icmp_eq hX dL_law_590 (fun _ => kk (m1 t 17 Q) lm (RR_put h2)) (fun hc => absurd rfl hc)
theorem law_13 (hX : Cx X G R_law code 4) (hR : rmX X = room_1) (hS : XS X G b N xs) (hv : VI i N) (h : RR σ (σ 17) lm) (kk : ∀ σ2 lm2, RR σ2 (σ2 17) lm2 → WW X G 4 σ2 lm2 1340 (LL G b i) []) : WW X G 4 σ lm 595 (LL G b i) [] := by
  obtain ⟨r, t, Q, e1, e2, e17, h2⟩ := s_first  h
  refine r_aload_n (k := 1) hX rfl 2 rfl dL_law_595 ?_
  refine r_callVi hX hR (c_X6_first X.2.1 G e1) rfl rfl mf_X6_first ml_L_70 in_X6_first se_X6_first (k := 6) rfl rfl ⟨rfl, rfl, by decide, by decide⟩ rfl rfl (Nat.le_of_ble_eq_true rfl) dL_law_596 ?_
  refine r_aload_n (k := 2) hX rfl 1 rfl dL_law_599 ?_
  refine r_callVi hX hR (c_X7_first X.2.1 G (σ := t) (P := σ 17) e2) (m1_e e17) rfl mf_X7_first ml_L_73 in_X7_first se_X7_first (k := 7) rfl rfl ⟨rfl, rfl, by decide, by decide⟩ rfl rfl (Nat.le_of_ble_eq_true rfl) dL_law_600 ?_
  exact r_icmp_eq hX dL_law_603 (fun _ => kk (m1 t 17 Q) lm (RR_put h2)) (fun hc => absurd rfl hc)
theorem law_14 (hX : Cx X G R_law code 4) (hR : rmX X = room_1) (hS : XS X G b N xs) (hv : VI i N) (h : RR σ (σ 17) lm) (kk : ∀ σ2 lm2, RR σ2 (σ2 17) lm2 → WW X G 4 σ2 lm2 1340 (LL G b i) []) : WW X G 4 σ lm 608 (LL G b i) [] := by
  obtain ⟨r, t, Q, e1, e2, e17, h2⟩ := s_best (a1 := (xs (ix (i + 1)))) h
  refine r_aload_n (k := 1) hX rfl 2 rfl dL_law_608 ?_
  refine r_aload_n (k := 0) hX rfl 3 rfl dL_law_609 ?_
  refine r_iload_n (k := 3) hX rfl 0 rfl dL_law_610 ?_
  refine r_iconst (v := 1) hX rfl dL_law_611 ?_
  refine r_iadd hX dL_law_612 ?_
  refine r_xld hX hS (hv 1 (by decide) (by decide)) dL_law_613 ?_
  refine r_callVi hX hR (c_X6_best X.2.1 G e1) rfl rfl mf_X6_best ml_L_74 in_X6_best se_X6_best (k := 6) rfl rfl ⟨rfl, rfl, by decide, by decide⟩ rfl rfl (Nat.le_of_ble_eq_true rfl) dL_law_614 ?_
  refine r_aload_n (k := 2) hX rfl 1 rfl dL_law_617 ?_
  refine r_aload_n (k := 0) hX rfl 3 rfl dL_law_618 ?_
  refine r_iload_n (k := 3) hX rfl 0 rfl dL_law_619 ?_
  refine r_iconst (v := 1) hX rfl dL_law_620 ?_
  refine r_iadd hX dL_law_621 ?_
  refine r_xld hX hS (hv 1 (by decide) (by decide)) dL_law_622 ?_
  refine r_callVi hX hR (c_X7_best X.2.1 G (σ := t) (P := σ 17) e2) (m1_e e17) rfl mf_X7_best ml_L_77 in_X7_best se_X7_best (k := 7) rfl rfl ⟨rfl, rfl, by decide, by decide⟩ rfl rfl (Nat.le_of_ble_eq_true rfl) dL_law_623 ?_
  exact r_icmp_eq hX dL_law_626 (fun _ => kk (m1 t 17 Q) lm (RR_put h2)) (fun hc => absurd rfl hc)
theorem law_15 (hX : Cx X G R_law code 4) (hR : rmX X = room_1) (hS : XS X G b N xs) (hv : VI i N) (h : RR σ (σ 17) lm) (kk : ∀ σ2 lm2, RR σ2 (σ2 17) lm2 → WW X G 4 σ2 lm2 1340 (LL G b i) []) : WW X G 4 σ lm 631 (LL G b i) [] := by
  obtain ⟨r, t, Q, e1, e2, e17, h2⟩ := s_seldom (a1 := (xs (ix (i + 1)))) h
  refine r_aload_n (k := 1) hX rfl 2 rfl dL_law_631 ?_
  refine r_aload_n (k := 0) hX rfl 3 rfl dL_law_632 ?_
  refine r_iload_n (k := 3) hX rfl 0 rfl dL_law_633 ?_
  refine r_iconst (v := 1) hX rfl dL_law_634 ?_
  refine r_iadd hX dL_law_635 ?_
  refine r_xld hX hS (hv 1 (by decide) (by decide)) dL_law_636 ?_
  refine r_callVi hX hR (c_X6_seldom X.2.1 G e1) rfl rfl mf_X6_seldom ml_L_78 in_X6_seldom se_X6_seldom (k := 6) rfl rfl ⟨rfl, rfl, by decide, by decide⟩ rfl rfl (Nat.le_of_ble_eq_true rfl) dL_law_637 ?_
  refine r_aload_n (k := 2) hX rfl 1 rfl dL_law_640 ?_
  refine r_aload_n (k := 0) hX rfl 3 rfl dL_law_641 ?_
  refine r_iload_n (k := 3) hX rfl 0 rfl dL_law_642 ?_
  refine r_iconst (v := 1) hX rfl dL_law_643 ?_
  refine r_iadd hX dL_law_644 ?_
  refine r_xld hX hS (hv 1 (by decide) (by decide)) dL_law_645 ?_
  refine r_callVi hX hR (c_X7_seldom X.2.1 G (σ := t) (P := σ 17) e2) (m1_e e17) rfl mf_X7_seldom ml_L_81 in_X7_seldom se_X7_seldom (k := 7) rfl rfl ⟨rfl, rfl, by decide, by decide⟩ rfl rfl (Nat.le_of_ble_eq_true rfl) dL_law_646 ?_
  exact r_icmp_eq hX dL_law_649 (fun _ => kk (m1 t 17 Q) lm (RR_put h2)) (fun hc => absurd rfl hc)
theorem law_16 (hX : Cx X G R_law code 4) (hR : rmX X = room_1) (hS : XS X G b N xs) (hv : VI i N) (h : RR σ (σ 17) lm) (kk : ∀ σ2 lm2, RR σ2 (σ2 17) lm2 → WW X G 4 σ2 lm2 1340 (LL G b i) []) : WW X G 4 σ lm 654 (LL G b i) [] := by
  obtain ⟨r, t, Q, e1, e2, e17, h2⟩ := s_more (a1 := (xs (ix (i + 1)))) h
  refine r_aload_n (k := 1) hX rfl 2 rfl dL_law_654 ?_
  refine r_aload_n (k := 0) hX rfl 3 rfl dL_law_655 ?_
  refine r_iload_n (k := 3) hX rfl 0 rfl dL_law_656 ?_
  refine r_iconst (v := 1) hX rfl dL_law_657 ?_
  refine r_iadd hX dL_law_658 ?_
  refine r_xld hX hS (hv 1 (by decide) (by decide)) dL_law_659 ?_
  refine r_callVi hX hR (c_X6_more X.2.1 G e1) rfl rfl mf_X6_more ml_L_82 in_X6_more se_X6_more (k := 6) rfl rfl ⟨rfl, rfl, by decide, by decide⟩ rfl rfl (Nat.le_of_ble_eq_true rfl) dL_law_660 ?_
  refine r_aload_n (k := 2) hX rfl 1 rfl dL_law_663 ?_
  refine r_aload_n (k := 0) hX rfl 3 rfl dL_law_664 ?_
  refine r_iload_n (k := 3) hX rfl 0 rfl dL_law_665 ?_
  refine r_iconst (v := 1) hX rfl dL_law_666 ?_
  refine r_iadd hX dL_law_667 ?_
  refine r_xld hX hS (hv 1 (by decide) (by decide)) dL_law_668 ?_
  refine r_callVi hX hR (c_X7_more X.2.1 G (σ := t) (P := σ 17) e2) (m1_e e17) rfl mf_X7_more ml_L_85 in_X7_more se_X7_more (k := 7) rfl rfl ⟨rfl, rfl, by decide, by decide⟩ rfl rfl (Nat.le_of_ble_eq_true rfl) dL_law_669 ?_
  exact r_icmp_eq hX dL_law_672 (fun _ => kk (m1 t 17 Q) lm (RR_put h2)) (fun hc => absurd rfl hc)
theorem law_17 (hX : Cx X G R_law code 4) (hR : rmX X = room_1) (hS : XS X G b N xs) (hv : VI i N) (h : RR σ (σ 17) lm) (kk : ∀ σ2 lm2, RR σ2 (σ2 17) lm2 → WW X G 4 σ2 lm2 1340 (LL G b i) []) : WW X G 4 σ lm 677 (LL G b i) [] := by
  obtain ⟨r, t, Q, e1, e2, e17, h2⟩ := s_see (a1 := (xs (ix (i + 1)))) (a2 := (xs (ix (i + 2)))) h
  refine r_aload_n (k := 1) hX rfl 2 rfl dL_law_677 ?_
  refine r_aload_n (k := 0) hX rfl 3 rfl dL_law_678 ?_
  refine r_iload_n (k := 3) hX rfl 0 rfl dL_law_679 ?_
  refine r_iconst (v := 1) hX rfl dL_law_680 ?_
  refine r_iadd hX dL_law_681 ?_
  refine r_xld hX hS (hv 1 (by decide) (by decide)) dL_law_682 ?_
  refine r_aload_n (k := 0) hX rfl 3 rfl dL_law_683 ?_
  refine r_iload_n (k := 3) hX rfl 0 rfl dL_law_684 ?_
  refine r_iconst (v := 2) hX rfl dL_law_685 ?_
  refine r_iadd hX dL_law_686 ?_
  refine r_xld hX hS (hv 2 (by decide) (by decide)) dL_law_687 ?_
  refine r_callVi hX hR (c_X6_see X.2.1 G e1) rfl rfl mf_X6_see ml_L_86 in_X6_see se_X6_see (k := 6) rfl rfl ⟨rfl, rfl, by decide, by decide⟩ rfl rfl (Nat.le_of_ble_eq_true rfl) dL_law_688 ?_
  refine r_aload_n (k := 2) hX rfl 1 rfl dL_law_691 ?_
  refine r_aload_n (k := 0) hX rfl 3 rfl dL_law_692 ?_
  refine r_iload_n (k := 3) hX rfl 0 rfl dL_law_693 ?_
  refine r_iconst (v := 1) hX rfl dL_law_694 ?_
  refine r_iadd hX dL_law_695 ?_
  refine r_xld hX hS (hv 1 (by decide) (by decide)) dL_law_696 ?_
  refine r_aload_n (k := 0) hX rfl 3 rfl dL_law_697 ?_
  refine r_iload_n (k := 3) hX rfl 0 rfl dL_law_698 ?_
  refine r_iconst (v := 2) hX rfl dL_law_699 ?_
  refine r_iadd hX dL_law_700 ?_
  refine r_xld hX hS (hv 2 (by decide) (by decide)) dL_law_701 ?_
  refine r_callVi hX hR (c_X7_see X.2.1 G (σ := t) (P := σ 17) e2) (m1_e e17) rfl mf_X7_see ml_L_89 in_X7_see se_X7_see (k := 7) rfl rfl ⟨rfl, rfl, by decide, by decide⟩ rfl rfl (Nat.le_of_ble_eq_true rfl) dL_law_702 ?_
  exact r_icmp_eq hX dL_law_705 (fun _ => kk (m1 t 17 Q) lm (RR_put h2)) (fun hc => absurd rfl hc)
theorem law_18 (hX : Cx X G R_law code 4) (hR : rmX X = room_1) (hS : XS X G b N xs) (hv : VI i N) (h : RR σ (σ 17) lm) (kk : ∀ σ2 lm2, RR σ2 (σ2 17) lm2 → WW X G 4 σ2 lm2 1340 (LL G b i) []) : WW X G 4 σ lm 710 (LL G b i) [] := by
  obtain ⟨r, t, Q, e1, e2, e17, h2⟩ := s_wanted (a1 := (xs (ix (i + 1)))) (a2 := (xs (ix (i + 2)))) h
  refine r_aload_n (k := 1) hX rfl 2 rfl dL_law_710 ?_
  refine r_aload_n (k := 0) hX rfl 3 rfl dL_law_711 ?_
  refine r_iload_n (k := 3) hX rfl 0 rfl dL_law_712 ?_
  refine r_iconst (v := 1) hX rfl dL_law_713 ?_
  refine r_iadd hX dL_law_714 ?_
  refine r_xld hX hS (hv 1 (by decide) (by decide)) dL_law_715 ?_
  refine r_aload_n (k := 0) hX rfl 3 rfl dL_law_716 ?_
  refine r_iload_n (k := 3) hX rfl 0 rfl dL_law_717 ?_
  refine r_iconst (v := 2) hX rfl dL_law_718 ?_
  refine r_iadd hX dL_law_719 ?_
  refine r_xld hX hS (hv 2 (by decide) (by decide)) dL_law_720 ?_
  refine r_callVi hX hR (c_X6_wanted X.2.1 G e1) rfl rfl mf_X6_wanted ml_L_90 in_X6_wanted se_X6_wanted (k := 6) rfl rfl ⟨rfl, rfl, by decide, by decide⟩ rfl rfl (Nat.le_of_ble_eq_true rfl) dL_law_721 ?_
  refine r_aload_n (k := 2) hX rfl 1 rfl dL_law_724 ?_
  refine r_aload_n (k := 0) hX rfl 3 rfl dL_law_725 ?_
  refine r_iload_n (k := 3) hX rfl 0 rfl dL_law_726 ?_
  refine r_iconst (v := 1) hX rfl dL_law_727 ?_
  refine r_iadd hX dL_law_728 ?_
  refine r_xld hX hS (hv 1 (by decide) (by decide)) dL_law_729 ?_
  refine r_aload_n (k := 0) hX rfl 3 rfl dL_law_730 ?_
  refine r_iload_n (k := 3) hX rfl 0 rfl dL_law_731 ?_
  refine r_iconst (v := 2) hX rfl dL_law_732 ?_
  refine r_iadd hX dL_law_733 ?_
  refine r_xld hX hS (hv 2 (by decide) (by decide)) dL_law_734 ?_
  refine r_callVi hX hR (c_X7_wanted X.2.1 G (σ := t) (P := σ 17) e2) (m1_e e17) rfl mf_X7_wanted ml_L_93 in_X7_wanted se_X7_wanted (k := 7) rfl rfl ⟨rfl, rfl, by decide, by decide⟩ rfl rfl (Nat.le_of_ble_eq_true rfl) dL_law_735 ?_
  exact r_icmp_eq hX dL_law_738 (fun _ => kk (m1 t 17 Q) lm (RR_put h2)) (fun hc => absurd rfl hc)
theorem law_19 (hX : Cx X G R_law code 4) (hR : rmX X = room_1) (hS : XS X G b N xs) (hv : VI i N) (h : RR σ (σ 17) lm) (kk : ∀ σ2 lm2, RR σ2 (σ2 17) lm2 → WW X G 4 σ2 lm2 1340 (LL G b i) []) : WW X G 4 σ lm 743 (LL G b i) [] := by
  obtain ⟨r, t, Q, e1, e2, e17, h2⟩ := s_can (a1 := (xs (ix (i + 1)))) (a2 := (xs (ix (i + 2)))) h
  refine r_aload_n (k := 1) hX rfl 2 rfl dL_law_743 ?_
  refine r_aload_n (k := 0) hX rfl 3 rfl dL_law_744 ?_
  refine r_iload_n (k := 3) hX rfl 0 rfl dL_law_745 ?_
  refine r_iconst (v := 1) hX rfl dL_law_746 ?_
  refine r_iadd hX dL_law_747 ?_
  refine r_xld hX hS (hv 1 (by decide) (by decide)) dL_law_748 ?_
  refine r_aload_n (k := 0) hX rfl 3 rfl dL_law_749 ?_
  refine r_iload_n (k := 3) hX rfl 0 rfl dL_law_750 ?_
  refine r_iconst (v := 2) hX rfl dL_law_751 ?_
  refine r_iadd hX dL_law_752 ?_
  refine r_xld hX hS (hv 2 (by decide) (by decide)) dL_law_753 ?_
  refine r_callVi hX hR (c_X6_can X.2.1 G e1) rfl rfl mf_X6_can ml_L_94 in_X6_can se_X6_can (k := 6) rfl rfl ⟨rfl, rfl, by decide, by decide⟩ rfl rfl (Nat.le_of_ble_eq_true rfl) dL_law_754 ?_
  refine r_aload_n (k := 2) hX rfl 1 rfl dL_law_757 ?_
  refine r_aload_n (k := 0) hX rfl 3 rfl dL_law_758 ?_
  refine r_iload_n (k := 3) hX rfl 0 rfl dL_law_759 ?_
  refine r_iconst (v := 1) hX rfl dL_law_760 ?_
  refine r_iadd hX dL_law_761 ?_
  refine r_xld hX hS (hv 1 (by decide) (by decide)) dL_law_762 ?_
  refine r_aload_n (k := 0) hX rfl 3 rfl dL_law_763 ?_
  refine r_iload_n (k := 3) hX rfl 0 rfl dL_law_764 ?_
  refine r_iconst (v := 2) hX rfl dL_law_765 ?_
  refine r_iadd hX dL_law_766 ?_
  refine r_xld hX hS (hv 2 (by decide) (by decide)) dL_law_767 ?_
  refine r_callVi hX hR (c_X7_can X.2.1 G (σ := t) (P := σ 17) e2) (m1_e e17) rfl mf_X7_can ml_L_97 in_X7_can se_X7_can (k := 7) rfl rfl ⟨rfl, rfl, by decide, by decide⟩ rfl rfl (Nat.le_of_ble_eq_true rfl) dL_law_768 ?_
  exact r_icmp_eq hX dL_law_771 (fun _ => kk (m1 t 17 Q) lm (RR_put h2)) (fun hc => absurd rfl hc)
theorem law_20 (hX : Cx X G R_law code 4) (hR : rmX X = room_1) (hS : XS X G b N xs) (hv : VI i N) (h : RR σ (σ 17) lm) (kk : ∀ σ2 lm2, RR σ2 (σ2 17) lm2 → WW X G 4 σ2 lm2 1340 (LL G b i) []) : WW X G 4 σ lm 776 (LL G b i) [] := by
  obtain ⟨r, t, Q, e1, e2, e17, h2⟩ := s_odds (a1 := (xs (ix (i + 1)))) (a2 := (xs (ix (i + 2)))) h
  refine r_aload_n (k := 1) hX rfl 2 rfl dL_law_776 ?_
  refine r_aload_n (k := 0) hX rfl 3 rfl dL_law_777 ?_
  refine r_iload_n (k := 3) hX rfl 0 rfl dL_law_778 ?_
  refine r_iconst (v := 1) hX rfl dL_law_779 ?_
  refine r_iadd hX dL_law_780 ?_
  refine r_xld hX hS (hv 1 (by decide) (by decide)) dL_law_781 ?_
  refine r_aload_n (k := 0) hX rfl 3 rfl dL_law_782 ?_
  refine r_iload_n (k := 3) hX rfl 0 rfl dL_law_783 ?_
  refine r_iconst (v := 2) hX rfl dL_law_784 ?_
  refine r_iadd hX dL_law_785 ?_
  refine r_xld hX hS (hv 2 (by decide) (by decide)) dL_law_786 ?_
  refine r_callVi hX hR (c_X6_odds X.2.1 G e1) rfl rfl mf_X6_odds ml_L_98 in_X6_odds se_X6_odds (k := 6) rfl rfl ⟨rfl, rfl, by decide, by decide⟩ rfl rfl (Nat.le_of_ble_eq_true rfl) dL_law_787 ?_
  refine r_aload_n (k := 2) hX rfl 1 rfl dL_law_790 ?_
  refine r_aload_n (k := 0) hX rfl 3 rfl dL_law_791 ?_
  refine r_iload_n (k := 3) hX rfl 0 rfl dL_law_792 ?_
  refine r_iconst (v := 1) hX rfl dL_law_793 ?_
  refine r_iadd hX dL_law_794 ?_
  refine r_xld hX hS (hv 1 (by decide) (by decide)) dL_law_795 ?_
  refine r_aload_n (k := 0) hX rfl 3 rfl dL_law_796 ?_
  refine r_iload_n (k := 3) hX rfl 0 rfl dL_law_797 ?_
  refine r_iconst (v := 2) hX rfl dL_law_798 ?_
  refine r_iadd hX dL_law_799 ?_
  refine r_xld hX hS (hv 2 (by decide) (by decide)) dL_law_800 ?_
  refine r_callVi hX hR (c_X7_odds X.2.1 G (σ := t) (P := σ 17) e2) (m1_e e17) rfl mf_X7_odds ml_L_102 in_X7_odds se_X7_odds (k := 7) rfl rfl ⟨rfl, rfl, by decide, by decide⟩ rfl rfl (Nat.le_of_ble_eq_true rfl) dL_law_801 ?_
  refine r_lcmp hX dL_law_804 ?_
  exact r_if_eq hX dL_law_805 (fun _ => kk (m1 t 17 Q) lm (RR_put h2)) (fun hc => absurd lgc hc)
theorem law_21 (hX : Cx X G R_law code 4) (hR : rmX X = room_1) (hS : XS X G b N xs) (hv : VI i N) (h : RR σ (σ 17) lm) (kk : ∀ σ2 lm2, RR σ2 (σ2 17) lm2 → WW X G 4 σ2 lm2 1340 (LL G b i) []) : WW X G 4 σ lm 810 (LL G b i) [] := by
  obtain ⟨r, t, Q, e1, e2, e17, h2⟩ := s_mean (a1 := (xs (ix (i + 1)))) (a2 := (xs (ix (i + 2)))) h
  refine r_aload_n (k := 1) hX rfl 2 rfl dL_law_810 ?_
  refine r_aload_n (k := 0) hX rfl 3 rfl dL_law_811 ?_
  refine r_iload_n (k := 3) hX rfl 0 rfl dL_law_812 ?_
  refine r_iconst (v := 1) hX rfl dL_law_813 ?_
  refine r_iadd hX dL_law_814 ?_
  refine r_xld hX hS (hv 1 (by decide) (by decide)) dL_law_815 ?_
  refine r_aload_n (k := 0) hX rfl 3 rfl dL_law_816 ?_
  refine r_iload_n (k := 3) hX rfl 0 rfl dL_law_817 ?_
  refine r_iconst (v := 2) hX rfl dL_law_818 ?_
  refine r_iadd hX dL_law_819 ?_
  refine r_xld hX hS (hv 2 (by decide) (by decide)) dL_law_820 ?_
  refine r_callVi hX hR (c_X6_mean X.2.1 G e1) rfl rfl mf_X6_mean ml_L_103 in_X6_mean se_X6_mean (k := 6) rfl rfl ⟨rfl, rfl, by decide, by decide⟩ rfl rfl (Nat.le_of_ble_eq_true rfl) dL_law_821 ?_
  refine r_aload_n (k := 2) hX rfl 1 rfl dL_law_824 ?_
  refine r_aload_n (k := 0) hX rfl 3 rfl dL_law_825 ?_
  refine r_iload_n (k := 3) hX rfl 0 rfl dL_law_826 ?_
  refine r_iconst (v := 1) hX rfl dL_law_827 ?_
  refine r_iadd hX dL_law_828 ?_
  refine r_xld hX hS (hv 1 (by decide) (by decide)) dL_law_829 ?_
  refine r_aload_n (k := 0) hX rfl 3 rfl dL_law_830 ?_
  refine r_iload_n (k := 3) hX rfl 0 rfl dL_law_831 ?_
  refine r_iconst (v := 2) hX rfl dL_law_832 ?_
  refine r_iadd hX dL_law_833 ?_
  refine r_xld hX hS (hv 2 (by decide) (by decide)) dL_law_834 ?_
  refine r_callVi hX hR (c_X7_mean X.2.1 G (σ := t) (P := σ 17) e2) (m1_e e17) rfl mf_X7_mean ml_L_106 in_X7_mean se_X7_mean (k := 7) rfl rfl ⟨rfl, rfl, by decide, by decide⟩ rfl rfl (Nat.le_of_ble_eq_true rfl) dL_law_835 ?_
  refine r_lcmp hX dL_law_838 ?_
  exact r_if_eq hX dL_law_839 (fun _ => kk (m1 t 17 Q) lm (RR_put h2)) (fun hc => absurd lgc hc)
theorem law_22 (hX : Cx X G R_law code 4) (hR : rmX X = room_1) (hS : XS X G b N xs) (hv : VI i N) (h : RR σ (σ 17) lm) (kk : ∀ σ2 lm2, RR σ2 (σ2 17) lm2 → WW X G 4 σ2 lm2 1340 (LL G b i) []) : WW X G 4 σ lm 844 (LL G b i) [] := by
  obtain ⟨r, t, Q, e1, e2, e17, h2⟩ := s_year (a1 := (xs (ix (i + 1)))) (a2 := (xs (ix (i + 2)))) h
  refine r_aload_n (k := 1) hX rfl 2 rfl dL_law_844 ?_
  refine r_aload_n (k := 0) hX rfl 3 rfl dL_law_845 ?_
  refine r_iload_n (k := 3) hX rfl 0 rfl dL_law_846 ?_
  refine r_iconst (v := 1) hX rfl dL_law_847 ?_
  refine r_iadd hX dL_law_848 ?_
  refine r_xld hX hS (hv 1 (by decide) (by decide)) dL_law_849 ?_
  refine r_aload_n (k := 0) hX rfl 3 rfl dL_law_850 ?_
  refine r_iload_n (k := 3) hX rfl 0 rfl dL_law_851 ?_
  refine r_iconst (v := 2) hX rfl dL_law_852 ?_
  refine r_iadd hX dL_law_853 ?_
  refine r_xld hX hS (hv 2 (by decide) (by decide)) dL_law_854 ?_
  refine r_callVi hX hR (c_X6_year X.2.1 G e1) rfl rfl mf_X6_year ml_L_107 in_X6_year se_X6_year (k := 6) rfl rfl ⟨rfl, rfl, by decide, by decide⟩ rfl rfl (Nat.le_of_ble_eq_true rfl) dL_law_855 ?_
  refine r_aload_n (k := 2) hX rfl 1 rfl dL_law_858 ?_
  refine r_aload_n (k := 0) hX rfl 3 rfl dL_law_859 ?_
  refine r_iload_n (k := 3) hX rfl 0 rfl dL_law_860 ?_
  refine r_iconst (v := 1) hX rfl dL_law_861 ?_
  refine r_iadd hX dL_law_862 ?_
  refine r_xld hX hS (hv 1 (by decide) (by decide)) dL_law_863 ?_
  refine r_aload_n (k := 0) hX rfl 3 rfl dL_law_864 ?_
  refine r_iload_n (k := 3) hX rfl 0 rfl dL_law_865 ?_
  refine r_iconst (v := 2) hX rfl dL_law_866 ?_
  refine r_iadd hX dL_law_867 ?_
  refine r_xld hX hS (hv 2 (by decide) (by decide)) dL_law_868 ?_
  refine r_callVi hX hR (c_X7_year X.2.1 G (σ := t) (P := σ 17) e2) (m1_e e17) rfl mf_X7_year ml_L_110 in_X7_year se_X7_year (k := 7) rfl rfl ⟨rfl, rfl, by decide, by decide⟩ rfl rfl (Nat.le_of_ble_eq_true rfl) dL_law_869 ?_
  exact r_icmp_eq hX dL_law_872 (fun _ => kk (m1 t 17 Q) lm (RR_put h2)) (fun hc => absurd rfl hc)
theorem law_23 (hX : Cx X G R_law code 4) (hR : rmX X = room_1) (hS : XS X G b N xs) (hv : VI i N) (h : RR σ (σ 17) lm) (kk : ∀ σ2 lm2, RR σ2 (σ2 17) lm2 → WW X G 4 σ2 lm2 1340 (LL G b i) []) : WW X G 4 σ lm 877 (LL G b i) [] := by
  obtain ⟨r, t, Q, e1, e2, e17, h2⟩ := s_gone (a1 := (xs (ix (i + 1)))) h
  refine r_aload_n (k := 1) hX rfl 2 rfl dL_law_877 ?_
  refine r_aload_n (k := 0) hX rfl 3 rfl dL_law_878 ?_
  refine r_iload_n (k := 3) hX rfl 0 rfl dL_law_879 ?_
  refine r_iconst (v := 1) hX rfl dL_law_880 ?_
  refine r_iadd hX dL_law_881 ?_
  refine r_xld hX hS (hv 1 (by decide) (by decide)) dL_law_882 ?_
  refine r_callVi hX hR (c_X6_gone X.2.1 G e1) rfl rfl mf_X6_gone ml_L_111 in_X6_gone se_X6_gone (k := 6) rfl rfl ⟨rfl, rfl, by decide, by decide⟩ rfl rfl (Nat.le_of_ble_eq_true rfl) dL_law_883 ?_
  refine r_aload_n (k := 2) hX rfl 1 rfl dL_law_886 ?_
  refine r_aload_n (k := 0) hX rfl 3 rfl dL_law_887 ?_
  refine r_iload_n (k := 3) hX rfl 0 rfl dL_law_888 ?_
  refine r_iconst (v := 1) hX rfl dL_law_889 ?_
  refine r_iadd hX dL_law_890 ?_
  refine r_xld hX hS (hv 1 (by decide) (by decide)) dL_law_891 ?_
  refine r_callVi hX hR (c_X7_gone X.2.1 G (σ := t) (P := σ 17) e2) (m1_e e17) rfl mf_X7_gone ml_L_114 in_X7_gone se_X7_gone (k := 7) rfl rfl ⟨rfl, rfl, by decide, by decide⟩ rfl rfl (Nat.le_of_ble_eq_true rfl) dL_law_892 ?_
  exact r_icmp_eq hX dL_law_895 (fun _ => kk (m1 t 17 Q) lm (RR_put h2)) (fun hc => absurd rfl hc)
theorem law_24 (hX : Cx X G R_law code 4) (hR : rmX X = room_1) (hS : XS X G b N xs) (hv : VI i N) (h : RR σ (σ 17) lm) (kk : ∀ σ2 lm2, RR σ2 (σ2 17) lm2 → WW X G 4 σ2 lm2 1340 (LL G b i) []) : WW X G 4 σ lm 900 (LL G b i) [] := by
  obtain ⟨r, t, Q, e1, e2, e17, h2⟩ := s_book (a1 := (xs (ix (i + 1)))) (a2 := (xs (ix (i + 2)))) h
  refine r_aload_n (k := 1) hX rfl 2 rfl dL_law_900 ?_
  refine r_aload_n (k := 0) hX rfl 3 rfl dL_law_901 ?_
  refine r_iload_n (k := 3) hX rfl 0 rfl dL_law_902 ?_
  refine r_iconst (v := 1) hX rfl dL_law_903 ?_
  refine r_iadd hX dL_law_904 ?_
  refine r_xld hX hS (hv 1 (by decide) (by decide)) dL_law_905 ?_
  refine r_aload_n (k := 0) hX rfl 3 rfl dL_law_906 ?_
  refine r_iload_n (k := 3) hX rfl 0 rfl dL_law_907 ?_
  refine r_iconst (v := 2) hX rfl dL_law_908 ?_
  refine r_iadd hX dL_law_909 ?_
  refine r_xld hX hS (hv 2 (by decide) (by decide)) dL_law_910 ?_
  refine r_callVi hX hR (c_X6_book X.2.1 G e1) rfl rfl mf_X6_book ml_L_115 in_X6_book se_X6_book (k := 6) rfl rfl ⟨rfl, rfl, by decide, by decide⟩ rfl rfl (Nat.le_of_ble_eq_true rfl) dL_law_911 ?_
  refine r_aload_n (k := 2) hX rfl 1 rfl dL_law_914 ?_
  refine r_aload_n (k := 0) hX rfl 3 rfl dL_law_915 ?_
  refine r_iload_n (k := 3) hX rfl 0 rfl dL_law_916 ?_
  refine r_iconst (v := 1) hX rfl dL_law_917 ?_
  refine r_iadd hX dL_law_918 ?_
  refine r_xld hX hS (hv 1 (by decide) (by decide)) dL_law_919 ?_
  refine r_aload_n (k := 0) hX rfl 3 rfl dL_law_920 ?_
  refine r_iload_n (k := 3) hX rfl 0 rfl dL_law_921 ?_
  refine r_iconst (v := 2) hX rfl dL_law_922 ?_
  refine r_iadd hX dL_law_923 ?_
  refine r_xld hX hS (hv 2 (by decide) (by decide)) dL_law_924 ?_
  refine r_callVi hX hR (c_X7_book X.2.1 G (σ := t) (P := σ 17) e2) (m1_e e17) rfl mf_X7_book ml_L_118 in_X7_book se_X7_book (k := 7) rfl rfl ⟨rfl, rfl, by decide, by decide⟩ rfl rfl (Nat.le_of_ble_eq_true rfl) dL_law_925 ?_
  exact r_icmp_eq hX dL_law_928 (fun _ => kk (m1 t 17 Q) lm (RR_put h2)) (fun hc => absurd rfl hc)
theorem law_25 (hX : Cx X G R_law code 4) (hR : rmX X = room_1) (hS : XS X G b N xs) (hv : VI i N) (h : RR σ (σ 17) lm) (kk : ∀ σ2 lm2, RR σ2 (σ2 17) lm2 → WW X G 4 σ2 lm2 1340 (LL G b i) []) : WW X G 4 σ lm 933 (LL G b i) [] := by
  obtain ⟨r, e1, e2⟩ := s_looked  h
  refine r_aload_n (k := 1) hX rfl 2 rfl dL_law_933 ?_
  refine r_callVi hX hR (c_X6_looked X.2.1 G e1) rfl rfl mf_X6_looked ml_L_119 in_X6_looked se_X6_looked (k := 6) rfl rfl ⟨rfl, rfl, by decide, by decide⟩ rfl rfl (Nat.le_of_ble_eq_true rfl) dL_law_934 ?_
  refine r_aload_n (k := 2) hX rfl 1 rfl dL_law_937 ?_
  refine r_callVi hX hR (c_X7_looked X.2.1 G (σ := σ) (P := σ 17) e2) (m1_e rfl) (m1_e rfl) mf_X7_looked ml_L_122 in_X7_looked se_X7_looked (k := 7) rfl rfl ⟨rfl, rfl, by decide, by decide⟩ rfl rfl (Nat.le_of_ble_eq_true rfl) dL_law_938 ?_
  exact r_icmp_eq hX dL_law_941 (fun _ => kk σ lm h) (fun hc => absurd rfl hc)
theorem law_26 (hX : Cx X G R_law code 4) (hR : rmX X = room_1) (hS : XS X G b N xs) (hv : VI i N) (h : RR σ (σ 17) lm) (kk : ∀ σ2 lm2, RR σ2 (σ2 17) lm2 → WW X G 4 σ2 lm2 1340 (LL G b i) []) : WW X G 4 σ lm 946 (LL G b i) [] := by
  obtain ⟨r, e1, e2⟩ := s_judge (a1 := (xs (ix (i + 1)))) (a2 := (xs (ix (i + 2)))) h
  refine r_aload_n (k := 1) hX rfl 2 rfl dL_law_946 ?_
  refine r_aload_n (k := 0) hX rfl 3 rfl dL_law_947 ?_
  refine r_iload_n (k := 3) hX rfl 0 rfl dL_law_948 ?_
  refine r_iconst (v := 1) hX rfl dL_law_949 ?_
  refine r_iadd hX dL_law_950 ?_
  refine r_xld hX hS (hv 1 (by decide) (by decide)) dL_law_951 ?_
  refine r_aload_n (k := 0) hX rfl 3 rfl dL_law_952 ?_
  refine r_iload_n (k := 3) hX rfl 0 rfl dL_law_953 ?_
  refine r_iconst (v := 2) hX rfl dL_law_954 ?_
  refine r_iadd hX dL_law_955 ?_
  refine r_xld hX hS (hv 2 (by decide) (by decide)) dL_law_956 ?_
  refine r_callVi hX hR (c_X6_judge X.2.1 G e1) rfl rfl mf_X6_judge ml_L_123 in_X6_judge se_X6_judge (k := 6) rfl rfl ⟨rfl, rfl, by decide, by decide⟩ rfl rfl (Nat.le_of_ble_eq_true rfl) dL_law_957 ?_
  refine r_aload_n (k := 2) hX rfl 1 rfl dL_law_960 ?_
  refine r_aload_n (k := 0) hX rfl 3 rfl dL_law_961 ?_
  refine r_iload_n (k := 3) hX rfl 0 rfl dL_law_962 ?_
  refine r_iconst (v := 1) hX rfl dL_law_963 ?_
  refine r_iadd hX dL_law_964 ?_
  refine r_xld hX hS (hv 1 (by decide) (by decide)) dL_law_965 ?_
  refine r_aload_n (k := 0) hX rfl 3 rfl dL_law_966 ?_
  refine r_iload_n (k := 3) hX rfl 0 rfl dL_law_967 ?_
  refine r_iconst (v := 2) hX rfl dL_law_968 ?_
  refine r_iadd hX dL_law_969 ?_
  refine r_xld hX hS (hv 2 (by decide) (by decide)) dL_law_970 ?_
  refine r_callVi hX hR (c_X7_judge X.2.1 G (σ := σ) (P := σ 17) e2) (m1_e rfl) (m1_e rfl) mf_X7_judge ml_L_126 in_X7_judge se_X7_judge (k := 7) rfl rfl ⟨rfl, rfl, by decide, by decide⟩ rfl rfl (Nat.le_of_ble_eq_true rfl) dL_law_971 ?_
  exact r_icmp_eq hX dL_law_974 (fun _ => kk σ lm h) (fun hc => absurd rfl hc)
theorem law_27 (hX : Cx X G R_law code 4) (hR : rmX X = room_1) (hS : XS X G b N xs) (hv : VI i N) (h : RR σ (σ 17) lm) (kk : ∀ σ2 lm2, RR σ2 (σ2 17) lm2 → WW X G 4 σ2 lm2 1340 (LL G b i) []) : WW X G 4 σ lm 979 (LL G b i) [] := by
  obtain ⟨r, t, Q, e1, e2, e17, h2⟩ := s_image  h
  refine r_aload_n (k := 1) hX rfl 2 rfl dL_law_979 ?_
  refine r_callVi hX hR (c_X6_image X.2.1 G e1) rfl rfl mf_X6_image ml_L_127 in_X6_image se_X6_image (k := 6) rfl rfl ⟨rfl, rfl, by decide, by decide⟩ rfl rfl (Nat.le_of_ble_eq_true rfl) dL_law_980 ?_
  refine r_aload_n (k := 2) hX rfl 1 rfl dL_law_983 ?_
  refine r_callVi hX hR (c_X7_image X.2.1 G (σ := t) (P := σ 17) e2) (m1_e e17) rfl mf_X7_image ml_L_130 in_X7_image se_X7_image (k := 7) rfl rfl ⟨rfl, rfl, by decide, by decide⟩ rfl rfl (Nat.le_of_ble_eq_true rfl) dL_law_984 ?_
  exact r_icmp_eq hX dL_law_987 (fun _ => kk (m1 t 17 Q) lm (RR_put h2)) (fun hc => absurd rfl hc)
theorem law_28 (hX : Cx X G R_law code 4) (hR : rmX X = room_1) (hS : XS X G b N xs) (hv : VI i N) (h : RR σ (σ 17) lm) (kk : ∀ σ2 lm2, RR σ2 (σ2 17) lm2 → WW X G 4 σ2 lm2 1340 (LL G b i) []) : WW X G 4 σ lm 992 (LL G b i) [] := by
  obtain ⟨r, t, Q, e1, e2, e17, h2⟩ := s_undo  h
  refine r_aload_n (k := 1) hX rfl 2 rfl dL_law_992 ?_
  refine r_callVi hX hR (c_X6_undo X.2.1 G e1) rfl rfl mf_X6_undo ml_L_131 in_X6_undo se_X6_undo (k := 6) rfl rfl ⟨rfl, rfl, by decide, by decide⟩ rfl rfl (Nat.le_of_ble_eq_true rfl) dL_law_993 ?_
  refine r_aload_n (k := 2) hX rfl 1 rfl dL_law_996 ?_
  refine r_callVi hX hR (c_X7_undo X.2.1 G (σ := t) (P := σ 17) e2) (m1_e e17) rfl mf_X7_undo ml_L_134 in_X7_undo se_X7_undo (k := 7) rfl rfl ⟨rfl, rfl, by decide, by decide⟩ rfl rfl (Nat.le_of_ble_eq_true rfl) dL_law_997 ?_
  exact r_icmp_eq hX dL_law_1000 (fun _ => kk (m1 t 17 Q) lm (RR_put h2)) (fun hc => absurd rfl hc)
theorem law_29 (hX : Cx X G R_law code 4) (hR : rmX X = room_1) (hS : XS X G b N xs) (hv : VI i N) (h : RR σ (σ 17) lm) (kk : ∀ σ2 lm2, RR σ2 (σ2 17) lm2 → WW X G 4 σ2 lm2 1340 (LL G b i) []) : WW X G 4 σ lm 1005 (LL G b i) [] := by
  obtain ⟨r, t, Q, e1, e2, e17, h2⟩ := s_act (a1 := (xs (ix (i + 1)))) (a2 := (xs (ix (i + 2)))) (a3 := (xs (ix (i + 3)))) h
  refine r_aload_n (k := 1) hX rfl 2 rfl dL_law_1005 ?_
  refine r_aload_n (k := 0) hX rfl 3 rfl dL_law_1006 ?_
  refine r_iload_n (k := 3) hX rfl 0 rfl dL_law_1007 ?_
  refine r_iconst (v := 1) hX rfl dL_law_1008 ?_
  refine r_iadd hX dL_law_1009 ?_
  refine r_xld hX hS (hv 1 (by decide) (by decide)) dL_law_1010 ?_
  refine r_aload_n (k := 0) hX rfl 3 rfl dL_law_1011 ?_
  refine r_iload_n (k := 3) hX rfl 0 rfl dL_law_1012 ?_
  refine r_iconst (v := 2) hX rfl dL_law_1013 ?_
  refine r_iadd hX dL_law_1014 ?_
  refine r_xld hX hS (hv 2 (by decide) (by decide)) dL_law_1015 ?_
  refine r_aload_n (k := 0) hX rfl 3 rfl dL_law_1016 ?_
  refine r_iload_n (k := 3) hX rfl 0 rfl dL_law_1017 ?_
  refine r_iconst (v := 3) hX rfl dL_law_1018 ?_
  refine r_iadd hX dL_law_1019 ?_
  refine r_xld hX hS (hv 3 (by decide) (by decide)) dL_law_1020 ?_
  refine r_callVi hX hR (c_X6_act X.2.1 G e1) rfl rfl mf_X6_act ml_L_135 in_X6_act se_X6_act (k := 6) rfl rfl ⟨rfl, rfl, by decide, by decide⟩ rfl rfl (Nat.le_of_ble_eq_true rfl) dL_law_1021 ?_
  refine r_aload_n (k := 2) hX rfl 1 rfl dL_law_1024 ?_
  refine r_aload_n (k := 0) hX rfl 3 rfl dL_law_1025 ?_
  refine r_iload_n (k := 3) hX rfl 0 rfl dL_law_1026 ?_
  refine r_iconst (v := 1) hX rfl dL_law_1027 ?_
  refine r_iadd hX dL_law_1028 ?_
  refine r_xld hX hS (hv 1 (by decide) (by decide)) dL_law_1029 ?_
  refine r_aload_n (k := 0) hX rfl 3 rfl dL_law_1030 ?_
  refine r_iload_n (k := 3) hX rfl 0 rfl dL_law_1031 ?_
  refine r_iconst (v := 2) hX rfl dL_law_1032 ?_
  refine r_iadd hX dL_law_1033 ?_
  refine r_xld hX hS (hv 2 (by decide) (by decide)) dL_law_1034 ?_
  refine r_aload_n (k := 0) hX rfl 3 rfl dL_law_1035 ?_
  refine r_iload_n (k := 3) hX rfl 0 rfl dL_law_1036 ?_
  refine r_iconst (v := 3) hX rfl dL_law_1037 ?_
  refine r_iadd hX dL_law_1038 ?_
  refine r_xld hX hS (hv 3 (by decide) (by decide)) dL_law_1039 ?_
  refine r_callVi hX hR (c_X7_act X.2.1 G (σ := t) (P := σ 17) e2) (m1_e e17) rfl mf_X7_act ml_L_138 in_X7_act se_X7_act (k := 7) rfl rfl ⟨rfl, rfl, by decide, by decide⟩ rfl rfl (Nat.le_of_ble_eq_true rfl) dL_law_1040 ?_
  exact r_icmp_eq hX dL_law_1043 (fun _ => kk (m1 t 17 Q) lm (RR_put h2)) (fun hc => absurd rfl hc)
theorem law_30 (hX : Cx X G R_law code 4) (hR : rmX X = room_1) (hS : XS X G b N xs) (hv : VI i N) (h : RR σ (σ 17) lm) (kk : ∀ σ2 lm2, RR σ2 (σ2 17) lm2 → WW X G 4 σ2 lm2 1340 (LL G b i) []) : WW X G 4 σ lm 1048 (LL G b i) [] := by
  obtain ⟨r, e1, e2⟩ := s_trace (a1 := (xs (ix (i + 1)))) h
  refine r_aload_n (k := 1) hX rfl 2 rfl dL_law_1048 ?_
  refine r_aload_n (k := 0) hX rfl 3 rfl dL_law_1049 ?_
  refine r_iload_n (k := 3) hX rfl 0 rfl dL_law_1050 ?_
  refine r_iconst (v := 1) hX rfl dL_law_1051 ?_
  refine r_iadd hX dL_law_1052 ?_
  refine r_xld hX hS (hv 1 (by decide) (by decide)) dL_law_1053 ?_
  refine r_callVi hX hR (c_X6_trace X.2.1 G e1) rfl rfl mf_X6_trace ml_L_139 in_X6_trace se_X6_trace (k := 6) rfl rfl ⟨rfl, rfl, by decide, by decide⟩ rfl rfl (Nat.le_of_ble_eq_true rfl) dL_law_1054 ?_
  refine r_aload_n (k := 2) hX rfl 1 rfl dL_law_1057 ?_
  refine r_aload_n (k := 0) hX rfl 3 rfl dL_law_1058 ?_
  refine r_iload_n (k := 3) hX rfl 0 rfl dL_law_1059 ?_
  refine r_iconst (v := 1) hX rfl dL_law_1060 ?_
  refine r_iadd hX dL_law_1061 ?_
  refine r_xld hX hS (hv 1 (by decide) (by decide)) dL_law_1062 ?_
  refine r_callVi hX hR (c_X7_trace X.2.1 G (σ := σ) (P := σ 17) e2) (m1_e rfl) (m1_e rfl) mf_X7_trace ml_L_142 in_X7_trace se_X7_trace (k := 7) rfl rfl ⟨rfl, rfl, by decide, by decide⟩ rfl rfl (Nat.le_of_ble_eq_true rfl) dL_law_1063 ?_
  exact r_icmp_eq hX dL_law_1066 (fun _ => kk σ lm h) (fun hc => absurd rfl hc)
theorem law_31 (hX : Cx X G R_law code 4) (hR : rmX X = room_1) (hS : XS X G b N xs) (hv : VI i N) (h : RR σ (σ 17) lm) (kk : ∀ σ2 lm2, RR σ2 (σ2 17) lm2 → WW X G 4 σ2 lm2 1340 (LL G b i) []) : WW X G 4 σ lm 1071 (LL G b i) [] := by
  obtain ⟨r, e1, e2⟩ := s_taken (a1 := (xs (ix (i + 1)))) (a2 := (xs (ix (i + 2)))) h
  refine r_aload_n (k := 1) hX rfl 2 rfl dL_law_1071 ?_
  refine r_aload_n (k := 0) hX rfl 3 rfl dL_law_1072 ?_
  refine r_iload_n (k := 3) hX rfl 0 rfl dL_law_1073 ?_
  refine r_iconst (v := 1) hX rfl dL_law_1074 ?_
  refine r_iadd hX dL_law_1075 ?_
  refine r_xld hX hS (hv 1 (by decide) (by decide)) dL_law_1076 ?_
  refine r_aload_n (k := 0) hX rfl 3 rfl dL_law_1077 ?_
  refine r_iload_n (k := 3) hX rfl 0 rfl dL_law_1078 ?_
  refine r_iconst (v := 2) hX rfl dL_law_1079 ?_
  refine r_iadd hX dL_law_1080 ?_
  refine r_xld hX hS (hv 2 (by decide) (by decide)) dL_law_1081 ?_
  refine r_callVi hX hR (c_X6_taken X.2.1 G e1) rfl rfl mf_X6_taken ml_L_143 in_X6_taken se_X6_taken (k := 6) rfl rfl ⟨rfl, rfl, by decide, by decide⟩ rfl rfl (Nat.le_of_ble_eq_true rfl) dL_law_1082 ?_
  refine r_aload_n (k := 2) hX rfl 1 rfl dL_law_1085 ?_
  refine r_aload_n (k := 0) hX rfl 3 rfl dL_law_1086 ?_
  refine r_iload_n (k := 3) hX rfl 0 rfl dL_law_1087 ?_
  refine r_iconst (v := 1) hX rfl dL_law_1088 ?_
  refine r_iadd hX dL_law_1089 ?_
  refine r_xld hX hS (hv 1 (by decide) (by decide)) dL_law_1090 ?_
  refine r_aload_n (k := 0) hX rfl 3 rfl dL_law_1091 ?_
  refine r_iload_n (k := 3) hX rfl 0 rfl dL_law_1092 ?_
  refine r_iconst (v := 2) hX rfl dL_law_1093 ?_
  refine r_iadd hX dL_law_1094 ?_
  refine r_xld hX hS (hv 2 (by decide) (by decide)) dL_law_1095 ?_
  refine r_callVi hX hR (c_X7_taken X.2.1 G (σ := σ) (P := σ 17) e2) (m1_e rfl) (m1_e rfl) mf_X7_taken ml_L_146 in_X7_taken se_X7_taken (k := 7) rfl rfl ⟨rfl, rfl, by decide, by decide⟩ rfl rfl (Nat.le_of_ble_eq_true rfl) dL_law_1096 ?_
  exact r_icmp_eq hX dL_law_1099 (fun _ => kk σ lm h) (fun hc => absurd rfl hc)
theorem law_32 (hX : Cx X G R_law code 4) (hR : rmX X = room_1) (hS : XS X G b N xs) (hv : VI i N) (h : RR σ (σ 17) lm) (kk : ∀ σ2 lm2, RR σ2 (σ2 17) lm2 → WW X G 4 σ2 lm2 1340 (LL G b i) []) : WW X G 4 σ lm 1104 (LL G b i) [] := by
  obtain ⟨r, e1, e2⟩ := s_count (a1 := (xs (ix (i + 1)))) h
  refine r_aload_n (k := 1) hX rfl 2 rfl dL_law_1104 ?_
  refine r_aload_n (k := 0) hX rfl 3 rfl dL_law_1105 ?_
  refine r_iload_n (k := 3) hX rfl 0 rfl dL_law_1106 ?_
  refine r_iconst (v := 1) hX rfl dL_law_1107 ?_
  refine r_iadd hX dL_law_1108 ?_
  refine r_xld hX hS (hv 1 (by decide) (by decide)) dL_law_1109 ?_
  refine r_callVi hX hR (c_X6_count X.2.1 G e1) rfl rfl mf_X6_count ml_L_147 in_X6_count se_X6_count (k := 6) rfl rfl ⟨rfl, rfl, by decide, by decide⟩ rfl rfl (Nat.le_of_ble_eq_true rfl) dL_law_1110 ?_
  refine r_aload_n (k := 2) hX rfl 1 rfl dL_law_1113 ?_
  refine r_aload_n (k := 0) hX rfl 3 rfl dL_law_1114 ?_
  refine r_iload_n (k := 3) hX rfl 0 rfl dL_law_1115 ?_
  refine r_iconst (v := 1) hX rfl dL_law_1116 ?_
  refine r_iadd hX dL_law_1117 ?_
  refine r_xld hX hS (hv 1 (by decide) (by decide)) dL_law_1118 ?_
  refine r_callVi hX hR (c_X7_count X.2.1 G (σ := σ) (P := σ 17) e2) (m1_e rfl) (m1_e rfl) mf_X7_count ml_L_150 in_X7_count se_X7_count (k := 7) rfl rfl ⟨rfl, rfl, by decide, by decide⟩ rfl rfl (Nat.le_of_ble_eq_true rfl) dL_law_1119 ?_
  exact r_icmp_eq hX dL_law_1122 (fun _ => kk σ lm h) (fun hc => absurd rfl hc)
theorem law_33 (hX : Cx X G R_law code 4) (hR : rmX X = room_1) (hS : XS X G b N xs) (hv : VI i N) (h : RR σ (σ 17) lm) (kk : ∀ σ2 lm2, RR σ2 (σ2 17) lm2 → WW X G 4 σ2 lm2 1340 (LL G b i) []) : WW X G 4 σ lm 1127 (LL G b i) [] := by
  obtain ⟨r, t, lm1, Q, lm2, e1, e17, e2, h2⟩ := s_tape (a1 := (xs (ix (i + 1)))) (a2 := (xs (ix (i + 2)))) (a3 := (xs (ix (i + 3)))) h
  refine r_aload_n (k := 1) hX rfl 2 rfl dL_law_1127 ?_
  refine r_aload_n (k := 0) hX rfl 3 rfl dL_law_1128 ?_
  refine r_iload_n (k := 3) hX rfl 0 rfl dL_law_1129 ?_
  refine r_iconst (v := 1) hX rfl dL_law_1130 ?_
  refine r_iadd hX dL_law_1131 ?_
  refine r_xld hX hS (hv 1 (by decide) (by decide)) dL_law_1132 ?_
  refine r_aload_n (k := 0) hX rfl 3 rfl dL_law_1133 ?_
  refine r_iload_n (k := 3) hX rfl 0 rfl dL_law_1134 ?_
  refine r_iconst (v := 2) hX rfl dL_law_1135 ?_
  refine r_iadd hX dL_law_1136 ?_
  refine r_xld hX hS (hv 2 (by decide) (by decide)) dL_law_1137 ?_
  refine r_aload_n (k := 0) hX rfl 3 rfl dL_law_1138 ?_
  refine r_iload_n (k := 3) hX rfl 0 rfl dL_law_1139 ?_
  refine r_iconst (v := 3) hX rfl dL_law_1140 ?_
  refine r_iadd hX dL_law_1141 ?_
  refine r_xld hX hS (hv 3 (by decide) (by decide)) dL_law_1142 ?_
  refine r_callVi hX hR (c_X6_tape X.2.1 G e1) rfl rfl mf_X6_tape ml_L_151 in_X6_tape se_X6_tape (k := 6) rfl rfl ⟨rfl, rfl, by decide, by decide⟩ rfl rfl (Nat.le_of_ble_eq_true rfl) dL_law_1143 ?_
  refine r_aload_n (k := 2) hX rfl 1 rfl dL_law_1146 ?_
  refine r_aload_n (k := 0) hX rfl 3 rfl dL_law_1147 ?_
  refine r_iload_n (k := 3) hX rfl 0 rfl dL_law_1148 ?_
  refine r_iconst (v := 1) hX rfl dL_law_1149 ?_
  refine r_iadd hX dL_law_1150 ?_
  refine r_xld hX hS (hv 1 (by decide) (by decide)) dL_law_1151 ?_
  refine r_aload_n (k := 0) hX rfl 3 rfl dL_law_1152 ?_
  refine r_iload_n (k := 3) hX rfl 0 rfl dL_law_1153 ?_
  refine r_iconst (v := 2) hX rfl dL_law_1154 ?_
  refine r_iadd hX dL_law_1155 ?_
  refine r_xld hX hS (hv 2 (by decide) (by decide)) dL_law_1156 ?_
  refine r_aload_n (k := 0) hX rfl 3 rfl dL_law_1157 ?_
  refine r_iload_n (k := 3) hX rfl 0 rfl dL_law_1158 ?_
  refine r_iconst (v := 3) hX rfl dL_law_1159 ?_
  refine r_iadd hX dL_law_1160 ?_
  refine r_xld hX hS (hv 3 (by decide) (by decide)) dL_law_1161 ?_
  refine r_callVi hX hR (c_X7_tape X.2.1 G (σ := t) (P := σ 17) e2) (m1_e e17) rfl mf_X7_tape ml_L_154 in_X7_tape se_X7_tape (k := 7) rfl rfl ⟨rfl, rfl, by decide, by decide⟩ rfl rfl (Nat.le_of_ble_eq_true rfl) dL_law_1162 ?_
  exact r_icmp_eq hX dL_law_1165 (fun _ => kk (m1 t 17 Q) lm2 (RR_put h2)) (fun hc => absurd rfl hc)
theorem law_34 (hX : Cx X G R_law code 4) (hR : rmX X = room_1) (hS : XS X G b N xs) (hv : VI i N) (h : RR σ (σ 17) lm) (kk : ∀ σ2 lm2, RR σ2 (σ2 17) lm2 → WW X G 4 σ2 lm2 1340 (LL G b i) []) : WW X G 4 σ lm 1170 (LL G b i) [] := by
  obtain ⟨r, lm1, lm2, e1, e2, h2⟩ := s_item (a1 := (xs (ix (i + 1)))) (a2 := (xs (ix (i + 2)))) (v := (((Int32.toInt64 (xs (ix (i + 3)))) <<< ((32 : Int32).toInt64 &&& 63)) ||| ((Int32.toInt64 (xs (ix (i + 4)))) &&& (4294967295 : Int64)))) h
  refine r_aload_n (k := 1) hX rfl 2 rfl dL_law_1170 ?_
  refine r_aload_n (k := 0) hX rfl 3 rfl dL_law_1171 ?_
  refine r_iload_n (k := 3) hX rfl 0 rfl dL_law_1172 ?_
  refine r_iconst (v := 1) hX rfl dL_law_1173 ?_
  refine r_iadd hX dL_law_1174 ?_
  refine r_xld hX hS (hv 1 (by decide) (by decide)) dL_law_1175 ?_
  refine r_aload_n (k := 0) hX rfl 3 rfl dL_law_1176 ?_
  refine r_iload_n (k := 3) hX rfl 0 rfl dL_law_1177 ?_
  refine r_iconst (v := 2) hX rfl dL_law_1178 ?_
  refine r_iadd hX dL_law_1179 ?_
  refine r_xld hX hS (hv 2 (by decide) (by decide)) dL_law_1180 ?_
  refine r_aload_n (k := 0) hX rfl 3 rfl dL_law_1181 ?_
  refine r_iload_n (k := 3) hX rfl 0 rfl dL_law_1182 ?_
  refine r_iconst (v := 3) hX rfl dL_law_1183 ?_
  refine r_iadd hX dL_law_1184 ?_
  refine r_xld hX hS (hv 3 (by decide) (by decide)) dL_law_1185 ?_
  refine r_i2l hX dL_law_1186 ?_
  refine r_bipush (v := 32) hX (by decide) dL_law_1187 ?_
  refine r_lshl hX dL_law_1189 ?_
  refine r_aload_n (k := 0) hX rfl 3 rfl dL_law_1190 ?_
  refine r_iload_n (k := 3) hX rfl 0 rfl dL_law_1191 ?_
  refine r_iconst (v := 4) hX rfl dL_law_1192 ?_
  refine r_iadd hX dL_law_1193 ?_
  refine r_xld hX hS (hv 4 (by decide) (by decide)) dL_law_1194 ?_
  refine r_i2l hX dL_law_1195 ?_
  refine r_ldc2 hX cl_L_155 dL_law_1196 ?_
  refine r_land hX dL_law_1199 ?_
  refine r_lor hX dL_law_1200 ?_
  refine r_callVi hX hR (c_X6_item X.2.1 G e1) rfl rfl mf_X6_item ml_L_157 in_X6_item se_X6_item (k := 6) rfl rfl ⟨rfl, rfl, by decide, by decide⟩ rfl rfl (Nat.le_of_ble_eq_true rfl) dL_law_1201 ?_
  refine r_aload_n (k := 2) hX rfl 1 rfl dL_law_1204 ?_
  refine r_aload_n (k := 0) hX rfl 3 rfl dL_law_1205 ?_
  refine r_iload_n (k := 3) hX rfl 0 rfl dL_law_1206 ?_
  refine r_iconst (v := 1) hX rfl dL_law_1207 ?_
  refine r_iadd hX dL_law_1208 ?_
  refine r_xld hX hS (hv 1 (by decide) (by decide)) dL_law_1209 ?_
  refine r_aload_n (k := 0) hX rfl 3 rfl dL_law_1210 ?_
  refine r_iload_n (k := 3) hX rfl 0 rfl dL_law_1211 ?_
  refine r_iconst (v := 2) hX rfl dL_law_1212 ?_
  refine r_iadd hX dL_law_1213 ?_
  refine r_xld hX hS (hv 2 (by decide) (by decide)) dL_law_1214 ?_
  refine r_aload_n (k := 0) hX rfl 3 rfl dL_law_1215 ?_
  refine r_iload_n (k := 3) hX rfl 0 rfl dL_law_1216 ?_
  refine r_iconst (v := 3) hX rfl dL_law_1217 ?_
  refine r_iadd hX dL_law_1218 ?_
  refine r_xld hX hS (hv 3 (by decide) (by decide)) dL_law_1219 ?_
  refine r_i2l hX dL_law_1220 ?_
  refine r_bipush (v := 32) hX (by decide) dL_law_1221 ?_
  refine r_lshl hX dL_law_1223 ?_
  refine r_aload_n (k := 0) hX rfl 3 rfl dL_law_1224 ?_
  refine r_iload_n (k := 3) hX rfl 0 rfl dL_law_1225 ?_
  refine r_iconst (v := 4) hX rfl dL_law_1226 ?_
  refine r_iadd hX dL_law_1227 ?_
  refine r_xld hX hS (hv 4 (by decide) (by decide)) dL_law_1228 ?_
  refine r_i2l hX dL_law_1229 ?_
  refine r_ldc2 hX cl_L_155 dL_law_1230 ?_
  refine r_land hX dL_law_1233 ?_
  refine r_lor hX dL_law_1234 ?_
  refine r_callVi hX hR (c_X7_item X.2.1 G (σ := σ) (P := σ 17) e2) (m1_e rfl) (m1_e rfl) mf_X7_item ml_L_161 in_X7_item se_X7_item (k := 7) rfl rfl ⟨rfl, rfl, by decide, by decide⟩ rfl rfl (Nat.le_of_ble_eq_true rfl) dL_law_1235 ?_
  exact r_icmp_eq hX dL_law_1238 (fun _ => kk σ lm2 h2) (fun hc => absurd rfl hc)
theorem law_35 (hX : Cx X G R_law code 4) (hR : rmX X = room_1) (hS : XS X G b N xs) (hv : VI i N) (h : RR σ (σ 17) lm) (kk : ∀ σ2 lm2, RR σ2 (σ2 17) lm2 → WW X G 4 σ2 lm2 1340 (LL G b i) []) : WW X G 4 σ lm 1243 (LL G b i) [] := by
  obtain ⟨r, e1, e2⟩ := s_read (a1 := (xs (ix (i + 1)))) (a2 := (xs (ix (i + 2)))) h
  refine r_aload_n (k := 1) hX rfl 2 rfl dL_law_1243 ?_
  refine r_aload_n (k := 0) hX rfl 3 rfl dL_law_1244 ?_
  refine r_iload_n (k := 3) hX rfl 0 rfl dL_law_1245 ?_
  refine r_iconst (v := 1) hX rfl dL_law_1246 ?_
  refine r_iadd hX dL_law_1247 ?_
  refine r_xld hX hS (hv 1 (by decide) (by decide)) dL_law_1248 ?_
  refine r_aload_n (k := 0) hX rfl 3 rfl dL_law_1249 ?_
  refine r_iload_n (k := 3) hX rfl 0 rfl dL_law_1250 ?_
  refine r_iconst (v := 2) hX rfl dL_law_1251 ?_
  refine r_iadd hX dL_law_1252 ?_
  refine r_xld hX hS (hv 2 (by decide) (by decide)) dL_law_1253 ?_
  refine r_callVi hX hR (c_X6_read X.2.1 G e1) rfl rfl mf_X6_read ml_L_162 in_X6_read se_X6_read (k := 6) rfl rfl ⟨rfl, rfl, by decide, by decide⟩ rfl rfl (Nat.le_of_ble_eq_true rfl) dL_law_1254 ?_
  refine r_aload_n (k := 2) hX rfl 1 rfl dL_law_1257 ?_
  refine r_aload_n (k := 0) hX rfl 3 rfl dL_law_1258 ?_
  refine r_iload_n (k := 3) hX rfl 0 rfl dL_law_1259 ?_
  refine r_iconst (v := 1) hX rfl dL_law_1260 ?_
  refine r_iadd hX dL_law_1261 ?_
  refine r_xld hX hS (hv 1 (by decide) (by decide)) dL_law_1262 ?_
  refine r_aload_n (k := 0) hX rfl 3 rfl dL_law_1263 ?_
  refine r_iload_n (k := 3) hX rfl 0 rfl dL_law_1264 ?_
  refine r_iconst (v := 2) hX rfl dL_law_1265 ?_
  refine r_iadd hX dL_law_1266 ?_
  refine r_xld hX hS (hv 2 (by decide) (by decide)) dL_law_1267 ?_
  refine r_callVi hX hR (c_X7_read X.2.1 G (σ := σ) (P := σ 17) e2) (m1_e rfl) (m1_e rfl) mf_X7_read ml_L_165 in_X7_read se_X7_read (k := 7) rfl rfl ⟨rfl, rfl, by decide, by decide⟩ rfl rfl (Nat.le_of_ble_eq_true rfl) dL_law_1268 ?_
  refine r_lcmp hX dL_law_1271 ?_
  exact r_if_eq hX dL_law_1272 (fun _ => kk σ lm h) (fun hc => absurd lgc hc)
theorem law_36 (hX : Cx X G R_law code 4) (hR : rmX X = room_1) (hS : XS X G b N xs) (hv : VI i N) (h : RR σ (σ 17) lm) (kk : ∀ σ2 lm2, RR σ2 (σ2 17) lm2 → WW X G 4 σ2 lm2 1340 (LL G b i) []) : WW X G 4 σ lm 1277 (LL G b i) [] := by
  obtain ⟨r, lm1, lm2, e1, e2, h2⟩ := s_shift (a1 := (xs (ix (i + 1)))) (a2 := (xs (ix (i + 2)))) (a3 := (xs (ix (i + 3)))) (a4 := (xs (ix (i + 4)))) (a5 := (xs (ix (i + 5)))) h
  refine r_aload_n (k := 1) hX rfl 2 rfl dL_law_1277 ?_
  refine r_aload_n (k := 0) hX rfl 3 rfl dL_law_1278 ?_
  refine r_iload_n (k := 3) hX rfl 0 rfl dL_law_1279 ?_
  refine r_iconst (v := 1) hX rfl dL_law_1280 ?_
  refine r_iadd hX dL_law_1281 ?_
  refine r_xld hX hS (hv 1 (by decide) (by decide)) dL_law_1282 ?_
  refine r_aload_n (k := 0) hX rfl 3 rfl dL_law_1283 ?_
  refine r_iload_n (k := 3) hX rfl 0 rfl dL_law_1284 ?_
  refine r_iconst (v := 2) hX rfl dL_law_1285 ?_
  refine r_iadd hX dL_law_1286 ?_
  refine r_xld hX hS (hv 2 (by decide) (by decide)) dL_law_1287 ?_
  refine r_aload_n (k := 0) hX rfl 3 rfl dL_law_1288 ?_
  refine r_iload_n (k := 3) hX rfl 0 rfl dL_law_1289 ?_
  refine r_iconst (v := 3) hX rfl dL_law_1290 ?_
  refine r_iadd hX dL_law_1291 ?_
  refine r_xld hX hS (hv 3 (by decide) (by decide)) dL_law_1292 ?_
  refine r_aload_n (k := 0) hX rfl 3 rfl dL_law_1293 ?_
  refine r_iload_n (k := 3) hX rfl 0 rfl dL_law_1294 ?_
  refine r_iconst (v := 4) hX rfl dL_law_1295 ?_
  refine r_iadd hX dL_law_1296 ?_
  refine r_xld hX hS (hv 4 (by decide) (by decide)) dL_law_1297 ?_
  refine r_aload_n (k := 0) hX rfl 3 rfl dL_law_1298 ?_
  refine r_iload_n (k := 3) hX rfl 0 rfl dL_law_1299 ?_
  refine r_iconst (v := 5) hX rfl dL_law_1300 ?_
  refine r_iadd hX dL_law_1301 ?_
  refine r_xld hX hS (hv 5 (by decide) (by decide)) dL_law_1302 ?_
  refine r_callVi hX hR (c_X6_shift X.2.1 G e1) rfl rfl mf_X6_shift ml_L_166 in_X6_shift se_X6_shift (k := 6) rfl rfl ⟨rfl, rfl, by decide, by decide⟩ rfl rfl (Nat.le_of_ble_eq_true rfl) dL_law_1303 ?_
  refine r_aload_n (k := 2) hX rfl 1 rfl dL_law_1306 ?_
  refine r_aload_n (k := 0) hX rfl 3 rfl dL_law_1307 ?_
  refine r_iload_n (k := 3) hX rfl 0 rfl dL_law_1308 ?_
  refine r_iconst (v := 1) hX rfl dL_law_1309 ?_
  refine r_iadd hX dL_law_1310 ?_
  refine r_xld hX hS (hv 1 (by decide) (by decide)) dL_law_1311 ?_
  refine r_aload_n (k := 0) hX rfl 3 rfl dL_law_1312 ?_
  refine r_iload_n (k := 3) hX rfl 0 rfl dL_law_1313 ?_
  refine r_iconst (v := 2) hX rfl dL_law_1314 ?_
  refine r_iadd hX dL_law_1315 ?_
  refine r_xld hX hS (hv 2 (by decide) (by decide)) dL_law_1316 ?_
  refine r_aload_n (k := 0) hX rfl 3 rfl dL_law_1317 ?_
  refine r_iload_n (k := 3) hX rfl 0 rfl dL_law_1318 ?_
  refine r_iconst (v := 3) hX rfl dL_law_1319 ?_
  refine r_iadd hX dL_law_1320 ?_
  refine r_xld hX hS (hv 3 (by decide) (by decide)) dL_law_1321 ?_
  refine r_aload_n (k := 0) hX rfl 3 rfl dL_law_1322 ?_
  refine r_iload_n (k := 3) hX rfl 0 rfl dL_law_1323 ?_
  refine r_iconst (v := 4) hX rfl dL_law_1324 ?_
  refine r_iadd hX dL_law_1325 ?_
  refine r_xld hX hS (hv 4 (by decide) (by decide)) dL_law_1326 ?_
  refine r_aload_n (k := 0) hX rfl 3 rfl dL_law_1327 ?_
  refine r_iload_n (k := 3) hX rfl 0 rfl dL_law_1328 ?_
  refine r_iconst (v := 5) hX rfl dL_law_1329 ?_
  refine r_iadd hX dL_law_1330 ?_
  refine r_xld hX hS (hv 5 (by decide) (by decide)) dL_law_1331 ?_
  refine r_callVi hX hR (c_X7_shift X.2.1 G (σ := σ) (P := σ 17) e2) (m1_e rfl) (m1_e rfl) mf_X7_shift ml_L_170 in_X7_shift se_X7_shift (k := 7) rfl rfl ⟨rfl, rfl, by decide, by decide⟩ rfl rfl (Nat.le_of_ble_eq_true rfl) dL_law_1332 ?_
  exact r_icmp_eq hX dL_law_1335 (fun _ => kk σ lm2 h2) (fun hc => absurd rfl hc)
end Law
