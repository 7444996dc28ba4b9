/-! the law's loop (written by hand: wip/whole/make/rows81.txt) -/
theorem lp_exit {N k : Nat} (hN : N ≤ 3072) (hk : k ≤ 600) : Int32.ofNat N - 6 < nI (6 * k) ↔ N < 6 * k + 6 := by
  have h1 : (Int32.ofNat N - 6).toInt = (N : Int) - 6 := by
    rw [Int32.toInt_sub, Int32.toInt_ofNat_of_lt (by omega)]
    show Int.bmod ((N : Int) - 6) _ = _
    exact Int.bmod_eq_of_le (by omega) (by omega)
  have h2 : (nI (6 * k)).toInt = ((6 * k : Nat) : Int) := Int32.toInt_ofNat_of_lt (by omega)
  rw [Int32.lt_iff_toInt_lt, h1, h2]
  omega
theorem lp_vp {N k : Nat} (hN : N ≤ 3072) (h : 6 * k + 6 ≤ N) : VI (nI (6 * k)) N := by
  intro j h0 h5
  have e0 : (0 : Int) ≤ j.toInt := Int32.le_iff_toInt_le.mp h0
  have e5 : j.toInt ≤ 5 := Int32.le_iff_toInt_le.mp h5
  have h2 : (nI (6 * k)).toInt = ((6 * k : Nat) : Int) := Int32.toInt_ofNat_of_lt (by omega)
  have h1 : (nI (6 * k) + j).toInt = ((6 * k : Nat) : Int) + j.toInt := by
    rw [Int32.toInt_add, h2]
    exact Int.bmod_eq_of_le (by omega) (by omega)
  show ¬ (_ ∨ _)
  intro hc
  rcases hc with hc | hc
  · have := Int32.lt_iff_toInt_lt.mp hc
    rw [h1] at this
    have z : (0 : Int32).toInt = 0 := rfl
    rw [z] at this
    omega
  · have : (nI (6 * k) + j).toNatClampNeg = ((nI (6 * k) + j).toInt).toNat := rfl
    rw [this, h1] at hc
    omega
theorem lp_next (k : Nat) : nI (6 * k) + Int32.ofInt 6 = nI (6 * (k + 1)) := by
  show Int32.ofNat (6 * k) + Int32.ofNat 6 = Int32.ofNat (6 * k + 6)
  rw [Int32.ofNat_add]

section Law2
variable {X : MX} {G : GE} {b N : Nat} {xs : Nat → Int32} {i : Int32} {σ : Mm} {lm : Ml}
theorem law_step (hX : Cx X G R_law code 4) (hR : rmX X = room_1) (hS : XS X G b N xs) (hv : VI i N) (h : RR σ (σ 17) lm) (kk : ∀ σ2 lm2, RR σ2 (σ2 17) lm2 → WW X G 4 σ2 lm2 1340 (LL G b i) []) : WW X G 4 σ lm 27 (LL G b i) [] := by
  have h0 : vp_in i N := by
    have h := hv 0 (by decide) (by decide)
    rw [Int32.add_zero] at h
    exact h
  refine r_aload_n (k := 0) hX rfl 3 rfl dL_law_27 ?_
  refine r_iload_n (k := 3) hX rfl 0 rfl dL_law_28 ?_
  refine r_xld hX hS h0 dL_law_29 ?_
  refine r_bipush (v := 63) hX (by decide) dL_law_30 ?_
  refine r_iand hX dL_law_32 ?_
  generalize xs (ix i) &&& 63 = x
  by_cases h1 : x = 0
  · exact r_tswI hX h1 (by decide) (by rfl) (by rfl) dL_law_33 (law_0 hX hR hS hv h kk)
  by_cases h2 : x = 1
  · exact r_tswI hX h2 (by decide) (by rfl) (by rfl) dL_law_33 (law_1 hX hR hS hv h kk)
  by_cases h3 : x = 2
  · exact r_tswI hX h3 (by decide) (by rfl) (by rfl) dL_law_33 (law_2 hX hR hS hv h kk)
  by_cases h4 : x = 3
  · exact r_tswI hX h4 (by decide) (by rfl) (by rfl) dL_law_33 (law_3 hX hR hS hv h kk)
  by_cases h5 : x = 4
  · exact r_tswI hX h5 (by decide) (by rfl) (by rfl) dL_law_33 (law_4 hX hR hS hv h kk)
  by_cases h6 : x = 5
  · exact r_tswI hX h6 (by decide) (by rfl) (by rfl) dL_law_33 (law_5 hX hR hS hv h kk)
  by_cases h7 : x = 6
  · exact r_tswI hX h7 (by decide) (by rfl) (by rfl) dL_law_33 (law_6 hX hR hS hv h kk)
  by_cases h8 : x = 7
  · exact r_tswI hX h8 (by decide) (by rfl) (by rfl) dL_law_33 (law_7 hX hR hS hv h kk)
  by_cases h9 : x = 8
  · exact r_tswI hX h9 (by decide) (by rfl) (by rfl) dL_law_33 (law_8 hX hR hS hv h kk)
  by_cases h10 : x = 9
  · exact r_tswI hX h10 (by decide) (by rfl) (by rfl) dL_law_33 (law_9 hX hR hS hv h kk)
  by_cases h11 : x = 10
  · exact r_tswI hX h11 (by decide) (by rfl) (by rfl) dL_law_33 (law_10 hX hR hS hv h kk)
  by_cases h12 : x = 11
  · exact r_tswI hX h12 (by decide) (by rfl) (by rfl) dL_law_33 (law_11 hX hR hS hv h kk)
  by_cases h13 : x = 12
  · exact r_tswI hX h13 (by decide) (by rfl) (by rfl) dL_law_33 (law_12 hX hR hS hv h kk)
  by_cases h14 : x = 13
  · exact r_tswI hX h14 (by decide) (by rfl) (by rfl) dL_law_33 (law_13 hX hR hS hv h kk)
  by_cases h15 : x = 14
  · exact r_tswI hX h15 (by decide) (by rfl) (by rfl) dL_law_33 (law_14 hX hR hS hv h kk)
  by_cases h16 : x = 15
  · exact r_tswI hX h16 (by decide) (by rfl) (by rfl) dL_law_33 (law_15 hX hR hS hv h kk)
  by_cases h17 : x = 16
  · exact r_tswI hX h17 (by decide) (by rfl) (by rfl) dL_law_33 (law_16 hX hR hS hv h kk)
  by_cases h18 : x = 17
  · exact r_tswI hX h18 (by decide) (by rfl) (by rfl) dL_law_33 (law_17 hX hR hS hv h kk)
  by_cases h19 : x = 18
  · exact r_tswI hX h19 (by decide) (by rfl) (by rfl) dL_law_33 (law_18 hX hR hS hv h kk)
  by_cases h20 : x = 19
  · exact r_tswI hX h20 (by decide) (by rfl) (by rfl) dL_law_33 (law_19 hX hR hS hv h kk)
  by_cases h21 : x = 20
  · exact r_tswI hX h21 (by decide) (by rfl) (by rfl) dL_law_33 (law_20 hX hR hS hv h kk)
  by_cases h22 : x = 21
  · exact r_tswI hX h22 (by decide) (by rfl) (by rfl) dL_law_33 (law_21 hX hR hS hv h kk)
  by_cases h23 : x = 22
  · exact r_tswI hX h23 (by decide) (by rfl) (by rfl) dL_law_33 (law_22 hX hR hS hv h kk)
  by_cases h24 : x = 23
  · exact r_tswI hX h24 (by decide) (by rfl) (by rfl) dL_law_33 (law_23 hX hR hS hv h kk)
  by_cases h25 : x = 24
  · exact r_tswI hX h25 (by decide) (by rfl) (by rfl) dL_law_33 (law_24 hX hR hS hv h kk)
  by_cases h26 : x = 25
  · exact r_tswI hX h26 (by decide) (by rfl) (by rfl) dL_law_33 (law_25 hX hR hS hv h kk)
  by_cases h27 : x = 26
  · exact r_tswI hX h27 (by decide) (by rfl) (by rfl) dL_law_33 (law_26 hX hR hS hv h kk)
  by_cases h28 : x = 27
  · exact r_tswI hX h28 (by decide) (by rfl) (by rfl) dL_law_33 (law_27 hX hR hS hv h kk)
  by_cases h29 : x = 28
  · exact r_tswI hX h29 (by decide) (by rfl) (by rfl) dL_law_33 (law_28 hX hR hS hv h kk)
  by_cases h30 : x = 29
  · exact r_tswI hX h30 (by decide) (by rfl) (by rfl) dL_law_33 (law_29 hX hR hS hv h kk)
  by_cases h31 : x = 30
  · exact r_tswI hX h31 (by decide) (by rfl) (by rfl) dL_law_33 (law_30 hX hR hS hv h kk)
  by_cases h32 : x = 31
  · exact r_tswI hX h32 (by decide) (by rfl) (by rfl) dL_law_33 (law_31 hX hR hS hv h kk)
  by_cases h33 : x = 32
  · exact r_tswI hX h33 (by decide) (by rfl) (by rfl) dL_law_33 (law_32 hX hR hS hv h kk)
  by_cases h34 : x = 33
  · exact r_tswI hX h34 (by decide) (by rfl) (by rfl) dL_law_33 (law_33 hX hR hS hv h kk)
  by_cases h35 : x = 34
  · exact r_tswI hX h35 (by decide) (by rfl) (by rfl) dL_law_33 (law_34 hX hR hS hv h kk)
  by_cases h36 : x = 35
  · exact r_tswI hX h36 (by decide) (by rfl) (by rfl) dL_law_33 (law_35 hX hR hS hv h kk)
  by_cases h37 : x = 36
  · exact r_tswI hX h37 (by decide) (by rfl) (by rfl) dL_law_33 (law_36 hX hR hS hv h kk)
  have n0 := i32n h1 (show (0 : Int32).toInt = 0 from rfl)
  have n1 := i32n h2 (show (1 : Int32).toInt = 1 from rfl)
  have n2 := i32n h3 (show (2 : Int32).toInt = 2 from rfl)
  have n3 := i32n h4 (show (3 : Int32).toInt = 3 from rfl)
  have n4 := i32n h5 (show (4 : Int32).toInt = 4 from rfl)
  have n5 := i32n h6 (show (5 : Int32).toInt = 5 from rfl)
  have n6 := i32n h7 (show (6 : Int32).toInt = 6 from rfl)
  have n7 := i32n h8 (show (7 : Int32).toInt = 7 from rfl)
  have n8 := i32n h9 (show (8 : Int32).toInt = 8 from rfl)
  have n9 := i32n h10 (show (9 : Int32).toInt = 9 from rfl)
  have n10 := i32n h11 (show (10 : Int32).toInt = 10 from rfl)
  have n11 := i32n h12 (show (11 : Int32).toInt = 11 from rfl)
  have n12 := i32n h13 (show (12 : Int32).toInt = 12 from rfl)
  have n13 := i32n h14 (show (13 : Int32).toInt = 13 from rfl)
  have n14 := i32n h15 (show (14 : Int32).toInt = 14 from rfl)
  have n15 := i32n h16 (show (15 : Int32).toInt = 15 from rfl)
  have n16 := i32n h17 (show (16 : Int32).toInt = 16 from rfl)
  have n17 := i32n h18 (show (17 : Int32).toInt = 17 from rfl)
  have n18 := i32n h19 (show (18 : Int32).toInt = 18 from rfl)
  have n19 := i32n h20 (show (19 : Int32).toInt = 19 from rfl)
  have n20 := i32n h21 (show (20 : Int32).toInt = 20 from rfl)
  have n21 := i32n h22 (show (21 : Int32).toInt = 21 from rfl)
  have n22 := i32n h23 (show (22 : Int32).toInt = 22 from rfl)
  have n23 := i32n h24 (show (23 : Int32).toInt = 23 from rfl)
  have n24 := i32n h25 (show (24 : Int32).toInt = 24 from rfl)
  have n25 := i32n h26 (show (25 : Int32).toInt = 25 from rfl)
  have n26 := i32n h27 (show (26 : Int32).toInt = 26 from rfl)
  have n27 := i32n h28 (show (27 : Int32).toInt = 27 from rfl)
  have n28 := i32n h29 (show (28 : Int32).toInt = 28 from rfl)
  have n29 := i32n h30 (show (29 : Int32).toInt = 29 from rfl)
  have n30 := i32n h31 (show (30 : Int32).toInt = 30 from rfl)
  have n31 := i32n h32 (show (31 : Int32).toInt = 31 from rfl)
  have n32 := i32n h33 (show (32 : Int32).toInt = 32 from rfl)
  have n33 := i32n h34 (show (33 : Int32).toInt = 33 from rfl)
  have n34 := i32n h35 (show (34 : Int32).toInt = 34 from rfl)
  have n35 := i32n h36 (show (35 : Int32).toInt = 35 from rfl)
  have n36 := i32n h37 (show (36 : Int32).toInt = 36 from rfl)
  exact r_tswD hX (by omega) (by rfl) dL_law_33 (kk σ lm h)
theorem law_loop (hX : Cx X G R_law code 4) (hR : rmX X = room_1) (hS : XS X G b N xs) (hN : N ≤ 3072) (kE : ∀ (σ2 : Mm) (lm2 : Ml) (i2 : Int32), WW X G 4 σ2 lm2 1346 (LL G b i2) []) : ∀ (n k : Nat), N ≤ n + 6 * k → k ≤ 600 → ∀ (σ : Mm) (lm : Ml), RR σ (σ 17) lm → WW X G 4 σ lm 18 (LL G b (nI (6 * k))) []
  | n, k, hn, hk, σ, lm, h => by
    refine r_iload_n (k := 3) hX rfl 0 rfl dL_law_18 ?_
    refine r_aload_n (k := 0) hX rfl 3 rfl dL_law_19 ?_
    refine r_xlen hX hS dL_law_20 ?_
    refine r_bipush (v := 6) hX (by decide) dL_law_21 ?_
    refine r_isub hX dL_law_23 ?_
    refine r_icmp_gt hX dL_law_24 (fun _ => kE σ lm _) (fun hc => ?_)
    have h6 : 6 * k + 6 ≤ N := by
      by_cases hq : N < 6 * k + 6
      · exact absurd ((lp_exit hN hk).mpr hq) hc
      · omega
    refine law_step hX hR hS (lp_vp hN h6) h (fun σ2 lm2 h2 => ?_)
    refine r_iinc (v := nI (6 * (k + 1))) (L2 := LL G b (nI (6 * (k + 1)))) hX 0 rfl (lp_next k) (by decide) rfl dL_law_1340 ?_
    refine r_goto hX dL_law_1343 ?_
    match n, hn with
    | 0, hn => omega
    | n + 1, hn => exact law_loop hX hR hS hN kE n (k + 1) (by omega) (by omega) σ2 lm2 h2
end Law2
