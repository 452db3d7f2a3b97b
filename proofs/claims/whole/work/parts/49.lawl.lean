section LAWL
variable {l : Launch} {G : tc_G} {b Ls : Nat} {xs : Nat → Int32} {X : tc_X}
theorem tc_l_loop {N : Nat} {Inv : tc_Mem → Prop} (g0 : tc_S0 N Inv) (g1 : tc_S1 N Inv) (g2 : tc_S2 N Inv) (g3 : tc_S3 N Inv) (g4 : tc_S4 N Inv) (g5 : tc_S5 N Inv) (g6 : tc_S6 N Inv) (g7 : tc_S7 N Inv) (g8 : tc_S8 N Inv) (g9 : tc_S9 N Inv) (g10 : tc_S10 N Inv) (g11 : tc_S11 N Inv) (g12 : tc_S12 N Inv) (g13 : tc_S13 N Inv) (g14 : tc_S14 N Inv) (g15 : tc_S15 N Inv) (g16 : tc_S16 N Inv) (g17 : tc_S17 N Inv) (g18 : tc_S18 N Inv) (g19 : tc_S19 N Inv) (g20 : tc_S20 N Inv) (g21 : tc_S21 N Inv) (g22 : tc_S22 N Inv) (g23 : tc_S23 N Inv) (g24 : tc_S24 N Inv) (g25 : tc_S25 N Inv) (g26 : tc_S26 N Inv) (g27 : tc_S27 N Inv) (g28 : tc_S28 N Inv) (g29 : tc_S29 N Inv) (g30 : tc_S30 N Inv) (g31 : tc_S31 N Inv) (g32 : tc_S32 N Inv) (g33 : tc_S33 N Inv) (g34 : tc_S34 N Inv) (g35 : tc_S35 N Inv) (g36 : tc_S36 N Inv) (hL : Ls ≤ 3584) : ∀ (n i : Nat) (μ : tc_Mem), Ls + 7 ≤ i + n → i ≤ Ls → Inv μ → tc_Lw l G b Ls xs X 18 [(0, .ref b), (1, .ref (tc_ad G 0)), (2, .ref (tc_ad G 50)), (3, .int (nI i))] [] μ := by
  intro n
  induction n with
  | zero => intro i μ h1 h2; exact absurd h1 (by omega)
  | succ n ih =>
    intro i μ h1 h2 hI
    have e7 : (7 : Int32) = nI 7 := by decide
    refine tc_l_iload_n tc_dL_18 3 rfl ?_
    refine tc_l_aload_n tc_dL_19 0 rfl ?_
    refine tc_l_slen tc_dL_20 ?_
    refine tc_l_bipush (v := 7) tc_dL_21 (by decide) ?_
    refine tc_l_isub tc_dL_23 ?_
    refine tc_l_gt (tgt := 1365) tc_dL_24 (by decide) (fun hq => ?_) (fun hq => ?_)
    · refine tc_l_iconst (v := 1) tc_dL_1365 (by decide) ?_
      exact tc_l_ret tc_dL_1366
    · have hi : i + 7 ≤ Ls := by
        rcases Nat.lt_or_ge Ls (i + 7) with q | q
        · refine absurd (Int32.lt_iff_toInt_lt.mpr ?_) hq
          rw [e7, show Int32.ofNat Ls = nI Ls from rfl, pk_sub_toInt (by omega) (by omega), nI_toInt (by omega)]
          omega
        · exact q
      have hL2 : Ls < 2 ^ 31 := by omega
      have fin : ∀ μ2, Inv μ2 → tc_Lw l G b Ls xs X 1359 [(0, .ref b), (1, .ref (tc_ad G 0)), (2, .ref (tc_ad G 50)), (3, .int (nI i))] [] μ2 := fun μ2 hI2 => by
        refine tc_l_iinc (v := nI (i + 7)) (L' := [(3, .int (nI (i + 7))), (0, .ref b), (1, .ref (tc_ad G 0)), (2, .ref (tc_ad G 50))]) tc_dL_1359 3 rfl (nI_add i 7) (by decide) rfl ?_
        refine tc_l_goto (tgt := 18) tc_dL_1362 (by decide) ?_
        refine tc_l_sub [1, 2, 3, 0] rfl ?_
        exact ih (i + 7) μ2 (by omega) hi hI2
      refine tc_l_aload_n tc_dL_27 0 rfl ?_
      refine tc_l_iload_n tc_dL_28 3 rfl ?_
      refine tc_l_sld tc_dL_29 (vp_in_nI (by omega) hL2) ?_
      refine tc_l_bipush (v := 63) tc_dL_30 (by decide) ?_
      refine tc_l_iand tc_dL_32 ?_
      generalize xs (nI i).toNatClampNeg &&& 63 = x
      by_cases hq0 : x < 0 ∨ 36 < x
      · exact tc_l_tswD (a := 0) (c1 := 36) (tgt := 1359) tc_dL_33 ⟨by decide, by decide⟩ hq0 (by decide) (fin μ hI)
      by_cases hq : x = 0
      · exact tc_l_tswK (k := 0) (off := 163) (tgt := 196) tc_dL_33 hq (by decide) (by decide) rfl (by decide) (tc_k0 g0 hi hL2 hI fin)
      have n0 := hq; clear hq
      by_cases hq : x = 1
      · exact tc_l_tswK (k := 1) (off := 216) (tgt := 249) tc_dL_33 hq (by decide) (by decide) rfl (by decide) (tc_k1 g1 hi hL2 hI fin)
      have n1 := hq; clear hq
      by_cases hq : x = 2
      · exact tc_l_tswK (k := 2) (off := 229) (tgt := 262) tc_dL_33 hq (by decide) (by decide) rfl (by decide) (tc_k2 g2 hi hL2 hI fin)
      have n2 := hq; clear hq
      by_cases hq : x = 3
      · exact tc_l_tswK (k := 3) (off := 272) (tgt := 305) tc_dL_33 hq (by decide) (by decide) rfl (by decide) (tc_k3 g3 hi hL2 hI fin)
      have n3 := hq; clear hq
      by_cases hq : x = 4
      · exact tc_l_tswK (k := 4) (off := 305) (tgt := 338) tc_dL_33 hq (by decide) (by decide) rfl (by decide) (tc_k4 g4 hi hL2 hI fin)
      have n4 := hq; clear hq
      by_cases hq : x = 5
      · exact tc_l_tswK (k := 5) (off := 338) (tgt := 371) tc_dL_33 hq (by decide) (by decide) rfl (by decide) (tc_k5 g5 hi hL2 hI fin)
      have n5 := hq; clear hq
      by_cases hq : x = 6
      · exact tc_l_tswK (k := 6) (off := 371) (tgt := 404) tc_dL_33 hq (by decide) (by decide) rfl (by decide) (tc_k6 g6 hi hL2 hI fin)
      have n6 := hq; clear hq
      by_cases hq : x = 7
      · exact tc_l_tswK (k := 7) (off := 404) (tgt := 437) tc_dL_33 hq (by decide) (by decide) rfl (by decide) (tc_k7 g7 hi hL2 hI fin)
      have n7 := hq; clear hq
      by_cases hq : x = 8
      · exact tc_l_tswK (k := 8) (off := 417) (tgt := 450) tc_dL_33 hq (by decide) (by decide) rfl (by decide) (tc_k8 g8 hi hL2 hI fin)
      have n8 := hq; clear hq
      by_cases hq : x = 9
      · exact tc_l_tswK (k := 9) (off := 450) (tgt := 483) tc_dL_33 hq (by decide) (by decide) rfl (by decide) (tc_k9 g9 hi hL2 hI fin)
      have n9 := hq; clear hq
      by_cases hq : x = 10
      · exact tc_l_tswK (k := 10) (off := 483) (tgt := 516) tc_dL_33 hq (by decide) (by decide) rfl (by decide) (tc_k10 g10 hi hL2 hI fin)
      have n10 := hq; clear hq
      by_cases hq : x = 11
      · exact tc_l_tswK (k := 11) (off := 516) (tgt := 549) tc_dL_33 hq (by decide) (by decide) rfl (by decide) (tc_k11 g11 hi hL2 hI fin)
      have n11 := hq; clear hq
      by_cases hq : x = 12
      · exact tc_l_tswK (k := 12) (off := 539) (tgt := 572) tc_dL_33 hq (by decide) (by decide) rfl (by decide) (tc_k12 g12 hi hL2 hI fin)
      have n12 := hq; clear hq
      by_cases hq : x = 13
      · exact tc_l_tswK (k := 13) (off := 552) (tgt := 585) tc_dL_33 hq (by decide) (by decide) rfl (by decide) (tc_k13 g13 hi hL2 hI fin)
      have n13 := hq; clear hq
      by_cases hq : x = 14
      · exact tc_l_tswK (k := 14) (off := 575) (tgt := 608) tc_dL_33 hq (by decide) (by decide) rfl (by decide) (tc_k14 g14 hi hL2 hI fin)
      have n14 := hq; clear hq
      by_cases hq : x = 15
      · exact tc_l_tswK (k := 15) (off := 598) (tgt := 631) tc_dL_33 hq (by decide) (by decide) rfl (by decide) (tc_k15 g15 hi hL2 hI fin)
      have n15 := hq; clear hq
      by_cases hq : x = 16
      · exact tc_l_tswK (k := 16) (off := 621) (tgt := 654) tc_dL_33 hq (by decide) (by decide) rfl (by decide) (tc_k16 g16 hi hL2 hI fin)
      have n16 := hq; clear hq
      by_cases hq : x = 17
      · exact tc_l_tswK (k := 17) (off := 654) (tgt := 687) tc_dL_33 hq (by decide) (by decide) rfl (by decide) (tc_k17 g17 hi hL2 hI fin)
      have n17 := hq; clear hq
      by_cases hq : x = 18
      · exact tc_l_tswK (k := 18) (off := 677) (tgt := 710) tc_dL_33 hq (by decide) (by decide) rfl (by decide) (tc_k18 g18 hi hL2 hI fin)
      have n18 := hq; clear hq
      by_cases hq : x = 19
      · exact tc_l_tswK (k := 19) (off := 700) (tgt := 733) tc_dL_33 hq (by decide) (by decide) rfl (by decide) (tc_k19 g19 hi hL2 hI fin)
      have n19 := hq; clear hq
      by_cases hq : x = 20
      · exact tc_l_tswK (k := 20) (off := 723) (tgt := 756) tc_dL_33 hq (by decide) (by decide) rfl (by decide) (tc_k20 g20 hi hL2 hI fin)
      have n20 := hq; clear hq
      by_cases hq : x = 21
      · exact tc_l_tswK (k := 21) (off := 746) (tgt := 779) tc_dL_33 hq (by decide) (by decide) rfl (by decide) (tc_k21 g21 hi hL2 hI fin)
      have n21 := hq; clear hq
      by_cases hq : x = 22
      · exact tc_l_tswK (k := 22) (off := 769) (tgt := 802) tc_dL_33 hq (by decide) (by decide) rfl (by decide) (tc_k22 g22 hi hL2 hI fin)
      have n22 := hq; clear hq
      by_cases hq : x = 23
      · exact tc_l_tswK (k := 23) (off := 792) (tgt := 825) tc_dL_33 hq (by decide) (by decide) rfl (by decide) (tc_k23 g23 hi hL2 hI fin)
      have n23 := hq; clear hq
      by_cases hq : x = 24
      · exact tc_l_tswK (k := 24) (off := 805) (tgt := 838) tc_dL_33 hq (by decide) (by decide) rfl (by decide) (tc_k24 g24 hi hL2 hI fin)
      have n24 := hq; clear hq
      by_cases hq : x = 25
      · exact tc_l_tswK (k := 25) (off := 838) (tgt := 871) tc_dL_33 hq (by decide) (by decide) rfl (by decide) (tc_k25 g25 hi hL2 hI fin)
      have n25 := hq; clear hq
      by_cases hq : x = 26
      · exact tc_l_tswK (k := 26) (off := 901) (tgt := 934) tc_dL_33 hq (by decide) (by decide) rfl (by decide) (tc_k26 g26 hi hL2 hI fin)
      have n26 := hq; clear hq
      by_cases hq : x = 27
      · exact tc_l_tswK (k := 27) (off := 944) (tgt := 977) tc_dL_33 hq (by decide) (by decide) rfl (by decide) (tc_k27 g27 hi hL2 hI fin)
      have n27 := hq; clear hq
      by_cases hq : x = 28
      · exact tc_l_tswK (k := 28) (off := 987) (tgt := 1020) tc_dL_33 hq (by decide) (by decide) rfl (by decide) (tc_k28 g28 hi hL2 hI fin)
      have n28 := hq; clear hq
      by_cases hq : x = 29
      · exact tc_l_tswK (k := 29) (off := 1062) (tgt := 1095) tc_dL_33 hq (by decide) (by decide) rfl (by decide) (tc_k29 g29 hi hL2 hI fin)
      have n29 := hq; clear hq
      by_cases hq : x = 30
      · exact tc_l_tswK (k := 30) (off := 1075) (tgt := 1108) tc_dL_33 hq (by decide) (by decide) rfl (by decide) (tc_k30 g30 hi hL2 hI fin)
      have n30 := hq; clear hq
      by_cases hq : x = 31
      · exact tc_l_tswK (k := 31) (off := 1088) (tgt := 1121) tc_dL_33 hq (by decide) (by decide) rfl (by decide) (tc_k31 g31 hi hL2 hI fin)
      have n31 := hq; clear hq
      by_cases hq : x = 32
      · exact tc_l_tswK (k := 32) (off := 1101) (tgt := 1134) tc_dL_33 hq (by decide) (by decide) rfl (by decide) (tc_k32 g32 hi hL2 hI fin)
      have n32 := hq; clear hq
      by_cases hq : x = 33
      · exact tc_l_tswK (k := 33) (off := 1154) (tgt := 1187) tc_dL_33 hq (by decide) (by decide) rfl (by decide) (tc_k33 g33 hi hL2 hI fin)
      have n33 := hq; clear hq
      by_cases hq : x = 34
      · exact tc_l_tswK (k := 34) (off := 1177) (tgt := 1210) tc_dL_33 hq (by decide) (by decide) rfl (by decide) (tc_k34 g34 hi hL2 hI fin)
      have n34 := hq; clear hq
      by_cases hq : x = 35
      · exact tc_l_tswK (k := 35) (off := 1220) (tgt := 1253) tc_dL_33 hq (by decide) (by decide) rfl (by decide) (tc_k35 g35 hi hL2 hI fin)
      have n35 := hq; clear hq
      by_cases hq : x = 36
      · exact tc_l_tswK (k := 36) (off := 1263) (tgt := 1296) tc_dL_33 hq (by decide) (by decide) rfl (by decide) (tc_k36 g36 hi hL2 hI fin)
      have n36 := hq; clear hq
      exfalso
      have h36 := Int32.not_lt.mp (fun q => hq0 (Or.inl q)); have h37 := Int32.not_lt.mp (fun q => hq0 (Or.inr q))
      obtain ⟨j, hj, rfl⟩ := nI_of2 (M := 36) (n := 36) (by decide) (Int32.not_lt.mpr h36) h37
      match j, (show j < 37 by omega) with
      | 0, _ => exact n0 (by decide)
      | 1, _ => exact n1 (by decide)
      | 2, _ => exact n2 (by decide)
      | 3, _ => exact n3 (by decide)
      | 4, _ => exact n4 (by decide)
      | 5, _ => exact n5 (by decide)
      | 6, _ => exact n6 (by decide)
      | 7, _ => exact n7 (by decide)
      | 8, _ => exact n8 (by decide)
      | 9, _ => exact n9 (by decide)
      | 10, _ => exact n10 (by decide)
      | 11, _ => exact n11 (by decide)
      | 12, _ => exact n12 (by decide)
      | 13, _ => exact n13 (by decide)
      | 14, _ => exact n14 (by decide)
      | 15, _ => exact n15 (by decide)
      | 16, _ => exact n16 (by decide)
      | 17, _ => exact n17 (by decide)
      | 18, _ => exact n18 (by decide)
      | 19, _ => exact n19 (by decide)
      | 20, _ => exact n20 (by decide)
      | 21, _ => exact n21 (by decide)
      | 22, _ => exact n22 (by decide)
      | 23, _ => exact n23 (by decide)
      | 24, _ => exact n24 (by decide)
      | 25, _ => exact n25 (by decide)
      | 26, _ => exact n26 (by decide)
      | 27, _ => exact n27 (by decide)
      | 28, _ => exact n28 (by decide)
      | 29, _ => exact n29 (by decide)
      | 30, _ => exact n30 (by decide)
      | 31, _ => exact n31 (by decide)
      | 32, _ => exact n32 (by decide)
      | 33, _ => exact n33 (by decide)
      | 34, _ => exact n34 (by decide)
      | 35, _ => exact n35 (by decide)
      | 36, _ => exact n36 (by decide)
      | k + 37, hk => exact absurd hk (by omega)
end LAWL
