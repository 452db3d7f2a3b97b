section H2
variable {N : Nat} {Y Z : tc_Y} {x1 x2 x3 x4 x5 : Int32} {μ μ0 μ1 μ2 : tc_Mem}
theorem tz_wiZ {i z : Nat} (hi : i < 2 ^ 31) (hz : z ≤ 40) : tc_wi (nI i) 0 (nI z - 1) = decide (i < z) := by
  unfold tc_wi
  rw [decide_eq_false (tc_nn hi)]
  by_cases c : z = 0
  · subst c
    rw [decide_eq_true (show nI 0 - 1 < nI i from Int32.lt_of_lt_of_le tc_neg1 (nI_pos' hi))]
    simp
  · rw [tc_sb1 (by omega)]
    by_cases c2 : i < z
    · rw [decide_eq_false (by rw [tc_lt' (by omega) hi]; omega)]; simp [c2]
    · rw [decide_eq_true (by rw [tc_lt' (by omega) hi]; omega)]; simp [c2]
theorem tz_wiN {z : Nat} (hx : x1 < 0) : tc_wi x1 0 (nI z - 1) = false := by
  unfold tc_wi
  rw [decide_eq_true hx]; rfl
theorem tc_v3_holds {r z : Nat} {x y : Int64} (hr : r < 4) (e : μ 48 r = nI z) (hz : z ≤ 40) (hs : (x + y).toInt = x.toInt + y.toInt) : tc_f3_holds N (nI r) x y μ = some (tc_bI (decide (0 ≤ x.toInt ∧ 0 ≤ y.toInt ∧ x.toInt + y.toInt ≤ z)), μ) := by
  have hvr : vp_in (nI r) 4 := (tc_vin (by omega) (by decide)).mpr hr
  have e0 : (0 : Int64).toInt = 0 := by decide
  apply tc_wp_of
  unfold tc_f3_holds
  rw [tc_wp_if, tc_wp_some]
  by_cases c1 : lg_cmp x 0 < 0
  · rw [if_pos c1]
    rw [lg_cmp_lt, Int64.lt_iff_toInt_lt, e0] at c1
    refine ⟨?_, rfl⟩
    rw [decide_eq_false (by omega)]; rfl
  rw [if_neg c1, tc_wp_if, tc_wp_some]
  rw [lg_cmp_lt, Int64.lt_iff_toInt_lt, e0] at c1
  by_cases c2 : lg_cmp y 0 < 0
  · rw [if_pos c2]
    rw [lg_cmp_lt, Int64.lt_iff_toInt_lt, e0] at c2
    refine ⟨?_, rfl⟩
    rw [decide_eq_false (by omega)]; rfl
  rw [if_neg c2]
  rw [lg_cmp_lt, Int64.lt_iff_toInt_lt, e0] at c2
  rw [tc_wp_ck, tc_cl (by omega), e, tc_wp_if, tc_wp_some, tc_wp_some]
  refine ⟨hvr, ?_⟩
  have ez : (nI z).toInt64.toInt = z := by rw [Int32.toInt_toInt64, nI_toInt (by omega)]
  by_cases c3 : (0 : Int32) < lg_cmp (x + y) (nI z).toInt64
  · rw [if_pos c3]
    rw [lg_cmp_gt, Int64.lt_iff_toInt_lt, ez, hs] at c3
    refine ⟨?_, rfl⟩
    rw [decide_eq_false (by omega)]; rfl
  · rw [if_neg c3]
    rw [lg_cmp_gt, Int64.lt_iff_toInt_lt, ez, hs] at c3
    refine ⟨?_, rfl⟩
    rw [decide_eq_true (by omega)]; rfl
theorem tz_s35 (hN : 300 ≤ N) : tc_S35 N tc_Inv := fun a1 a2 a3 μ h => by
  obtain ⟨Y, g, hY, hO⟩ := h.g
  rcases Bool.eq_false_or_eq_true (tc_wi a1 0 3) with c1 | c1
  case inr => exact tc_mk0 h (r0 := -2) (tc_wp_of (by unfold tc_f6_put; simp [tc_wp_bd, tc_v3_has, tc_wp_some, c1, tc_bI])) (tc_wp_of (by unfold tc_f7_put; simp [tc_wp_bd, tc_v7_isSheet, tc_wp_some, c1, tc_bI]))
  obtain ⟨r, -, hr3, rfl⟩ := tc_wi_nI (a := 0) (b := 3) (by decide) (by decide) c1
  have hr : r < 4 := by omega
  have hvr : vp_in (nI r) 4 := (tc_vin (by omega) (by decide)).mpr hr
  have hS := hO.2.2.1
  rcases hS.ab (r := r) (by omega) with ⟨m1, m2⟩ | ⟨so, z, it, hso, hz, hA, hB⟩
  · refine tc_mk0 h (r0 := -11) (tc_wp_of ?_) (tc_wp_of ?_)
    · unfold tc_f6_put
      rw [tc_wp_bd, tc_v3_has, tc_wp_some, c1, if_neg (by decide), tc_wp_bd, tc_v3_miss hr, tc_wp_some, m1, if_pos rfl, if_neg (by decide), tc_wp_some]
      exact ⟨rfl, rfl⟩
    · unfold tc_f7_put
      rw [tc_wp_bd, tc_v7_isSheet, tc_wp_some, c1, if_neg (by decide), tc_wp_ck, tc_cl (show r < 2 ^ 31 by omega), m2, if_neg (by decide), tc_wp_some]
      exact ⟨hvr, rfl, rfl⟩
  have hn1 : ¬ so = -1 := by rcases hso with rfl | rfl <;> decide
  have h01 : (0 : Int32) ≤ so := by rcases hso with rfl | rfl <;> decide
  have es : (a2.toInt64 + 1).toInt = a2.toInt64.toInt + (1 : Int64).toInt := by
    have := lg_i2l_add a2 1
    rw [Int32.toInt_toInt64]
    exact this
  have hh := tc_v3_holds (N := N) hr hA.2.1 hz es
  have e1 : (1 : Int64).toInt = 1 := by decide
  rw [Int32.toInt_toInt64, e1] at hh
  rcases tc_split a2 with hneg | ⟨i, hi, rfl⟩
  · have hn : a2.toInt < 0 := by
      rw [Int32.lt_iff_toInt_lt] at hneg
      exact hneg
    rw [decide_eq_false (by omega)] at hh
    refine tc_mk0 h (r0 := -12) (tc_wp_of ?_) (tc_wp_of ?_)
    · unfold tc_f6_put
      rw [tc_wp_bd, tc_v3_has, tc_wp_some, c1, if_neg (by decide), tc_wp_bd, tc_v3_miss hr, tc_wp_some, hA.1, if_neg hn1, if_pos rfl, tc_wp_bd, hh, tc_wp_some, if_pos (show tc_bI false = 0 from rfl), tc_wp_some]
      exact ⟨rfl, rfl⟩
    · unfold tc_f7_put
      rw [tc_wp_bd, tc_v7_isSheet, tc_wp_some, c1, if_neg (by decide), tc_wp_ck, tc_cl (show r < 2 ^ 31 by omega), hB.1, if_pos h01, tc_wp_ck, hB.2.1, tc_wp_bd, tc_v7_in, tc_wp_some, tz_wiN hneg, if_pos (show tc_bI false = 0 from rfl), tc_wp_some]
      exact ⟨hvr, hvr, rfl, rfl⟩
  rw [nI_toInt hi] at hh
  by_cases ci : i < z
  case neg =>
    rw [decide_eq_false (by omega)] at hh
    refine tc_mk0 h (r0 := -12) (tc_wp_of ?_) (tc_wp_of ?_)
    · unfold tc_f6_put
      rw [tc_wp_bd, tc_v3_has, tc_wp_some, c1, if_neg (by decide), tc_wp_bd, tc_v3_miss hr, tc_wp_some, hA.1, if_neg hn1, if_pos rfl, tc_wp_bd, hh, tc_wp_some, if_pos (show tc_bI false = 0 from rfl), tc_wp_some]
      exact ⟨rfl, rfl⟩
    · unfold tc_f7_put
      rw [tc_wp_bd, tc_v7_isSheet, tc_wp_some, c1, if_neg (by decide), tc_wp_ck, tc_cl (show r < 2 ^ 31 by omega), hB.1, if_pos h01, tc_wp_ck, hB.2.1, tc_wp_bd, tc_v7_in, tc_wp_some, tz_wiZ hi hz, decide_eq_false ci, if_pos (show tc_bI false = 0 from rfl), tc_wp_some]
      exact ⟨hvr, hvr, rfl, rfl⟩
  rw [decide_eq_true (by omega)] at hh
  refine tc_mkS hO hY ?_
  have hvi : vp_in (nI (40 * r + i)) 160 := (tc_vin (by omega) (by decide)).mpr (by omega)
  generalize hv : (if so = 0 then a3.toInt16.toInt32 else a3) = v
  have hlay : tc_wp (tc_f3_lay N (nI r) (nI i) a3 μ) (fun _ μ' => μ' = tc_wr μ 49 (40 * r + i) v) := by
    unfold tc_f3_lay tc_f3_lay_25
    rw [tc_wp_ck, tc_cl (show r < 2 ^ 31 by omega), hA.1, tz_ix, tc_wp_if, tc_wp_ck, tc_wp_ck, tc_cl (by omega), tc_wp_lt, tc_wp_lt, tc_wp_some, tc_wp_some]
    refine ⟨hvr, ?_⟩
    rw [← hv]
    by_cases c : so = 0
    · rw [if_pos c, if_pos c]; exact ⟨hvi, rfl⟩
    · rw [if_neg c, if_neg c]; exact ⟨hvi, rfl⟩
  unfold tc_f6_put
  rw [tc_wp_bd, tc_v3_has, tc_wp_some, c1, if_neg (by decide), tc_wp_bd, tc_v3_miss hr, tc_wp_some, hA.1, if_neg hn1, if_pos rfl, tc_wp_bd, hh, tc_wp_some, if_neg (show ¬ tc_bI true = 0 by decide), tc_wp_bd]
  refine tc_wp_mono hlay (fun _ μ1 h1 => ?_)
  subst h1
  rw [tc_wp_some]
  refine ⟨fun k _ q => tc_wr_k (by omega), ?_⟩
  have f1 : ∀ k, k ≠ 49 → tc_wr μ 49 (40 * r + i) v k = μ k := fun k hk => tc_wr_k hk
  have hput : tc_wp (tc_f7_put N (nI r) (nI i) a3 (tc_wr μ 49 (40 * r + i) v)) (fun r2 μ' => r2 = 1 ∧ μ' = tc_wr (tc_wr μ 49 (40 * r + i) v) 66 (40 * r + i) v) := by
    unfold tc_f7_put tc_f7_put_66
    rw [tc_wp_bd, tc_v7_isSheet, tc_wp_some, c1, if_neg (by decide), tc_wp_ck, tc_cl (show r < 2 ^ 31 by omega), f1 64 (by decide), f1 65 (by decide), hB.1, if_pos h01, tc_wp_ck, hB.2.1, tc_wp_bd, tc_v7_in, tc_wp_some, tz_wiZ hi hz, decide_eq_true ci, if_neg (show ¬ tc_bI true = 0 by decide), tc_wp_ck, f1 64 (by decide), hB.1, tz_ix2, tc_wp_if, tc_wp_ck, tc_wp_ck, tc_cl (by omega), tc_wp_lt, tc_wp_lt, tc_wp_some, tc_wp_some]
    refine ⟨hvr, hvr, hvr, ?_⟩
    rw [← hv]
    by_cases c : so = 0
    · rw [if_pos c, if_pos c]; exact ⟨hvi, rfl, rfl⟩
    · rw [if_neg c, if_neg c]; exact ⟨hvi, rfl, rfl⟩
  refine tc_wp_mono hput (fun r2 μ2 h2 => ?_)
  obtain ⟨rfl, rfl⟩ := h2
  refine ⟨rfl, ⟨fun k q1 q2 => tc_wr_k (by omega), fun j _ => by rw [tc_wr_k (by decide)]⟩, hY.2.2.2.frame (fun j _ => by rw [tc_wr_k (by decide), tc_wr_k (by decide)]) (fun k q1 q2 => by rw [tc_wr_k (by omega), tc_wr_k (by omega)]), ?_⟩
  refine hS.one (r := r) (fun q hq hne => ⟨?_, ?_, ?_, ?_, fun j hj => ⟨?_, ?_⟩⟩) ⟨⟨z, hz, ?_⟩, ?_, Or.inr ⟨?_, ?_, fun j hj hj4 => ?_⟩⟩
  · rw [tc_wr_k (by decide), tc_wr_k (by decide)]
  · rw [tc_wr_k (by decide), tc_wr_k (by decide)]
  · rw [tc_wr_k (by decide), tc_wr_k (by decide)]
  · rw [tc_wr_k (by decide), tc_wr_k (by decide)]
  · rw [tc_wr_k (by decide), tc_wr_at, if_neg (by omega)]
  · rw [tc_wr_at, if_neg (by omega), tc_wr_k (by decide)]
  · rw [tc_wr_k (by decide), tc_wr_k (by decide)]; exact hA.2.1
  · rw [tc_wr_k (by decide), tc_wr_k (by decide), tc_wr_k (by decide), tc_wr_k (by decide), hA.1, hB.1]
  · rw [tc_wr_k (by decide), tc_wr_k (by decide), hA.1]; exact hso
  · rw [tc_wr_k (by decide), tc_wr_k (by decide), tc_wr_k (by decide), tc_wr_k (by decide), hA.2.1, hB.2.1]
  · rw [tc_wr_k (by decide), tc_wr_k (by decide), hA.2.1, tc_lt' (by omega) (by omega)] at hj
    rw [tc_wr_k (show (49 : Nat) ≠ 66 by decide), tc_wr_at, tc_wr_at]
    by_cases c : j = i
    · rw [if_pos ⟨rfl, by omega⟩, if_pos ⟨rfl, by omega⟩]
    · rw [if_neg (by omega), if_neg (by omega), tc_wr_k (by decide), hA.2.2 j hj, hB.2.2 j hj]
theorem tz_s36 (hN : 300 ≤ N) : tc_S36 N tc_Inv := fun a1 a2 a3 a4 a5 μ h => by
  obtain ⟨Y, g, hY, hO⟩ := h.g
  rcases Bool.eq_false_or_eq_true (tc_wi a1 0 3) with c1 | c1
  case inr => exact tc_mk0 h (r0 := -2) (tc_wp_of (by unfold tc_f6_copy; simp [tc_wp_bd, tc_v3_has, tc_wp_some, c1, tc_bI])) (tc_wp_of (by unfold tc_f7_copy; simp [tc_wp_bd, tc_v7_isSheet, tc_wp_some, c1, tc_bI]))
  rcases Bool.eq_false_or_eq_true (tc_wi a3 0 3) with c3 | c3
  case inr => exact tc_mk0 h (r0 := -2) (tc_wp_of (by unfold tc_f6_copy; simp [tc_wp_bd, tc_v3_has, tc_wp_some, c1, c3, tc_bI])) (tc_wp_of (by unfold tc_f7_copy; simp [tc_wp_bd, tc_v7_isSheet, tc_wp_some, c1, c3, tc_bI]))
  obtain ⟨r, -, hr3, rfl⟩ := tc_wi_nI (a := 0) (b := 3) (by decide) (by decide) c1
  obtain ⟨o, -, ho3, rfl⟩ := tc_wi_nI (a := 0) (b := 3) (by decide) (by decide) c3
  have hr : r < 4 := by omega
  have ho : o < 4 := by omega
  have hvr : vp_in (nI r) 4 := (tc_vin (by omega) (by decide)).mpr hr
  have hvo : vp_in (nI o) 4 := (tc_vin (by omega) (by decide)).mpr ho
  have hS := hO.2.2.1
  rcases hS.ab (r := r) hr with ⟨m1, m2⟩ | ⟨so, z, it, hso, hz, hA, hB⟩
  · refine tc_mk0 h (r0 := -11) (tc_wp_of ?_) (tc_wp_of ?_)
    · unfold tc_f6_copy
      rw [tc_wp_bd, tc_v3_has, tc_wp_some, c1, if_neg (by decide), tc_wp_bd, tc_v3_has, tc_wp_some, c3, if_neg (by decide), tc_wp_bd, tc_v3_miss hr, tc_wp_some, m1, if_pos rfl, if_neg (by decide), tc_wp_some]
      exact ⟨rfl, rfl⟩
    · unfold tc_f7_copy
      rw [tc_wp_bd, tc_v7_isSheet, tc_wp_some, c1, if_neg (by decide), tc_wp_bd, tc_v7_isSheet, tc_wp_some, c3, if_neg (by decide), tc_wp_ck, tc_cl (show r < 2 ^ 31 by omega), m2, if_pos (by decide), tc_wp_some]
      exact ⟨hvr, rfl, rfl⟩
  have hn1 : ¬ so = -1 := by rcases hso with rfl | rfl <;> decide
  have h01 : (0 : Int32) ≤ so := by rcases hso with rfl | rfl <;> decide
  have h10 : ¬ so < 0 := by rcases hso with rfl | rfl <;> decide
  rcases hS.ab (r := o) ho with ⟨m1, m2⟩ | ⟨sp, w, jt, hsp, hw, hA2, hB2⟩
  · refine tc_mk0 h (r0 := -11) (tc_wp_of ?_) (tc_wp_of ?_)
    · unfold tc_f6_copy
      rw [tc_wp_bd, tc_v3_has, tc_wp_some, c1, if_neg (by decide), tc_wp_bd, tc_v3_has, tc_wp_some, c3, if_neg (by decide), tc_wp_bd, tc_v3_miss hr, tc_wp_some, hA.1, if_neg hn1, if_pos rfl, tc_wp_bd, tc_v3_miss ho, tc_wp_some, m1, if_pos rfl, if_neg (by decide), tc_wp_some]
      exact ⟨rfl, rfl⟩
    · unfold tc_f7_copy
      rw [tc_wp_bd, tc_v7_isSheet, tc_wp_some, c1, if_neg (by decide), tc_wp_bd, tc_v7_isSheet, tc_wp_some, c3, if_neg (by decide), tc_wp_ck, tc_cl (show r < 2 ^ 31 by omega), hB.1, if_neg h10, tc_wp_ck, tc_cl (show o < 2 ^ 31 by omega), m2, if_neg (by decide), tc_wp_some]
      exact ⟨hvr, hvo, rfl, rfl⟩
  have hn2 : ¬ sp = -1 := by rcases hsp with rfl | rfl <;> decide
  have h02 : (0 : Int32) ≤ sp := by rcases hsp with rfl | rfl <;> decide
  -- both sides, up to the first question of sorts
  have kk : ∀ P, tc_wp (if so = sp then tc_bd (tc_f3_holds N (nI r) a2.toInt64 a5.toInt64 μ) fun r11 μ12 => if r11 = 0 then some ((-12), μ12) else tc_bd (tc_f3_holds N (nI o) a4.toInt64 a5.toInt64 μ12) fun r13 μ14 => if r13 = 0 then some ((-12), μ14) else tc_bd (tc_f3_bring N (nI r) a2 (nI o) a4 a5 μ14) fun _ μ16 => some (a5, μ16) else some ((-13), μ)) P → tc_wp (tc_f6_copy N (nI r) a2 (nI o) a4 a5 μ) P := by
    intro P hP
    unfold tc_f6_copy
    rw [tc_wp_bd, tc_v3_has, tc_wp_some, c1, if_neg (by decide), tc_wp_bd, tc_v3_has, tc_wp_some, c3, if_neg (by decide), tc_wp_bd, tc_v3_miss hr, tc_wp_some, hA.1, if_neg hn1, if_pos rfl, tc_wp_bd, tc_v3_miss ho, tc_wp_some, hA2.1, if_neg hn2, if_pos rfl, tc_wp_ck, tc_wp_ck, tc_cl (show r < 2 ^ 31 by omega), tc_cl (show o < 2 ^ 31 by omega), hA.1, hA2.1]
    exact ⟨hvr, hvo, hP⟩
  have rr : ∀ (μ1 : tc_Mem), (∀ k, (k < 47 ∨ 49 < k) → μ1 k = μ k) → ∀ P, tc_wp (if so = sp then if a5 < 0 then some ((-12), μ1) else if a2 < 0 then some ((-12), μ1) else if a4 < 0 then some ((-12), μ1) else if (0 : Int32) < (lg_cmp (a2.toInt64 + a5.toInt64) (nI z).toInt64) then some ((-12), μ1) else tc_ck (nI o) 4 (if (lg_cmp (a4.toInt64 + a5.toInt64) (nI w).toInt64) ≤ 0 then tc_f7_copy_111 N N (nI r) a2 (nI o) a4 a5 0 μ1 else some ((-12), μ1)) else some ((-13), μ1)) P → tc_wp (tc_f7_copy N (nI r) a2 (nI o) a4 a5 μ1) P := by
    intro μ1 f1 P hP
    unfold tc_f7_copy
    rw [tc_wp_bd, tc_v7_isSheet, tc_wp_some, c1, if_neg (by decide), tc_wp_bd, tc_v7_isSheet, tc_wp_some, c3, if_neg (by decide), tc_wp_ck, tc_cl (show r < 2 ^ 31 by omega), f1 64 (by omega), f1 65 (by omega), hB.1, if_neg h10, tc_wp_ck, tc_cl (show o < 2 ^ 31 by omega), hB2.1, if_pos h02, tc_wp_ck, tc_wp_ck, hB.2.1, hB2.2.1]
    refine ⟨hvr, hvo, hvr, hvo, ?_⟩
    rw [tc_wp_if] at hP ⊢
    by_cases q1 : so = sp
    · rw [if_pos q1] at hP ⊢
      rw [tc_wp_if] at hP ⊢
      by_cases q2 : a5 < 0
      · rw [if_pos q2] at hP ⊢; exact hP
      rw [if_neg q2] at hP ⊢
      rw [tc_wp_if] at hP ⊢
      by_cases q3 : a2 < 0
      · rw [if_pos q3] at hP ⊢; exact hP
      rw [if_neg q3] at hP ⊢
      rw [tc_wp_if] at hP ⊢
      by_cases q4 : a4 < 0
      · rw [if_pos q4] at hP ⊢; exact hP
      rw [if_neg q4] at hP ⊢
      rw [tc_wp_ck]
      exact ⟨hvr, hP⟩
    · rw [if_neg q1] at hP ⊢; exact hP
  by_cases cs : so = sp
  case neg =>
    refine tc_mk0 h (r0 := -13) (tc_wp_of (kk _ ?_)) (tc_wp_of (rr μ (fun _ _ => rfl) _ ?_))
    · rw [if_neg cs, tc_wp_some]; exact ⟨rfl, rfl⟩
    · rw [if_neg cs, tc_wp_some]; exact ⟨rfl, rfl⟩
  have e1 : (a2.toInt64 + a5.toInt64).toInt = a2.toInt64.toInt + a5.toInt64.toInt := by rw [lg_i2l_add, Int32.toInt_toInt64, Int32.toInt_toInt64]
  have e2 : (a4.toInt64 + a5.toInt64).toInt = a4.toInt64.toInt + a5.toInt64.toInt := by rw [lg_i2l_add, Int32.toInt_toInt64, Int32.toInt_toInt64]
  have hh1 := tc_v3_holds (N := N) hr hA.2.1 hz e1
  have hh2 := tc_v3_holds (N := N) ho hA2.2.1 hw e2
  rw [Int32.toInt_toInt64, Int32.toInt_toInt64] at hh1 hh2
  have ez : (nI z).toInt64.toInt = z := by rw [Int32.toInt_toInt64, nI_toInt (by omega)]
  have ew : (nI w).toInt64.toInt = w := by rw [Int32.toInt_toInt64, nI_toInt (by omega)]
  have neg : ∀ x : Int32, x < 0 ↔ x.toInt < 0 := fun x => Int32.lt_iff_toInt_lt
  have cz : (0 : Int32) < lg_cmp (a2.toInt64 + a5.toInt64) (nI z).toInt64 ↔ (z : Int) < a2.toInt + a5.toInt := by rw [lg_cmp_gt, Int64.lt_iff_toInt_lt, ez, lg_i2l_add]
  have cw : lg_cmp (a4.toInt64 + a5.toInt64) (nI w).toInt64 ≤ 0 ↔ a4.toInt + a5.toInt ≤ (w : Int) := by rw [lg_cmp_le, Int64.le_iff_toInt_le, ew, lg_i2l_add]
  by_cases C : (0 ≤ a2.toInt ∧ 0 ≤ a5.toInt ∧ a2.toInt + a5.toInt ≤ z) ∧ (0 ≤ a4.toInt ∧ 0 ≤ a5.toInt ∧ a4.toInt + a5.toInt ≤ w)
  case neg =>
    refine tc_mk0 h (r0 := -12) (tc_wp_of (kk _ ?_)) (tc_wp_of (rr μ (fun _ _ => rfl) _ ?_))
    · rw [if_pos cs, tc_wp_bd, hh1, tc_wp_some]
      by_cases C1 : 0 ≤ a2.toInt ∧ 0 ≤ a5.toInt ∧ a2.toInt + a5.toInt ≤ z
      · rw [decide_eq_true C1, if_neg (by decide), tc_wp_bd, hh2, tc_wp_some, decide_eq_false (fun q => C ⟨C1, q⟩), if_pos (show tc_bI false = 0 from rfl), tc_wp_some]
        exact ⟨rfl, rfl⟩
      · rw [decide_eq_false C1, if_pos (show tc_bI false = 0 from rfl), tc_wp_some]
        exact ⟨rfl, rfl⟩
    · rw [if_pos cs, tc_wp_if]
      by_cases q1 : a5 < 0
      · rw [if_pos q1, tc_wp_some]; exact ⟨rfl, rfl⟩
      rw [if_neg q1, tc_wp_if]
      by_cases q2 : a2 < 0
      · rw [if_pos q2, tc_wp_some]; exact ⟨rfl, rfl⟩
      rw [if_neg q2, tc_wp_if]
      by_cases q3 : a4 < 0
      · rw [if_pos q3, tc_wp_some]; exact ⟨rfl, rfl⟩
      rw [if_neg q3, tc_wp_if]
      by_cases q4 : (0 : Int32) < lg_cmp (a2.toInt64 + a5.toInt64) (nI z).toInt64
      · rw [if_pos q4, tc_wp_some]; exact ⟨rfl, rfl⟩
      rw [if_neg q4, tc_wp_ck, tc_wp_if, if_neg ?_, tc_wp_some]
      · exact ⟨hvo, rfl, rfl⟩
      · rw [cw]
        rw [cz] at q4
        rw [neg] at q1 q2 q3
        omega
  obtain ⟨⟨C1, C2, C3⟩, C4, -, C5⟩ := C
  have pos : ∀ x : Int32, 0 ≤ x.toInt → ∃ j : Nat, j < 2 ^ 31 ∧ x = nI j := fun x hx => by
    rcases tc_split x with q | q
    · rw [neg] at q; omega
    · exact q
  obtain ⟨i, hi, rfl⟩ := pos a2 C1
  obtain ⟨j, hj, rfl⟩ := pos a4 C4
  obtain ⟨n, hn, rfl⟩ := pos a5 C2
  rw [nI_toInt hi, nI_toInt hn] at C3
  rw [nI_toInt hj, nI_toInt hn] at C5
  have C3' : i + n ≤ z := by omega
  have C5' : j + n ≤ w := by omega
  refine tc_mkS hO hY (kk _ ?_)
  rw [if_pos cs, tc_wp_bd, hh1, tc_wp_some, decide_eq_true (by rw [nI_toInt hi, nI_toInt hn]; omega), if_neg (by decide), tc_wp_bd, hh2, tc_wp_some, decide_eq_true (by rw [nI_toInt hj, nI_toInt hn]; omega), if_neg (by decide), tc_wp_bd]
  unfold tc_f3_bring
  rw [tz_ix, tz_ix, tc_wp_cp, tc_cl (by omega), tc_cl (by omega), tc_cl (by omega), tc_wp_some, tc_wp_some]
  refine ⟨⟨tc_nn (by omega), tc_nn (by omega), tc_nn (by omega), by omega, by omega⟩, ?_⟩
  generalize hm1 : tc_row μ 49 (va_cpy (μ 49) (μ 49) (40 * r + i) (40 * o + j) n) = μ1
  have f1 : ∀ k, k ≠ 49 → μ1 k = μ k := fun k hk => by rw [← hm1, tc_row_k hk]
  have e49 : ∀ q, μ1 49 q = if 40 * o + j ≤ q ∧ q < 40 * o + j + n then μ 49 (40 * r + i + (q - (40 * o + j))) else μ 49 q := fun q => by rw [← hm1, tc_row_s]; rfl
  refine ⟨fun k _ q => f1 k (by omega), rr μ1 (fun k hk => f1 k (by omega)) _ ?_⟩
  rw [if_pos cs, if_neg (tc_nn hn), if_neg (tc_nn hi), if_neg (tc_nn hj), if_neg (by rw [cz, nI_toInt hi, nI_toInt hn]; omega), tc_wp_ck, if_pos (by rw [cw, nI_toInt hj, nI_toInt hn]; omega)]
  refine ⟨hvo, ?_⟩
  have last : ∀ (d f k : Nat) (μ3 : tc_Mem), k + d = n → d < f → (∀ c, c ≠ 66 → c ≠ 67 → μ3 c = μ1 c) → (∀ c, c < n → μ3 67 c = μ 66 (40 * r + i + c)) → (∀ q, μ3 66 q = if 40 * o + j ≤ q ∧ q < 40 * o + j + k then μ 66 (40 * r + i + (q - (40 * o + j))) else μ 66 q) → tc_wp (tc_f7_copy_148 N f (nI o) (nI j) (nI n) (nI k) μ3) (fun r2 μ2 => r2 = nI n ∧ tz_FR μ1 μ2 ∧ tc_RM μ2 Y Y.2.2.2 (-1) ∧ tc_ISh μ2) := by
    intro d
    induction d with
    | zero =>
      intro f k μ3 hk hf g1 g2 g3
      obtain ⟨f, rfl⟩ : ∃ f', f = f' + 1 := ⟨f - 1, by omega⟩
      obtain rfl : k = n := by omega
      rw [tc_f7_copy_148]; dsimp only
      rw [if_pos (Int32.le_refl _), tc_wp_some]
      refine ⟨rfl, ⟨fun k q1 q2 => g1 k (by omega) (by omega), fun j _ => by rw [g1 50 (by decide) (by decide)]⟩, hY.2.2.2.frame (fun j _ => by rw [g1 50 (by decide) (by decide), f1 50 (by decide)]) (fun k q1 q2 => by rw [g1 k (by omega) (by omega), f1 k (by omega)]), ?_⟩
      have G : ∀ c, c ≠ 49 → c ≠ 66 → c ≠ 67 → μ3 c = μ c := fun c q1 q2 q3 => by rw [g1 c q2 q3, f1 c q1]
      refine hS.one (r := o) (fun q hq hne => ⟨?_, ?_, ?_, ?_, fun t ht => ⟨?_, ?_⟩⟩) ⟨⟨w, hw, ?_⟩, ?_, Or.inr ⟨?_, ?_, fun t ht ht4 => ?_⟩⟩
      · rw [G 47 (by decide) (by decide) (by decide)]
      · rw [G 48 (by decide) (by decide) (by decide)]
      · rw [G 64 (by decide) (by decide) (by decide)]
      · rw [G 65 (by decide) (by decide) (by decide)]
      · rw [g1 49 (by decide) (by decide), e49, if_neg (by omega)]
      · rw [g3, if_neg (by omega)]
      · rw [G 48 (by decide) (by decide) (by decide)]; exact hA2.2.1
      · rw [G 47 (by decide) (by decide) (by decide), G 64 (by decide) (by decide) (by decide), hA2.1, hB2.1]
      · rw [G 47 (by decide) (by decide) (by decide), hA2.1]; exact hsp
      · rw [G 65 (by decide) (by decide) (by decide), G 48 (by decide) (by decide) (by decide), hA2.2.1, hB2.2.1]
      · rw [G 48 (by decide) (by decide) (by decide), hA2.2.1, tc_lt' (by omega) (by omega)] at ht
        rw [g1 49 (by decide) (by decide), e49, g3]
        by_cases q : 40 * o + j ≤ 40 * o + t ∧ 40 * o + t < 40 * o + j + k
        · rw [if_pos q, if_pos q]
          have a := hA.2.2 (i + (40 * o + t - (40 * o + j))) (by omega)
          have b := hB.2.2 (i + (40 * o + t - (40 * o + j))) (by omega)
          rw [← Nat.add_assoc] at a b
          rw [a, b]
        · rw [if_neg q, if_neg q, hA2.2.2 t ht, hB2.2.2 t ht]
    | succ d ih =>
      intro f k μ3 hk hf g1 g2 g3
      obtain ⟨f, rfl⟩ : ∃ f', f = f' + 1 := ⟨f - 1, by omega⟩
      rw [tc_f7_copy_148]; dsimp only
      rw [if_neg (by rw [tc_le (by omega) (by omega)]; omega), tc_wp_ck, tc_wp_ck, tz_ix2, nI_add, tc_cl (by omega), tc_cl (by omega), tc_wp_lt, tc_ad1]
      refine ⟨(tc_vin (by omega) (by decide)).mpr (by omega), (tc_vin (by omega) (by decide)).mpr (by omega), ih f (k + 1) _ (by omega) (by omega) (fun c q1 q2 => by rw [tc_wr_k q1]; exact g1 c q1 q2) (fun c hc => by rw [tc_wr_k (by decide)]; exact g2 c hc) (fun q => ?_)⟩
      rw [tc_wr_at, g3 q]
      by_cases c : q = 40 * o + j + k
      · rw [if_pos ⟨rfl, c⟩, if_pos (by omega), g2 k (by omega), c, show 40 * o + j + k - (40 * o + j) = k by omega]
      · rw [if_neg (fun z => c z.2)]
        by_cases c2 : 40 * o + j ≤ q ∧ q < 40 * o + j + k
        · rw [if_pos c2, if_pos (by omega)]
        · rw [if_neg c2, if_neg (by omega)]
  have key : ∀ (d f k : Nat) (μ3 : tc_Mem), k + d = n → d < f → (∀ c, c ≠ 67 → μ3 c = μ1 c) → (∀ c, c < k → μ3 67 c = μ 66 (40 * r + i + c)) → tc_wp (tc_f7_copy_111 N f (nI r) (nI i) (nI o) (nI j) (nI n) (nI k) μ3) (fun r2 μ2 => r2 = nI n ∧ tz_FR μ1 μ2 ∧ tc_RM μ2 Y Y.2.2.2 (-1) ∧ tc_ISh μ2) := by
    intro d
    induction d with
    | zero =>
      intro f k μ3 hk hf g1 g2
      obtain ⟨f, rfl⟩ : ∃ f', f = f' + 1 := ⟨f - 1, by omega⟩
      obtain rfl : k = n := by omega
      rw [tc_f7_copy_111]; dsimp only
      rw [if_pos (Int32.le_refl _)]
      unfold tc_f7_copy_145
      exact last k N 0 μ3 (by omega) (by omega) (fun c _ q => g1 c q) g2 (fun q => by rw [if_neg (by omega), g1 66 (by decide), f1 66 (by decide)])
    | succ d ih =>
      intro f k μ3 hk hf g1 g2
      obtain ⟨f, rfl⟩ : ∃ f', f = f' + 1 := ⟨f - 1, by omega⟩
      rw [tc_f7_copy_111]; dsimp only
      rw [if_neg (by rw [tc_le (by omega) (by omega)]; omega), tc_wp_ck, tc_wp_ck, tz_ix2, nI_add, tc_cl (by omega), tc_cl (by omega), tc_wp_lt, tc_ad1]
      refine ⟨(tc_vin (by omega) (by decide)).mpr (by omega), (tc_vin (by omega) (by decide)).mpr (by omega), ih f (k + 1) _ (by omega) (by omega) (fun c q1 => by rw [tc_wr_k q1]; exact g1 c q1) (fun c hc => ?_)⟩
      rw [tc_wr_at]
      by_cases q : c = k
      · rw [if_pos ⟨rfl, q⟩, g1 66 (by decide), f1 66 (by decide), q]
      · rw [if_neg (fun z => q z.2)]; exact g2 c (by omega)
  exact key n N 0 μ1 (by omega) (by omega) (fun _ _ => rfl) (fun c hc => absurd hc (by omega))
end H2
