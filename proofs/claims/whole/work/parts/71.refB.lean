
section RB
variable {N : Nat} {μ : tc_Mem} {Y : tc_Y} {fl : tc_Fl} {w : Int32} {s : Nat}
theorem tc_v7_goesPlain (h : tc_RM μ Y fl w) (g : tc_Gd Y) (hs : s < Y.1.1) {c : Int32} : tc_f7_goesPlain N (nI s) c μ = some (tc_bI (tc_en Y.2.1.1 Y.2.1.2.1 c (Y.1.2.1.testBit s)), μ) := by
  have g1 := g.1
  have h2 := h.2.1 s hs
  apply tc_wp_of
  unfold tc_f7_goesPlain tc_f7_goesPlain_29 tc_en
  simp only [tc_wp_ck, tc_wp_if, tc_wp_some, tc_v03, tc_v13, tc_c0, tc_c1, h.2.2.1.1, h.2.2.1.2.1, tc_vin (show s < 2 ^ 31 by omega) (show 8 < 2 ^ 31 by decide), tc_cl (show s < 2 ^ 31 by omega), h2.2.1, tc_bI_eq0, show s < 8 by omega, true_and]
  by_cases q : Y.2.1.1 ≤ c
  · simp [q, tc_bI]
  · rw [if_neg q]
    by_cases q2 : c < Y.2.1.2.1
    · rw [if_pos q2]; simp [q, Int32.not_le.mpr q2, tc_bI]
    · rw [if_neg q2]
      have q3 := Int32.not_lt.mp q2
      cases Y.1.2.1.testBit s <;> simp [q, q3, tc_bI]
theorem tc_v7_goesSlow (h : tc_RM μ Y fl w) (g : tc_Gd Y) (hs : s < Y.1.1) {c : Int32} : tc_f7_goesSlow N (nI s) c μ = some (tc_bI (tc_en Y.2.1.1 Y.2.1.2.1 c (Y.1.2.1.testBit s) && (Y.1.2.1.testBit s || decide (2 ≤ Y.2.2.1.2.2.2.2 s))), μ) := by
  have g1 := g.1
  have h2 := h.2.1 s hs
  apply tc_wp_of
  unfold tc_f7_goesSlow tc_f7_goesSlow_28
  simp only [tc_wp_bd, tc_v7_goesPlain h g hs, tc_wp_some, tc_wp_if, tc_wp_ck, tc_vin (show s < 2 ^ 31 by omega) (show 8 < 2 ^ 31 by decide), tc_cl (show s < 2 ^ 31 by omega), h2.2.1, h2.1.2.2.2.2, tc_bI_eq0, show s < 8 by omega, true_and]
  by_cases c2 : Y.2.2.1.2.2.2.2 s < 2
  · have c3 : ¬ 2 ≤ Y.2.2.1.2.2.2.2 s := Int32.not_le.mpr c2
    cases tc_en Y.2.1.1 Y.2.1.2.1 c (Y.1.2.1.testBit s) <;> cases Y.1.2.1.testBit s <;> simp [c2, c3, tc_bI]
  · have c3 : 2 ≤ Y.2.2.1.2.2.2.2 s := Int32.not_lt.mp c2
    cases tc_en Y.2.1.1 Y.2.1.2.1 c (Y.1.2.1.testBit s) <;> cases Y.1.2.1.testBit s <;> simp [c2, c3, tc_bI]
theorem tc_v7_goesStick (h : tc_RM μ Y fl w) (g : tc_Gd Y) (hs : s < Y.1.1) {c : Int32} : tc_f7_goesStick N (nI s) c μ = some (tc_bI (tc_en Y.2.1.1 Y.2.1.2.1 c (Y.1.2.1.testBit s) && (Y.1.2.1.testBit s || !(decide (0 < s) && !Y.1.2.1.testBit (s - 1)))), μ) := by
  have g1 := g.1
  have h2 := h.2.1 s hs
  apply tc_wp_of
  unfold tc_f7_goesStick tc_f7_goesStick_33
  simp only [tc_wp_bd, tc_v7_goesPlain h g hs, tc_wp_some, tc_wp_if, tc_wp_ck, tc_vin (show s < 2 ^ 31 by omega) (show 8 < 2 ^ 31 by decide), tc_cl (show s < 2 ^ 31 by omega), h2.2.1, tc_bI_eq0, show s < 8 by omega, true_and]
  by_cases c2 : 0 < s
  · have c3 : ¬ nI s = 0 := fun e => by have := (tc_eqL (k := 0) (show s < 2 ^ 31 by omega) (by decide)).mp e; omega
    simp only [tc_sb1 c2, tc_vin (show s - 1 < 2 ^ 31 by omega) (show 8 < 2 ^ 31 by decide), tc_cl (show s - 1 < 2 ^ 31 by omega), (h.2.1 (s - 1) (by omega)).2.1, tc_bI_eq0, if_neg c3, show s - 1 < 8 by omega, true_and]
    cases tc_en Y.2.1.1 Y.2.1.2.1 c (Y.1.2.1.testBit s) <;> cases Y.1.2.1.testBit s <;> cases Y.1.2.1.testBit (s - 1) <;> simp [c2, tc_bI]
  · obtain rfl : s = 0 := by omega
    rw [if_pos (show nI 0 = 0 from rfl)]
    cases tc_en Y.2.1.1 Y.2.1.2.1 c (Y.1.2.1.testBit 0) <;> cases Y.1.2.1.testBit 0 <;> simp [tc_bI]
theorem tc_v7_isUpLeft (h : tc_RM μ Y fl w) (g : tc_Gd Y) (hs : s < Y.1.1) : tc_f7_isUpLeft N (nI s) μ = some (tc_bI (decide (0 < s) && Y.1.2.1.testBit (s - 1)), μ) := by
  have g1 := g.1
  apply tc_wp_of
  unfold tc_f7_isUpLeft
  by_cases c2 : 0 < s
  · rw [if_neg (by rw [tc_leL (k := 0) (by omega) (by decide)]; omega), tc_sb1 c2]
    simp only [tc_wp_ck, tc_wp_if, tc_wp_some, tc_vin (show s - 1 < 2 ^ 31 by omega) (show 8 < 2 ^ 31 by decide), tc_cl (show s - 1 < 2 ^ 31 by omega), (h.2.1 (s - 1) (by omega)).2.1, tc_bI_eq0, show s - 1 < 8 by omega, true_and]
    cases Y.1.2.1.testBit (s - 1) <;> simp [c2, tc_bI]
  · rw [if_pos (by rw [tc_leL (k := 0) (by omega) (by decide)]; omega), tc_wp_some]
    simp [c2, tc_bI]
theorem tc_v7_isUpRight (h : tc_RM μ Y fl w) (g : tc_Gd Y) (hs : s < Y.1.1) : tc_f7_isUpRight N (nI s) μ = some (tc_bI (decide (s + 1 < Y.1.1) && Y.1.2.1.testBit (s + 1)), μ) := by
  have g1 := g.1
  apply tc_wp_of
  unfold tc_f7_isUpRight
  rw [h.1, tc_sb1 (by omega)]
  by_cases c2 : s + 1 < Y.1.1
  · rw [if_neg (by rw [tc_le (by omega) (by omega)]; omega), tc_ad1]
    simp only [tc_wp_ck, tc_wp_if, tc_wp_some, tc_vin (show s + 1 < 2 ^ 31 by omega) (show 8 < 2 ^ 31 by decide), tc_cl (show s + 1 < 2 ^ 31 by omega), (h.2.1 (s + 1) c2).2.1, tc_bI_eq0, show s + 1 < 8 by omega, true_and]
    cases Y.1.2.1.testBit (s + 1) <;> simp [c2, tc_bI]
  · rw [if_pos (by rw [tc_le (by omega) (by omega)]; omega), tc_wp_some]
    simp [c2, tc_bI]
theorem tc_v7_goesUp (hN : 300 ≤ N) (h : tc_RM μ Y fl w) (g : tc_Gd Y) (hs : s < Y.1.1) : tc_f7_goesUp N (nI s) μ = some (tc_bI (tc_gu Y.1.1 Y.1.2.1 Y.2.1.1 Y.2.1.2.1 (Y.2.2.1.1 s) (Y.2.2.1.2.2.2.2 s) (tc_cY Y s) s), μ) := by
  have g1 := g.1
  have h2 := h.2.1 s hs
  obtain ⟨k, hk, hK⟩ := g.2.2.2.1 s hs
  have e1 : (nI Y.1.1 = 1) ↔ Y.1.1 = 1 := tc_eqL (k := 1) (by omega) (by decide)
  have e2 : (nI (Y.1.1 - 1) ≤ nI s) ↔ ¬ s + 1 < Y.1.1 := by rw [tc_le (by omega) (by omega)]; omega
  apply tc_wp_of
  unfold tc_f7_goesUp tc_f7_goesUp_99 tc_f7_goesUp_98 tc_f7_goesUp_159
  simp only [tc_f7_goesUp_99, tc_wp_bd, tc_wp_ck, tc_wp_lt, tc_wp_if, tc_wp_some, tc_wp_zr, tc_wp_none, tc_v7_currentOf hN h g hs, tc_v7_goesPlain h g hs, tc_v7_goesSlow h g hs, tc_v7_goesStick h g hs, tc_v7_isUpLeft h g hs, tc_v7_isUpRight h g hs, tc_vin (show s < 2 ^ 31 by omega) (show 8 < 2 ^ 31 by decide), tc_cl (show s < 2 ^ 31 by omega), h2.1.1, h.1, show s < 8 by omega, true_and, tc_sb1 (show 0 < Y.1.1 by omega), e1, e2, tc_bI_eq0, tc_bI_01, tc_ad1, tc_vin (show s + 1 < 2 ^ 31 by omega) (show 8 < 2 ^ 31 by decide), tc_cl (show s + 1 < 2 ^ 31 by omega)]
  rw [hK]
  unfold tc_gu
  dsimp only
  rw [tc_en_if]
  have hw2 : (Y.2.2.1.2.2.2.2 s < 2) = (decide (2 ≤ Y.2.2.1.2.2.2.2 s) = false) := by
    rw [decide_eq_false_iff_not, Int32.not_le]
  generalize tc_en Y.2.1.1 Y.2.1.2.1 (tc_cY Y s) (Y.1.2.1.testBit s) = e3
  generalize tc_en Y.2.1.1 Y.2.1.2.1 (tc_cY Y s / 2) (Y.1.2.1.testBit s) = e4
  generalize decide (2 ≤ Y.2.2.1.2.2.2.2 s) = ww
  by_cases hr : s + 1 < Y.1.1
  · simp only [(h.2.1 (s + 1) hr).2.1, hr, decide_true, Bool.true_and, not_true, if_false, tc_bI_eq0, show s + 1 < 8 by omega, true_and, show ¬ Y.1.1 = 1 by omega]
    generalize Y.1.2.1.testBit s = b
    generalize Y.1.2.1.testBit (s - 1) = bl
    generalize Y.1.2.1.testBit (s + 1) = br
    generalize decide (0 < s) = cl
    clear hw2 e1 e2 h2 hK
    rcases (show k = 0 ∨ k = 1 ∨ k = 2 ∨ k = 3 ∨ k = 4 ∨ k = 5 by omega) with rfl | rfl | rfl | rfl | rfl | rfl
    all_goals simp (decide := true) only [if_true, if_false, or_false, false_or, and_true, true_and]
    all_goals decide +revert
  · have hn1 : (Y.1.1 = 1) = (decide (0 < s) = false) := by
      rw [decide_eq_false_iff_not]; apply propext; omega
    simp only [hr, decide_false, Bool.false_and, not_false_eq_true, if_true, hn1]
    generalize Y.1.2.1.testBit s = b
    generalize Y.1.2.1.testBit (s - 1) = bl
    generalize decide (0 < s) = cl
    clear hw2 e1 e2 h2 hK hn1
    rcases (show k = 0 ∨ k = 1 ∨ k = 2 ∨ k = 3 ∨ k = 4 ∨ k = 5 by omega) with rfl | rfl | rfl | rfl | rfl | rfl
    all_goals simp (decide := true) only [if_true, if_false, or_false, false_or, and_true, true_and]
    all_goals decide +revert
end RB
