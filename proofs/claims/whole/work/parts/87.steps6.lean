section S6
variable {N : Nat} {Y : tc_Y} {x1 x2 x3 x4 : Int32} {lg : List Int32} {μ : tc_Mem}
def tc_iu (k j : Nat) : Bool := decide (j = 0) || decide (k = j) || (decide (j = 1) && decide (k = 3)) || (decide (j = 2) && decide (k = 5))
theorem tc_v6_isUnder (hN : 300 ≤ N) {k j : Nat} (hk : k < 6) (hj : j < 6) : tc_f6_isUnder N (nI k) (nI j) μ = some (tc_bI (tc_iu k j), μ) := by
  obtain ⟨M, rfl⟩ : ∃ M, N = M + 4 := ⟨N - 4, by omega⟩
  unfold tc_f6_isUnder
  have hA : ∀ k, k < 6 → vp_in (nI k) 6 := fun k hk => (tc_vin (by omega) (by decide)).mpr hk
  have go : ∀ (f : Nat) (j i : Nat), j < 6 → i < 6 → tc_f6_isUnder_4 (M + 4) (f + 1) (nI j) (nI 0) (nI i) μ = if j = 0 then some (1, μ) else tc_f6_isUnder_4 (M + 4) f (nI j) (-1) (nI (i + 1)) μ := by
    intro f j i hj hi
    rw [tc_f6_isUnder_4]; dsimp only
    rw [if_neg (by rw [tc_Lle (k := 6) (by omega) (by decide)]; omega), if_neg (by decide)]
    by_cases c : j = 0
    · subst c; rw [if_pos rfl, if_pos rfl]
    · rw [if_neg (show ¬ nI 0 = nI j by rw [tc_eq (by decide) (by omega)]; omega), if_neg c]
      unfold tc_ck tc_lt
      rw [if_neg (hA 0 (by decide)), tc_ad1]; rfl
  have stop : ∀ (f : Nat) (j i : Nat), i < 6 → tc_f6_isUnder_4 (M + 4) (f + 1) (nI j) (-1) (nI i) μ = some (0, μ) := by
    intro f j i hi
    rw [tc_f6_isUnder_4]; dsimp only
    rw [if_neg (by rw [tc_Lle (k := 6) (by omega) (by decide)]; omega), if_pos (by decide)]
  have one : ∀ (f : Nat) (k k' j i : Nat), j < 6 → i < 6 → k < 6 → tc_ABOVE (nI k).toNatClampNeg = nI k' → tc_f6_isUnder_4 (M + 4) (f + 1) (nI j) (nI k) (nI i) μ = if k = j then some (1, μ) else tc_f6_isUnder_4 (M + 4) f (nI j) (nI k') (nI (i + 1)) μ := by
    intro f k k' j i hj hi hk hA'
    rw [tc_f6_isUnder_4]; dsimp only
    rw [if_neg (by rw [tc_Lle (k := 6) (by omega) (by decide)]; omega), if_neg (tc_nn (by omega))]
    by_cases c : k = j
    · subst c; rw [if_pos rfl, if_pos rfl]
    · rw [if_neg (by rw [tc_eq (by omega) (by omega)]; exact c), if_neg c]
      unfold tc_ck tc_lt
      rw [if_neg (hA k hk), hA', tc_ad1]
  show tc_f6_isUnder_4 (M + 4) (M + 4) (nI j) (nI k) (nI 0) μ = _
  rcases (show k = 0 ∨ k = 1 ∨ k = 2 ∨ k = 3 ∨ k = 4 ∨ k = 5 by omega) with rfl | rfl | rfl | rfl | rfl | rfl
  · rw [go _ j 0 hj (by decide), stop _ j _ (by decide)]
    rcases (show j = 0 ∨ j = 1 ∨ j = 2 ∨ j = 3 ∨ j = 4 ∨ j = 5 by omega) with rfl | rfl | rfl | rfl | rfl | rfl <;> rfl
  · rw [one _ 1 0 j 0 hj (by decide) (by decide) rfl, go _ j _ hj (by decide), stop _ j _ (by decide)]
    rcases (show j = 0 ∨ j = 1 ∨ j = 2 ∨ j = 3 ∨ j = 4 ∨ j = 5 by omega) with rfl | rfl | rfl | rfl | rfl | rfl <;> rfl
  · rw [one _ 2 0 j 0 hj (by decide) (by decide) rfl, go _ j _ hj (by decide), stop _ j _ (by decide)]
    rcases (show j = 0 ∨ j = 1 ∨ j = 2 ∨ j = 3 ∨ j = 4 ∨ j = 5 by omega) with rfl | rfl | rfl | rfl | rfl | rfl <;> rfl
  · rw [one _ 3 1 j 0 hj (by decide) (by decide) rfl, one _ 1 0 j _ hj (by decide) (by decide) rfl, go _ j _ hj (by decide), stop _ j _ (by decide)]
    rcases (show j = 0 ∨ j = 1 ∨ j = 2 ∨ j = 3 ∨ j = 4 ∨ j = 5 by omega) with rfl | rfl | rfl | rfl | rfl | rfl <;> rfl
  · rw [one _ 4 0 j 0 hj (by decide) (by decide) rfl, go _ j _ hj (by decide), stop _ j _ (by decide)]
    rcases (show j = 0 ∨ j = 1 ∨ j = 2 ∨ j = 3 ∨ j = 4 ∨ j = 5 by omega) with rfl | rfl | rfl | rfl | rfl | rfl <;> rfl
  · rw [one _ 5 2 j 0 hj (by decide) (by decide) rfl, one _ 2 0 j _ hj (by decide) (by decide) rfl, go _ j _ hj (by decide), stop _ j _ (by decide)]
    rcases (show j = 0 ∨ j = 1 ∨ j = 2 ∨ j = 3 ∨ j = 4 ∨ j = 5 by omega) with rfl | rfl | rfl | rfl | rfl | rfl <;> rfl
theorem tc_J_taken (hN : 300 ≤ N) (g : tc_G6 Y) : tc_J (tc_f6_taken N x1 x2) (tc_f7_taken N x1 x2) Y := by
  have g1 := g.1.1
  rcases tc_sec (N := N) g.1 x1 with ⟨s, hs, rfl⟩ | ⟨b1, b2⟩
  case inr => exact tc_J.same g (-2) (fun μ h => tc_wp_of (by unfold tc_f6_taken; simp [tc_wp_bd, b1 μ 1 h, tc_wp_some])) (fun μ h => tc_wp_of (by unfold tc_f7_taken; simp [tc_wp_bd, b2 μ _ _ h, tc_wp_some]))
  have hv : vp_in (nI s) 8 := (tc_vin (by omega) (by decide)).mpr (by omega)
  rcases Bool.eq_false_or_eq_true (tc_wi x2 0 5) with c1 | c1
  case inr => exact tc_J.same g (-2) (fun μ h => tc_wp_of (by unfold tc_f6_taken; simp [tc_wp_bd, tc_sec5 h g.1 hs, tc_tr3, tc_wp_some, c1, tc_bI])) (fun μ h => tc_wp_of (by unfold tc_f7_taken; simp [tc_wp_bd, tc_sec7 h g.1 hs, tc_v7_in, tc_wp_some, c1, tc_bI]))
  obtain ⟨j, -, hj, rfl⟩ := tc_wi_nI (a := 0) (b := 5) (by decide) (by decide) c1
  obtain ⟨k, hk, hK⟩ := g.1.2.2.2.1 s hs
  refine tc_J.same g (if tc_iu k j then Y.2.2.1.2.1 s else -13) (fun μ h => tc_wp_of ?_) (fun μ h => tc_wp_of ?_)
  · have h2 : μ 2 s = Y.2.2.1.1 s ∧ μ 3 s = Y.2.2.1.2.1 s := ⟨(h.2.1 s hs).1, (h.2.1 s hs).2.1⟩
    unfold tc_f6_taken
    simp only [tc_wp_bd, tc_sec5 h g.1 hs, tc_tr3, tc_wp_some, c1, tc_wp_if, tc_bI_eq0, Bool.true_eq_false, if_false, tc_wp_ck, hv, true_and, tc_cl (show s < 2 ^ 31 by omega), h2.1, h2.2, hK, tc_v6_isUnder hN hk (show j < 6 by omega)]
    rw [if_neg (by decide)]
    cases tc_iu k j <;> simp
  · have h2 := (h.2.1 s hs).1
    have h3 : ∀ b : Bool, tc_wp (tc_f7_taken_69 N (nI s) (tc_bI b) μ) (fun r' μ' => r' = (if b then Y.2.2.1.2.1 s else -13) ∧ μ' = μ) := by
      intro b
      unfold tc_f7_taken_69
      simp only [tc_wp_if, tc_bI_eq0, tc_wp_some, tc_wp_ck, hv, true_and, tc_cl (show s < 2 ^ 31 by omega), h2.2.1]
      cases b <;> simp
    have hT : tc_wp (tc_f7_taken_64 N (nI s) μ) (fun r' μ' => r' = Y.2.2.1.2.1 s ∧ μ' = μ) := h3 true
    have hF : tc_wp (tc_f7_taken_68 N (nI s) μ) (fun r' μ' => r' = -13 ∧ μ' = μ) := h3 false
    have hj6 : j < 6 := by omega
    unfold tc_f7_taken tc_f7_taken_49
    simp only [tc_wp_bd, tc_sec7 h g.1 hs, tc_v7_in, tc_wp_some, c1, tc_wp_if, tc_bI_eq0, Bool.true_eq_false, if_false, tc_wp_ck, hv, true_and, tc_cl (show s < 2 ^ 31 by omega), h2.1, hK, tc_eqL (k := 0) (show j < 2 ^ 31 by omega) (by decide), tc_eqL (k := 1) (show j < 2 ^ 31 by omega) (by decide), tc_eqL (k := 2) (show j < 2 ^ 31 by omega) (by decide), tc_eqL (k := 3) (show k < 2 ^ 31 by omega) (by decide), tc_eqL (k := 5) (show k < 2 ^ 31 by omega) (by decide), tc_eq (show k < 2 ^ 31 by omega) (show j < 2 ^ 31 by omega)]
    rw [if_neg (by decide)]
    unfold tc_iu
    by_cases d0 : j = 0
    · rw [if_pos d0]; simpa [d0] using hT
    rw [if_neg d0]
    by_cases d1 : k = j
    · rw [if_pos d1]; simpa [d0, d1] using hT
    rw [if_neg d1]
    by_cases d2 : j = 1
    · rw [if_pos d2]
      by_cases d3 : k = 3
      · rw [if_pos d3]; simpa [d0, d1, d2, d3] using hT
      · rw [if_neg d3, if_neg (show ¬ j = 2 by omega)]
        have : ¬ k = 1 := by omega
        simpa [d0, d1, d2, d3, this] using hF
    · rw [if_neg d2]
      by_cases d4 : j = 2
      · rw [if_pos d4]
        have : ¬ k = 2 := by omega
        by_cases d5 : k = 5
        · rw [if_pos d5]; simpa [d0, d1, d2, d4, d5] using hT
        · rw [if_neg d5]; simpa [d0, d1, d2, d4, d5, this] using hF
      · rw [if_neg d4]; simpa [d0, d1, d2, d4] using hF
theorem tc_wiL {n : Nat} {x : Int32} (hn : n < 2 ^ 31) (h : tc_wi x 0 (nI n - 1) = true) : ∃ i, i < n ∧ x = nI i := by
  by_cases c : n = 0
  · subst c
    unfold tc_wi at h
    rw [Bool.and_eq_true, Bool.not_eq_true', Bool.not_eq_true', decide_eq_false_iff_not, decide_eq_false_iff_not] at h
    exact absurd (Int32.lt_of_lt_of_le tc_neg1 (Int32.not_lt.mp h.1)) h.2
  · rw [tc_sb1 (by omega)] at h
    obtain ⟨j, -, hj, rfl⟩ := tc_wi_nI (a := 0) (by decide) (by omega) h
    exact ⟨j, by omega, rfl⟩
theorem tc_J_faultOf (g : tc_G6 Y) : tc_J (tc_f6_faultOf N x1 x2) (tc_f7_faultOf N x1 x2) Y := by
  have g6 := g.2
  rcases Bool.eq_false_or_eq_true (tc_wi x1 0 (nI Y.2.2.2.length - 1)) with c1 | c1
  case inr => exact tc_J.same g (-2) (fun μ h => tc_wp_of (by have e8 : μ 8 0 = nI Y.2.2.2.length := h.2.2.2.1; unfold tc_f6_faultOf; simp [tc_wp_bd, tc_v6_isWithin, e8, tc_wp_some, c1, tc_bI])) (fun μ h => tc_wp_of (by unfold tc_f7_faultOf; simp [tc_wp_bd, tc_v7_in, h.2.2.2.1.1, tc_wp_some, c1, tc_bI]))
  obtain ⟨i, hi, rfl⟩ := tc_wiL (by omega) c1
  by_cases c : x2 < 0 ∨ 2 < x2
  · exact tc_J.same g (-2) (fun μ h => tc_wp_of (by have e8 : μ 8 0 = nI Y.2.2.2.length := h.2.2.2.1; unfold tc_f6_faultOf; simp [tc_wp_bd, tc_v6_isWithin, e8, tc_wp_some, c1, tc_bI, c])) (fun μ h => tc_wp_of (by unfold tc_f7_faultOf; simp [tc_wp_bd, tc_v7_in, h.2.2.2.1.1, tc_wp_some, c1, tc_bI, c]))
  rcases tc_split x2 with hx | ⟨j, hj, rfl⟩
  · exact absurd (Or.inl hx) c
  rw [tc_big (k := 2) hj (by decide)] at c
  obtain ⟨q, hq⟩ : ∃ q, Y.2.2.2[i]? = some q := ⟨Y.2.2.2[i]'hi, List.getElem?_eq_getElem hi⟩
  have hv : vp_in (nI i) 15 := (tc_vin (by omega) (by decide)).mpr (by omega)
  have hv2 : vp_in (nI i) 20 := (tc_vin (by omega) (by decide)).mpr (by omega)
  refine tc_J.same g (if j = 0 then q.1 else if j = 1 then nI q.2.1 else q.2.2) (fun μ h => tc_wp_of ?_) (fun μ h => tc_wp_of ?_)
  · have e8 : μ 8 0 = nI Y.2.2.2.length := h.2.2.2.1
    have e : μ 9 i = q.1 ∧ μ 10 i = nI q.2.1 ∧ μ 11 i = q.2.2 := h.2.2.2.2 i q hq
    unfold tc_f6_faultOf
    rcases (show j = 0 ∨ j = 1 ∨ j = 2 by omega) with rfl | rfl | rfl
    all_goals simp (decide := true) only [tc_wp_bd, tc_v6_isWithin, e8, tc_wp_some, c1, tc_bI_eq0, tc_wp_if, if_true, if_false, tc_wp_ck, hv, tc_cl (show i < 2 ^ 31 by omega), e, and_self, or_false]
  · have e := h.2.2.2.1.2 i q hq
    unfold tc_f7_faultOf
    rcases (show j = 0 ∨ j = 1 ∨ j = 2 by omega) with rfl | rfl | rfl
    all_goals simp (decide := true) only [tc_wp_bd, tc_v7_in, h.2.2.2.1.1, tc_wp_some, c1, tc_bI_eq0, tc_wp_if, if_true, if_false, tc_wp_ck, hv2, tc_cl (show i < 2 ^ 31 by omega), e.1, e.2.1, e.2.2, and_self, or_false]
theorem tc_bm_u (g : tc_Gd Y) : tc_bm (tc_bq Y 0) Y.1.1 = Y.1.2.1 := tc_bm_eq g.2.1 (fun s _ => rfl)
theorem tc_bm_t (g : tc_Gd Y) : tc_bm (tc_bq Y 3) Y.1.1 = Y.1.2.2 := tc_bm_eq g.2.2.1 (fun s _ => rfl)
theorem tc_bm_un : tc_bm (tc_bq Y 1) Y.1.1 = tc_un Y := rfl
theorem tc_bm_wg : tc_bm (tc_bq Y 2) Y.1.1 = tc_wg Y := rfl
theorem tc_bm_br (g : tc_Gd Y) : tc_bm (tc_bq Y 4) Y.1.1 = tc_pm Y.2.2.2 0 := by
  have g1 := g.1
  exact tc_bm_eq (tc_pm_lt g 0) (fun s hs => by rw [(tc_pm_all 0 g.p8).2 s (by omega)]; rfl)
theorem tc_J_who (hN : 300 ≤ N) (g : tc_G6 Y) : tc_J (tc_f6_who N x1) (tc_f7_who N x1) Y := by
  rcases Bool.eq_false_or_eq_true (tc_wi x1 0 4) with c1 | c1
  case inr =>
    have hb : x1 < 0 ∨ 4 < x1 := by
      unfold tc_wi at c1
      by_cases q : x1 < 0
      · exact Or.inl q
      · right
        simpa [q] using c1
    exact tc_J.same g (-2) (fun μ h => by unfold tc_f6_who; rw [if_pos hb]) (fun μ h => tc_wp_of (by unfold tc_f7_who; simp [tc_wp_bd, tc_v7_in, tc_wp_some, c1, tc_bI]))
  obtain ⟨j, -, hj, rfl⟩ := tc_wi_nI (a := 0) (b := 4) (by decide) (by decide) c1
  refine tc_J.same g (nI (tc_bm (tc_bq Y j) Y.1.1)) (fun μ h => tc_wp_of ?_) (fun μ h => tc_wp_of ?_)
  · unfold tc_f6_who
    have e1 : μ 1 8 = nI Y.1.2.1 := h.2.2.1.1
    have e2 : μ 1 9 = nI Y.1.2.2 := h.2.2.1.2.1
    rw [if_neg (tc_nbig (k := 4) (by omega) (by decide))]
    rcases (show j = 0 ∨ j = 1 ∨ j = 2 ∨ j = 3 ∨ j = 4 by omega) with rfl | rfl | rfl | rfl | rfl
    · rw [tc_bm_u g.1]; simp (decide := true) only [if_true, tc_wp_some, e1, and_self]
    · rw [tc_bm_un]; simp (decide := true) only [if_true, if_false, tc_wp_bd, tc_v5_unsafe hN h g.1, tc_wp_some, and_self]
    · rw [tc_bm_wg]; simp (decide := true) only [if_true, if_false, tc_wp_bd, tc_v5_wrong hN h g.1, tc_wp_some, and_self]
    · rw [tc_bm_t g.1]; simp (decide := true) only [if_true, if_false, tc_wp_some, e2, and_self]
    · rw [tc_bm_br g.1]; simp (decide := true) only [if_true, if_false, tc_wp_bd, tc_v1_placesOf hN h g.1, tc_wp_some, and_self]
  · unfold tc_f7_who
    rw [tc_wp_bd, tc_v7_in, tc_wp_some, c1, if_neg (by decide), tc_wp_bd, tc_v7_bitsOf hN h g.1 (by omega), tc_wp_some, tc_wp_some]
    exact ⟨rfl, rfl⟩
theorem tc_J_aspect (g : tc_G6 Y) : tc_J (tc_f6_aspect N x1) (tc_f7_aspect N x1) Y := by
  have g1 := g.1.1
  rcases tc_sec (N := N) g.1 x1 with ⟨s, hs, rfl⟩ | ⟨b1, b2⟩
  case inr => exact tc_J.same g (-2) (fun μ h => tc_wp_of (by unfold tc_f6_aspect; simp [tc_wp_bd, b1 μ 1 h, tc_wp_some])) (fun μ h => tc_wp_of (by unfold tc_f7_aspect; simp [tc_wp_bd, b2 μ _ _ h, tc_wp_some]))
  have hv : vp_in (nI s) 8 := (tc_vin (by omega) (by decide)).mpr (by omega)
  refine tc_J.same g (if Y.1.2.1.testBit s then (if s + 1 < Y.1.1 then (if Y.1.2.1.testBit (s + 1) then 2 else 1) else 2) else 0) (fun μ h => tc_wp_of ?_) (fun μ h => tc_wp_of ?_)
  · unfold tc_f6_aspect
    rw [tc_wp_bd, tc_sec5 h g.1 hs, tc_wp_some, if_neg (by decide), tc_wp_bd, tc_v5_relay h g.1 (by omega), tc_wp_some, if_pos hs, tc_wp_if]
    by_cases c : Y.1.2.1.testBit s = true
    · rw [if_neg (by rw [c]; decide), tc_wp_bd, tc_v5_relayR h g.1 hs, tc_wp_some, tc_wp_if, if_pos c]
      by_cases c2 : s + 1 < Y.1.1
      · rw [if_pos c2, if_pos c2, tc_wp_some, tc_wp_some]
        cases Y.1.2.1.testBit (s + 1) <;> simp [tc_bI]
      · rw [if_neg c2, if_neg c2, if_neg (by decide), tc_wp_some]; exact ⟨rfl, rfl⟩
    · rw [if_neg c, if_pos (by rw [show Y.1.2.1.testBit s = false by simpa using c]; rfl), tc_wp_some]; exact ⟨rfl, rfl⟩
  · unfold tc_f7_aspect tc_f7_aspect_45
    rw [tc_wp_bd, tc_sec7 h g.1 hs, tc_wp_some, if_neg (by decide), tc_wp_ck, tc_cl (by omega), (h.2.1 s hs).2.1, h.1, tc_wp_if]
    refine ⟨hv, ?_⟩
    by_cases c : Y.1.2.1.testBit s = true
    · rw [if_neg (by rw [c]; decide), if_pos c, tc_sb1 (by omega), tc_wp_if]
      by_cases c2 : s + 1 < Y.1.1
      · rw [if_neg (by rw [tc_eq (by omega) (by omega)]; omega), if_pos c2, tc_ad1, tc_wp_ck, tc_cl (by omega), (h.2.1 (s + 1) c2).2.1, tc_wp_if, tc_wp_some, tc_wp_some]
        refine ⟨(tc_vin (by omega) (by decide)).mpr (by omega), ?_⟩
        cases Y.1.2.1.testBit (s + 1) <;> simp [tc_bI]
      · rw [if_pos (by rw [tc_eq (by omega) (by omega)]; omega), if_neg c2, tc_wp_some]; exact ⟨rfl, rfl⟩
    · rw [if_neg c, if_pos (by rw [show Y.1.2.1.testBit s = false by simpa using c]; rfl), tc_wp_some]; exact ⟨rfl, rfl⟩
theorem tc_Inv.g (h : tc_Inv μ) : ∃ Y, tc_G6 Y ∧ tc_IY μ Y ∧ tc_IO μ := by
  obtain ⟨⟨Y, hY⟩, hO⟩ := h
  exact ⟨Y, ⟨hY.1, hY.2.1⟩, hY, hO⟩
theorem tz_s0 : tc_S0 N tc_Inv := fun a1 a2 a3 a4 μ h => by obtain ⟨Y, g, hY, hO⟩ := h.g; exact (tc_J_section g).step hO hY
theorem tz_s1 (hN : 300 ≤ N) : tc_S1 N tc_Inv := fun μ h => by obtain ⟨Y, g, hY, hO⟩ := h.g; exact (tc_J_drop hN g).step hO hY
theorem tz_s2 (hN : 300 ≤ N) : tc_S2 N tc_Inv := fun a1 a2 a3 μ h => by obtain ⟨Y, g, hY, hO⟩ := h.g; exact (tc_J_set hN g).step hO hY
theorem tz_s3 (hN : 300 ≤ N) : tc_S3 N tc_Inv := fun a1 a2 μ h => by obtain ⟨Y, g, hY, hO⟩ := h.g; exact (tc_J_of hN g).step hO hY
theorem tz_s4 (hN : 300 ≤ N) : tc_S4 N tc_Inv := fun a1 a2 μ h => by obtain ⟨Y, g, hY, hO⟩ := h.g; exact (tc_J_taken hN g).step hO hY
theorem tz_s5 : tc_S5 N tc_Inv := fun a1 a2 μ h => by obtain ⟨Y, g, hY, hO⟩ := h.g; exact (tc_J_rule g).step hO hY
theorem tz_s6 : tc_S6 N tc_Inv := fun a1 a2 μ h => by obtain ⟨Y, g, hY, hO⟩ := h.g; exact (tc_J_train g).step hO hY
theorem tz_s7 (hN : 300 ≤ N) : tc_S7 N tc_Inv := fun μ h => by obtain ⟨Y, g, hY, hO⟩ := h.g; exact (tc_J_moves hN g).step hO hY
theorem tz_s8 : tc_S8 N tc_Inv := fun a1 a2 μ h => by obtain ⟨Y, g, hY, hO⟩ := h.g; exact (tc_J_force g).step hO hY
theorem tz_s9 : tc_S9 N tc_Inv := fun a1 a2 μ h => by obtain ⟨Y, g, hY, hO⟩ := h.g; exact (tc_J_fault g).step hO hY
theorem tz_s10 : tc_S10 N tc_Inv := fun a1 a2 μ h => by obtain ⟨Y, g, hY, hO⟩ := h.g; exact (tc_J_faultOf g).step hO hY
theorem tz_s11 (hN : 300 ≤ N) : tc_S11 N tc_Inv := fun a1 μ h => by obtain ⟨Y, g, hY, hO⟩ := h.g; exact (tc_J_mend hN g).step hO hY
theorem tz_s12 (hN : 300 ≤ N) : tc_S12 N tc_Inv := fun μ h => by obtain ⟨Y, g, hY, hO⟩ := h.g; exact tc_L.step (fun lg hl => tc_L_moment hN g hl) hO hY
theorem tz_s14 (hN : 300 ≤ N) : tc_S14 N tc_Inv := fun a1 μ h => by obtain ⟨Y, g, hY, hO⟩ := h.g; exact (tc_J_who hN g).step hO hY
theorem tz_s15 : tc_S15 N tc_Inv := fun a1 μ h => by obtain ⟨Y, g, hY, hO⟩ := h.g; exact (tc_J_aspect g).step hO hY
theorem tz_s13 : tc_S13 N tc_Inv := fun a1 μ h => by
  obtain ⟨lg, l1, l2, l3, l4, l5⟩ := h.2.1
  have fin : ∃ r, tc_f6_log N a1 μ = some (r, μ) ∧ tc_f7_log N a1 μ = some (r, μ) := by
    unfold tc_f6_log tc_f7_log
    by_cases c : (-1 : Int32) ≤ a1
    · rw [if_pos c, if_pos c]
      by_cases c2 : a1 = -1
      · rw [if_pos c2, if_pos c2, l2, l4]; exact ⟨_, rfl, rfl⟩
      · rw [if_neg c2, if_neg c2, l2, l4]
        by_cases c3 : nI lg.length ≤ a1
        · rw [if_pos c3, if_pos c3]; exact ⟨_, rfl, rfl⟩
        · rw [if_neg c3, if_neg c3]
          rcases tc_split a1 with hx | ⟨j, hj, rfl⟩
          · exact absurd (Int32.le_antisymm (by
              have : a1.toInt < 0 := Int32.lt_iff_toInt_lt.mp hx
              rw [Int32.le_iff_toInt_le]
              have e : (-1 : Int32).toInt = -1 := by decide
              omega) c) c2
          · rw [tc_le (by omega) hj] at c3
            obtain ⟨v, hv⟩ : ∃ v, lg[j]? = some v := ⟨lg[j]'(by omega), List.getElem?_eq_getElem (by omega)⟩
            unfold tc_ck
            rw [if_neg ((tc_vin hj (by decide)).mpr (by omega)), if_neg ((tc_vin hj (by decide)).mpr (by omega)), tc_cl hj, l3 j v hv, l5 j v hv]
            exact ⟨_, rfl, rfl⟩
    · rw [if_neg c, if_neg c]; exact ⟨_, rfl, rfl⟩
  obtain ⟨r, e1, e2⟩ := fin
  exact ⟨r, μ, μ, e1, e2, h⟩
end S6
