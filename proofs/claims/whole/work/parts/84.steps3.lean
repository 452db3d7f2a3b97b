section S3
variable {N : Nat} {Y : tc_Y} {x1 x2 x3 x4 : Int32}
theorem tc_J_moves (hN : 300 ≤ N) (g : tc_G6 Y) : tc_J (tc_f6_moves N) (tc_f7_moves N) Y := by
  have g1 := g.1.1
  have hp := Nat.two_pow_pos Y.1.1
  have hlt : (2 * Y.1.2.2) &&& (2 ^ Y.1.1 - 1) < 2 ^ Y.1.1 := Nat.lt_of_le_of_lt Nat.and_le_right (by omega)
  have G : tc_Gd (tc_yT Y ((2 * Y.1.2.2) &&& (2 ^ Y.1.1 - 1))) := g.1.yT hlt
  refine ⟨nI ((2 * Y.1.2.2) &&& (2 ^ Y.1.1 - 1)), tc_yT Y ((2 * Y.1.2.2) &&& (2 ^ Y.1.1 - 1)), ⟨G, g.2⟩, fun μ h => ?_, fun μ h => ?_⟩
  · unfold tc_f6_moves
    rw [tc_wp_bd]
    refine tc_wp_mono (tc_w5_moveTrains h g.1) (fun _ μ1 hh => ?_)
    rw [tc_wp_some]
    exact ⟨hh.2.2.2.1.2.1, fun k hk => hh.1 k (by omega), hh.2⟩
  · unfold tc_f7_moves
    rw [tc_wp_bd]
    refine tc_wp_mono (tc_w7_goTrains hN h g.1) (fun _ μ1 hh => ?_)
    obtain ⟨f, hR⟩ := hh
    have e : tc_f7_bitsOf N 3 μ1 = _ := tc_v7_bitsOf (N := N) hN hR G (v := 3) (by decide)
    rw [tc_wp_bd, e, tc_wp_some, tc_wp_some]
    refine ⟨congrArg nI (tc_bm_eq hlt (fun s hs => rfl)), ⟨fun k k1 k2 => f k (by omega), fun j hj => by rw [f 50 (by decide)]⟩, hR⟩
theorem tc_J_fault (g : tc_G6 Y) : tc_J (tc_f6_fault N x1 x2) (tc_f7_fault N x1 x2) Y := by
  have g1 := g.1.1
  have g6 := g.2
  rcases Bool.eq_false_or_eq_true (tc_wi x1 0 3) with c1 | c1
  case inr => exact tc_J.same g (-2) (fun μ h => tc_wp_of (by unfold tc_f6_fault; simp [tc_wp_bd, tc_v6_isWithin, tc_wp_some, c1, tc_bI])) (fun μ h => tc_wp_of (by unfold tc_f7_fault; simp [tc_wp_bd, tc_v7_in, tc_wp_some, c1, tc_bI]))
  rcases tc_sec (N := N) g.1 x2 with ⟨s, hs, rfl⟩ | ⟨b1, b2⟩
  case inr => exact tc_J.same g (-2) (fun μ h => tc_wp_of (by unfold tc_f6_fault; simp [tc_wp_bd, tc_v6_isWithin, c1, tc_bI, b1 μ 1 h, tc_wp_some])) (fun μ h => tc_wp_of (by unfold tc_f7_fault; simp [tc_wp_bd, tc_v7_in, c1, tc_bI, b2 μ _ _ h, tc_wp_some]))
  obtain ⟨k, -, hk, rfl⟩ := tc_wi_nI (a := 0) (b := 3) (by decide) (by decide) c1
  by_cases c : Y.2.2.2.length = 6
  · refine tc_J.same g (-4) (fun μ h => tc_wp_of ?_) (fun μ h => tc_wp_of ?_)
    · have e : ¬ nI Y.2.2.2.length < 6 := by rw [c]; decide
      have e8 : μ 8 0 = nI Y.2.2.2.length := h.2.2.2.1
      unfold tc_f6_fault
      simp [tc_wp_bd, tc_v6_isWithin, c1, tc_bI, tc_sec5 h g.1 hs, tc_wp_some, e8, e]
    · have e : nI Y.2.2.2.length = 6 := by rw [c]; rfl
      have e8 : μ 50 9 = nI Y.2.2.2.length := h.2.2.2.1.1
      unfold tc_f7_fault
      simp [tc_wp_bd, tc_v7_in, c1, tc_bI, tc_sec7 h g.1 hs, tc_wp_some, e8, e]
  have hlen : (tc_yD Y (nI k) s).2.2.2.length = Y.2.2.2.length + 1 := by
    show (Y.2.2.2 ++ [_]).length = _
    simp
  refine ⟨nI (Y.2.2.2.length + 1), tc_yD Y (nI k) s, ⟨g.1.yD (by omega) (by omega) hs, by omega⟩, fun μ h => ?_, fun μ h => ?_⟩
  · have e : nI Y.2.2.2.length < 6 := by rw [tc_ltL (k := 6) (by omega) (by decide)]; omega
    have e8 : μ 8 0 = nI Y.2.2.2.length := h.2.2.2.1
    unfold tc_f6_fault
    simp only [tc_wp_bd, tc_v6_isWithin, c1, tc_wp_if, tc_bI_eq0, Bool.true_eq_false, if_false, tc_sec5 h g.1 hs, tc_wp_some, e8, e, if_true]
    rw [if_neg (by decide)]
    refine tc_wp_mono (tc_w5_addFault h g.1 (by omega) hs) (fun _ μ1 hh => ⟨?_, hh.1.c, hh.2⟩)
    have := hh.2.2.2.2.1
    rw [hlen] at this
    exact this
  · have e : ¬ nI Y.2.2.2.length = 6 := by rw [tc_eqL (k := 6) (by omega) (by decide)]; exact c
    have e8 : μ 50 9 = nI Y.2.2.2.length := h.2.2.2.1.1
    unfold tc_f7_fault
    simp only [tc_wp_bd, tc_v7_in, c1, tc_wp_if, tc_bI_eq0, Bool.true_eq_false, if_false, tc_sec7 h g.1 hs, tc_wp_some, e8, e, if_true]
    rw [if_neg (by decide)]
    refine tc_wp_mono (tc_w7_addFault h g.1 (by omega) hs) (fun _ μ1 hh => ⟨?_, ⟨fun k k1 k2 => hh.1 k (by omega) (by omega) (by omega) (by omega), fun j hj => hh.2.1 j (by omega)⟩, hh.2.2⟩)
    have := hh.2.2.2.2.2.1.1
    rw [hlen] at this
    exact this
theorem tc_G6.fi (g : tc_G6 Y) (p : Int32 × Nat × Int32 → Bool) : tc_G6 (tc_yF Y (Y.2.2.2.filter p)) := by
  obtain ⟨⟨g1, g2, g3, g4, g5, g6⟩, g7⟩ := g
  exact ⟨⟨g1, g2, g3, g4, Nat.le_trans (List.length_filter_le _ _) g5, fun q hq => g6 q (List.mem_filter.mp hq).1⟩, Nat.le_trans (List.length_filter_le _ _) g7⟩
theorem tc_J_mend (hN : 300 ≤ N) (g : tc_G6 Y) : tc_J (tc_f6_mend N x1) (tc_f7_mend N x1) Y := by
  have g1 := g.1.1
  rcases tc_sec (N := N) g.1 x1 with ⟨s, hs, rfl⟩ | ⟨b1, b2⟩
  case inr => exact tc_J.same g (-2) (fun μ h => tc_wp_of (by unfold tc_f6_mend; simp [tc_wp_bd, b1 μ 1 h, tc_wp_some])) (fun μ h => tc_wp_of (by unfold tc_f7_mend; simp [tc_wp_bd, b2 μ _ _ h, tc_wp_some]))
  have G := g.fi (fun q => !decide (q.2.1 = s))
  refine ⟨nI (Y.2.2.2.length - (Y.2.2.2.filter (fun q => !decide (q.2.1 = s))).length), tc_yF Y (Y.2.2.2.filter (fun q => !decide (q.2.1 = s))), G, fun μ h => ?_, fun μ h => ?_⟩
  · unfold tc_f6_mend
    rw [tc_wp_bd, tc_sec5 h g.1 hs, tc_wp_some, if_neg (by decide), tc_wp_bd]
    have hr := tc_w1_removeAt (N := N) hN h g.1 (s := s) (by omega) (p := fun q => !decide (q.2.1 = s)) (fun q => rfl)
    refine tc_wp_mono hr (fun r μ1 hh => ?_)
    rw [tc_wp_some]
    obtain ⟨k1, k2, k3, k4⟩ := hh
    obtain ⟨h1, h2, h3, h6, h7⟩ := h
    refine ⟨k1, fun k hk => k2 k (by omega), by rw [k2 1 (by omega)]; exact h1, fun s hs => ?_, by rw [k2 1 (by omega)]; exact h3, k3, k4⟩
    rw [k2 2 (by omega), k2 3 (by omega), k2 4 (by omega), k2 5 (by omega), k2 6 (by omega)]
    exact h2 s hs
  · unfold tc_f7_mend
    rw [tc_wp_bd, tc_sec7 h g.1 hs, tc_wp_some, if_neg (by decide), tc_wp_bd]
    obtain ⟨h1, h2, h3, ⟨h4, h5⟩, h6, h7, h8, h9⟩ := h
    have hr := tz_mends (N := N) hN h4 h5 h7 g.1.p8 (s := s) (by omega) (p := fun q => !decide (q.2.1 = s)) (fun q => rfl)
    refine tc_wp_mono hr (fun r μ1 hh => ?_)
    rw [tc_wp_some]
    obtain ⟨k1, k2, k3, k4, k5⟩ := hh
    have kk : ∀ k, 51 ≤ k → k ≤ 58 → μ1 k = μ k := fun k q1 q2 => k2 k (by omega) (by omega) (by omega) (by omega)
    refine ⟨k1, ⟨fun k q1 q2 => k2 k (by omega) (by omega) (by omega) (by omega), fun j hj => k3 j (by omega)⟩, by rw [k3 0 (by decide)]; exact h1, fun s hs => ?_, by rw [kk 58 (by decide) (by decide)]; exact h3, ⟨k4, k5⟩, by rw [k3 13 (by decide)]; exact h6, Nat.le_trans (List.length_filter_le _ _) h7, tc_ef_m1 _ _ (by have := G.2; omega), fun q hq => h9 q (List.mem_filter.mp hq).1⟩
    rw [kk 51 (by decide) (by decide), kk 52 (by decide) (by decide), kk 53 (by decide) (by decide), kk 54 (by decide) (by decide), kk 55 (by decide) (by decide), kk 56 (by decide) (by decide), kk 57 (by decide) (by decide)]
    exact h2 s hs
theorem tc_RM.ru {μ : tc_Mem} {fl : tc_Fl} {w : Int32} {i : Nat} {v : Int32} {r : Int32 × Int32 × Int32} (h : tc_RM μ Y fl w) (h0 : r.1 = if i = 0 then v else Y.2.1.1) (h1 : r.2.1 = if i = 1 then v else Y.2.1.2.1) (h2 : r.2.2 = if i = 2 then v else Y.2.1.2.2) : tc_RM (tc_wr μ 58 i v) (tc_yR Y r) fl w := by
  obtain ⟨q1, q2, ⟨q3, q4, q5⟩, ⟨q6, q7⟩, q8, q9⟩ := h
  refine ⟨by rw [tc_wr_k (by decide)]; exact q1, fun s hs => ?_, ?_, ⟨by rw [tc_wr_k (by decide)]; exact q6, q7.frame (tc_wr_k (by decide)) (tc_wr_k (by decide)) (tc_wr_k (by decide))⟩, by rw [tc_wr_k (by decide)]; exact q8, q9⟩
  · rw [tc_wr_k (by decide), tc_wr_k (by decide), tc_wr_k (by decide), tc_wr_k (by decide), tc_wr_k (by decide), tc_wr_k (by decide), tc_wr_k (by decide)]; exact q2 s hs
  · show _ = r.1 ∧ _ = r.2.1 ∧ _ = r.2.2
    rw [h0, h1, h2, tc_wr_at, tc_wr_at, tc_wr_at, q3, q4, q5]
    simp [eq_comm]
theorem tc_J_rule (g : tc_G6 Y) : tc_J (tc_f6_rule N x1 x2) (tc_f7_rule N x1 x2) Y := by
  rcases Bool.eq_false_or_eq_true (tc_wi x1 0 2) with c1 | c1
  case inr => exact tc_J.same g (-2) (fun μ h => tc_wp_of (by unfold tc_f6_rule; simp [tc_wp_bd, tc_v6_isWithin, tc_wp_some, c1, tc_bI])) (fun μ h => tc_wp_of (by unfold tc_f7_rule; simp [tc_wp_bd, tc_v7_in, tc_wp_some, c1, tc_bI]))
  obtain ⟨i, -, hi, rfl⟩ := tc_wi_nI (a := 0) (b := 2) (by decide) (by decide) c1
  have key : ∀ b : Int32, tc_J (tc_f6_rule_26 N (nI i) x2 x2 0 b) (tc_f7_rule_23 N (nI i) x2 x2 0 b) Y := by
    intro b
    rcases Bool.eq_false_or_eq_true (tc_wi x2 0 b) with c2 | c2
    case inr => exact tc_J.same g (-2) (fun μ h => tc_wp_of (by unfold tc_f6_rule_26; simp [tc_wp_bd, tc_v6_isWithin, tc_wp_some, c2, tc_bI])) (fun μ h => tc_wp_of (by unfold tc_f7_rule_23; simp [tc_wp_bd, tc_v7_in, tc_wp_some, c2, tc_bI]))
    have hv3 : vp_in (nI i) 3 := (tc_vin (by omega) (by decide)).mpr (by omega)
    rcases (show i = 0 ∨ i = 1 ∨ i = 2 by omega) with rfl | rfl | rfl
    · refine ⟨Y.2.1.1, tc_yR Y (x2, Y.2.1.2.1, Y.2.1.2.2), g, fun μ h => ?_, fun μ h => ?_⟩
      · unfold tc_f6_rule_26 tc_f5_layRule
        simp (decide := true) only [tc_wp_bd, tc_v6_isWithin, tc_wp_some, c2, tc_wp_if, tc_bI_eq0, if_false, if_true, tc_wp_lt]
        exact ⟨h.2.2.1.2.2.1, fun k hk => tc_wr_k (by omega), h.r10⟩
      · unfold tc_f7_rule_23
        simp (decide := true) only [tc_wp_bd, tc_v7_in, tc_wp_some, c2, tc_wp_if, tc_bI_eq0, if_false, if_true, tc_wp_lt, tc_wp_ck, hv3, true_and]
        exact ⟨h.2.2.1.1, tc_FM.rf.wr (by omega), h.ru (i := 0) rfl rfl rfl⟩
    · refine ⟨Y.2.1.2.1, tc_yR Y (Y.2.1.1, x2, Y.2.1.2.2), g, fun μ h => ?_, fun μ h => ?_⟩
      · unfold tc_f6_rule_26 tc_f5_layRule
        simp (decide := true) only [tc_wp_bd, tc_v6_isWithin, tc_wp_some, c2, tc_wp_if, tc_bI_eq0, if_false, if_true, tc_wp_lt]
        exact ⟨h.2.2.1.2.2.2.1, fun k hk => tc_wr_k (by omega), h.r11⟩
      · unfold tc_f7_rule_23
        simp (decide := true) only [tc_wp_bd, tc_v7_in, tc_wp_some, c2, tc_wp_if, tc_bI_eq0, if_false, if_true, tc_wp_lt, tc_wp_ck, hv3, true_and]
        exact ⟨h.2.2.1.2.1, tc_FM.rf.wr (by omega), h.ru (i := 1) rfl rfl rfl⟩
    · refine ⟨Y.2.1.2.2, tc_yR Y (Y.2.1.1, Y.2.1.2.1, x2), g, fun μ h => ?_, fun μ h => ?_⟩
      · unfold tc_f6_rule_26 tc_f5_layRule
        simp (decide := true) only [tc_wp_bd, tc_v6_isWithin, tc_wp_some, c2, tc_wp_if, tc_bI_eq0, if_false, if_true, tc_wp_lt]
        exact ⟨h.2.2.1.2.2.2.2, fun k hk => tc_wr_k (by omega), h.r12⟩
      · unfold tc_f7_rule_23
        simp (decide := true) only [tc_wp_bd, tc_v7_in, tc_wp_some, c2, tc_wp_if, tc_bI_eq0, if_false, if_true, tc_wp_lt, tc_wp_ck, hv3, true_and]
        exact ⟨h.2.2.1.2.2, tc_FM.rf.wr (by omega), h.ru (i := 2) rfl rfl rfl⟩
  have e6 : ∀ μ, tc_f6_rule N (nI i) x2 μ = if nI i = 2 then tc_f6_rule_26 N (nI i) x2 x2 0 9 μ else tc_f6_rule_26 N (nI i) x2 x2 0 99 μ := fun μ => by
    unfold tc_f6_rule tc_bd; rw [tc_v6_isWithin]; simp only [c1]; rw [if_neg (by decide)]
  have e7 : ∀ μ, tc_f7_rule N (nI i) x2 μ = if nI i = 2 then tc_f7_rule_23 N (nI i) x2 x2 0 9 μ else tc_f7_rule_23 N (nI i) x2 x2 0 99 μ := fun μ => by
    unfold tc_f7_rule tc_bd; rw [tc_v7_in]; simp only [c1]; rw [if_neg (by decide)]
  by_cases c : nI i = 2
  · obtain ⟨r, Y', G, k1, k2⟩ := key 9
    exact ⟨r, Y', G, fun μ h => by rw [e6, if_pos c]; exact k1 μ h, fun μ h => by rw [e7, if_pos c]; exact k2 μ h⟩
  · obtain ⟨r, Y', G, k1, k2⟩ := key 99
    exact ⟨r, Y', G, fun μ h => by rw [e6, if_neg c]; exact k1 μ h, fun μ h => by rw [e7, if_neg c]; exact k2 μ h⟩
end S3
