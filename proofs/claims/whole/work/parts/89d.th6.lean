section T6
variable {N : Nat} {Y Z W R : tc_Y} {x1 x2 x3 x4 : Int32} {μ μ0 μ1 : tc_Mem}
theorem tz_b89 {x r : Int32} (hF : tc_FM μ μ1) (hR : tc_RM μ1 (tc_yR Y (Y.2.1.1, Y.2.1.2.1, x)) Y.2.2.2 (-1)) : tc_wp (tc_f7_bound_89 N Y.2.1.2.2 r μ1) (fun r' μ' => r' = r ∧ tc_FM μ μ' ∧ tc_RM μ' Y Y.2.2.2 (-1)) := by
  unfold tc_f7_bound_89
  rw [tc_wp_ck, tc_wp_lt, tc_wp_some]
  refine ⟨(tc_vin (s := 2) (n := 3) (by decide) (by decide)).mpr (by decide), rfl, hF.wr (by decide), ?_⟩
  exact hR.ru (i := 2) (v := Y.2.1.2.2) (r := (Y.2.1.1, Y.2.1.2.1, Y.2.1.2.2)) rfl rfl rfl
theorem tz_p90 {x r : Int32} (hF : tc_FM μ μ1) (hR : tc_RM μ1 (tc_yR Y (x, Y.2.1.2.1, Y.2.1.2.2)) Y.2.2.2 (-1)) : tc_wp (tc_f7_pick_90 N Y.2.1.1 r μ1) (fun r' μ' => r' = r ∧ tc_FM μ μ' ∧ tc_RM μ' Y Y.2.2.2 (-1)) := by
  unfold tc_f7_pick_90
  rw [tc_wp_ck, tc_wp_lt, tc_wp_some]
  refine ⟨(tc_vin (s := 0) (n := 3) (by decide) (by decide)).mpr (by decide), rfl, hF.wr (by decide), ?_⟩
  exact hR.ru (i := 0) (v := Y.2.1.1) (r := (Y.2.1.1, Y.2.1.2.1, Y.2.1.2.2)) rfl rfl rfl
theorem tz_b24 {f : Nat} {x x3 x4 : Int32} (hf : 0 < f) (hF : tc_FM μ μ1) (hR : tc_RM μ1 (tc_yR Y (Y.2.1.1, Y.2.1.2.1, x)) Y.2.2.2 (-1)) (hx : (0 : Int32) ≤ x3) : tc_wp (tc_f7_bound_24 N f x1 Y.2.1.2.2 x3 x4 μ1) (fun r' μ' => r' = x3 ∧ tc_FM μ μ' ∧ tc_RM μ' Y Y.2.2.2 (-1)) := by
  obtain ⟨f, rfl⟩ : ∃ f', f = f' + 1 := ⟨f - 1, by omega⟩
  rw [tc_f7_bound_24]; dsimp only
  rw [tc_wp_if, tc_wp_if, if_pos hx]
  split <;> exact tz_b89 hF hR
theorem tz_p24 {f : Nat} {x x3 x4 : Int32} (hf : 0 < f) (hF : tc_FM μ μ1) (hR : tc_RM μ1 (tc_yR Y (x, Y.2.1.2.1, Y.2.1.2.2)) Y.2.2.2 (-1)) (hx : (0 : Int32) ≤ x3) : tc_wp (tc_f7_pick_24 N f x1 Y.2.1.1 x3 x4 μ1) (fun r' μ' => r' = x3 ∧ tc_FM μ μ' ∧ tc_RM μ' Y Y.2.2.2 (-1)) := by
  obtain ⟨f, rfl⟩ : ∃ f', f = f' + 1 := ⟨f - 1, by omega⟩
  rw [tc_f7_pick_24]; dsimp only
  rw [tc_wp_if, tc_wp_if, if_pos hx]
  split <;> exact tz_p90 hF hR
theorem tc_k_bound (hN : 300 ≤ N) (g : tc_G6 Y) : tc_T (tc_f6_bound N x1) (tc_f7_bound N x1) Y := by
  have hv2 : vp_in (2 : Int32) 3 := (tc_vin (s := 2) (n := 3) (by decide) (by decide)).mpr (by decide)
  have hc2 : (2 : Int32).toNatClampNeg = 2 := by decide
  rcases Bool.eq_false_or_eq_true (tc_wi x1 0 1) with c1 | c1
  case inr => exact tc_T.same (-2) (fun μ h => tc_wp_of (by unfold tc_f6_bound; simp [tc_wp_bd, tc_v6_isWithin, tc_wp_some, c1, tc_bI])) (fun μ h => tc_wp_of (by unfold tc_f7_bound; simp [tc_wp_bd, tc_v7_in, tc_wp_some, c1, tc_bI]))
  rcases tc_01 c1 with rfl | rfl
  · refine ⟨tc_dn (fun j => tc_fr (tc_yR Y (Y.2.1.1, Y.2.1.2.1, nI j))) 10, fun μ h => ?_, fun μ h => ?_⟩
    · unfold tc_f6_bound
      rw [tc_wp_bd, tc_v6_isWithin, tc_wp_some, c1, if_neg (by decide), if_pos rfl, tc_wp_bd]
      refine tc_wp_mono (tc_c_fairW hN h g.1) (fun r μ1 hh => ?_)
      rw [tc_wp_some]; exact hh
    · have key : ∀ (d f k : Nat) (x : Int32) (μ1 : tc_Mem), k + d = 10 → d + 1 < f → tc_FM μ μ1 → tc_RM μ1 (tc_yR Y (Y.2.1.1, Y.2.1.2.1, x)) Y.2.2.2 (-1) → tc_wp (tc_f7_bound_24 N f 0 Y.2.1.2.2 (-1) (nI k) μ1) (fun r' μ' => r' = tc_dn (fun j => tc_fr (tc_yR Y (Y.2.1.1, Y.2.1.2.1, nI j))) d ∧ tc_FM μ μ' ∧ tc_RM μ' Y Y.2.2.2 (-1)) := by
        intro d
        induction d with
        | zero =>
          intro f k x μ1 hd hf hF hR
          obtain ⟨f, rfl⟩ : ∃ f', f = f' + 1 := ⟨f - 1, by omega⟩
          rw [tc_f7_bound_24]; dsimp only
          rw [if_pos (by rw [tc_Lle (k := 10) (by omega) (by decide)]; omega)]
          exact tz_b89 hF hR
        | succ d ih =>
          intro f k x μ1 hd hf hF hR
          obtain ⟨f, rfl⟩ : ∃ f', f = f' + 1 := ⟨f - 1, by omega⟩
          have e9 : (9 : Int32) - nI k = nI d := by
            have := pk_sub (a := 9) (b := k) (by omega)
            rw [show 9 - k = d by omega] at this
            exact this
          rw [tc_f7_bound_24]; dsimp only
          rw [if_neg (by rw [tc_Lle (k := 10) (by omega) (by decide)]; omega), if_neg (by decide), if_pos rfl]
          unfold tc_f7_bound_54
          rw [tc_wp_ck, tc_wp_lt, if_pos rfl, tc_wp_bd, hc2, e9]
          have hR2 : tc_RM (tc_wr μ1 58 2 (nI d)) (tc_yR Y (Y.2.1.1, Y.2.1.2.1, nI d)) Y.2.2.2 (-1) := hR.ru (i := 2) (v := nI d) (r := (Y.2.1.1, Y.2.1.2.1, nI d)) rfl rfl rfl
          have hF2 : tc_FM μ (tc_wr μ1 58 2 (nI d)) := hF.wr (by decide)
          have gR : tc_Gd (tc_yR Y (Y.2.1.1, Y.2.1.2.1, nI d)) := g.1
          refine ⟨hv2, tc_wp_mono (tc_r_right hN hR2 gR) (fun r μ3 hh => ?_)⟩
          obtain ⟨rfl, hF3, hR3⟩ := hh
          rw [tc_wp_if, tc_dn]
          by_cases c : tc_fr (tc_yR Y (Y.2.1.1, Y.2.1.2.1, nI d)) = true
          · rw [if_neg (by rw [c]; decide), if_pos c]
            unfold tc_f7_bound_76
            have e58 : μ3 58 2 = nI d := hR3.2.2.1.2.2
            rw [tc_wp_ck, tc_wp_lt, hc2, e58]
            exact ⟨hv2, tz_b24 (by omega) (hF2.trans hF3) hR3 (nI_pos' (by omega))⟩
          · rw [if_pos (by rw [tc_bI_eq0]; simpa using c), if_neg c, tc_ad1]
            exact ih f (k + 1) _ μ3 (by omega) (by omega) (hF2.trans hF3) hR3
      unfold tc_f7_bound
      have e58 : μ 58 2 = Y.2.1.2.2 := h.2.2.1.2.2
      rw [tc_wp_bd, tc_v7_in, tc_wp_some, c1, if_neg (by decide), tc_wp_ck, tc_wp_lt, hc2, e58]
      exact ⟨hv2, key 10 N 0 Y.2.1.2.2 μ (by omega) (by omega) tc_FM.rf h⟩
  · refine ⟨tc_av id (tc_sr (fun j => tc_us (tc_yR Y (Y.2.1.1, Y.2.1.2.1, nI j)) Y.1.1 0) 10 0), fun μ h => ?_, fun μ h => ?_⟩
    · unfold tc_f6_bound
      rw [tc_wp_bd, tc_v6_isWithin, tc_wp_some, c1, if_neg (by decide), if_neg (by decide), tc_wp_bd]
      refine tc_wp_mono (tc_c_blind hN h g) (fun r μ1 hh => ?_)
      rw [tc_wp_some]; exact hh
    · have key : ∀ (d f k : Nat) (x : Int32) (μ1 : tc_Mem), k + d = 10 → d + 1 < f → tc_FM μ μ1 → tc_RM μ1 (tc_yR Y (Y.2.1.1, Y.2.1.2.1, x)) Y.2.2.2 (-1) → tc_wp (tc_f7_bound_24 N f 1 Y.2.1.2.2 (-1) (nI k) μ1) (fun r' μ' => r' = tc_av id (tc_sr (fun j => tc_us (tc_yR Y (Y.2.1.1, Y.2.1.2.1, nI j)) Y.1.1 0) d k) ∧ tc_FM μ μ' ∧ tc_RM μ' Y Y.2.2.2 (-1)) := by
        intro d
        induction d with
        | zero =>
          intro f k x μ1 hd hf hF hR
          obtain ⟨f, rfl⟩ : ∃ f', f = f' + 1 := ⟨f - 1, by omega⟩
          rw [tc_f7_bound_24]; dsimp only
          rw [if_pos (by rw [tc_Lle (k := 10) (by omega) (by decide)]; omega)]
          exact tz_b89 hF hR
        | succ d ih =>
          intro f k x μ1 hd hf hF hR
          obtain ⟨f, rfl⟩ : ∃ f', f = f' + 1 := ⟨f - 1, by omega⟩
          rw [tc_f7_bound_24]; dsimp only
          rw [if_neg (by rw [tc_Lle (k := 10) (by omega) (by decide)]; omega), if_neg (by decide), if_neg (by decide)]
          unfold tc_f7_bound_54
          rw [tc_wp_ck, tc_wp_lt, if_neg (by decide), tc_wp_bd, hc2]
          have hR2 : tc_RM (tc_wr μ1 58 2 (nI k)) (tc_yR Y (Y.2.1.1, Y.2.1.2.1, nI k)) Y.2.2.2 (-1) := hR.ru (i := 2) (v := nI k) (r := (Y.2.1.1, Y.2.1.2.1, nI k)) rfl rfl rfl
          have hF2 : tc_FM μ (tc_wr μ1 58 2 (nI k)) := hF.wr (by decide)
          have gR : tc_G6 (tc_yR Y (Y.2.1.1, Y.2.1.2.1, nI k)) := g
          refine ⟨hv2, tc_wp_mono (tc_r_unseen hN hR2 gR) (fun r μ3 hh => ?_)⟩
          obtain ⟨rfl, hF3, hR3⟩ := hh
          rw [tc_wp_if, tc_sr]
          by_cases c : tc_us (tc_yR Y (Y.2.1.1, Y.2.1.2.1, nI k)) Y.1.1 0 = true
          · rw [if_neg (show ¬ tc_bI (tc_us (tc_yR Y (Y.2.1.1, Y.2.1.2.1, nI k)) (tc_yR Y (Y.2.1.1, Y.2.1.2.1, nI k)).1.1 0) = 0 by show ¬ tc_bI (tc_us (tc_yR Y (Y.2.1.1, Y.2.1.2.1, nI k)) Y.1.1 0) = 0; rw [c]; decide), if_pos c]
            unfold tc_f7_bound_76
            have e58 : μ3 58 2 = nI k := hR3.2.2.1.2.2
            rw [tc_wp_ck, tc_wp_lt, hc2, e58]
            exact ⟨hv2, tz_b24 (by omega) (hF2.trans hF3) hR3 (nI_pos' (by omega))⟩
          · rw [if_pos (show tc_bI (tc_us (tc_yR Y (Y.2.1.1, Y.2.1.2.1, nI k)) (tc_yR Y (Y.2.1.1, Y.2.1.2.1, nI k)).1.1 0) = 0 by show tc_bI (tc_us (tc_yR Y (Y.2.1.1, Y.2.1.2.1, nI k)) Y.1.1 0) = 0; rw [tc_bI_eq0]; simpa using c), if_neg c, tc_ad1]
            exact ih f (k + 1) _ μ3 (by omega) (by omega) (hF2.trans hF3) hR3
      unfold tc_f7_bound
      have e58 : μ 58 2 = Y.2.1.2.2 := h.2.2.1.2.2
      rw [tc_wp_bd, tc_v7_in, tc_wp_some, c1, if_neg (by decide), tc_wp_ck, tc_wp_lt, hc2, e58]
      exact ⟨hv2, key 10 N 0 Y.2.1.2.2 μ (by omega) (by omega) tc_FM.rf h⟩
theorem tc_k_pick (hN : 300 ≤ N) (g : tc_G6 Y) : tc_T (tc_f6_pick N x1) (tc_f7_pick N x1) Y := by
  have g1 := g.1.1
  have hall := tc_all_lt g1
  have hv2 : vp_in (0 : Int32) 3 := (tc_vin (s := 0) (n := 3) (by decide) (by decide)).mpr (by decide)
  have hc2 : (0 : Int32).toNatClampNeg = 0 := by decide
  rcases Bool.eq_false_or_eq_true (tc_wi x1 0 1) with c1 | c1
  case inr => exact tc_T.same (-2) (fun μ h => tc_wp_of (by unfold tc_f6_pick; simp [tc_wp_bd, tc_v6_isWithin, tc_wp_some, c1, tc_bI])) (fun μ h => tc_wp_of (by unfold tc_f7_pick; simp [tc_wp_bd, tc_v7_in, tc_wp_some, c1, tc_bI]))
  rcases tc_01 c1 with rfl | rfl
  · refine ⟨tc_av id (tc_sr (fun j => (tc_sr (tc_pp (tc_yR Y (nI j, Y.2.1.2.1, Y.2.1.2.2))) ((4 * Y.1.1 + 1) * (Y.1.1 + 1)) 0).isNone) 100 0), fun μ h => ?_, fun μ h => ?_⟩
    · unfold tc_f6_pick
      rw [tc_wp_bd, tc_v6_isWithin, tc_wp_some, c1, if_neg (by decide), if_pos rfl, tc_wp_bd]
      refine tc_wp_mono (tc_c_safeP hN h g) (fun r μ1 hh => ?_)
      rw [tc_wp_some]; exact hh
    · have key : ∀ (d f k : Nat) (x : Int32) (μ1 : tc_Mem), k + d = 100 → d + 1 < f → tc_FM μ μ1 → tc_RM μ1 (tc_yR Y (x, Y.2.1.2.1, Y.2.1.2.2)) Y.2.2.2 (-1) → tc_wp (tc_f7_pick_24 N f 0 Y.2.1.1 (-1) (nI k) μ1) (fun r' μ' => r' = tc_av id (tc_sr (fun j => (tc_sr (tc_pp (tc_yR Y (nI j, Y.2.1.2.1, Y.2.1.2.2))) ((4 * Y.1.1 + 1) * (Y.1.1 + 1)) 0).isNone) d k) ∧ tc_FM μ μ' ∧ tc_RM μ' Y Y.2.2.2 (-1)) := by
        intro d
        induction d with
        | zero =>
          intro f k x μ1 hd hf hF hR
          obtain ⟨f, rfl⟩ : ∃ f', f = f' + 1 := ⟨f - 1, by omega⟩
          rw [tc_f7_pick_24]; dsimp only
          rw [if_pos (by rw [tc_Lle (k := 100) (by omega) (by decide)]; omega)]
          exact tz_p90 hF hR
        | succ d ih =>
          intro f k x μ1 hd hf hF hR
          obtain ⟨f, rfl⟩ : ∃ f', f = f' + 1 := ⟨f - 1, by omega⟩
          rw [tc_f7_pick_24]; dsimp only
          rw [if_neg (by rw [tc_Lle (k := 100) (by omega) (by decide)]; omega), if_neg (by decide), if_pos rfl]
          unfold tc_f7_pick_54
          rw [tc_wp_ck, tc_wp_lt, if_pos rfl, tc_wp_bd, hc2]
          have hR2 : tc_RM (tc_wr μ1 58 0 (nI k)) (tc_yR Y (nI k, Y.2.1.2.1, Y.2.1.2.2)) Y.2.2.2 (-1) := hR.ru (i := 0) (v := nI k) (r := (nI k, Y.2.1.2.1, Y.2.1.2.2)) rfl rfl rfl
          have hF2 : tc_FM μ (tc_wr μ1 58 0 (nI k)) := hF.wr (by decide)
          have gR : tc_G6 (tc_yR Y (nI k, Y.2.1.2.1, Y.2.1.2.2)) := g
          have hf0 := tc_r_from (N := N) hN hR2 gR (c := 0) (by omega)
          refine ⟨hv2, tc_wp_mono hf0 (fun r μ3 hh => ?_)⟩
          obtain ⟨rfl, hF3, hR3⟩ := hh
          rw [tc_wp_if, tc_sr, Nat.sub_zero]
          show if (0 : Int32) ≤ tc_av id (tc_sr (tc_pp (tc_yR Y (nI k, Y.2.1.2.1, Y.2.1.2.2))) ((4 * Y.1.1 + 1) * (Y.1.1 + 1)) 0) then _ else _
          cases hs : tc_sr (tc_pp (tc_yR Y (nI k, Y.2.1.2.1, Y.2.1.2.2))) ((4 * Y.1.1 + 1) * (Y.1.1 + 1)) 0 with
          | none =>
            rw [if_neg (show ¬ (0 : Int32) ≤ tc_av id none by show ¬ (0 : Int32) ≤ -1; decide), if_pos (show (none : Option Nat).isNone = true from rfl)]
            unfold tc_f7_pick_77
            have e58 : μ3 58 0 = nI k := hR3.2.2.1.1
            rw [tc_wp_ck, tc_wp_lt, hc2, e58]
            exact ⟨hv2, tz_p24 (by omega) (hF2.trans hF3) hR3 (nI_pos' (by omega))⟩
          | some c =>
            obtain ⟨q1, q2, -⟩ := tc_sr_some hs
            rw [if_pos (show (0 : Int32) ≤ tc_av id (some c) from nI_pos' (show c < 2 ^ 31 by omega)), if_neg (by simp), tc_ad1]
            exact ih f (k + 1) _ μ3 (by omega) (by omega) (hF2.trans hF3) hR3
      unfold tc_f7_pick
      have e58 : μ 58 0 = Y.2.1.1 := h.2.2.1.1
      rw [tc_wp_bd, tc_v7_in, tc_wp_some, c1, if_neg (by decide), tc_wp_ck, tc_wp_lt, hc2, e58]
      exact ⟨hv2, key 100 N 0 Y.2.1.1 μ (by omega) (by omega) tc_FM.rf h⟩
  · refine ⟨tc_dn (fun j => tc_fr (tc_yR Y (nI j, Y.2.1.2.1, Y.2.1.2.2))) 100, fun μ h => ?_, fun μ h => ?_⟩
    · unfold tc_f6_pick
      rw [tc_wp_bd, tc_v6_isWithin, tc_wp_some, c1, if_neg (by decide), if_neg (by decide), tc_wp_bd]
      refine tc_wp_mono (tc_c_fairP hN h g.1) (fun r μ1 hh => ?_)
      rw [tc_wp_some]; exact hh
    · have key : ∀ (d f k : Nat) (x : Int32) (μ1 : tc_Mem), k + d = 100 → d + 1 < f → tc_FM μ μ1 → tc_RM μ1 (tc_yR Y (x, Y.2.1.2.1, Y.2.1.2.2)) Y.2.2.2 (-1) → tc_wp (tc_f7_pick_24 N f 1 Y.2.1.1 (-1) (nI k) μ1) (fun r' μ' => r' = tc_dn (fun j => tc_fr (tc_yR Y (nI j, Y.2.1.2.1, Y.2.1.2.2))) d ∧ tc_FM μ μ' ∧ tc_RM μ' Y Y.2.2.2 (-1)) := by
        intro d
        induction d with
        | zero =>
          intro f k x μ1 hd hf hF hR
          obtain ⟨f, rfl⟩ : ∃ f', f = f' + 1 := ⟨f - 1, by omega⟩
          rw [tc_f7_pick_24]; dsimp only
          rw [if_pos (by rw [tc_Lle (k := 100) (by omega) (by decide)]; omega)]
          exact tz_p90 hF hR
        | succ d ih =>
          intro f k x μ1 hd hf hF hR
          obtain ⟨f, rfl⟩ : ∃ f', f = f' + 1 := ⟨f - 1, by omega⟩
          have e9 : (99 : Int32) - nI k = nI d := by
            have := pk_sub (a := 99) (b := k) (by omega)
            rw [show 99 - k = d by omega] at this
            exact this
          rw [tc_f7_pick_24]; dsimp only
          rw [if_neg (by rw [tc_Lle (k := 100) (by omega) (by decide)]; omega), if_neg (by decide), if_neg (by decide)]
          unfold tc_f7_pick_54
          rw [tc_wp_ck, tc_wp_lt, if_neg (by decide), tc_wp_bd, hc2, e9]
          have hR2 : tc_RM (tc_wr μ1 58 0 (nI d)) (tc_yR Y (nI d, Y.2.1.2.1, Y.2.1.2.2)) Y.2.2.2 (-1) := hR.ru (i := 0) (v := nI d) (r := (nI d, Y.2.1.2.1, Y.2.1.2.2)) rfl rfl rfl
          have hF2 : tc_FM μ (tc_wr μ1 58 0 (nI d)) := hF.wr (by decide)
          have gR : tc_Gd (tc_yR Y (nI d, Y.2.1.2.1, Y.2.1.2.2)) := g.1
          refine ⟨hv2, tc_wp_mono (tc_r_right hN hR2 gR) (fun r μ3 hh => ?_)⟩
          obtain ⟨rfl, hF3, hR3⟩ := hh
          rw [tc_wp_if, tc_dn]
          by_cases c : tc_fr (tc_yR Y (nI d, Y.2.1.2.1, Y.2.1.2.2)) = true
          · rw [if_neg (by rw [c]; decide), if_pos c]
            unfold tc_f7_pick_77
            have e58 : μ3 58 0 = nI d := hR3.2.2.1.1
            rw [tc_wp_ck, tc_wp_lt, hc2, e58]
            exact ⟨hv2, tz_p24 (by omega) (hF2.trans hF3) hR3 (nI_pos' (by omega))⟩
          · rw [if_pos (by rw [tc_bI_eq0]; simpa using c), if_neg c, tc_ad1]
            exact ih f (k + 1) _ μ3 (by omega) (by omega) (hF2.trans hF3) hR3
      unfold tc_f7_pick
      have e58 : μ 58 0 = Y.2.1.1 := h.2.2.1.1
      rw [tc_wp_bd, tc_v7_in, tc_wp_some, c1, if_neg (by decide), tc_wp_ck, tc_wp_lt, hc2, e58]
      exact ⟨hv2, key 100 N 0 Y.2.1.1 μ (by omega) (by omega) tc_FM.rf h⟩
end T6
