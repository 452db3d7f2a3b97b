section S2
variable {N : Nat} {Y : tc_Y} {x1 x2 x3 x4 : Int32}
theorem tc_clr_lt2 {u s n : Nat} (hu : u < 2 ^ n) (hs : s < n) : tc_clr u s < 2 ^ n := by
  unfold tc_clr
  split
  · exact Nat.xor_lt_two_pow hu (Nat.pow_lt_pow_right (by decide) hs)
  · exact hu
theorem tc_clr_top {u n : Nat} (hn : n < 8) (hu : u < 2 ^ (n + 1)) : tc_clr u n < 2 ^ n := by
  have h8 : u < 256 := Nat.lt_of_lt_of_le hu (show 2 ^ (n + 1) ≤ 2 ^ 8 from Nat.pow_le_pow_right (by decide) (by omega))
  apply Nat.lt_pow_two_of_testBit
  intro i hi
  by_cases c : i < 8
  · rw [tc_clr_bit u h8 n hn i c]
    by_cases c2 : i = n
    · simp [c2]
    · rw [Nat.testBit_lt_two_pow (Nat.lt_of_lt_of_le hu (Nat.pow_le_pow_right (by decide) (by omega)))]; rfl
  · exact Nat.testBit_lt_two_pow (Nat.lt_of_lt_of_le (tc_clr_lt u h8 n hn) (show 2 ^ 8 ≤ 2 ^ i from Nat.pow_le_pow_right (by decide) (by omega)))
theorem tc_G6.dr (g : tc_G6 Y) (hn : 0 < Y.1.1) : tc_G6 (tc_dr Y) := by
  obtain ⟨⟨g1, g2, g3, g4, g5, g6⟩, g7⟩ := g
  have e : Y.1.1 - 1 + 1 = Y.1.1 := by omega
  have hl := List.length_filter_le (fun q : Int32 × Nat × Int32 => !decide (q.2.1 = Y.1.1 - 1)) Y.2.2.2
  refine ⟨⟨by show Y.1.1 - 1 ≤ 8; omega, tc_clr_top (by omega) (by rw [e]; exact g2), tc_clr_top (by omega) (by rw [e]; exact g3), fun s hs => g4 s (by have : s < Y.1.1 - 1 := hs; omega), Nat.le_trans hl g5, fun q hq => ?_⟩, Nat.le_trans hl g7⟩
  have hq' : q ∈ Y.2.2.2.filter (fun q => !decide (q.2.1 = Y.1.1 - 1)) := hq
  rw [List.mem_filter] at hq'
  have := g6 q hq'.1
  have h2 : ¬ q.2.1 = Y.1.1 - 1 := by simpa using hq'.2
  exact ⟨by show q.2.1 < Y.1.1 - 1; omega, this.2⟩
theorem tc_J_drop (hN : 300 ≤ N) (g : tc_G6 Y) : tc_J (tc_f6_drop N) (tc_f7_drop N) Y := by
  have g1 := g.1.1
  by_cases c : Y.1.1 = 0
  · exact tc_J.same g (-3) (fun μ h => by unfold tc_f6_drop; rw [h.1, c, if_pos (by rfl)]) (fun μ h => by unfold tc_f7_drop; rw [h.1, c, if_pos (by rfl)])
  have e0 : ¬ nI Y.1.1 = 0 := by rw [tc_eqL (k := 0) (by omega) (by decide)]; exact c
  refine ⟨nI (Y.1.1 - 1), tc_dr Y, g.dr (by omega), fun μ h => ?_, fun μ h => ?_⟩
  · unfold tc_f6_drop
    rw [h.1, if_neg e0, tc_wp_bd]
    refine tc_wp_mono (tc_w5_removeLast hN h g.1 (by omega)) (fun _ μ1 hh => ?_)
    rw [tc_wp_some]
    exact ⟨hh.2.1, hh.1.c, hh.2⟩
  · have G6 := g.dr (by omega)
    obtain ⟨h1, h2, h3, ⟨h4, h5⟩, h6, h7, h8, h9⟩ := h
    unfold tc_f7_drop
    rw [h1, if_neg e0, tc_sb1 (by omega), tc_wp_lt, tc_wp_bd]
    generalize hm1 : tc_wr μ 50 0 (nI (Y.1.1 - 1)) = μ1
    have a1 : ∀ k, k ≠ 50 → μ1 k = μ k := fun k hk => by rw [← hm1, tc_wr_k hk]
    have v1 : μ1 50 0 = nI (Y.1.1 - 1) := by rw [← hm1, tc_wr_at, if_pos ⟨rfl, rfl⟩]
    have d1 : ∀ j, j ≠ 0 → μ1 50 j = μ 50 j := fun j hj => by rw [← hm1, tc_wr_at, if_neg (by omega)]
    rw [v1]
    have hmd := tz_mends (N := N) (μ := μ1) (fl := Y.2.2.2) (s := Y.1.1 - 1) hN (by rw [d1 9 (by decide)]; exact h4) (h5.frame (a1 _ (by decide)) (a1 _ (by decide)) (a1 _ (by decide))) h7 g.1.p8 (by omega) (p := fun q => !decide (q.2.1 = Y.1.1 - 1)) (fun q => rfl)
    refine tc_wp_mono hmd (fun _ μ2 hh => ?_)
    obtain ⟨-, m1, m2, m3, m4⟩ := hh
    rw [m2 0 (by decide), v1, tc_wp_ck, tc_cl (by omega), tc_wp_lt, tc_wp_some]
    refine ⟨(tc_vin (by omega) (by decide)).mpr (by omega), by rw [tc_wr_k (by decide), m2 0 (by decide)]; exact v1, ⟨fun k k1 k2 => by rw [tc_wr_k (by omega), m1 k (by omega) (by omega) (by omega) (by omega), a1 k (by omega)], fun j hj => by rw [tc_wr_k (by decide), m2 j (by omega), d1 j (by omega)]⟩, ?_⟩
    refine ⟨by rw [tc_wr_k (by decide), m2 0 (by decide)]; exact v1, fun s hs => ?_, by rw [tc_wr_k (by decide), m1 58 (by decide) (by decide) (by decide) (by decide), a1 58 (by decide)]; exact h3, ⟨by rw [tc_wr_k (by decide)]; exact m3, m4.frame (tc_wr_k (by decide)) (tc_wr_k (by decide)) (tc_wr_k (by decide))⟩, by rw [tc_wr_k (by decide), m2 13 (by decide), d1 13 (by decide)]; exact h6, Nat.le_trans (List.length_filter_le _ _) h7, tc_ef_m1 _ _ (by have := G6.2; omega), fun q hq => G6.1.2.2.2.2.2 q hq⟩
    have hs' : s < Y.1.1 - 1 := hs
    have q2 := h2 s (by omega)
    have e1 : (tc_dr Y).1.2.1.testBit s = Y.1.2.1.testBit s := by
      show (tc_clr _ _).testBit s = _
      rw [tc_clr_bit _ g.1.u _ (by omega) _ (by omega)]; simp; omega
    have e2 : (tc_dr Y).1.2.2.testBit s = Y.1.2.2.testBit s := by
      show (tc_clr _ _).testBit s = _
      rw [tc_clr_bit _ g.1.t _ (by omega) _ (by omega)]; simp; omega
    have mm : ∀ k, 51 ≤ k → k ≤ 57 → μ2 k = μ k := fun k k1 k2 => by rw [m1 k (by omega) (by omega) (by omega) (by omega), a1 k (by omega)]
    rw [e1, e2, tc_wr_k (by decide), tc_wr_k (by decide), tc_wr_k (by decide), tc_wr_k (by decide), tc_wr_k (by decide), tc_wr_k (by decide), tc_wr_at, if_neg (by omega), mm 51 (by decide) (by decide), mm 52 (by decide) (by decide), mm 53 (by decide) (by decide), mm 54 (by decide) (by decide), mm 55 (by decide) (by decide), mm 56 (by decide) (by decide), mm 57 (by decide) (by decide)]
    exact q2
theorem tc_01 (h : tc_wi x2 0 1 = true) : x2 = 0 ∨ x2 = 1 := by
  obtain ⟨j, -, hj, rfl⟩ := tc_wi_nI (a := 0) (b := 1) (by decide) (by decide) h
  rcases (show j = 0 ∨ j = 1 by omega) with rfl | rfl
  · exact Or.inl rfl
  · exact Or.inr rfl
def tc_sb (u s : Nat) (b : Bool) : Nat := if b then tc_set u s else tc_clr u s
theorem tc_sb_bit {u s : Nat} {b : Bool} (hu : u < 256) (hs : s < 8) {r : Nat} (hr : r < 8) : (tc_sb u s b).testBit r = if r = s then b else u.testBit r := by
  unfold tc_sb
  cases b
  · rw [if_neg (by simp), tc_clr_bit u hu s hs r hr]; by_cases c : r = s <;> simp [c]
  · rw [if_pos rfl, tc_set_bit u hu s hs r hr]; by_cases c : r = s <;> simp [c]
theorem tc_sb_lt {u s n : Nat} {b : Bool} (hu : u < 2 ^ n) (hs : s < n) : tc_sb u s b < 2 ^ n := by
  unfold tc_sb
  split
  · exact tc_set_lt2 hu hs
  · exact tc_clr_lt2 hu hs
theorem tc_v6_withBit {u s : Nat} {b : Bool} {μ : tc_Mem} (hu : u < 256) (hs : s < 8) : tc_f6_withBit N (nI u) (nI s) (tc_bI b) μ = some (nI (tc_sb u s b), μ) := by
  unfold tc_f6_withBit tc_sb
  cases b
  · rw [if_pos (show tc_bI false = 0 from rfl), tc_clb _ hu _ hs]; rfl
  · rw [if_neg (show ¬ tc_bI true = 0 by decide), tc_orb _ hu _ hs]; rfl
theorem tc_Gd.yT {v : Nat} (g : tc_Gd Y) (hv : v < 2 ^ Y.1.1) : tc_Gd (tc_yT Y v) := by
  obtain ⟨g1, g2, g3, g4⟩ := g
  exact ⟨g1, g2, hv, g4⟩
theorem tc_J_train (g : tc_G6 Y) : tc_J (tc_f6_train N x1 x2) (tc_f7_train N x1 x2) Y := by
  have g1 := g.1.1
  rcases tc_sec (N := N) g.1 x1 with ⟨s, hs, rfl⟩ | ⟨b1, b2⟩
  case inr => exact tc_J.same g (-2) (fun μ h => tc_wp_of (by unfold tc_f6_train; simp [tc_wp_bd, b1 μ 1 h, tc_wp_some])) (fun μ h => tc_wp_of (by unfold tc_f7_train; simp [tc_wp_bd, b2 μ _ _ h, tc_wp_some]))
  rcases Bool.eq_false_or_eq_true (tc_wi x2 0 1) with c1 | c1
  case inr => exact tc_J.same g (-2) (fun μ h => tc_wp_of (by unfold tc_f6_train; simp [tc_wp_bd, tc_sec5 h g.1 hs, tc_v6_isWithin, tc_wp_some, c1, tc_bI])) (fun μ h => tc_wp_of (by unfold tc_f7_train; simp [tc_wp_bd, tc_sec7 h g.1 hs, tc_v7_in, tc_wp_some, c1, tc_bI]))
  have hx : ∃ b : Bool, x2 = tc_bI b := (tc_01 c1).elim (fun e => ⟨false, e⟩) (fun e => ⟨true, e⟩)
  obtain ⟨b, rfl⟩ := hx
  refine ⟨tc_bI (Y.1.2.2.testBit s), tc_yT Y (tc_sb Y.1.2.2 s b), ⟨g.1.yT (tc_sb_lt g.1.2.2.1 hs), g.2⟩, fun μ h => ?_, fun μ h => ?_⟩
  · unfold tc_f6_train tc_f6_train_57 tc_f6_bit
    simp only [tc_wp_bd, tc_sec5 h g.1 hs, tc_v6_isWithin, tc_wp_some, c1, tc_wp_if, tc_bI_eq0, Bool.true_eq_false, if_false, h.2.2.1.2.1, tc_bit' g.1.t (show s < 8 by omega)]
    rw [if_neg (by decide)]
    have e := tc_v6_withBit (N := N) (μ := μ) (b := b) g.1.t (show s < 8 by omega)
    cases b
    · rw [if_neg (by decide), show (0 : Int32) = tc_bI false from rfl, e, tc_wp_some, tc_wp_lt, tc_wp_some]
      exact ⟨rfl, fun k hk => tc_wr_k (by omega), h.tr⟩
    · rw [if_pos (show tc_bI true = 1 from rfl), show (1 : Int32) = tc_bI true from rfl, e, tc_wp_some, tc_wp_lt, tc_wp_some]
      exact ⟨rfl, fun k hk => tc_wr_k (by omega), h.tr⟩
  · have fin : ∀ r : Int32, r = tc_bI (Y.1.2.2.testBit s) → tc_wp (tc_f7_train_34 N (nI s) (tc_bI b) r μ) (fun r' μ2 => r' = tc_bI (Y.1.2.2.testBit s) ∧ tc_FM μ μ2 ∧ tc_RM μ2 (tc_yT Y (tc_sb Y.1.2.2 s b)) (tc_yT Y (tc_sb Y.1.2.2 s b)).2.2.2 (-1)) := by
      intro r hr
      have fin2 : tc_wp (tc_f7_train_50 N r (nI s) (tc_bI b) μ) (fun r' μ2 => r' = tc_bI (Y.1.2.2.testBit s) ∧ tc_FM μ μ2 ∧ tc_RM μ2 (tc_yT Y (tc_sb Y.1.2.2 s b)) (tc_yT Y (tc_sb Y.1.2.2 s b)).2.2.2 (-1)) := by
        unfold tc_f7_train_50
        rw [tc_wp_ck, tc_cl (by omega), tc_wp_lt, tc_wp_some, tc_nar]
        refine ⟨(tc_vin (by omega) (by decide)).mpr (by omega), hr, tc_FM.rf.wr (by omega), h.tr (fun j _ => by rw [tc_wr_k (by decide)]) (fun k _ _ hk => tc_wr_k hk) (fun r hr => ?_)⟩
        rw [tc_wr_at, tc_sb_bit g.1.t (by omega) (by omega)]
        by_cases c : r = s
        · rw [if_pos ⟨rfl, c⟩, if_pos c]
        · rw [if_neg (fun z => c z.2), if_neg c]; exact (h.2.1 r hr).2.2
      unfold tc_f7_train_34
      rw [tc_wp_if]
      cases b
      · rw [if_neg (by decide)]; exact fin2
      · rw [if_pos (show tc_bI true = 1 from rfl)]; exact fin2
    unfold tc_f7_train
    simp only [tc_wp_bd, tc_sec7 h g.1 hs, tc_v7_in, tc_wp_some, c1, tc_wp_if, tc_bI_eq0, Bool.true_eq_false, if_false, tc_wp_ck, tc_cl (show s < 2 ^ 31 by omega), (h.2.1 s hs).2.2, tc_vin (show s < 2 ^ 31 by omega) (show 8 < 2 ^ 31 by decide), show s < 8 by omega, true_and]
    rw [if_neg (by decide)]
    by_cases c : Y.1.2.2.testBit s = true
    · rw [if_neg (by simp [c])]; exact fin 1 (by rw [c]; rfl)
    · rw [if_pos (by simpa using c)]; exact fin 0 (by rw [show Y.1.2.2.testBit s = false by simpa using c]; rfl)
theorem tc_J_force (g : tc_G6 Y) : tc_J (tc_f6_force N x1 x2) (tc_f7_force N x1 x2) Y := by
  have g1 := g.1.1
  rcases tc_sec (N := N) g.1 x1 with ⟨s, hs, rfl⟩ | ⟨b1, b2⟩
  case inr => exact tc_J.same g (-2) (fun μ h => tc_wp_of (by unfold tc_f6_force; simp [tc_wp_bd, b1 μ 1 h, tc_wp_some])) (fun μ h => tc_wp_of (by unfold tc_f7_force; simp [tc_wp_bd, b2 μ _ _ h, tc_wp_some]))
  rcases Bool.eq_false_or_eq_true (tc_wi x2 0 1) with c1 | c1
  case inr => exact tc_J.same g (-2) (fun μ h => tc_wp_of (by unfold tc_f6_force; simp [tc_wp_bd, tc_sec5 h g.1 hs, tc_v6_isWithin, tc_wp_some, c1, tc_bI])) (fun μ h => tc_wp_of (by unfold tc_f7_force; simp [tc_wp_bd, tc_sec7 h g.1 hs, tc_v7_in, tc_wp_some, c1, tc_bI]))
  have hx : ∃ b : Bool, x2 = tc_bI b := (tc_01 c1).elim (fun e => ⟨false, e⟩) (fun e => ⟨true, e⟩)
  obtain ⟨b, rfl⟩ := hx
  refine ⟨tc_bI (Y.1.2.1.testBit s), tc_wu (tc_up Y (tc_sb Y.1.2.1 s b)) (upd Y.2.2.1.2.2.2.2 s 0), ⟨(g.1.up (tc_sb_lt g.1.2.1 hs)).wu, g.2⟩, fun μ h => ?_, fun μ h => ?_⟩
  · unfold tc_f6_force tc_f6_force_57 tc_f6_bit
    simp only [tc_wp_bd, tc_sec5 h g.1 hs, tc_v6_isWithin, tc_wp_some, c1, tc_wp_if, tc_bI_eq0, Bool.true_eq_false, if_false, h.2.2.1.1, tc_bit' g.1.u (show s < 8 by omega)]
    rw [if_neg (by decide)]
    have e := tc_v6_withBit (N := N) (μ := μ) (b := b) g.1.u (show s < 8 by omega)
    have fin : tc_wp (tc_ck (nI s) 8 (tc_lt (tc_wr (tc_wr μ 1 8 (nI (tc_sb Y.1.2.1 s b))) 6 (nI s).toNatClampNeg 0) fun μ5 => some (tc_bI (Y.1.2.1.testBit s), μ5))) (fun r' μ1 => r' = tc_bI (Y.1.2.1.testBit s) ∧ tc_FC μ μ1 ∧ tc_RC μ1 1 (tc_wu (tc_up Y (tc_sb Y.1.2.1 s b)) (upd Y.2.2.1.2.2.2.2 s 0))) := by
      rw [tc_wp_ck, tc_cl (by omega), tc_wp_lt, tc_wp_some]
      exact ⟨(tc_vin (by omega) (by decide)).mpr (by omega), rfl, fun k hk => by rw [tc_wr_k (by omega), tc_wr_k (by omega)], (h.up (u := tc_sb Y.1.2.1 s b)).a5⟩
    cases b
    · rw [if_neg (by decide), show (0 : Int32) = tc_bI false from rfl, e, tc_wp_some, tc_wp_lt]
      exact fin
    · rw [if_pos (show tc_bI true = 1 from rfl), show (1 : Int32) = tc_bI true from rfl, e, tc_wp_some, tc_wp_lt]
      exact fin
  · have fin : ∀ r : Int32, r = tc_bI (Y.1.2.1.testBit s) → tc_wp (tc_f7_force_34 N (nI s) (tc_bI b) r μ) (fun r' μ2 => r' = tc_bI (Y.1.2.1.testBit s) ∧ tc_FM μ μ2 ∧ tc_RM μ2 (tc_wu (tc_up Y (tc_sb Y.1.2.1 s b)) (upd Y.2.2.1.2.2.2.2 s 0)) (tc_wu (tc_up Y (tc_sb Y.1.2.1 s b)) (upd Y.2.2.1.2.2.2.2 s 0)).2.2.2 (-1)) := by
      intro r hr
      have fin2 : tc_wp (tc_f7_force_50 N (nI s) r (nI s) (tc_bI b) μ) (fun r' μ2 => r' = tc_bI (Y.1.2.1.testBit s) ∧ tc_FM μ μ2 ∧ tc_RM μ2 (tc_wu (tc_up Y (tc_sb Y.1.2.1 s b)) (upd Y.2.2.1.2.2.2.2 s 0)) (tc_wu (tc_up Y (tc_sb Y.1.2.1 s b)) (upd Y.2.2.1.2.2.2.2 s 0)).2.2.2 (-1)) := by
        unfold tc_f7_force_50
        rw [tc_wp_ck, tc_cl (by omega), tc_wp_lt, tc_wp_ck, tc_wp_lt, tc_wp_some, tc_nar]
        have hv : vp_in (nI s) 8 := (tc_vin (by omega) (by decide)).mpr (by omega)
        have h1 : tc_RM (tc_wr μ 56 s (tc_bI b)) (tc_up Y (tc_sb Y.1.2.1 s b)) Y.2.2.2 (-1) := by
          refine h.up (fun j _ => by rw [tc_wr_k (by decide)]) (fun k _ _ hk => tc_wr_k hk) (fun r hr => ?_)
          rw [tc_wr_at, tc_sb_bit g.1.u (by omega) (by omega)]
          by_cases c : r = s
          · rw [if_pos ⟨rfl, c⟩, if_pos c]
          · rw [if_neg (fun z => c z.2), if_neg c]; exact (h.2.1 r hr).2.1
        refine ⟨hv, hv, hr, (tc_FM.rf.wr (by omega)).wr (by omega), h1.wu (fun j _ => by rw [tc_wr_k (by decide)]) (fun k _ _ hk => tc_wr_k hk) (fun r hr => ?_)⟩
        rw [tc_wr_at]
        by_cases c : r = s
        · rw [if_pos ⟨rfl, c⟩, c]; simp [upd]
        · rw [if_neg (fun z => c z.2), tc_wr_k (by decide)]
          have := (h.2.1 r hr).1.2.2.2.2
          simpa [upd, c] using this
      unfold tc_f7_force_34
      rw [tc_wp_if]
      cases b
      · rw [if_neg (by decide)]; exact fin2
      · rw [if_pos (show tc_bI true = 1 from rfl)]; exact fin2
    unfold tc_f7_force
    simp only [tc_wp_bd, tc_sec7 h g.1 hs, tc_v7_in, tc_wp_some, c1, tc_wp_if, tc_bI_eq0, Bool.true_eq_false, if_false, tc_wp_ck, tc_cl (show s < 2 ^ 31 by omega), (h.2.1 s hs).2.1, tc_vin (show s < 2 ^ 31 by omega) (show 8 < 2 ^ 31 by decide), show s < 8 by omega, true_and]
    rw [if_neg (by decide)]
    by_cases c : Y.1.2.1.testBit s = true
    · rw [if_neg (by simp [c])]; exact fin 1 (by rw [c]; rfl)
    · rw [if_pos (by simpa using c)]; exact fin 0 (by rw [show Y.1.2.1.testBit s = false by simpa using c]; rfl)
end S2
