theorem tc_wp_and {β : Type} {o : Option (β × tc_Mem)} {P Q : β → tc_Mem → Prop} (h1 : tc_wp o P) (h2 : tc_wp o Q) : tc_wp o (fun r μ => P r μ ∧ Q r μ) := by
  obtain ⟨r, μ, e, p⟩ := h1
  obtain ⟨r', μ', e', q⟩ := h2
  rw [e] at e'
  cases e'
  exact ⟨r, μ, e, p, q⟩
section T2
variable {N : Nat} {Y Z : tc_Y} {x1 x2 x3 x4 : Int32} {μ μ0 : tc_Mem}
theorem tc_r_back2 (hN : 300 ≤ N) {fz fl : tc_Fl} {w : Int32} (h : tc_RT μ0 μ Y Z fz fl w) (g : tc_Gd Y) : tc_wp (tc_f7_laysBack N μ) (fun _ μ' => tc_RT μ0 μ' Y Y fl fl w) := by
  refine tc_wp_mono (tc_wp_and (tc_r_back hN h g) (tz_laysBack hN)) (fun _ μ' hh => ?_)
  obtain ⟨⟨h1, h2⟩, k1, k2, k3, k4⟩ := hh
  exact ⟨h1, h2, h.2.2.1.frame (k2 31 (by decide)) (fun k q1 q2 => k1 k (by omega) (by omega) (by omega) (by omega)), tc_SY.rf, h.2.2.2.2.1, [], by simp⟩
def tc_or' (Y : tc_Y) (w : Int32) : Int32 := match tc_mo Y false with
  | none => -3
  | some (u, _) => match tc_mo Y true with
    | none => -3
    | some (u2, ch2) => if w = 1 then nI ch2.length else tc_bI (decide (u2 = u))
theorem tc_k_order (hN : 300 ≤ N) (g : tc_Gd Y) : tc_T (tc_f6_order N x1) (tc_f7_order N x1) Y := by
  have g1 := g.1
  rcases Bool.eq_false_or_eq_true (tc_wi x1 0 1) with c1 | c1
  case inr => exact tc_T.same (-2) (fun μ h => tc_wp_of (by unfold tc_f6_order; simp [tc_wp_bd, tc_v6_isWithin, tc_wp_some, c1, tc_bI])) (fun μ h => tc_wp_of (by unfold tc_f7_order; simp [tc_wp_bd, tc_v7_in, tc_wp_some, c1, tc_bI]))
  have h256 : ∀ u, u < 2 ^ Y.1.1 → u < 256 := fun u hu => Nat.lt_of_lt_of_le hu (show 2 ^ Y.1.1 ≤ 2 ^ 8 from Nat.pow_le_pow_right (by decide) g1)
  refine ⟨tc_or' Y x1, fun μ h => ?_, fun μ h => ?_⟩
  · unfold tc_f6_order tc_f2_fromLast
    rw [tc_wp_bd, tc_v6_isWithin, tc_wp_some, c1, if_neg (by decide), tc_wp_bd, tc_wp_bd]
    refine tc_wp_mono (tc_c_become hN h g) (fun _ μ1 hC => ?_)
    rw [tc_wp_bd]
    have hs := tc_c_settles hN hC g false
    refine tc_wp_mono hs (fun r μ2 hh => ?_)
    unfold tc_or'
    cases hm : tc_mo Y false with
    | none =>
      rw [hm] at hh
      obtain ⟨rfl, hC2⟩ := hh
      rw [if_pos rfl, tc_wp_some, tc_wp_some]
      exact ⟨rfl, hC2.1⟩
    | some p =>
      obtain ⟨u, ch⟩ := p
      rw [hm] at hh
      obtain ⟨rfl, hC2, hu, -, -⟩ := hh
      have e28 : μ2 28 8 = nI u := hC2.2.2.2.2.1.1
      have e1 : μ2 1 8 = nI Y.1.2.1 := hC2.2.1.2.2.1.1
      rw [if_neg (by decide), tc_wp_lt, tc_wp_lt, tc_wp_bd, e28, e1]
      have hC3 : tc_CT μ (tc_wr μ2 28 8 (nI Y.1.2.1)) Y Y := ⟨hC2.1.wr (by omega), hC2.2.1.frame (fun k _ _ _ => tc_wr_k (by omega)), hC2.2.2.up (u := Y.1.2.1)⟩
      have hs2 := tc_c_settles hN hC3 g true
      refine tc_wp_mono hs2 (fun r μ4 hh => ?_)
      cases hm2 : tc_mo Y true with
      | none =>
        rw [hm2] at hh
        obtain ⟨rfl, hC4⟩ := hh
        rw [if_pos rfl, tc_wp_some, tc_wp_some]
        exact ⟨rfl, hC4.1⟩
      | some p2 =>
        obtain ⟨u2, ch2⟩ := p2
        rw [hm2] at hh
        obtain ⟨rfl, hC4, hu2, e39, -⟩ := hh
        have e28b : μ4 28 8 = nI u2 := hC4.2.2.2.2.1.1
        rw [if_neg (by decide), e39, e28b]
        simp only [tc_wp_if, tc_wp_some]
        by_cases c : x1 = 1
        · rw [if_pos c, if_pos c]; exact ⟨rfl, hC4.1⟩
        · rw [if_neg c, if_neg c]
          have h1 := h256 u hu
          have h2 := h256 u2 hu2
          by_cases c2 : u2 = u
          · rw [if_pos (by rw [c2])]; exact ⟨by simp [c2, tc_bI], hC4.1⟩
          · rw [if_neg (by rw [tc_eq (by omega) (by omega)]; exact c2)]; exact ⟨by simp [c2, tc_bI], hC4.1⟩
  · unfold tc_f7_order
    rw [tc_wp_bd, tc_v7_in, tc_wp_some, c1, if_neg (by decide), tc_wp_bd]
    refine tc_wp_mono (tc_r_keeps hN h tc_FM.rf g) (fun _ μ1 hC => ?_)
    rw [tc_wp_bd]
    have hs := tc_r_goes hN hC g false
    refine tc_wp_mono hs (fun r5 μ2 hh => ?_)
    -- the second half
    have rest : ∀ (Z : tc_Y) (u : Nat), tc_RT μ μ2 Y Z Y.2.2.2 Y.2.2.2 (-1) → tc_Gd Z → Z.1.2.1 = u → u < 256 → (r5 < 0 ∨ r5 = nI 0 ∨ ¬ r5 < 0) → tc_wp (tc_bd (tc_f7_bitsOf N 0 μ2) fun r7 μ8 => tc_bd (tc_f7_laysBack N μ8) fun _ μ10 => tc_bd (tc_f7_goes N 1 μ10) fun r11 μ12 => tc_bd (tc_f7_bitsOf N 0 μ12) fun r13 μ14 => if r13 = r7 then tc_f7_order_53 N x1 r5 r11 1 μ14 else tc_f7_order_53 N x1 r5 r11 0 μ14) (fun r' μ3 => r' = (if r5 < 0 then -3 else match tc_mo Y true with
          | none => -3
          | some (u2, ch2) => if x1 = 1 then nI ch2.length else tc_bI (decide (u2 = u))) ∧ tc_FM μ μ3 ∧ tc_RM μ3 Y Y.2.2.2 (-1)) := by
      intro Z u hZ gZ hu hu8 _
      have b0 : tc_f7_bitsOf N 0 μ2 = _ := tc_r_bits hN hZ gZ (v := 0) (by decide)
      rw [tc_bm_u gZ, hu] at b0
      rw [tc_wp_bd, b0, tc_wp_some, tc_wp_bd]
      refine tc_wp_mono (tc_r_back2 hN hZ g) (fun _ μ3 hT => ?_)
      rw [tc_wp_bd]
      have hs2 := tc_r_goes hN hT g true
      refine tc_wp_mono hs2 (fun r11 μ4 hh => ?_)
      have last : ∀ (Z2 : tc_Y) (s0 : Int32), tc_RT μ μ4 Y Z2 Y.2.2.2 Y.2.2.2 (-1) → tc_wp (tc_f7_order_53 N x1 r5 r11 s0 μ4) (fun r' μ3 => r' = (if r5 < 0 then -3 else if 0 ≤ r11 then (if x1 = 1 then r11 else if s0 = 0 then 0 else 1) else -3) ∧ tc_FM μ μ3 ∧ tc_RM μ3 Y Y.2.2.2 (-1)) := by
        intro Z2 s0 hZ2
        unfold tc_f7_order_53
        rw [tc_wp_bd]
        refine tc_wp_mono (tc_r_back hN hZ2 g) (fun _ μ5 hh => ?_)
        simp only [tc_wp_if, tc_wp_some]
        by_cases d1 : r5 < 0
        · rw [if_pos d1, if_pos d1]; exact ⟨rfl, hh⟩
        rw [if_neg d1, if_neg d1]
        by_cases d2 : (0 : Int32) ≤ r11
        · rw [if_pos d2, if_pos d2]
          by_cases d3 : x1 = 1
          · rw [if_pos d3, if_pos d3]; exact ⟨rfl, hh⟩
          · rw [if_neg d3, if_neg d3]
            by_cases d4 : s0 = 0
            · rw [if_pos d4, if_pos d4]; exact ⟨rfl, hh⟩
            · rw [if_neg d4, if_neg d4]; exact ⟨rfl, hh⟩
        · rw [if_neg d2, if_neg d2]; exact ⟨rfl, hh⟩
      cases hm2 : tc_mo Y true with
      | none =>
        rw [hm2] at hh
        obtain ⟨rfl, hT2⟩ := hh
        have b0 : tc_f7_bitsOf N 0 μ4 = _ := tc_r_bits hN hT2 g (v := 0) (by decide)
        rw [tc_wp_bd, b0, tc_wp_some, tc_wp_if]
        have e : ¬ (0 : Int32) ≤ -1 := by decide
        split
        · refine tc_wp_mono (last _ 1 hT2) (fun r' μ3 hh => ⟨?_, hh.2⟩)
          rw [hh.1, if_neg e]
        · refine tc_wp_mono (last _ 0 hT2) (fun r' μ3 hh => ⟨?_, hh.2⟩)
          rw [hh.1, if_neg e]
      | some p2 =>
        obtain ⟨u2, ch2⟩ := p2
        rw [hm2] at hh
        obtain ⟨rfl, hT2, hu2, hl2⟩ := hh
        have g2 := g.af hu2
        have b0 : tc_f7_bitsOf N 0 μ4 = _ := tc_r_bits hN hT2 g2 (v := 0) (by decide)
        rw [tc_bm_u g2] at b0
        have h2 := h256 u2 hu2
        rw [tc_wp_bd, b0, tc_wp_some, tc_wp_if]
        show if nI u2 = nI u then _ else _
        have e : (0 : Int32) ≤ nI ch2.length := nI_pos' (by omega)
        by_cases c2 : u2 = u
        · rw [if_pos (by rw [c2])]
          refine tc_wp_mono (last _ 1 hT2) (fun r' μ3 hh => ⟨?_, hh.2⟩)
          rw [hh.1, if_pos e]
          simp [c2, tc_bI]
        · rw [if_neg (by rw [tc_eq (by omega) (by omega)]; exact c2)]
          refine tc_wp_mono (last _ 0 hT2) (fun r' μ3 hh => ⟨?_, hh.2⟩)
          rw [hh.1, if_pos e]
          simp [c2, tc_bI]
    unfold tc_or'
    cases hm : tc_mo Y false with
    | none =>
      rw [hm] at hh
      obtain ⟨rfl, hC2⟩ := hh
      refine tc_wp_mono (rest Y Y.1.2.1 hC2 g rfl g.u (Or.inl (by decide))) (fun r' μ3 hh => ⟨?_, hh.2⟩)
      rw [hh.1, if_pos (by decide)]
    | some p =>
      obtain ⟨u, ch⟩ := p
      rw [hm] at hh
      obtain ⟨rfl, hC2, hu, hl⟩ := hh
      have e : ¬ nI ch.length < 0 := tc_nn (by omega)
      refine tc_wp_mono (rest _ u hC2 (g.af hu) rfl (h256 u hu) (Or.inr (Or.inr e))) (fun r' μ3 hh => ⟨?_, hh.2⟩)
      rw [hh.1, if_neg e]
/-! a break -/
def tc_bk (Z : tc_Y) (s : Nat) : Int32 := match tc_mo Z false with
  | none => -1
  | some (u, _) => tc_bI (u.testBit s)
theorem tc_c_break (hN : 300 ≤ N) (h : tc_RC μ 1 Y) (g : tc_G6 Y) {s : Nat} (hs : s < Y.1.1) {we : Int32} : tc_wp (tc_f2_settlesWithBreak N (nI s) we μ) (fun r μ' => tc_FD μ μ' ∧ match tc_mo (tc_yD (tc_yR Y (Y.2.1.1, Y.2.1.2.1, we)) 0 s) false with
    | none => r = 0
    | some (u, _) => r = 1 ∧ tc_CT μ μ' Y (tc_up (tc_yD (tc_yR Y (Y.2.1.1, Y.2.1.2.1, we)) 0 s) u) ∧ u < 2 ^ Y.1.1) := by
  have g6 := g.2
  unfold tc_f2_settlesWithBreak
  rw [tc_wp_bd]
  refine tc_wp_mono (tc_c_become hN h g.1) (fun _ μ1 hC => ?_)
  rw [tc_wp_lt, tc_wp_bd]
  have hR : tc_RC (tc_wr μ1 28 12 we) 28 (tc_yR Y (Y.2.1.1, Y.2.1.2.1, we)) := hC.2.2.r12
  have gR : tc_Gd (tc_yR Y (Y.2.1.1, Y.2.1.2.1, we)) := g.1
  refine tc_wp_mono (tc_w5_addFault (k := 0) hR gR (show Y.2.2.2.length < 15 by omega) hs) (fun _ μ2 hh => ?_)
  have F2 : tc_FD μ1 μ2 := (tc_FD.rf.wr (by omega)).trans hh.1.d
  have hC2 : tc_CT μ μ2 Y (tc_yD (tc_yR Y (Y.2.1.1, Y.2.1.2.1, we)) 0 s) := ⟨hC.1.trans F2, hC.2.1.fd F2, hh.2⟩
  have gD : tc_Gd (tc_yD (tc_yR Y (Y.2.1.1, Y.2.1.2.1, we)) 0 s) := gR.yD (k := 0) (show Y.2.2.2.length < 15 by omega) (by decide) hs
  rw [tc_wp_bd]
  have hs2 := tc_c_settles hN hC2 gD false
  refine tc_wp_mono hs2 (fun r μ3 hh => ?_)
  rw [tc_wp_zr]
  cases hm : tc_mo (tc_yD (tc_yR Y (Y.2.1.1, Y.2.1.2.1, we)) 0 s) false with
  | none => rw [hm] at hh; exact ⟨Or.inl hh.1, hh.2.1, hh.1⟩
  | some p =>
    obtain ⟨u, ch⟩ := p
    rw [hm] at hh
    exact ⟨Or.inr hh.1, hh.2.1.1, hh.1, hh.2.1, hh.2.2.1⟩
theorem tc_r_broken (hN : 300 ≤ N) (h : tc_RM μ Y Y.2.2.2 (-1)) (g : tc_G6 Y) {s : Nat} (hs : s < Y.1.1) : tc_wp (tc_f7_broken N (nI s) μ) (fun r μ' => r = tc_bk (tc_yD Y 0 s) s ∧ tc_FM μ μ' ∧ tc_RM μ' Y Y.2.2.2 (-1)) := by
  have g1 := g.1.1
  have g6 := g.2
  have hv : vp_in (nI s) 8 := (tc_vin (by omega) (by decide)).mpr (by omega)
  unfold tc_f7_broken
  rw [tc_wp_bd]
  refine tc_wp_mono (tc_r_keeps hN h tc_FM.rf g.1) (fun _ μ1 hC => ?_)
  rw [tc_wp_bd]
  have ha := tc_t7_addFault (N := N) (k := 0) (s := s) hC.2 g.1 (by decide) hs
  refine tc_wp_mono ha (fun _ μ2 hh => ?_)
  have hT : tc_RT μ μ2 Y (tc_yD Y 0 s) (tc_yD Y 0 s).2.2.2 Y.2.2.2 (-1) := ⟨hC.1.trans hh.1, hh.2⟩
  have gD : tc_Gd (tc_yD Y 0 s) := g.1.yD (k := 0) (by omega) (by decide) hs
  rw [tc_wp_bd]
  have hs2 := tc_r_goes hN hT gD false
  refine tc_wp_mono hs2 (fun r μ3 hh => ?_)
  have fin : ∀ (r : Int32) (Z : tc_Y) (fz : tc_Fl), tc_RT μ μ3 Y Z fz Y.2.2.2 (-1) → tc_wp (tc_f7_broken_38 N r μ3) (fun r' μ2 => r' = r ∧ tc_FM μ μ2 ∧ tc_RM μ2 Y Y.2.2.2 (-1)) := by
    intro r Z fz hC
    unfold tc_f7_broken_38
    rw [tc_wp_bd]
    refine tc_wp_mono (tc_r_back hN hC g.1) (fun _ μ2 hh => ?_)
    rw [tc_wp_some]; exact ⟨rfl, hh⟩
  unfold tc_bk
  cases hm : tc_mo (tc_yD Y 0 s) false with
  | none =>
    rw [hm] at hh
    obtain ⟨rfl, hT2⟩ := hh
    rw [if_neg (by decide)]
    exact fin _ _ _ hT2
  | some p =>
    obtain ⟨u, ch⟩ := p
    rw [hm] at hh
    obtain ⟨rfl, hT2, hu, hl⟩ := hh
    have e56 : μ3 56 s = tc_bI (u.testBit s) := (hT2.2.1.2.1 s hs).2.1
    rw [if_pos (nI_pos' (by omega)), tc_wp_ck, tc_cl (by omega), e56, tc_wp_if]
    refine ⟨hv, ?_⟩
    by_cases c : u.testBit s = true
    · rw [if_neg (by rw [c]; decide)]
      refine tc_wp_mono (fin _ _ _ hT2) (fun r' μ4 hh => ⟨?_, hh.2⟩)
      rw [hh.1]; simp [c, tc_bI]
    · rw [if_pos (by rw [tc_bI_eq0]; simpa using c)]
      refine tc_wp_mono (fin _ _ _ hT2) (fun r' μ4 hh => ⟨?_, hh.2⟩)
      rw [hh.1]; simp [c, tc_bI]
theorem tc_k_seen (hN : 300 ≤ N) (g : tc_G6 Y) : tc_T (tc_f6_seen N x1) (tc_f7_seen N x1) Y := by
  have g1 := g.1.1
  have g6 := g.2
  rcases tc_sec (N := N) g.1 x1 with ⟨s, hs, rfl⟩ | ⟨b1, b2⟩
  case inr => exact tc_T.same (-2) (fun μ h => tc_wp_of (by unfold tc_f6_seen; simp [tc_wp_bd, b1 μ 1 h, tc_wp_some])) (fun μ h => tc_wp_of (by unfold tc_f7_seen; simp [tc_wp_bd, b2 μ _ _ h, tc_wp_some]))
  refine ⟨if tc_bk (tc_yD Y 0 s) s = 0 then 1 else 0, fun μ h => ?_, fun μ h => ?_⟩
  · unfold tc_f6_seen tc_f2_seesBreak
    have e12 : μ 1 12 = Y.2.1.2.2 := h.2.2.1.2.2.2.2
    rw [tc_wp_bd, tc_sec5 h g.1 hs, tc_wp_some, if_neg (by decide), tc_wp_bd, tc_wp_bd, e12]
    have hb := tc_c_break (N := N) hN h g hs (we := Y.2.1.2.2)
    refine tc_wp_mono hb (fun r μ1 hh => ?_)
    have hh' : tc_FD μ μ1 ∧ match tc_mo (tc_yD Y 0 s) false with
      | none => r = 0
      | some (u, _) => r = 1 ∧ tc_CT μ μ1 Y (tc_up (tc_yD Y 0 s) u) ∧ u < 2 ^ Y.1.1 := hh
    obtain ⟨hF, hh'⟩ := hh'
    unfold tc_bk
    cases hm : tc_mo (tc_yD Y 0 s) false with
    | none =>
      rw [hm] at hh'
      rw [hh', if_pos rfl, tc_wp_some, if_pos rfl, tc_wp_some]
      exact ⟨by show (0 : Int32) = if (-1 : Int32) = 0 then 1 else 0; decide, hF⟩
    | some p =>
      obtain ⟨u, ch⟩ := p
      rw [hm] at hh'
      obtain ⟨rfl, hC, hu⟩ := hh'
      have gD : tc_Gd (tc_up (tc_yD Y 0 s) u) := (g.1.yD (k := 0) (by omega) (by decide) hs).up hu
      rw [if_neg (by decide), tc_wp_bd, tc_v5_relay hC.2.2 gD (by omega), tc_wp_some, if_pos (show s < (tc_up (tc_yD Y 0 s) u).1.1 from hs), tc_wp_if, tc_wp_some, tc_wp_some]
      show if tc_bI (u.testBit s) = 0 then _ else _
      cases hbb : u.testBit s
      all_goals simp (decide := true) [tc_wp_some, hF, tc_bI, hbb]
  · unfold tc_f7_seen
    rw [tc_wp_bd, tc_sec7 h g.1 hs, tc_wp_some, if_neg (by decide), tc_wp_bd]
    refine tc_wp_mono (tc_r_broken hN h g hs) (fun r μ1 hh => ?_)
    obtain ⟨rfl, hh⟩ := hh
    rw [tc_wp_if, tc_wp_some, tc_wp_some]
    by_cases c : tc_bk (tc_yD Y 0 s) s = 0
    · rw [if_pos c, if_pos c]; exact ⟨rfl, hh⟩
    · rw [if_neg c, if_neg c]; exact ⟨rfl, hh⟩
/-! none wrong -/
def tc_fr (Z : tc_Y) : Bool := match tc_mo Z false with
  | none => false
  | some (u, _) => decide (tc_wg (tc_up Z u) = 0)
theorem tc_wg_0 (g : tc_Gd Y) : nI (tc_wg Y) = 0 ↔ tc_wg Y = 0 := by
  have := tc_bm_256 (p := fun s => !tc_trb Y s && !Y.1.2.1.testBit s) g.1
  exact tc_eqL (k := 0) (show tc_wg Y < 2 ^ 31 from Nat.lt_trans this (by decide)) (by decide)
theorem tc_un_0 (g : tc_Gd Y) : nI (tc_un Y) = 0 ↔ tc_un Y = 0 := by
  have := tc_bm_256 (p := fun s => tc_trb Y s && Y.1.2.1.testBit s) g.1
  exact tc_eqL (k := 0) (show tc_un Y < 2 ^ 31 from Nat.lt_trans this (by decide)) (by decide)
theorem tc_c_fair (hN : 300 ≤ N) (h : tc_RC μ 1 Y) (g : tc_Gd Y) {pk we : Int32} : tc_wp (tc_f2_isFair N pk we μ) (fun r μ' => r = tc_bI (tc_fr (tc_yR Y (pk, Y.2.1.2.1, we))) ∧ tc_FD μ μ') := by
  unfold tc_f2_isFair
  rw [tc_wp_bd]
  refine tc_wp_mono (tc_c_become hN h g) (fun _ μ1 hC => ?_)
  rw [tc_wp_lt, tc_wp_lt, tc_wp_bd]
  have hR : tc_RC (tc_wr (tc_wr μ1 28 10 pk) 28 12 we) 28 (tc_yR Y (pk, Y.2.1.2.1, we)) := (hC.2.2.r10 (x := pk)).r12
  have gR : tc_Gd (tc_yR Y (pk, Y.2.1.2.1, we)) := g
  have F2 : tc_FD μ1 (tc_wr (tc_wr μ1 28 10 pk) 28 12 we) := (tc_FD.rf.wr (by omega)).wr (by omega)
  have hC2 : tc_CT μ (tc_wr (tc_wr μ1 28 10 pk) 28 12 we) Y (tc_yR Y (pk, Y.2.1.2.1, we)) := ⟨hC.1.trans F2, hC.2.1.fd F2, hR⟩
  have hs2 := tc_c_settles hN hC2 gR false
  refine tc_wp_mono hs2 (fun r μ3 hh => ?_)
  unfold tc_fr
  cases hm : tc_mo (tc_yR Y (pk, Y.2.1.2.1, we)) false with
  | none =>
    rw [hm] at hh
    obtain ⟨rfl, hC3⟩ := hh
    rw [if_pos rfl, tc_wp_some]; exact ⟨rfl, hC3.1⟩
  | some p =>
    obtain ⟨u, ch⟩ := p
    rw [hm] at hh
    obtain ⟨rfl, hC3, hu, -, -⟩ := hh
    have g3 := gR.up hu
    rw [if_neg (by decide), tc_wp_bd, tc_v5_wrong hN hC3.2.2 g3, tc_wp_some, tc_wp_if, tc_wp_some, tc_wp_some]
    by_cases c : tc_wg (tc_up (tc_yR Y (pk, Y.2.1.2.1, we)) u) = 0
    · rw [if_pos ((tc_wg_0 g3).mpr c)]; exact ⟨by simp [c, tc_bI], hC3.1⟩
    · rw [if_neg (fun q => c ((tc_wg_0 g3).mp q))]; exact ⟨by simp [c, tc_bI], hC3.1⟩
theorem tc_r_right (hN : 300 ≤ N) {fl : tc_Fl} {w : Int32} (h : tc_RM μ Y fl w) (g : tc_Gd Y) : tc_wp (tc_f7_isRight N μ) (fun r μ' => r = tc_bI (tc_fr Y) ∧ tc_FM μ μ' ∧ tc_RM μ' Y fl w) := by
  unfold tc_f7_isRight
  rw [tc_wp_bd]
  refine tc_wp_mono (tc_r_keeps hN h tc_FM.rf g) (fun _ μ1 hC => ?_)
  rw [tc_wp_bd]
  have hs2 := tc_r_goes hN hC g false
  refine tc_wp_mono hs2 (fun r μ3 hh => ?_)
  have fin : ∀ (b : Bool) (Z : tc_Y), tc_RT μ μ3 Y Z fl fl w → tc_wp (tc_f7_isRight_25 N (tc_bI b) μ3) (fun r' μ2 => r' = tc_bI b ∧ tc_FM μ μ2 ∧ tc_RM μ2 Y fl w) := by
    intro b Z hC
    unfold tc_f7_isRight_25
    rw [tc_wp_bd]
    refine tc_wp_mono (tc_r_back hN hC g) (fun _ μ2 hh => ?_)
    rw [tc_wp_zr]; exact ⟨tc_bI_01 b, rfl, hh⟩
  unfold tc_f7_isRight_24 tc_fr
  cases hm : tc_mo Y false with
  | none =>
    rw [hm] at hh
    obtain ⟨rfl, hT2⟩ := hh
    rw [if_pos (by decide)]
    exact fin false _ hT2
  | some p =>
    obtain ⟨u, ch⟩ := p
    rw [hm] at hh
    obtain ⟨rfl, hT2, hu, hl⟩ := hh
    have g2 := g.af hu
    have b2 : tc_f7_bitsOf N 2 μ3 = _ := tc_r_bits hN hT2 g2 (v := 2) (by decide)
    rw [tc_bm_wg] at b2
    rw [if_neg (tc_nn (by omega)), tc_wp_bd, b2, tc_wp_some, tc_wp_if]
    have e : tc_wg (tc_af Y u) = tc_wg (tc_up Y u) := rfl
    by_cases c : tc_wg (tc_up Y u) = 0
    · rw [if_pos ((tc_wg_0 g2).mpr c)]
      refine tc_wp_mono (fin true _ hT2) (fun r' μ4 hh => ⟨?_, hh.2⟩)
      rw [hh.1]; simp [c]
    · rw [if_neg (fun q => c ((tc_wg_0 g2).mp q))]
      refine tc_wp_mono (fin false _ hT2) (fun r' μ4 hh => ⟨?_, hh.2⟩)
      rw [hh.1]; simp [c]
end T2
