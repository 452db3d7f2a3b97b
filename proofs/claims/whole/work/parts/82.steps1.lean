/-! calls that change the yard alone, or nothing -/
def tc_G6 (Y : tc_Y) : Prop := tc_Gd Y ∧ Y.2.2.2.length ≤ 6
def tc_J (o1 o2 : tc_Mem → Option (Int32 × tc_Mem)) (Y : tc_Y) : Prop := ∃ (r : Int32) (Y' : tc_Y), tc_G6 Y' ∧ (∀ μ, tc_RC μ 1 Y → tc_wp (o1 μ) (fun r' μ1 => r' = r ∧ tc_FC μ μ1 ∧ tc_RC μ1 1 Y')) ∧ ∀ μ, tc_RM μ Y Y.2.2.2 (-1) → tc_wp (o2 μ) (fun r' μ2 => r' = r ∧ tc_FM μ μ2 ∧ tc_RM μ2 Y' Y'.2.2.2 (-1))
theorem tc_J.step {o1 o2 : tc_Mem → Option (Int32 × tc_Mem)} {Y : tc_Y} {μ : tc_Mem} (h : tc_J o1 o2 Y) (hO : tc_IO μ) (hY : tc_IY μ Y) : ∃ (r : Int32) (μ1 μ2 : tc_Mem), o1 μ = some (r, μ1) ∧ o2 μ1 = some (r, μ2) ∧ tc_Inv μ2 := by
  obtain ⟨r, Y', g', h1, h2⟩ := h
  exact tc_mkY hO hY g' (h1 μ hY.2.2.1) h2
theorem tc_J.same {o1 o2 : tc_Mem → Option (Int32 × tc_Mem)} {Y : tc_Y} (g : tc_G6 Y) (r : Int32) (h1 : ∀ μ, tc_RC μ 1 Y → o1 μ = some (r, μ)) (h2 : ∀ μ, tc_RM μ Y Y.2.2.2 (-1) → o2 μ = some (r, μ)) : tc_J o1 o2 Y :=
  ⟨r, Y, g, fun μ h => tc_wp_eq (h1 μ h) ⟨rfl, tc_FC.rf, h⟩, fun μ h => tc_wp_eq (h2 μ h) ⟨rfl, tc_FM.rf, h⟩⟩
theorem tc_FY.c {μ μ' : tc_Mem} (h : tc_FY μ μ' 1) : tc_FC μ μ' := fun k hk => h k (by omega)
theorem tc_v03' (x : Int32) : x &&& 0 = 0 := by simp
section S1
variable {N : Nat} {Y : tc_Y} {x1 x2 x3 x4 : Int32}
theorem tc_G6.yS {k : Nat} (g : tc_G6 Y) (hk : k < 6) (hn : Y.1.1 < 8) : tc_G6 (tc_yS Y (nI k) x2 x3 x4) := by
  obtain ⟨⟨g1, g2, g3, g4, g5, g6⟩, g7⟩ := g
  have p2 : 2 ^ Y.1.1 ≤ 2 ^ (Y.1.1 + 1) := Nat.pow_le_pow_right (by decide) (by omega)
  refine ⟨⟨hn, Nat.lt_of_lt_of_le g2 p2, Nat.lt_of_lt_of_le g3 p2, fun s hs => ?_, g5, fun q hq => ?_⟩, g7⟩
  · show ∃ k', k' < 6 ∧ upd Y.2.2.1.1 Y.1.1 (nI k) s = nI k'
    by_cases c : s = Y.1.1
    · exact ⟨k, hk, by simp [upd, c]⟩
    · have hs' : s < Y.1.1 + 1 := hs
      obtain ⟨k', h1, h2⟩ := g4 s (by omega)
      exact ⟨k', h1, by simp [upd, c, h2]⟩
  · have := g6 q hq
    exact ⟨Nat.lt_succ_of_lt this.1, this.2⟩
theorem tc_tb0 {u n : Nat} (hu : u < 2 ^ n) : u.testBit n = false := Nat.testBit_lt_two_pow hu
theorem tc_J_section (g : tc_G6 Y) : tc_J (tc_f6_section N x1 x2 x3 x4) (tc_f7_section N x1 x2 x3 x4) Y := by
  have g1 := g.1.1
  rcases Bool.eq_false_or_eq_true (tc_wi x1 0 5) with c1 | c1
  case inr => exact tc_J.same g (-2) (fun μ _ => tc_wp_of (by unfold tc_f6_section; simp [tc_wp_bd, tc_tr3, tc_wp_some, c1, tc_bI])) (fun μ _ => tc_wp_of (by unfold tc_f7_section; simp [tc_wp_bd, tc_v7_in, tc_wp_some, c1, tc_bI]))
  rcases Bool.eq_false_or_eq_true (tc_wi x2 1 99) with c2 | c2
  case inr => exact tc_J.same g (-2) (fun μ _ => tc_wp_of (by unfold tc_f6_section; simp [tc_wp_bd, tc_tr3, tc_tr0, tc_wp_some, c1, c2, tc_bI])) (fun μ _ => tc_wp_of (by unfold tc_f7_section; simp [tc_wp_bd, tc_v7_in, tc_wp_some, c1, c2, tc_bI]))
  rcases Bool.eq_false_or_eq_true (tc_wi x3 0 9) with c3 | c3
  case inr => exact tc_J.same g (-2) (fun μ _ => tc_wp_of (by unfold tc_f6_section; simp [tc_wp_bd, tc_tr3, tc_tr0, tc_tr1, tc_wp_some, c1, c2, c3, tc_bI])) (fun μ _ => tc_wp_of (by unfold tc_f7_section; simp [tc_wp_bd, tc_v7_in, tc_wp_some, c1, c2, c3, tc_bI]))
  rcases Bool.eq_false_or_eq_true (tc_wi x4 1 9) with c4 | c4
  case inr => exact tc_J.same g (-2) (fun μ _ => tc_wp_of (by unfold tc_f6_section; simp [tc_wp_bd, tc_tr3, tc_tr0, tc_tr1, tc_tr2, tc_wp_some, c1, c2, c3, c4, tc_bI])) (fun μ _ => tc_wp_of (by unfold tc_f7_section; simp [tc_wp_bd, tc_v7_in, tc_wp_some, c1, c2, c3, c4, tc_bI]))
  by_cases c : Y.1.1 < 8
  case neg =>
    have e8 : Y.1.1 = 8 := by omega
    refine tc_J.same g (-4) (fun μ h => tc_wp_of ?_) (fun μ h => tc_wp_of ?_)
    · have e : ¬ nI Y.1.1 < 8 := by rw [e8]; decide
      unfold tc_f6_section
      simp [tc_wp_bd, tc_tr3, tc_tr0, tc_tr1, tc_tr2, tc_wp_some, c1, c2, c3, c4, tc_bI, h.1, e]
    · have e : nI Y.1.1 = 8 := by rw [e8]; rfl
      unfold tc_f7_section
      simp [tc_wp_bd, tc_v7_in, tc_wp_some, c1, c2, c3, c4, tc_bI, h.1, e]
  obtain ⟨k, -, hk, rfl⟩ := tc_wi_nI (a := 0) (b := 5) (by decide) (by decide) c1
  refine ⟨nI Y.1.1, tc_yS Y (nI k) x2 x3 x4, g.yS (by omega) c, fun μ h => ?_, fun μ h => ?_⟩
  · have e : nI Y.1.1 < 8 := by rw [tc_ltL (k := 8) (by omega) (by decide)]; exact c
    unfold tc_f6_section
    simp only [tc_wp_bd, tc_tr3, tc_tr0, tc_tr1, tc_tr2, tc_wp_some, tc_wp_if, c1, c2, c3, c4, tc_bI_eq0, Bool.true_eq_false, if_false, h.1, e, if_true]
    refine tc_wp_mono (tc_w5_addSection h c) (fun _ μ1 hh => ⟨?_, hh.1.c, hh.2⟩)
    rw [hh.2.1]
    show nI (Y.1.1 + 1) - 1 = nI Y.1.1
    rw [tc_sb1 (by omega)]; rfl
  · have e : ¬ nI Y.1.1 = 8 := by rw [tc_eqL (k := 8) (by omega) (by decide)]; omega
    obtain ⟨h1, h2, h3, ⟨h4, h5⟩, h6, h7, h8, h9⟩ := h
    unfold tc_f7_section
    simp only [tc_wp_bd, tc_v7_in, tc_wp_some, tc_wp_if, c1, c2, c3, c4, tc_bI_eq0, Bool.true_eq_false, if_false, h1, e]
    have hv : vp_in (nI Y.1.1) 8 := (tc_vin (by omega) (by decide)).mpr c
    have c0 : (nI Y.1.1).toNatClampNeg = Y.1.1 := tc_cl (by omega)
    have z : ∀ (m : tc_Mem) k i v j, k ≠ 50 → tc_wr m k i v 50 j = m 50 j := fun m k i v j hk => by rw [tc_wr_k (Ne.symm hk)]
    simp only [tc_wp_ck, tc_wp_lt, tc_wp_some, z _ 51 _ _ _ (by decide), z _ 52 _ _ _ (by decide), z _ 53 _ _ _ (by decide), z _ 54 _ _ _ (by decide), z _ 55 _ _ _ (by decide), z _ 56 _ _ _ (by decide), z _ 57 _ _ _ (by decide), h1, hv, c0, true_and, tc_ad1]
    refine ⟨?_, ((((((((tc_FM.rf.wr (by omega)).wr (by omega)).wr (by omega)).wr (by omega)).wr (by omega)).wr (by omega)).wr (by omega)).wr50 (by omega)), ?_, fun s hs => ?_, ?_, ⟨?_, h5.frame ?_ ?_ ?_⟩, ?_, h7, h8, fun q hq => ?_⟩
    · simp only [tc_wr_at, and_self, if_true]
      rw [tc_sb1 (by omega)]; rfl
    · simp [tc_wr_at, tc_yS]
    · have hs' : s < Y.1.1 + 1 := hs
      by_cases cs : s = Y.1.1
      · subst cs
        have hu := tc_tb0 g.1.2.1
        have ht := tc_tb0 g.1.2.2.1
        simp only [tc_yS]
        rw [hu, ht]
        simp [tc_wr_at, upd, tc_bI]
        rfl
      · have := h2 s (by omega)
        simpa [tc_wr_at, tc_yS, upd, cs] using this
    · simpa [tc_wr_at, tc_yS] using h3
    · simpa [tc_wr_at, tc_yS] using h4
    · simp [tc_wr_k]
    · simp [tc_wr_k]
    · simp [tc_wr_k]
    · simpa [tc_wr_at, tc_yS] using h6
    · have := h9 q hq
      exact ⟨Nat.lt_succ_of_lt this.1, this.2⟩
end S1
