theorem tc_ILog.frame {μ μ' : tc_Mem} (h : tc_ILog μ) (h0 : μ' 0 5 = μ 0 5) (h26 : μ' 26 = μ 26) (h50 : μ' 50 14 = μ 50 14) (h62 : μ' 62 = μ 62) : tc_ILog μ' := by
  obtain ⟨lg, l1, l2, l3, l4, l5⟩ := h
  exact ⟨lg, l1, h0.trans l2, l3.frame h26, h50.trans l4, l5.frame h62⟩
theorem tc_ITape.frame {μ μ' : tc_Mem} (h : tc_ITape μ) (h42 : μ' 42 1 = μ 42 1) (h43 : μ' 43 = μ 43) (h50 : μ' 50 17 = μ 50 17) (h63 : μ' 63 = μ 63) : tc_ITape μ' := by
  obtain ⟨tp, l1, l2, l3, l4, l5, l6⟩ := h
  exact ⟨tp, l1, h42.trans l2, l3.frame h43, h50.trans l4, l5.frame h63, l6⟩
theorem tc_ISh.frame {μ μ' : tc_Mem} (h : tc_ISh μ) (hf : ∀ k, (47 ≤ k ∧ k ≤ 49) ∨ (64 ≤ k ∧ k ≤ 66) → μ' k = μ k) : tc_ISh μ' := by
  intro r hr
  rw [hf 47 (by omega), hf 48 (by omega), hf 49 (by omega), hf 64 (by omega), hf 65 (by omega), hf 66 (by omega)]
  exact h r hr
theorem tc_IIm.frame {μ μ' : tc_Mem} (h : tc_IIm μ) (h0 : μ' 0 2 = μ 0 2) (h50 : μ' 50 37 = μ 50 37) (hf : ∀ k, (12 ≤ k ∧ k ≤ 22) ∨ k = 76 → μ' k = μ k) : tc_IIm μ' := by
  unfold tc_IIm
  rw [h0, h50]
  rcases h with hI | ⟨i1, i2, Y, i3, i4, i5, i6⟩
  · exact Or.inl hI
  · refine Or.inr ⟨i1, i2, Y, i3, i4, i5.frame (fun k k1 k2 _ => hf k (by omega)), ?_⟩
    unfold tc_RI
    rw [hf 76 (by omega)]
    exact i6
/-! with the log -/
def tc_KC (μ : tc_Mem) (Y : tc_Y) (lg : List Int32) : Prop := tc_RC μ 1 Y ∧ μ 0 5 = nI lg.length ∧ tc_CH μ 26 lg
def tc_KM (μ : tc_Mem) (Y : tc_Y) (lg : List Int32) : Prop := tc_RM μ Y Y.2.2.2 (-1) ∧ μ 50 14 = nI lg.length ∧ tc_CH μ 62 lg
def tc_FCl (μ μ' : tc_Mem) : Prop := (∀ k, 11 < k → (k < 23 ∨ 26 < k) → μ' k = μ k) ∧ ∀ j, j ≠ 5 → μ' 0 j = μ 0 j
def tc_FMl (μ μ' : tc_Mem) : Prop := (∀ k, (k < 50 ∨ 62 < k) → (k < 67 ∨ 74 < k) → μ' k = μ k) ∧ ∀ j, (j = 17 ∨ (32 ≤ j ∧ j ≤ 38)) → μ' 50 j = μ 50 j
theorem tc_FCl.trans {μ μ1 μ2 : tc_Mem} (h : tc_FCl μ μ1) (h2 : tc_FCl μ1 μ2) : tc_FCl μ μ2 := ⟨fun k k1 k2 => (h2.1 k k1 k2).trans (h.1 k k1 k2), fun j hj => (h2.2 j hj).trans (h.2 j hj)⟩
theorem tc_FMl.trans {μ μ1 μ2 : tc_Mem} (h : tc_FMl μ μ1) (h2 : tc_FMl μ1 μ2) : tc_FMl μ μ2 := ⟨fun k k1 k2 => (h2.1 k k1 k2).trans (h.1 k k1 k2), fun j hj => (h2.2 j hj).trans (h.2 j hj)⟩
def tc_L (o1 o2 : tc_Mem → Option (Int32 × tc_Mem)) (Y : tc_Y) (lg : List Int32) : Prop := ∃ (r : Int32) (Y' : tc_Y) (lg' : List Int32), tc_G6 Y' ∧ lg'.length ≤ 40 ∧ (∀ μ, tc_KC μ Y lg → tc_wp (o1 μ) (fun r' μ1 => r' = r ∧ tc_FCl μ μ1 ∧ tc_KC μ1 Y' lg')) ∧ ∀ μ, tc_KM μ Y lg → tc_wp (o2 μ) (fun r' μ2 => r' = r ∧ tc_FMl μ μ2 ∧ tc_KM μ2 Y' lg')
section S4
variable {N : Nat} {Y : tc_Y} {x1 x2 x3 x4 : Int32} {lg : List Int32} {μ : tc_Mem}
theorem tc_L_moment (hN : 300 ≤ N) (g : tc_G6 Y) (hlg : lg.length ≤ 40) : tc_L (tc_f6_moment N) (tc_f7_moment N) Y lg := by
  have g1 := g.1.1
  have hc : ∀ μ, tc_RC μ 1 Y → tc_wp (tc_f0_passes N 23 1 μ) (tc_PP μ 23 1 Y (tc_mo Y false)) := fun μ h => tc_w0_passes hN (by unfold tc_Ap; omega) h g.1
  have hm : ∀ μ, tc_RM μ Y Y.2.2.2 (-1) → tc_wp (tc_f7_goes N 0 μ) (tc_PG μ Y Y.2.2.2 (-1) (tc_mo Y false)) := fun μ h => tc_w7_goes hN h g.1 false
  cases hmo : tc_mo Y false with
  | none =>
    rw [hmo] at hc hm
    refine ⟨-3, Y, lg, g, hlg, fun μ h => ?_, fun μ h => ?_⟩
    · unfold tc_f6_moment
      rw [tc_wp_bd]
      refine tc_wp_mono (hc μ h.1) (fun r μ1 hh => ?_)
      obtain ⟨hF, rfl, hR⟩ := hh
      rw [if_pos rfl, tc_wp_some]
      have f : ∀ k, 11 < k ∨ k < 1 → (k < 23 ∨ 25 < k) → μ1 k = μ k := fun k k1 k2 => hF k (by omega) (by omega) (by omega) (by omega) (by omega) (by omega)
      exact ⟨rfl, ⟨fun k k1 k2 => f k (by omega) (by omega), fun j _ => by rw [f 0 (by omega) (by omega)]⟩, hR, by rw [f 0 (by omega) (by omega)]; exact h.2.1, h.2.2.frame (f 26 (by omega) (by omega))⟩
    · unfold tc_f7_moment
      rw [tc_wp_bd]
      refine tc_wp_mono (hm μ h.1) (fun r μ1 hh => ?_)
      obtain ⟨hF, rfl, hR⟩ := hh
      rw [if_neg (by decide), tc_wp_some]
      exact ⟨rfl, ⟨fun k k1 k2 => hF.1 k (by omega) (by omega) (by omega) (by omega) (by omega) (by omega) (by omega), fun j hj => hF.2 j (by omega) (by omega)⟩, hR, by rw [hF.2 14 (by decide) (by decide)]; exact h.2.1, h.2.2.frame (hF.1 62 (by decide) (by decide) (by decide) (by decide) (by decide) (by decide) (by decide))⟩
  | some p =>
    obtain ⟨u, ch⟩ := p
    rw [hmo] at hc hm
    by_cases hu : u < 2 ^ Y.1.1 ∧ ch.length ≤ 40
    · obtain ⟨hu, hl⟩ := hu
      refine ⟨nI ch.length, tc_af Y u, ch, ⟨g.1.af hu, g.2⟩, hl, fun μ h => ?_, fun μ h => ?_⟩
      · unfold tc_f6_moment
        rw [tc_wp_bd]
        refine tc_wp_mono (hc μ h.1) (fun r μ1 hh => ?_)
        obtain ⟨hF, rfl, hR, -, e1, -, e2⟩ := hh
        rw [if_neg (by decide), tc_wp_lt, e1, tc_wp_cp]
        have f : ∀ k, 11 < k ∨ k < 1 → (k < 23 ∨ 25 < k) → μ1 k = μ k := fun k k1 k2 => hF k (by omega) (by omega) (by omega) (by omega) (by omega) (by omega)
        generalize hm3 : tc_wr μ1 0 5 (nI ch.length) = μ3
        have a3 : ∀ k, k ≠ 0 → μ3 k = μ1 k := fun k hk => by rw [← hm3, tc_wr_k hk]
        have v3 : μ3 0 5 = nI ch.length := by rw [← hm3, tc_wr_at, if_pos ⟨rfl, rfl⟩]
        have d3 : ∀ j, j ≠ 5 → μ3 0 j = μ1 0 j := fun j hj => by rw [← hm3, tc_wr_at, if_neg (by omega)]
        rw [v3, tc_cl (by omega), tc_c0, tc_wp_some]
        refine ⟨⟨by decide, by decide, tc_nn (by omega), by omega, by omega⟩, by rw [tc_row_k (by decide)]; exact v3, ⟨fun k k1 k2 => by rw [tc_row_k (by omega), a3 k (by omega), f k (by omega) (by omega)], fun j hj => by rw [tc_row_k (by decide), d3 j hj, f 0 (by omega) (by omega)]⟩, hR.frame (fun k k1 k2 _ => by rw [tc_row_k (by omega), a3 k (by omega)]), by rw [tc_row_k (by decide)]; exact v3, fun i v hi => ?_⟩
        rw [tc_row_s, tc_cpy0 (List.getElem?_eq_some_iff.mp hi).1, a3 24 (by decide)]
        exact e2 i v hi
      · unfold tc_f7_moment
        rw [tc_wp_bd]
        refine tc_wp_mono (hm μ h.1) (fun r μ1 hh => ?_)
        obtain ⟨hF, rfl, hR, -, -, e2⟩ := hh
        rw [if_pos (nI_pos' (by omega)), tc_wp_lt]
        generalize hm3 : tc_wr μ1 50 14 (nI ch.length) = μ3
        have a3 : ∀ k, k ≠ 50 → μ3 k = μ1 k := fun k hk => by rw [← hm3, tc_wr_k hk]
        have v3 : μ3 50 14 = nI ch.length := by rw [← hm3, tc_wr_at, if_pos ⟨rfl, rfl⟩]
        have d3 : ∀ j, j ≠ 14 → μ3 50 j = μ1 50 j := fun j hj => by rw [← hm3, tc_wr_at, if_neg (by omega)]
        have key : ∀ (d f i : Nat) (μ4 : tc_Mem), i + d = ch.length → d < f → (∀ k, k ≠ 62 → μ4 k = μ3 k) → (∀ j v, j < i → ch[j]? = some v → μ4 62 j = v) → tc_wp (tc_f7_moment_20 N f (nI ch.length) (nI i) μ4) (fun r' μ2 => r' = nI ch.length ∧ tc_FMl μ μ2 ∧ tc_KM μ2 (tc_af Y u) ch) := by
          intro d
          induction d with
          | zero =>
            intro f i μ4 hi hf hfr hv
            obtain ⟨f, rfl⟩ : ∃ f', f = f' + 1 := ⟨f - 1, by omega⟩
            obtain rfl : i = ch.length := by omega
            rw [tc_f7_moment_20]; dsimp only
            rw [if_pos (Int32.le_refl _), tc_wp_some]
            refine ⟨rfl, ⟨fun k k1 k2 => ?_, fun j hj => ?_⟩, hR.frame (fun j hj => by rw [hfr 50 (by decide), d3 j (by omega)]) (fun k k1 k2 => by rw [hfr k (by omega), a3 k (by omega)]), by rw [hfr 50 (by decide)]; exact v3, fun j v hj => hv j v (List.getElem?_eq_some_iff.mp hj).1 hj⟩
            · rw [hfr k (by omega)]
              rw [a3 k (by omega), hF.1 k (by omega) (by omega) (by omega) (by omega) (by omega) (by omega) (by omega)]
            · rw [hfr 50 (by decide), d3 j (by omega), hF.2 j (by omega) (by omega)]
          | succ d ih =>
            intro f i μ4 hi hf hfr hv
            obtain ⟨f, rfl⟩ : ∃ f', f = f' + 1 := ⟨f - 1, by omega⟩
            rw [tc_f7_moment_20]; dsimp only
            rw [if_neg (by rw [tc_le (by omega) (by omega)]; omega)]
            simp only [tc_wp_ck, tc_wp_lt, tc_vin (show i < 2 ^ 31 by omega) (show 40 < 2 ^ 31 by decide), tc_cl (show i < 2 ^ 31 by omega), show i < 40 by omega, true_and, tc_ad1]
            refine ih f (i + 1) _ (by omega) (by omega) (fun k hk => by rw [tc_wr_k hk]; exact hfr k hk) (fun j v hj hv2 => ?_)
            rw [tc_wr_at]
            by_cases c : j = i
            · rw [if_pos ⟨rfl, c⟩, hfr 71 (by decide), a3 71 (by decide), ← c]; exact e2 j v hv2
            · rw [if_neg (fun z => c z.2)]; exact hv j v (by omega) hv2
        exact key ch.length N 0 μ3 (by omega) (by omega) (fun _ _ => rfl) (fun j v hj => absurd hj (by omega))
    · refine ⟨0, Y, lg, g, hlg, fun μ h => ?_, fun μ h => ?_⟩
      · obtain ⟨_, _, _, hh⟩ := hc μ h.1
        exact absurd ⟨hh.2.2.2.1, hh.2.2.2.2.2.1⟩ hu
      · obtain ⟨_, _, _, hh⟩ := hm μ h.1
        exact absurd ⟨hh.2.2.2.1, hh.2.2.2.2.1⟩ hu
theorem tc_J.l {o1 o2 : tc_Mem → Option (Int32 × tc_Mem)} (h : tc_J o1 o2 Y) (hlg : lg.length ≤ 40) : tc_L o1 o2 Y lg := by
  obtain ⟨r, Y', G, k1, k2⟩ := h
  refine ⟨r, Y', lg, G, hlg, fun μ h => ?_, fun μ h => ?_⟩
  · refine tc_wp_mono (k1 μ h.1) (fun r' μ1 hh => ?_)
    obtain ⟨rfl, hF, hR⟩ := hh
    exact ⟨rfl, ⟨fun k q1 q2 => hF k (by omega), fun j _ => by rw [hF 0 (by omega)]⟩, hR, by rw [hF 0 (by omega)]; exact h.2.1, h.2.2.frame (hF 26 (by omega))⟩
  · refine tc_wp_mono (k2 μ h.1) (fun r' μ1 hh => ?_)
    obtain ⟨rfl, hF, hR⟩ := hh
    exact ⟨rfl, ⟨fun k q1 q2 => hF.1 k (by omega) (by omega), fun j hj => hF.2 j (by omega)⟩, hR, by rw [hF.2 14 (by omega)]; exact h.2.1, h.2.2.frame (hF.1 62 (by omega) (by omega))⟩
theorem tc_L.step {o1 o2 : tc_Mem → Option (Int32 × tc_Mem)} (h : ∀ lg : List Int32, lg.length ≤ 40 → tc_L o1 o2 Y lg) (hO : tc_IO μ) (hY : tc_IY μ Y) : ∃ (r : Int32) (μ1 μ2 : tc_Mem), o1 μ = some (r, μ1) ∧ o2 μ1 = some (r, μ2) ∧ tc_Inv μ2 := by
  obtain ⟨⟨lg, l1, l2, l3, l4, l5⟩, hT, hS, hI⟩ := hO
  obtain ⟨r, Y', lg', G, hlg, k1, k2⟩ := h lg l1
  refine tc_mk (tc_wp_mono (k1 μ ⟨hY.2.2.1, l2, l3⟩) (fun r1 μ1 hh => ?_))
  obtain ⟨rfl, f1, hc1, hc2, hc3⟩ := hh
  have f50 := f1.1 50 (by decide) (by decide)
  have f62 := f1.1 62 (by decide) (by decide)
  refine tc_wp_mono (k2 μ1 ⟨hY.2.2.2.frame (fun j _ => by rw [f50]) (fun k q1 q2 => f1.1 k (by omega) (by omega)), by rw [f50]; exact l4, l5.frame f62⟩) (fun r2 μ2 hh => ?_)
  obtain ⟨rfl, f2, hm1, hm2, hm3⟩ := hh
  have e0 : μ2 0 = μ1 0 := f2.1 0 (by decide) (by decide)
  have o : ∀ k, 11 < k → (k < 23 ∨ 26 < k) → (k < 50 ∨ 62 < k) → (k < 67 ∨ 74 < k) → μ2 k = μ k := fun k q1 q2 q3 q4 => by rw [f2.1 k q3 q4, f1.1 k q1 q2]
  have o50 : ∀ j, (j = 17 ∨ (32 ≤ j ∧ j ≤ 38)) → μ2 50 j = μ 50 j := fun j hj => by rw [f2.2 j hj, f50]
  refine ⟨rfl, ⟨Y', G.1, G.2, hc1.frame (fun k q1 q2 _ => f2.1 k (by omega) (by omega)), hm1⟩, ⟨lg', hlg, by rw [e0]; exact hc2, hc3.frame (f2.1 26 (by decide) (by decide)), hm2, hm3⟩, hT.frame (by rw [o 42 (by decide) (by decide) (by decide) (by decide)]) (o 43 (by decide) (by decide) (by decide) (by decide)) (o50 17 (by omega)) (o 63 (by decide) (by decide) (by decide) (by decide)), hS.frame (fun k hk => o k (by omega) (by omega) (by omega) (by omega)), hI.frame (by rw [e0]; exact f1.2 2 (by decide)) (o50 37 (by omega)) (fun k hk => o k (by omega) (by omega) (by omega) (by omega))⟩
end S4
