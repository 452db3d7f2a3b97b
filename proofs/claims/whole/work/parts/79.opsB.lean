section C9
variable {N t u : Nat} {μ : tc_Mem} {Y : tc_Y}
theorem tc_w1_become (hN : 300 ≤ N) (hd : t + 10 < u ∨ u + 10 < t) (h7 : μ (u + 7) 0 = nI Y.2.2.2.length) (hF : tc_RF μ (u + 8) (u + 9) (u + 10) Y.2.2.2) (g : tc_Gd Y) : tc_wp (tc_f1_become N t u μ) (fun _ μ' => (∀ k, (k < t + 7 ∨ t + 10 < k) → μ' k = μ k) ∧ μ' (t + 7) 0 = nI Y.2.2.2.length ∧ tc_RF μ' (t + 8) (t + 9) (t + 10) Y.2.2.2) := by
  have g5 := g.2.2.2.2.1
  have key : ∀ (d f i : Nat) (μ1 : tc_Mem), i + d = Y.2.2.2.length → d < f → (∀ k, (k < t + 7 ∨ t + 10 < k) → μ1 k = μ k) → μ1 (t + 7) 0 = nI Y.2.2.2.length → (∀ j q, j < i → Y.2.2.2[j]? = some q → tz_R3 (μ1 (t + 8)) (μ1 (t + 9)) (μ1 (t + 10)) q j) → tc_wp (tc_f1_become_10 N t u f (nI i) μ1) (fun _ μ' => (∀ k, (k < t + 7 ∨ t + 10 < k) → μ' k = μ k) ∧ μ' (t + 7) 0 = nI Y.2.2.2.length ∧ tc_RF μ' (t + 8) (t + 9) (t + 10) Y.2.2.2) := by
    intro d
    induction d with
    | zero =>
      intro f i μ1 hi hf hfr h7' hm
      obtain ⟨f, rfl⟩ : ∃ f', f = f' + 1 := ⟨f - 1, by omega⟩
      obtain rfl : i = Y.2.2.2.length := by omega
      rw [tc_f1_become_10]; dsimp only
      rw [h7', if_pos (Int32.le_refl _), tc_wp_some]
      exact ⟨hfr, h7', fun j q hq => hm j q (List.getElem?_eq_some_iff.mp hq).1 hq⟩
    | succ d ih =>
      intro f i μ1 hi hf hfr h7' hm
      obtain ⟨f, rfl⟩ : ∃ f', f = f' + 1 := ⟨f - 1, by omega⟩
      rw [tc_f1_become_10]; dsimp only
      rw [h7', if_neg (by rw [tc_le (by omega) (by omega)]; omega), tc_wp_bd]
      have hb := tc_w1_bringTo (N := N) (t := t) (u := u) (μ := μ1) (i := i) (j := i) (by omega) (by omega) (Or.inr hd)
      refine tc_wp_mono hb (fun _ μ2 hh => ?_)
      obtain ⟨b1, b2, b3, b4⟩ := hh
      rw [tc_ad1]
      refine ih f (i + 1) μ2 (by omega) (by omega) (fun k hk => by rw [b1 k (by omega) (by omega) (by omega)]; exact hfr k hk) (by rw [b1 _ (by omega) (by omega) (by omega)]; exact h7') (fun j q hj hq => ?_)
      rw [b2, b3, b4, hfr (u + 8) (by omega), hfr (u + 9) (by omega), hfr (u + 10) (by omega)]
      by_cases c : j = i
      · subst c
        have := hF j q hq
        simpa [tz_R3, tc_c1'] using this
      · have := hm j q (by omega) hq
        simpa [tz_R3, tc_c1', c] using this
  unfold tc_f1_become
  rw [tc_wp_lt]
  exact key Y.2.2.2.length N 0 _ (by omega) (by omega) (fun k hk => tc_wr_k (by omega)) (by rw [tc_wr_at, if_pos ⟨rfl, rfl⟩]; exact h7) (fun j q hj => absurd hj (by omega))
theorem tc_row_k {μ : tc_Mem} {k k' : Nat} {f : Nat → Int32} (h : k' ≠ k) : tc_row μ k f k' = μ k' := by unfold tc_row; rw [if_neg h]
theorem tc_row_s {μ : tc_Mem} {k : Nat} {f : Nat → Int32} : tc_row μ k f k = f := by unfold tc_row; rw [if_pos rfl]
theorem tc_cpy0 {f g : Nat → Int32} {n s : Nat} (h : s < n) : va_cpy f g 0 0 n s = f s := by unfold va_cpy; rw [if_pos (by omega)]; simp
theorem tc_w5_become (hN : 300 ≤ N) (hd : t + 10 < u ∨ u + 10 < t) (h : tc_RC μ u Y) (g : tc_Gd Y) : tc_wp (tc_f5_become N t u μ) (fun _ μ' => tc_FY μ μ' t ∧ tc_RC μ' t Y) := by
  have g1 := g.1
  obtain ⟨h1, h2, ⟨h3, h4, h5, h6, h7⟩, h8, h9⟩ := h
  unfold tc_f5_become
  rw [tc_wp_lt, h1]
  generalize hm1 : tc_wr μ t 0 (nI Y.1.1) = μ1
  have a1 : ∀ k, k ≠ t → μ1 k = μ k := fun k hk => by rw [← hm1, tc_wr_k hk]
  have v1 : μ1 t 0 = nI Y.1.1 := by rw [← hm1, tc_wr_at, if_pos ⟨rfl, rfl⟩]
  have cl0 : (0 : Int32).toNatClampNeg = 0 := rfl
  have cond : ¬ ((0 : Int32) < 0) ∧ ¬ ((0 : Int32) < 0) ∧ ¬ (nI Y.1.1 < 0) ∧ (0 : Int32).toNatClampNeg + (nI Y.1.1).toNatClampNeg ≤ 8 ∧ (0 : Int32).toNatClampNeg + (nI Y.1.1).toNatClampNeg ≤ 8 := by
    rw [tc_cl (by omega), cl0]
    exact ⟨by decide, by decide, tc_nn (by omega), by omega, by omega⟩
  rw [tc_wp_cp, v1]
  refine ⟨cond, ?_⟩
  rw [cl0, tc_cl (by omega)]
  generalize hm2 : tc_row μ1 (t + 1) (va_cpy (μ1 (u + 1)) (μ1 (t + 1)) 0 0 Y.1.1) = μ2
  have a2 : ∀ k, k ≠ t + 1 → μ2 k = μ1 k := fun k hk => by rw [← hm2, tc_row_k hk]
  have v2 : ∀ s, s < Y.1.1 → μ2 (t + 1) s = μ (u + 1) s := fun s hs => by rw [← hm2, tc_row_s, tc_cpy0 hs, a1 _ (by omega)]
  rw [tc_wp_cp, a2 t (by omega), v1]
  refine ⟨cond, ?_⟩
  rw [cl0, tc_cl (by omega)]
  generalize hm3 : tc_row μ2 (t + 2) (va_cpy (μ2 (u + 2)) (μ2 (t + 2)) 0 0 Y.1.1) = μ3
  have a3 : ∀ k, k ≠ t + 2 → μ3 k = μ2 k := fun k hk => by rw [← hm3, tc_row_k hk]
  have v3 : ∀ s, s < Y.1.1 → μ3 (t + 2) s = μ (u + 2) s := fun s hs => by rw [← hm3, tc_row_s, tc_cpy0 hs, a2 _ (by omega), a1 _ (by omega)]
  rw [tc_wp_cp, a3 t (by omega), a2 t (by omega), v1]
  refine ⟨cond, ?_⟩
  rw [cl0, tc_cl (by omega)]
  generalize hm4 : tc_row μ3 (t + 3) (va_cpy (μ3 (u + 3)) (μ3 (t + 3)) 0 0 Y.1.1) = μ4
  have a4 : ∀ k, k ≠ t + 3 → μ4 k = μ3 k := fun k hk => by rw [← hm4, tc_row_k hk]
  have v4 : ∀ s, s < Y.1.1 → μ4 (t + 3) s = μ (u + 3) s := fun s hs => by rw [← hm4, tc_row_s, tc_cpy0 hs, a3 _ (by omega), a2 _ (by omega), a1 _ (by omega)]
  rw [tc_wp_cp, a4 t (by omega), a3 t (by omega), a2 t (by omega), v1]
  refine ⟨cond, ?_⟩
  rw [cl0, tc_cl (by omega)]
  generalize hm5 : tc_row μ4 (t + 4) (va_cpy (μ4 (u + 4)) (μ4 (t + 4)) 0 0 Y.1.1) = μ5
  have a5 : ∀ k, k ≠ t + 4 → μ5 k = μ4 k := fun k hk => by rw [← hm5, tc_row_k hk]
  have v5 : ∀ s, s < Y.1.1 → μ5 (t + 4) s = μ (u + 4) s := fun s hs => by rw [← hm5, tc_row_s, tc_cpy0 hs, a4 _ (by omega), a3 _ (by omega), a2 _ (by omega), a1 _ (by omega)]
  rw [tc_wp_cp, a5 t (by omega), a4 t (by omega), a3 t (by omega), a2 t (by omega), v1]
  refine ⟨cond, ?_⟩
  rw [cl0, tc_cl (by omega)]
  generalize hm6 : tc_row μ5 (t + 5) (va_cpy (μ5 (u + 5)) (μ5 (t + 5)) 0 0 Y.1.1) = μ6
  have a6 : ∀ k, k ≠ t + 5 → μ6 k = μ5 k := fun k hk => by rw [← hm6, tc_row_k hk]
  have v6 : ∀ s, s < Y.1.1 → μ6 (t + 5) s = μ (u + 5) s := fun s hs => by rw [← hm6, tc_row_s, tc_cpy0 hs, a5 _ (by omega), a4 _ (by omega), a3 _ (by omega), a2 _ (by omega), a1 _ (by omega)]
  have w6 : ∀ k, (k < t ∨ t + 5 < k) → μ6 k = μ k := fun k hk => by rw [a6 k (by omega), a5 k (by omega), a4 k (by omega), a3 k (by omega), a2 k (by omega), a1 k (by omega)]
  have t6 : μ6 t 0 = nI Y.1.1 := by rw [a6 t (by omega), a5 t (by omega), a4 t (by omega), a3 t (by omega), a2 t (by omega), v1]
  have b1 : ∀ s, s < Y.1.1 → μ6 (t + 1) s = μ (u + 1) s := fun s hs => by rw [a6 _ (by omega), a5 _ (by omega), a4 _ (by omega), a3 _ (by omega)]; exact v2 s hs
  have b2 : ∀ s, s < Y.1.1 → μ6 (t + 2) s = μ (u + 2) s := fun s hs => by rw [a6 _ (by omega), a5 _ (by omega), a4 _ (by omega)]; exact v3 s hs
  have b3 : ∀ s, s < Y.1.1 → μ6 (t + 3) s = μ (u + 3) s := fun s hs => by rw [a6 _ (by omega), a5 _ (by omega)]; exact v4 s hs
  have b4 : ∀ s, s < Y.1.1 → μ6 (t + 4) s = μ (u + 4) s := fun s hs => by rw [a6 _ (by omega)]; exact v5 s hs
  clear a1 a2 a3 a4 a5 a6 v1 v2 v3 v4 v5 hm1 hm2 hm3 hm4 hm5 hm6
  rw [tc_wp_bd]
  refine tc_wp_mono (tc_w1_become (N := N) (μ := μ6) (Y := Y) hN hd (by rw [w6 _ (by omega)]; exact h8) (h9.frame (w6 _ (by omega)) (w6 _ (by omega)) (w6 _ (by omega))) g) (fun _ μ8 hh => ?_)
  obtain ⟨c1, c2, c3⟩ := hh
  simp only [tc_wp_lt, tc_wp_some]
  have hu : u ≠ t := by omega
  have eu : ∀ j, μ8 u j = μ u j := fun j => by rw [c1 u (by omega), w6 u (by omega)]
  have z : ∀ (m : tc_Mem) i v j, tc_wr m t i v u j = m u j := fun m i v j => by rw [tc_wr_k hu]
  simp only [z, eu, h3, h4, h5, h6, h7]
  have hF8 : tc_FY μ μ8 t := fun k hk => by rw [c1 k (by omega), w6 k (by omega)]
  have tt : t ≤ t ∧ t ≤ t + 10 := by omega
  refine ⟨((((hF8.wr tt).wr tt).wr tt).wr tt).wr tt, ?_, fun s hs => ?_, ?_, ?_, c3.frame ?_ ?_ ?_⟩
  · have : μ8 t 0 = nI Y.1.1 := by rw [c1 t (by omega)]; exact t6
    simpa [tc_wr_at] using this
  · have := h2 s hs
    rw [← b1 s hs, ← b2 s hs, ← b3 s hs, ← b4 s hs, ← v6 s hs, ← c1 (t + 1) (by omega), ← c1 (t + 2) (by omega), ← c1 (t + 3) (by omega), ← c1 (t + 4) (by omega), ← c1 (t + 5) (by omega)] at this
    simpa [tc_wr_at] using this
  · simp [tc_wr_at]
  · simpa [tc_wr_at] using c2
  · simp [tc_wr_k]
  · simp [tc_wr_k]
  · simp [tc_wr_k]
def tc_dr (Y : tc_Y) : tc_Y := ((Y.1.1 - 1, tc_clr Y.1.2.1 (Y.1.1 - 1), tc_clr Y.1.2.2 (Y.1.1 - 1)), Y.2.1, Y.2.2.1, Y.2.2.2.filter (fun q => !decide (q.2.1 = Y.1.1 - 1)))
theorem tc_w5_removeLast (hN : 300 ≤ N) (h : tc_RC μ t Y) (g : tc_Gd Y) (hn : 0 < Y.1.1) : tc_wp (tc_f5_removeLast N t μ) (fun _ μ' => tc_FY μ μ' t ∧ tc_RC μ' t (tc_dr Y)) := by
  have g1 := g.1
  unfold tc_f5_removeLast
  have e1 := h.1
  rw [e1, if_neg (by rw [tc_eqL (k := 0) (by omega) (by decide)]; omega), tc_sb1 hn, tc_wp_lt]
  generalize hm1 : tc_wr μ t 0 (nI (Y.1.1 - 1)) = μ1
  have a1 : ∀ k, k ≠ t → μ1 k = μ k := fun k hk => by rw [← hm1, tc_wr_k hk]
  have v1 : μ1 t 0 = nI (Y.1.1 - 1) := by rw [← hm1, tc_wr_at, if_pos ⟨rfl, rfl⟩]
  have d1 : ∀ j, j ≠ 0 → μ1 t j = μ t j := fun j hj => by rw [← hm1, tc_wr_at, if_neg (by omega)]
  unfold tc_f6_withBit
  simp only [tc_wp_bd, if_true, tc_wp_some, tc_wp_lt, v1, d1 8 (by decide), h.2.2.1.1, tc_clb _ g.u _ (show Y.1.1 - 1 < 8 by omega)]
  generalize hm2 : tc_wr μ1 t 8 (nI (tc_clr Y.1.2.1 (Y.1.1 - 1))) = μ2
  have a2 : ∀ k, k ≠ t → μ2 k = μ1 k := fun k hk => by rw [← hm2, tc_wr_k hk]
  have v2 : μ2 t 8 = nI (tc_clr Y.1.2.1 (Y.1.1 - 1)) := by rw [← hm2, tc_wr_at, if_pos ⟨rfl, rfl⟩]
  have d2 : ∀ j, j ≠ 8 → μ2 t j = μ1 t j := fun j hj => by rw [← hm2, tc_wr_at, if_neg (by omega)]
  simp only [d2 0 (by decide), v1, d2 9 (by decide), d1 9 (by decide), h.2.2.1.2.1, tc_clb _ g.t _ (show Y.1.1 - 1 < 8 by omega)]
  generalize hm3 : tc_wr μ2 t 9 (nI (tc_clr Y.1.2.2 (Y.1.1 - 1))) = μ3
  have a3 : ∀ k, k ≠ t → μ3 k = μ2 k := fun k hk => by rw [← hm3, tc_wr_k hk]
  have v3 : μ3 t 9 = nI (tc_clr Y.1.2.2 (Y.1.1 - 1)) := by rw [← hm3, tc_wr_at, if_pos ⟨rfl, rfl⟩]
  have d3 : ∀ j, j ≠ 9 → μ3 t j = μ2 t j := fun j hj => by rw [← hm3, tc_wr_at, if_neg (by omega)]
  rw [d3 0 (by decide), d2 0 (by decide), v1]
  have w3 : ∀ k, k ≠ t → μ3 k = μ k := fun k hk => by rw [a3 k hk, a2 k hk, a1 k hk]
  obtain ⟨h1, h2, h3, h6, h7⟩ := h
  -- the faults are as they were: a yard of the same faults
  have hR : tc_RC μ3 t (((Y.1.1 - 1, tc_clr Y.1.2.1 (Y.1.1 - 1), tc_clr Y.1.2.2 (Y.1.1 - 1)), Y.2.1, Y.2.2.1, Y.2.2.2) : tc_Y) := by
    refine ⟨by rw [d3 0 (by decide), d2 0 (by decide)]; exact v1, fun s hs => ?_, ⟨by rw [d3 8 (by decide)]; exact v2, v3, ?_⟩, by rw [w3 _ (by omega)]; exact h6, h7.frame (w3 _ (by omega)) (w3 _ (by omega)) (w3 _ (by omega))⟩
    · have hs' : s < Y.1.1 := by have : s < Y.1.1 - 1 := hs; omega
      rw [w3 _ (by omega), w3 _ (by omega), w3 _ (by omega), w3 _ (by omega), w3 _ (by omega)]; exact h2 s hs'
    · rw [d3 10 (by decide), d3 11 (by decide), d3 12 (by decide), d2 10 (by decide), d2 11 (by decide), d2 12 (by decide), d1 10 (by decide), d1 11 (by decide), d1 12 (by decide)]; exact h3.2.2
  clear hm1 hm2 hm3
  have hRm : tc_wp (tc_f1_removeAt N t (nI (Y.1.1 - 1)) μ3) (fun r μ' => r = nI (Y.2.2.2.length - (Y.2.2.2.filter (fun q => !decide (q.2.1 = Y.1.1 - 1))).length) ∧ (∀ k, (k < t + 7 ∨ t + 10 < k) → μ' k = μ3 k) ∧ μ' (t + 7) 0 = nI (Y.2.2.2.filter (fun q => !decide (q.2.1 = Y.1.1 - 1))).length ∧ tc_RF μ' (t + 8) (t + 9) (t + 10) (Y.2.2.2.filter (fun q => !decide (q.2.1 = Y.1.1 - 1)))) := by
    have hYr : tc_RC μ3 t ((Y.1.1 - 1, tc_clr Y.1.2.1 (Y.1.1 - 1), tc_clr Y.1.2.2 (Y.1.1 - 1)), Y.2.1, Y.2.2.1, Y.2.2.2) := hR
    exact tz_removeAt hN hR.2.2.2.1 hR.2.2.2.2 g.2.2.2.2.1 g.p8 (by omega) (fun q => rfl)
  refine tc_wp_mono hRm (fun _ μ4 hh => ?_)
  obtain ⟨-, b1, b2, b3⟩ := hh
  obtain ⟨q1, q2, q3, q4, q5⟩ := hR
  refine ⟨fun k hk => by rw [b1 k (by omega), w3 k (by omega)], by rw [b1 t (by omega)]; exact q1, fun s hs => ?_, by rw [b1 t (by omega)]; exact q3, b2, b3⟩
  rw [b1 (t + 1) (by omega), b1 (t + 2) (by omega), b1 (t + 3) (by omega), b1 (t + 4) (by omega), b1 (t + 5) (by omega)]
  exact q2 s hs
end C9
