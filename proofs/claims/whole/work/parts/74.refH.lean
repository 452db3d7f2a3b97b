section RH
variable {N : Nat} {μ : tc_Mem} {Y : tc_Y} {fl : tc_Fl} {w : Int32}
theorem tc_w7_goes (hN : 300 ≤ N) (h : tc_RM μ Y fl w) (g : tc_Gd Y) (tn : Bool) : tc_wp (tc_f7_goes N (tc_bI tn) μ) (tc_PG μ Y fl w (tc_mo Y tn)) := by
  have g1 := g.1
  -- all come to the queue
  have k2 : ∀ (d f i : Nat) (μ1 : tc_Mem), i + d = Y.1.1 → d < f → tc_FG μ μ1 → tc_RM μ1 Y fl w → tc_RB μ1 ((tc_q0 Y.1.1 tn).take i) → (∀ s, s < Y.1.1 → μ1 70 s = tc_bI (Y.1.2.1.testBit s)) → tc_wp (tc_f7_goes_45 N f (tc_bI tn) (nI i) μ1) (tc_PG μ Y fl w (tc_mo Y tn)) := by
    intro d
    induction d with
    | zero =>
      intro f i μ1 hi hf hF hR hB hG
      obtain ⟨f, rfl⟩ : ∃ f', f = f' + 1 := ⟨f - 1, by omega⟩
      rw [tc_f7_goes_45]; dsimp only
      rw [hR.1, if_pos (by rw [tc_le (by omega) (by omega)]; omega)]
      rw [show i = (tc_q0 Y.1.1 tn).length by rw [tc_q0_len]; omega, List.take_length] at hB
      unfold tc_f7_goes_79
      exact tc_w7_loop hN g 200 (tc_q0 Y.1.1 tn) Y.1.2.1 [] N μ1 (by unfold tc_me; rw [tc_q0_len]; simp; omega) (by omega) ⟨hF, hR, g.2.1, hB, tc_q0_lt _ _, by simp, fun i v hi => by simp at hi, hG⟩
    | succ d ih =>
      intro f i μ1 hi hf hF hR hB hG
      obtain ⟨f, rfl⟩ : ∃ f', f = f' + 1 := ⟨f - 1, by omega⟩
      rw [tc_f7_goes_45]; dsimp only
      rw [hR.1, if_neg (by rw [tc_le (by omega) (by omega)]; omega)]
      have hs := tc_q0_snoc (n := Y.1.1) (i := i) (tn := tn) (by omega)
      have hx : (if tn then Y.1.1 - 1 - i else i) < 8 := by cases tn <;> simp <;> omega
      have step : tc_wp (tc_f7_goes_70 N (tc_f7_goes_45 N f) (tc_bI tn) (nI i) (nI (if tn then Y.1.1 - 1 - i else i)) μ1) (tc_PG μ Y fl w (tc_mo Y tn)) := by
        unfold tc_f7_goes_70
        rw [tc_wp_bd]
        refine tc_wp_mono (tc_w7_comes hB hx) (fun _ μ2 hh => ?_)
        rw [hs] at hh
        rw [tc_ad1]
        obtain ⟨y1, y2, y3⟩ := hh
        exact ih f (i + 1) μ2 (by omega) (by omega) ⟨fun k k1 k2 k3 k4 k5 k6 k7 => by rw [y1 k k1 k4 k5]; exact hF.1 k k1 k2 k3 k4 k5 k6 k7, fun j j1 j2 => by rw [y2 j j2]; exact hF.2 j j1 j2⟩ (hR.frame (fun j hj => y2 j (by omega)) (fun k k1 k2 => y1 k (by omega) (by omega) (by omega))) y3 (fun s hs => by rw [y1 70 (by decide) (by decide) (by decide)]; exact hG s hs)
      rw [tc_wp_if]
      cases tn
      · rw [if_pos (show tc_bI false = 0 from rfl)]; exact step
      · rw [if_neg (show ¬ tc_bI true = 0 by decide), tc_sb1 (by omega), pk_sub (by omega)]; exact step
  -- nobody is in it
  have k1 : ∀ (d f i : Nat) (μ1 : tc_Mem), i + d = 8 → d < f → tc_FG μ μ1 → tc_RM μ1 Y fl w → (μ1 50 24 = 0 ∧ μ1 50 25 = 0) → (∀ s, s < i → μ1 69 s = 0) → (∀ s, s < i → μ1 70 s = vp_nar .boolean (μ1 56 s)) → tc_wp (tc_f7_goes_12 N f (tc_bI tn) (nI i) μ1) (tc_PG μ Y fl w (tc_mo Y tn)) := by
    intro d
    induction d with
    | zero =>
      intro f i μ1 hi hf hF hR hz h69 h70
      obtain ⟨f, rfl⟩ : ∃ f', f = f' + 1 := ⟨f - 1, by omega⟩
      rw [tc_f7_goes_12]; dsimp only
      rw [if_pos (by rw [tc_Lle (k := 8) (by omega) (by decide)]; omega)]
      unfold tc_f7_goes_43
      refine k2 Y.1.1 N 0 μ1 (by omega) (by omega) hF hR ?_ (fun s hs => by rw [h70 s (by omega), (hR.2.1 s hs).2.1, tc_nar])
      rw [List.take_zero]
      refine ⟨⟨List.nodup_nil, fun s hs => by simp at hs⟩, ?_, fun s hs => ?_⟩
      · rw [hz.1, hz.2]; exact tc_Ring.nil _
      · rw [h69 s (by omega)]; simp [tc_bI]
    | succ d ih =>
      intro f i μ1 hi hf hF hR hz h69 h70
      obtain ⟨f, rfl⟩ : ∃ f', f = f' + 1 := ⟨f - 1, by omega⟩
      rw [tc_f7_goes_12]; dsimp only
      rw [if_neg (by rw [tc_Lle (k := 8) (by omega) (by decide)]; omega)]
      simp only [tc_wp_ck, tc_wp_lt, tc_vin (show i < 2 ^ 31 by omega) (show 8 < 2 ^ 31 by decide), tc_cl (show i < 2 ^ 31 by omega), tc_ad1, show i < 8 by omega, true_and]
      generalize hm2 : tc_wr μ1 69 i (vp_nar .boolean 0) = μ2
      have a2 : ∀ k, k ≠ 69 → μ2 k = μ1 k := fun k hk => by rw [← hm2, tc_wr_k hk]
      have v2 : ∀ r, μ2 69 r = if r = i then 0 else μ1 69 r := fun r => by
        rw [← hm2, tc_wr_at]
        by_cases cr : r = i
        · rw [if_pos ⟨rfl, cr⟩, if_pos cr]; rfl
        · rw [if_neg (fun z => cr z.2), if_neg cr]
      generalize hm3 : tc_wr μ2 70 i (vp_nar .boolean (μ2 56 i)) = μ3
      have a3 : ∀ k, k ≠ 70 → μ3 k = μ2 k := fun k hk => by rw [← hm3, tc_wr_k hk]
      have v3 : ∀ r, μ3 70 r = if r = i then vp_nar .boolean (μ1 56 i) else μ1 70 r := fun r => by
        rw [← hm3, tc_wr_at]
        by_cases cr : r = i
        · rw [if_pos ⟨rfl, cr⟩, if_pos cr, a2 56 (by decide)]
        · rw [if_neg (fun z => cr z.2), if_neg cr, a2 70 (by decide)]
      refine ih f (i + 1) μ3 (by omega) (by omega) ⟨fun k k1 k2 k3 k4 k5 k6 k7 => by rw [a3 k k6, a2 k k5]; exact hF.1 k k1 k2 k3 k4 k5 k6 k7, fun j j1 j2 => by rw [a3 50 (by decide), a2 50 (by decide)]; exact hF.2 j j1 j2⟩ (hR.frame (fun j hj => by rw [a3 50 (by decide), a2 50 (by decide)]) (fun k k1 k2 => by rw [a3 k (by omega), a2 k (by omega)])) (by rw [a3 50 (by decide), a2 50 (by decide)]; exact hz) (fun s hs => ?_) (fun s hs => ?_)
      · rw [a3 69 (by decide), v2]
        by_cases c : s = i
        · rw [if_pos c]
        · rw [if_neg c]; exact h69 s (by omega)
      · rw [v3, a3 56 (by decide), a2 56 (by decide)]
        by_cases c : s = i
        · rw [if_pos c, c]
        · rw [if_neg c]; exact h70 s (by omega)
  unfold tc_f7_goes
  simp only [tc_wp_lt]
  generalize hm1 : tc_wr μ 50 24 0 = μ1
  have a1 : ∀ k, k ≠ 50 → μ1 k = μ k := fun k hk => by rw [← hm1, tc_wr_k hk]
  have d1 : ∀ j, j ≠ 24 → μ1 50 j = μ 50 j := fun j hj => by rw [← hm1, tc_wr_at, if_neg (by omega)]
  have v1 : μ1 50 24 = 0 := by rw [← hm1, tc_wr_at, if_pos ⟨rfl, rfl⟩]
  generalize hm2 : tc_wr μ1 50 25 0 = μ2
  have a2 : ∀ k, k ≠ 50 → μ2 k = μ1 k := fun k hk => by rw [← hm2, tc_wr_k hk]
  have d2 : ∀ j, j ≠ 25 → μ2 50 j = μ1 50 j := fun j hj => by rw [← hm2, tc_wr_at, if_neg (by omega)]
  have v2 : μ2 50 25 = 0 := by rw [← hm2, tc_wr_at, if_pos ⟨rfl, rfl⟩]
  exact k1 8 N 0 μ2 (by omega) (by omega) ⟨fun k k1 k2 k3 k4 k5 k6 k7 => by rw [a2 k k1, a1 k k1], fun j j1 j2 => by rw [d2 j j2, d1 j j1]⟩ (h.frame (fun j hj => by rw [d2 j (by omega), d1 j (by omega)]) (fun k k1 k2 => by rw [a2 k (by omega), a1 k (by omega)])) ⟨by rw [d2 24 (by decide)]; exact v1, v2⟩ (fun s hs => absurd hs (by omega)) (fun s hs => absurd hs (by omega))
end RH
