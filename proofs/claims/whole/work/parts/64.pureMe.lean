
section CL4
variable {N t : Nat} {μ : tc_Mem} {Y : tc_Y}
theorem tc_w5_shunt (hN : 300 ≤ N) (h : tc_RC μ t Y) (g : tc_Gd Y) {r : Nat} (hr : r < 256) {V : Nat → Int32} (hV : ∀ s, s < Y.1.1 → μ (t + 6) s = V s) : tc_wp (tc_f5_shunt N t (nI r) μ) (fun _ μ' => (∀ k, k ≠ t + 6 → μ' k = μ k) ∧ ∀ s, s < Y.1.1 → μ' (t + 6) s = if Y.1.2.2.testBit s then (if r.testBit s then V s / 4 else 0) else V s) := by
  have g1 := g.1
  have key : ∀ (d f i : Nat) (μ1 : tc_Mem), i + d = Y.1.1 → d < f → (∀ k, k ≠ t + 6 → μ1 k = μ k) → (∀ s, s < Y.1.1 → μ1 (t + 6) s = if s < i then (if Y.1.2.2.testBit s then (if r.testBit s then V s / 4 else 0) else V s) else V s) → tc_wp (tc_f5_shunt_2 N t f (nI r) (nI i) μ1) (fun _ μ' => (∀ k, k ≠ t + 6 → μ' k = μ k) ∧ ∀ s, s < Y.1.1 → μ' (t + 6) s = if Y.1.2.2.testBit s then (if r.testBit s then V s / 4 else 0) else V s) := by
    intro d
    induction d with
    | zero =>
      intro f i μ1 hi hf hfr hv
      obtain ⟨f, rfl⟩ : ∃ f', f = f' + 1 := ⟨f - 1, by omega⟩
      have h1 := h.frame (μ' := μ1) (fun k _ _ hk => hfr k hk)
      rw [tc_f5_shunt_2]; dsimp only
      rw [h1.1, if_pos (by rw [tc_le (by omega) (by omega)]; omega), tc_wp_some]
      exact ⟨hfr, fun s hs => by rw [hv s hs, if_pos (show s < i by omega)]⟩
    | succ d ih =>
      intro f i μ1 hi hf hfr hv
      obtain ⟨f, rfl⟩ : ∃ f', f = f' + 1 := ⟨f - 1, by omega⟩
      have h1 := h.frame (μ' := μ1) (fun k _ _ hk => hfr k hk)
      rw [tc_f5_shunt_2]; dsimp only
      rw [h1.1, if_neg (by rw [tc_le (by omega) (by omega)]; omega), h1.2.2.1.2.1]
      simp only [tc_wp_lt, tc_wp_if, tc_wp_ck, tc_f5_shunt_46, tc_andb _ g.t _ (show i < 8 by omega), tc_andb _ hr _ (show i < 8 by omega), tc_vin (show i < 2 ^ 31 by omega) (show 8 < 2 ^ 31 by decide), tc_cl (show i < 2 ^ 31 by omega), tc_ad1, show i < 8 by omega, true_and]
      have step : ∀ v : Int32, v = (if Y.1.2.2.testBit i then (if r.testBit i then V i / 4 else 0) else V i) → tc_wp (tc_f5_shunt_2 N t f (nI r) (nI (i + 1)) (tc_wr μ1 (t + 6) i v)) (fun _ μ' => (∀ k, k ≠ t + 6 → μ' k = μ k) ∧ ∀ s, s < Y.1.1 → μ' (t + 6) s = if Y.1.2.2.testBit s then (if r.testBit s then V s / 4 else 0) else V s) := by
        intro v hvv
        refine ih f (i + 1) _ (by omega) (by omega) (fun k hk => by rw [tc_wr_k hk]; exact hfr k hk) (fun s hs => ?_)
        rw [tc_wr_at]
        by_cases c : s = i
        · subst c; rw [if_pos ⟨rfl, rfl⟩, if_pos (show s < s + 1 by omega)]; exact hvv
        · rw [if_neg (fun q => c q.2), hv s hs]
          by_cases c2 : s < i
          · rw [if_pos c2, if_pos (show s < i + 1 by omega)]
          · rw [if_neg c2, if_neg (show ¬ s < i + 1 by omega)]
      cases hb : Y.1.2.2.testBit i
      · simp only [if_true]
        refine ih f (i + 1) μ1 (by omega) (by omega) hfr (fun s hs => ?_)
        rw [hv s hs]
        by_cases c : s = i
        · subst c; rw [if_neg (show ¬ s < s by omega), if_pos (show s < s + 1 by omega), hb]; rfl
        · by_cases c2 : s < i
          · rw [if_pos c2, if_pos (show s < i + 1 by omega)]
          · rw [if_neg c2, if_neg (show ¬ s < i + 1 by omega)]
      · simp only [Bool.true_eq_false, if_false]
        cases hb2 : r.testBit i
        · simp only [if_true]
          exact step 0 (by rw [hb, hb2]; rfl)
        · simp only [Bool.true_eq_false, if_false]
          exact step _ (by rw [hb, hb2, hv i (by omega), if_neg (show ¬ i < i by omega)]; rfl)
  exact key Y.1.1 N 0 μ (by omega) (by omega) (fun _ _ => rfl) (fun s hs => by rw [hV s hs, if_neg (show ¬ s < 0 by omega)])
theorem tc_w5_measure (hN : 300 ≤ N) (h : tc_RC μ t Y) (g : tc_Gd Y) : tc_wp (tc_f5_measure N t μ) (fun _ μ' => (∀ k, k ≠ t + 6 → μ' k = μ k) ∧ ∀ s, s < Y.1.1 → μ' (t + 6) s = tc_cu Y.2.2.1 Y.2.1.2.2 Y.1.2.2 Y.2.2.2 s) := by
  have g1 := g.1
  have g5 := g.2.2.2.2.1
  -- behind the faults
  have k3 : ∀ (μ1 : tc_Mem), (∀ k, k ≠ t + 6 → μ1 k = μ k) → (∀ s, s < Y.1.1 → μ1 (t + 6) s = tc_cv Y.2.2.1 Y.2.1.2.2 Y.2.2.2 s) → tc_wp (tc_f5_measure_100 N t μ1) (fun _ μ' => (∀ k, k ≠ t + 6 → μ' k = μ k) ∧ ∀ s, s < Y.1.1 → μ' (t + 6) s = tc_cu Y.2.2.1 Y.2.1.2.2 Y.1.2.2 Y.2.2.2 s) := by
    intro μ1 hfr hv
    have h1 := h.frame (μ' := μ1) (fun k _ _ hk => hfr k hk)
    unfold tc_f5_measure_100
    rw [h1.2.2.1.2.1, tc_wp_if]
    by_cases c : nI Y.1.2.2 = 0
    · rw [if_pos c, tc_wp_some]
      have c2 : Y.1.2.2 = 0 := (tc_eqL (Nat.lt_trans g.t (by decide)) (by decide)).mp c
      exact ⟨hfr, fun s hs => by rw [hv s hs]; unfold tc_cu; rw [c2, Nat.zero_testBit]; rfl⟩
    · rw [if_neg c]
      have hpm := tc_pm_all (3 : Int32) g.p8
      simp only [tc_wp_bd, tc_v1_placesOf hN h1 g, tc_wp_some]
      refine tc_wp_mono (tc_w5_shunt hN h1 g hpm.1 hv) (fun _ μ2 hh => ⟨fun k hk => by rw [hh.1 k hk]; exact hfr k hk, fun s hs => ?_⟩)
      rw [hh.2 s hs, hpm.2 s (by omega)]
      rfl
  have k2 : ∀ (d f i : Nat) (μ1 : tc_Mem), i + d = Y.2.2.2.length → d < f → (∀ k, k ≠ t + 6 → μ1 k = μ k) → (∀ s, s < Y.1.1 → μ1 (t + 6) s = tc_cv Y.2.2.1 Y.2.1.2.2 (Y.2.2.2.take i) s) → tc_wp (tc_f5_measure_40 N t f (nI i) μ1) (fun _ μ' => (∀ k, k ≠ t + 6 → μ' k = μ k) ∧ ∀ s, s < Y.1.1 → μ' (t + 6) s = tc_cu Y.2.2.1 Y.2.1.2.2 Y.1.2.2 Y.2.2.2 s) := by
    intro d
    induction d with
    | zero =>
      intro f i μ1 hi hf hfr hv
      obtain ⟨f, rfl⟩ : ∃ f', f = f' + 1 := ⟨f - 1, by omega⟩
      have h1 := h.frame (μ' := μ1) (fun k _ _ hk => hfr k hk)
      rw [tc_f5_measure_40]; dsimp only
      rw [h1.2.2.2.1, if_pos (by rw [tc_le (by omega) (by omega)]; omega)]
      refine k3 μ1 hfr (fun s hs => ?_)
      rw [hv s hs, show i = Y.2.2.2.length by omega, List.take_length]
    | succ d ih =>
      intro f i μ1 hi hf hfr hv
      obtain ⟨f, rfl⟩ : ∃ f', f = f' + 1 := ⟨f - 1, by omega⟩
      have h1 := h.frame (μ' := μ1) (fun k _ _ hk => hfr k hk)
      obtain ⟨q, hq⟩ : ∃ q, Y.2.2.2[i]? = some q := ⟨Y.2.2.2[i]'(by omega), List.getElem?_eq_getElem (by omega)⟩
      obtain ⟨r1, r2, r3⟩ := h1.2.2.2.2 i q hq
      have hqn := (g.2.2.2.2.2 q (List.mem_of_getElem? hq)).1
      rw [tc_f5_measure_40]; dsimp only
      rw [h1.2.2.2.1, if_neg (by rw [tc_le (by omega) (by omega)]; omega)]
      simp only [tc_wp_lt, tc_wp_ck, tc_wp_bd, tc_vin (show i < 2 ^ 31 by omega) (show 15 < 2 ^ 31 by decide), tc_cl (show i < 2 ^ 31 by omega), r2, tc_v5_has h1 g (show q.2.1 < 2 ^ 31 by omega), tc_wp_some, tc_bI_eq0, hqn, decide_true, Bool.true_eq_false, if_false, tc_wp_if, tc_v5_leak h1 g hqn, tc_v1_change h1 g hq, tc_vin (show q.2.1 < 2 ^ 31 by omega) (show 8 < 2 ^ 31 by decide), tc_cl (show q.2.1 < 2 ^ 31 by omega), tc_ad1, show i < 15 by omega, show q.2.1 < 8 by omega, true_and]
      refine ih f (i + 1) _ (by omega) (by omega) (fun k hk => by rw [tc_wr_k hk]; exact hfr k hk) (fun s hs => ?_)
      rw [tc_wr_at, tc_take1 hq]
      unfold tc_cv
      rw [List.foldl_append]
      by_cases c : s = q.2.1
      · subst c
        rw [if_pos ⟨rfl, rfl⟩, hv q.2.1 hqn]
        rfl
      · rw [if_neg (fun z => c z.2), hv s hs]
        show _ = tc_fs _ _ _ _
        unfold tc_fs
        rw [if_neg (fun z => c z.symm)]
        rfl
  have k1 : ∀ (d f i : Nat) (μ1 : tc_Mem), i + d = Y.1.1 → d < f → (∀ k, k ≠ t + 6 → μ1 k = μ k) → (∀ s, s < i → μ1 (t + 6) s = tc_cv Y.2.2.1 Y.2.1.2.2 [] s) → tc_wp (tc_f5_measure_2 N t f (nI i) μ1) (fun _ μ' => (∀ k, k ≠ t + 6 → μ' k = μ k) ∧ ∀ s, s < Y.1.1 → μ' (t + 6) s = tc_cu Y.2.2.1 Y.2.1.2.2 Y.1.2.2 Y.2.2.2 s) := by
    intro d
    induction d with
    | zero =>
      intro f i μ1 hi hf hfr hv
      obtain ⟨f, rfl⟩ : ∃ f', f = f' + 1 := ⟨f - 1, by omega⟩
      have h1 := h.frame (μ' := μ1) (fun k _ _ hk => hfr k hk)
      rw [tc_f5_measure_2]; dsimp only
      rw [h1.1, if_pos (by rw [tc_le (by omega) (by omega)]; omega)]
      exact k2 Y.2.2.2.length N 0 μ1 (by omega) (by omega) hfr (fun s hs => by rw [List.take_zero]; exact hv s (by omega))
    | succ d ih =>
      intro f i μ1 hi hf hfr hv
      obtain ⟨f, rfl⟩ : ∃ f', f = f' + 1 := ⟨f - 1, by omega⟩
      have h1 := h.frame (μ' := μ1) (fun k _ _ hk => hfr k hk)
      have h2 := h1.2.1 i (by omega)
      rw [tc_f5_measure_2]; dsimp only
      rw [h1.1, if_neg (by rw [tc_le (by omega) (by omega)]; omega)]
      simp only [tc_wp_lt, tc_wp_ck, tc_wp_bd, tc_vin (show i < 2 ^ 31 by omega) (show 8 < 2 ^ 31 by decide), tc_cl (show i < 2 ^ 31 by omega), tc_v5_leak h1 g (show i < Y.1.1 by omega), tc_wp_some, tc_ad1, show i < 8 by omega, true_and, h2.2.1]
      refine ih f (i + 1) _ (by omega) (by omega) (fun k hk => by rw [tc_wr_k hk]; exact hfr k hk) (fun s hs => ?_)
      rw [tc_wr_at]
      by_cases c : s = i
      · subst c; rw [if_pos ⟨rfl, rfl⟩]; rfl
      · rw [if_neg (fun z => c z.2), hv s (by omega)]
  exact k1 Y.1.1 N 0 μ (by omega) (by omega) (fun _ _ => rfl) (fun s hs => absurd hs (by omega))
end CL4
