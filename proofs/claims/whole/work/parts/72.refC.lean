theorem tc_nar (b : Bool) : vp_nar .boolean (tc_bI b) = tc_bI b := by cases b <;> rfl
theorem tc_RM.frame {μ μ' : tc_Mem} {Y : tc_Y} {fl : tc_Fl} {w : Int32} (h : tc_RM μ Y fl w) (h50 : ∀ j, j = 0 ∨ j = 9 ∨ j = 13 → μ' 50 j = μ 50 j) (hf : ∀ k, 51 ≤ k → k ≤ 61 → μ' k = μ k) : tc_RM μ' Y fl w := by
  obtain ⟨h1, h2, h3, ⟨h4, h5⟩, h6, h7⟩ := h
  refine ⟨by rw [h50 0 (by simp)]; exact h1, fun s hs => ?_, by rw [hf 58 (by omega) (by omega)]; exact h3, ⟨by rw [h50 9 (by simp)]; exact h4, h5.frame (hf _ (by omega) (by omega)) (hf _ (by omega) (by omega)) (hf _ (by omega) (by omega))⟩, by rw [h50 13 (by simp)]; exact h6, h7⟩
  rw [hf 51 (by omega) (by omega), hf 52 (by omega) (by omega), hf 53 (by omega) (by omega), hf 54 (by omega) (by omega), hf 55 (by omega) (by omega), hf 56 (by omega) (by omega), hf 57 (by omega) (by omega)]
  exact h2 s hs
/-- the relays are laid anew -/
theorem tc_RM.up {μ μ' : tc_Mem} {Y : tc_Y} {fl : tc_Fl} {w : Int32} {u : Nat} (h : tc_RM μ Y fl w) (h50 : ∀ j, j = 0 ∨ j = 9 ∨ j = 13 → μ' 50 j = μ 50 j) (hf : ∀ k, 51 ≤ k → k ≤ 61 → k ≠ 56 → μ' k = μ k) (hu : ∀ s, s < Y.1.1 → μ' 56 s = tc_bI (u.testBit s)) : tc_RM μ' (tc_up Y u) fl w := by
  obtain ⟨h1, h2, h3, ⟨h4, h5⟩, h6, h7⟩ := h
  refine ⟨by rw [h50 0 (by simp)]; exact h1, fun s hs => ?_, by rw [hf 58 (by omega) (by omega) (by omega)]; exact h3, ⟨by rw [h50 9 (by simp)]; exact h4, h5.frame (hf _ (by omega) (by omega) (by omega)) (hf _ (by omega) (by omega) (by omega)) (hf _ (by omega) (by omega) (by omega))⟩, by rw [h50 13 (by simp)]; exact h6, h7⟩
  rw [hf 51 (by omega) (by omega) (by omega), hf 52 (by omega) (by omega) (by omega), hf 53 (by omega) (by omega) (by omega), hf 54 (by omega) (by omega) (by omega), hf 55 (by omega) (by omega) (by omega), hf 57 (by omega) (by omega) (by omega)]
  exact ⟨(h2 s hs).1, hu s hs, (h2 s hs).2.2⟩
def tc_wu (Y : tc_Y) (W : Nat → Int32) : tc_Y := (Y.1, Y.2.1, (Y.2.2.1.1, Y.2.2.1.2.1, Y.2.2.1.2.2.1, Y.2.2.1.2.2.2.1, W), Y.2.2.2)
theorem tc_RM.wu {μ μ' : tc_Mem} {Y : tc_Y} {fl : tc_Fl} {w : Int32} {W : Nat → Int32} (h : tc_RM μ Y fl w) (h50 : ∀ j, j = 0 ∨ j = 9 ∨ j = 13 → μ' 50 j = μ 50 j) (hf : ∀ k, 51 ≤ k → k ≤ 61 → k ≠ 55 → μ' k = μ k) (hu : ∀ s, s < Y.1.1 → μ' 55 s = W s) : tc_RM μ' (tc_wu Y W) fl w := by
  obtain ⟨h1, h2, h3, ⟨h4, h5⟩, h6, h7⟩ := h
  refine ⟨by rw [h50 0 (by simp)]; exact h1, fun s hs => ?_, by rw [hf 58 (by omega) (by omega) (by omega)]; exact h3, ⟨by rw [h50 9 (by simp)]; exact h4, h5.frame (hf _ (by omega) (by omega) (by omega)) (hf _ (by omega) (by omega) (by omega)) (hf _ (by omega) (by omega) (by omega))⟩, by rw [h50 13 (by simp)]; exact h6, h7⟩
  rw [hf 51 (by omega) (by omega) (by omega), hf 52 (by omega) (by omega) (by omega), hf 53 (by omega) (by omega) (by omega), hf 54 (by omega) (by omega) (by omega), hf 56 (by omega) (by omega) (by omega), hf 57 (by omega) (by omega) (by omega)]
  obtain ⟨⟨q1, q2, q3, q4, q5⟩, q6, q7⟩ := h2 s hs
  exact ⟨⟨q1, q2, q3, q4, hu s hs⟩, q6, q7⟩
theorem tc_Gd.wu {Y : tc_Y} {W : Nat → Int32} (g : tc_Gd Y) : tc_Gd (tc_wu Y W) := g
/-! the reference's queue -/
def tc_RB (μ : tc_Mem) (q : List Nat) : Prop := tc_Qok q ∧ tc_Ring (μ 68) (μ 50 24) (μ 50 25) q ∧ ∀ s, s < 8 → μ 69 s = tc_bI (decide (s ∈ q))
section RC7
variable {N : Nat} {μ : tc_Mem} {Y : tc_Y} {fl : tc_Fl} {w : Int32} {s : Nat} {q : List Nat}
theorem tc_w7_comes (h : tc_RB μ q) (hs : s < 8) : tc_wp (tc_f7_comes N (nI s) μ) (fun _ μ' => (∀ k, k ≠ 50 → k ≠ 68 → k ≠ 69 → μ' k = μ k) ∧ (∀ j, j ≠ 25 → μ' 50 j = μ 50 j) ∧ tc_RB μ' (tc_ent q s)) := by
  obtain ⟨g1, g2, g3⟩ := h
  unfold tc_f7_comes
  simp only [tc_wp_ck, tc_wp_if, tc_wp_lt, tc_wp_some, tc_vin (show s < 2 ^ 31 by omega) (show 8 < 2 ^ 31 by decide), tc_cl (show s < 2 ^ 31 by omega), g3 s hs, tc_bI_eq0, decide_eq_false_iff_not]
  refine ⟨hs, ?_⟩
  by_cases c : s ∈ q
  · rw [if_neg (by simpa using c)]
    refine ⟨fun _ _ _ _ => trivial, fun _ _ => trivial, ?_⟩
    rw [show tc_ent q s = q from if_pos c]
    exact ⟨g1, g2, g3⟩
  · have hl := g1.lt hs c
    obtain ⟨j, hj, e1, hr⟩ := g2.push (s := s) hl
    rw [if_pos c, e1]
    simp only [tc_vin (show j < 2 ^ 31 by omega) (show 8 < 2 ^ 31 by decide), tc_cl (show j < 2 ^ 31 by omega)]
    generalize hm1 : tc_wr μ 68 j (nI s) = μ1
    have a1 : ∀ k, k ≠ 68 → μ1 k = μ k := fun k hk => by rw [← hm1, tc_wr_k hk]
    have e1 : μ1 68 = upd (μ 68) j (nI s) := by rw [← hm1, tc_wr_row]
    generalize hm2 : tc_wr μ1 69 s (vp_nar .boolean 1) = μ2
    have a2 : ∀ k, k ≠ 69 → μ2 k = μ1 k := fun k hk => by rw [← hm2, tc_wr_k hk]
    have e2 : ∀ r, μ2 69 r = if r = s then 1 else μ1 69 r := fun r => by
      rw [← hm2, tc_wr_at]
      by_cases cr : r = s
      · rw [if_pos ⟨rfl, cr⟩, if_pos cr]; rfl
      · rw [if_neg (fun z => cr z.2), if_neg cr]
    generalize hm3 : tc_wr μ2 50 25 (μ2 50 25 + 1) = μ3
    have a3 : ∀ k, k ≠ 50 → μ3 k = μ2 k := fun k hk => by rw [← hm3, tc_wr_k hk]
    have b3 : ∀ j, j ≠ 25 → μ3 50 j = μ2 50 j := fun j hj => by rw [← hm3, tc_wr_at, if_neg (by omega)]
    have e3 : μ3 50 25 = μ 50 25 + 1 := by rw [← hm3, tc_wr_at, if_pos ⟨rfl, rfl⟩, a2 50 (by decide), a1 50 (by decide)]
    refine ⟨hj, hs, fun k k1 k2 k3 => by rw [a3 k k1, a2 k k3, a1 k k2], fun j hj => by rw [b3 j hj, a2 50 (by decide), a1 50 (by decide)], g1.ent hs, ?_, fun r hr => ?_⟩
    · rw [a3 68 (by decide), a2 68 (by decide), e1, b3 24 (by decide), a2 50 (by decide), a1 50 (by decide), e3, show tc_ent q s = q ++ [s] from if_neg c]
      exact hr
    · rw [a3 69 (by decide), e2, a1 69 (by decide), show tc_ent q s = q ++ [s] from if_neg c]
      by_cases cr : r = s
      · subst cr; rw [if_pos rfl]; simp [tc_bI]
      · rw [if_neg cr, g3 r hr]; simp [cr]
theorem tc_v7_looksOf {k : Nat} (hk : k < 6) : ∃ v : Int32, tc_f7_looksOf N (nI k) μ = some (v, μ) ∧ (v / 2 = 1 ↔ tc_kR (nI k) = true) ∧ (v - v / 2 * 2 = 1 ↔ tc_kL (nI k) = true) := by
  unfold tc_f7_looksOf
  rcases (show k = 0 ∨ k = 1 ∨ k = 2 ∨ k = 3 ∨ k = 4 ∨ k = 5 by omega) with rfl | rfl | rfl | rfl | rfl | rfl
  · exact ⟨0, by rw [if_pos (by decide)], by decide, by decide⟩
  · exact ⟨0, by rw [if_pos (by decide)], by decide, by decide⟩
  · exact ⟨1, by rw [if_neg (by decide), if_pos (by decide)], by decide, by decide⟩
  · exact ⟨2, by rw [if_neg (by decide), if_neg (by decide), if_pos (by decide)], by decide, by decide⟩
  · exact ⟨2, by rw [if_neg (by decide), if_neg (by decide), if_neg (by decide), if_pos (by decide)], by decide, by decide⟩
  · exact ⟨3, by rw [if_neg (by decide), if_neg (by decide), if_neg (by decide), if_neg (by decide), if_pos (by decide)], by decide, by decide⟩
/-- what a moment of the reference may change -/
def tc_FG (μ μ' : tc_Mem) : Prop := (∀ k, k ≠ 50 → k ≠ 55 → k ≠ 56 → k ≠ 68 → k ≠ 69 → k ≠ 70 → k ≠ 71 → μ' k = μ k) ∧ ∀ j, j ≠ 24 → j ≠ 25 → μ' 50 j = μ 50 j
def tc_PG (μ : tc_Mem) (Y : tc_Y) (fl : tc_Fl) (w : Int32) (o : Option (Nat × List Int32)) (r : Int32) (μ' : tc_Mem) : Prop := tc_FG μ μ' ∧ match o with
  | none => r = -1 ∧ tc_RM μ' Y fl w
  | some (u, ch) => r = nI ch.length ∧ tc_RM μ' (tc_af Y u) fl w ∧ u < 2 ^ Y.1.1 ∧ ch.length ≤ 40 ∧ tc_CH μ' 71 ch
/-- the waits, behind the asking -/
theorem tc_w7_waits (hN : 300 ≤ N) (h : tc_RM μ Y fl w) (g : tc_Gd Y) {x : Int32} : tc_wp (tc_f7_goes_298 N N x 0 μ) (fun r μ' => r = x ∧ (∀ k, k ≠ 55 → μ' k = μ k) ∧ ∀ s, s < Y.1.1 → μ' 55 s = tc_wt Y.2.1.1 (Y.2.2.1.2.2.2.2 s) (tc_cY Y s)) := by
  have g1 := g.1
  have key : ∀ (d f i : Nat) (μ1 : tc_Mem), i + d = Y.1.1 → d < f → (∀ k, k ≠ 55 → μ1 k = μ k) → (∀ s, s < Y.1.1 → μ1 55 s = if s < i then tc_wt Y.2.1.1 (Y.2.2.1.2.2.2.2 s) (tc_cY Y s) else Y.2.2.1.2.2.2.2 s) → tc_wp (tc_f7_goes_298 N f x (nI i) μ1) (fun r μ' => r = x ∧ (∀ k, k ≠ 55 → μ' k = μ k) ∧ ∀ s, s < Y.1.1 → μ' 55 s = tc_wt Y.2.1.1 (Y.2.2.1.2.2.2.2 s) (tc_cY Y s)) := by
    intro d
    induction d with
    | zero =>
      intro f i μ1 hi hf hfr hv
      obtain ⟨f, rfl⟩ : ∃ f', f = f' + 1 := ⟨f - 1, by omega⟩
      rw [tc_f7_goes_298]; dsimp only
      rw [hfr 50 (by omega), h.1, if_pos (by rw [tc_le (by omega) (by omega)]; omega), tc_wp_some]
      exact ⟨rfl, hfr, fun s hs => by rw [hv s hs, if_pos (show s < i by omega)]⟩
    | succ d ih =>
      intro f i μ1 hi hf hfr hv
      obtain ⟨f, rfl⟩ : ∃ f', f = f' + 1 := ⟨f - 1, by omega⟩
      have h1 := h.wu (μ' := μ1) (fun j _ => by rw [hfr 50 (by omega)]) (fun k _ _ hk => hfr k hk) hv
      have hcu := tc_v7_currentOf (N := N) hN h1 g.wu (s := i) (show i < Y.1.1 by omega)
      rw [tc_f7_goes_298]; dsimp only
      rw [hfr 50 (by omega), h.1, if_neg (by rw [tc_le (by omega) (by omega)]; omega)]
      simp only [tc_wp_bd, hcu, tc_wp_some, tc_wp_if, tc_wp_ck, tc_wp_lt, tc_f7_goes_341, tc_vin (show i < 2 ^ 31 by omega) (show 8 < 2 ^ 31 by decide), tc_cl (show i < 2 ^ 31 by omega), tc_ad1, show i < 8 by omega, true_and, tc_v03, tc_c0, hfr 58 (by omega), h.2.2.1.1]
      have step : ∀ v : Int32, v = tc_wt Y.2.1.1 (Y.2.2.1.2.2.2.2 i) (tc_cY Y i) → tc_wp (tc_f7_goes_298 N f x (nI (i + 1)) (tc_wr μ1 55 i v)) (fun r μ' => r = x ∧ (∀ k, k ≠ 55 → μ' k = μ k) ∧ ∀ s, s < Y.1.1 → μ' 55 s = tc_wt Y.2.1.1 (Y.2.2.1.2.2.2.2 s) (tc_cY Y s)) := by
        intro v hvv
        refine ih f (i + 1) _ (by omega) (by omega) (fun k hk => by rw [tc_wr_k hk]; exact hfr k hk) (fun s hs => ?_)
        rw [tc_wr_at]
        by_cases c : s = i
        · subst c; rw [if_pos ⟨rfl, rfl⟩, if_pos (show s < s + 1 by omega)]; exact hvv
        · rw [if_neg (fun q => c q.2), hv s hs]
          by_cases c2 : s < i
          · rw [if_pos c2, if_pos (show s < i + 1 by omega)]
          · rw [if_neg c2, if_neg (show ¬ s < i + 1 by omega)]
      have hvi := hv i (by omega)
      rw [if_neg (show ¬ i < i by omega)] at hvi
      by_cases c : tc_cY Y i < Y.2.1.1
      · have c' : tc_cY (tc_wu Y fun s => if s < i then tc_wt Y.2.1.1 (Y.2.2.1.2.2.2.2 s) (tc_cY Y s) else Y.2.2.1.2.2.2.2 s) i < Y.2.1.1 := c
        rw [if_pos c']
        exact step 0 (by unfold tc_wt; rw [if_pos c])
      · have c' : ¬ tc_cY (tc_wu Y fun s => if s < i then tc_wt Y.2.1.1 (Y.2.2.1.2.2.2.2 s) (tc_cY Y s) else Y.2.2.1.2.2.2.2 s) i < Y.2.1.1 := c
        rw [if_neg c']
        exact step _ (by unfold tc_wt; rw [if_neg c, hvi])
  exact key Y.1.1 N 0 μ (by omega) (by omega) (fun _ _ => rfl) (fun s hs => by rw [if_neg (show ¬ s < 0 by omega)]; exact (h.2.1 s hs).1.2.2.2.2)
/-- it flaps: the relays are laid back -/
theorem tc_w7_back (hN : 300 ≤ N) : tc_wp (tc_f7_goes_154 N N 0 μ) (fun r μ' => r = -1 ∧ (∀ k, k ≠ 56 → μ' k = μ k) ∧ ∀ s, s < 8 → μ' 56 s = vp_nar .boolean (μ 70 s)) := by
  have key : ∀ (d f i : Nat) (μ1 : tc_Mem), i + d = 8 → d < f → (∀ k, k ≠ 56 → μ1 k = μ k) → (∀ s, s < i → μ1 56 s = vp_nar .boolean (μ 70 s)) → tc_wp (tc_f7_goes_154 N f (nI i) μ1) (fun r μ' => r = -1 ∧ (∀ k, k ≠ 56 → μ' k = μ k) ∧ ∀ s, s < 8 → μ' 56 s = vp_nar .boolean (μ 70 s)) := by
    intro d
    induction d with
    | zero =>
      intro f i μ1 hi hf hfr hv
      obtain ⟨f, rfl⟩ : ∃ f', f = f' + 1 := ⟨f - 1, by omega⟩
      rw [tc_f7_goes_154]; dsimp only
      rw [if_pos (by rw [tc_Lle (k := 8) (by omega) (by decide)]; omega), tc_wp_some]
      exact ⟨rfl, hfr, fun s hs => hv s (by omega)⟩
    | succ d ih =>
      intro f i μ1 hi hf hfr hv
      obtain ⟨f, rfl⟩ : ∃ f', f = f' + 1 := ⟨f - 1, by omega⟩
      rw [tc_f7_goes_154]; dsimp only
      rw [if_neg (by rw [tc_Lle (k := 8) (by omega) (by decide)]; omega)]
      simp only [tc_wp_ck, tc_wp_lt, tc_vin (show i < 2 ^ 31 by omega) (show 8 < 2 ^ 31 by decide), tc_cl (show i < 2 ^ 31 by omega), tc_ad1, show i < 8 by omega, true_and]
      refine ih f (i + 1) _ (by omega) (by omega) (fun k hk => by rw [tc_wr_k hk]; exact hfr k hk) (fun s hs => ?_)
      rw [tc_wr_at]
      by_cases c : s = i
      · subst c; rw [if_pos ⟨rfl, rfl⟩, hfr 70 (by decide)]
      · rw [if_neg (fun q => c q.2), hv s (by omega)]
  exact key 8 N 0 μ (by omega) (by omega) (fun _ _ => rfl) (fun s hs => absurd hs (by omega))
end RC7
