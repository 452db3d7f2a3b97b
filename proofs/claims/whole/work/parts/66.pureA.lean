theorem tc_wr_row (μ : tc_Mem) (k i : Nat) (v : Int32) : tc_wr μ k i v k = upd (μ k) i v := tc_row_self _ _ _
/-! the class's asking -/
def tc_RA (μ : tc_Mem) (a : Nat) (q : List Nat) : Prop := tc_Qok q ∧ tc_Ring (μ (a + 2)) (μ a 3) (μ a 4) q ∧ ∃ m, μ a 5 = nI m ∧ tc_Mk m q
theorem tc_RA.frame {μ μ' : tc_Mem} {a : Nat} {q : List Nat} (h : tc_RA μ a q) (h2 : μ' (a + 2) = μ (a + 2)) (h3 : μ' a 3 = μ a 3) (h4 : μ' a 4 = μ a 4) (h5 : μ' a 5 = μ a 5) : tc_RA μ' a q := by
  obtain ⟨g1, g2, m, g3, g4⟩ := h
  exact ⟨g1, by rw [h2, h3, h4]; exact g2, m, by rw [h5]; exact g3, g4⟩
section CA
variable {N a t : Nat} {μ : tc_Mem} {Y : tc_Y} {q : List Nat} {s : Nat}
theorem tc_w0_enter (h : tc_RA μ a q) (hs : s < 8) : tc_wp (tc_f0_enter N a (nI s) μ) (fun _ μ' => (∀ k, k ≠ a → k ≠ a + 2 → μ' k = μ k) ∧ μ' a 1 = μ a 1 ∧ tc_RA μ' a (tc_ent q s)) := by
  obtain ⟨g1, g2, m, g3, g4⟩ := h
  have hw := g2.w
  unfold tc_f0_enter
  rw [g3]
  simp only [tc_wp_if, tc_andb _ g4.1 _ hs, g4.2 s hs, decide_eq_false_iff_not]
  by_cases c : s ∈ q
  · rw [if_neg (by simpa using c), tc_wp_some]
    refine ⟨fun _ _ _ => rfl, rfl, ?_⟩
    unfold tc_ent
    rw [if_pos c]
    exact ⟨g1, g2, m, g3, g4⟩
  · have hl := g1.lt hs c
    rw [if_pos c, if_pos (by rw [hw.1, tc_ltL (by omega) (by decide)]; exact hl)]
    obtain ⟨j, hj, e1, hr⟩ := g2.push (s := s) hl
    rw [e1]
    simp only [tc_wp_ck, tc_wp_lt, tc_wp_some, tc_vin (show j < 2 ^ 31 by omega) (show 8 < 2 ^ 31 by decide), tc_cl (show j < 2 ^ 31 by omega)]
    refine ⟨hj, fun k k1 k2 => ?_, ?_, ?_⟩
    · rw [tc_wr_k k1, tc_wr_k k1, tc_wr_k k2]
    · rw [tc_wr_at, if_neg (by omega), tc_wr_at, if_neg (by omega), tc_wr_at, if_neg (by omega)]
    · have ne : a + 2 ≠ a := by omega
      have r4 : tc_wr μ (a + 2) j (nI s) a 4 = μ a 4 := by rw [tc_wr_at, if_neg (by omega)]
      have r5 : tc_wr (tc_wr μ (a + 2) j (nI s)) a 4 (tc_wr μ (a + 2) j (nI s) a 4 + 1) a 5 = nI m := by rw [tc_wr_at, if_neg (by omega), tc_wr_at, if_neg (by omega), g3]
      have e : tc_ent q s = q ++ [s] := if_neg c
      refine ⟨g1.ent hs, ?_, tc_set m s, ?_, ?_⟩
      · rw [tc_wr_k ne, tc_wr_k ne, tc_wr_row, tc_wr_at, if_neg (by omega), tc_wr_at, if_neg (by omega), tc_wr_at, if_neg (by omega), tc_wr_at, if_neg (by omega), tc_wr_at, if_pos ⟨rfl, rfl⟩, r4, e]
        exact hr
      · rw [tc_wr_at, if_pos ⟨rfl, rfl⟩, r5, tc_orb _ g4.1 _ hs]
      · rw [e]; exact g4.push hs
theorem tc_w0_takeFirst (h : tc_RA μ a (s :: q)) : tc_wp (tc_f0_takeFirst N a μ) (fun r μ' => r = nI s ∧ (∀ k, k ≠ a → μ' k = μ k) ∧ μ' a 1 = μ a 1 ∧ tc_RA μ' a q) := by
  obtain ⟨g1, g2, m, g3, g4⟩ := h
  obtain ⟨t1, t2, t3⟩ := g1.tail
  obtain ⟨j, hj, e1, e2, hr⟩ := g2.pop
  unfold tc_f0_takeFirst
  rw [e1] at hr ⊢
  simp only [tc_wp_ck, tc_wp_lt, tc_wp_some, tc_vin (show j < 2 ^ 31 by omega) (show 8 < 2 ^ 31 by decide), tc_cl (show j < 2 ^ 31 by omega), e2]
  have ne : a + 2 ≠ a := by omega
  have r4 : ∀ v, tc_wr μ a 3 v a 4 = μ a 4 := fun v => by rw [tc_wr_at, if_neg (by omega)]
  have r5 : ∀ v w, tc_wr (tc_wr μ a 3 v) a 4 w a 5 = nI m := fun v w => by rw [tc_wr_at, if_neg (by omega), tc_wr_at, if_neg (by omega), g3]
  refine ⟨hj, trivial, fun k k1 => by rw [tc_wr_k k1, tc_wr_k k1, tc_wr_k k1], ?_, t1, ?_, tc_clr m s, ?_, g4.pop t2 t3⟩
  · rw [tc_wr_at, if_neg (by omega), tc_wr_at, if_neg (by omega), tc_wr_at, if_neg (by omega)]
  · rw [tc_wr_k ne, tc_wr_k ne, tc_wr_k ne, tc_wr_at, if_neg (by omega), tc_wr_at, if_neg (by omega), tc_wr_at, if_pos ⟨rfl, rfl⟩, tc_wr_at, if_neg (by omega), tc_wr_at, if_pos ⟨rfl, rfl⟩, r4]
    exact hr
  · rw [tc_wr_at, if_pos ⟨rfl, rfl⟩, r5, tc_clb _ g4.1 _ t2]
theorem tc_v5_looksL (h : tc_RC μ t Y) (g : tc_Gd Y) (hs : s < Y.1.1) : tc_f5_looks N t (nI s - 1) 2 μ = some (tc_bI (decide (0 < s) && tc_kR (Y.2.2.1.1 (s - 1))), μ) := by
  have g1 := g.1
  apply tc_wp_of
  unfold tc_f5_looks
  by_cases c : 0 < s
  · rw [tc_sb1 c, if_neg (tc_nn (by omega)), h.1, if_neg (by rw [tc_le (by omega) (by omega)]; omega)]
    obtain ⟨k, hk, hK⟩ := g.2.2.2.1 (s - 1) (by omega)
    simp only [tc_wp_ck, tc_wp_if, tc_wp_some, tc_vin (show s - 1 < 2 ^ 31 by omega) (show 8 < 2 ^ 31 by decide), tc_cl (show s - 1 < 2 ^ 31 by omega), (h.2.1 (s - 1) (by omega)).1, hK, tc_vin (show k < 2 ^ 31 by omega) (show 6 < 2 ^ 31 by decide), tc_cl (show k < 2 ^ 31 by omega), hk, show s - 1 < 8 by omega, c, decide_true, Bool.true_and, true_and]
    rcases (show k = 0 ∨ k = 1 ∨ k = 2 ∨ k = 3 ∨ k = 4 ∨ k = 5 by omega) with rfl | rfl | rfl | rfl | rfl | rfl <;> simp (decide := true)
  · obtain rfl : s = 0 := by omega
    rw [if_pos tc_neg1, tc_wp_some]
    simp [tc_bI]
theorem tc_v5_looksR (h : tc_RC μ t Y) (g : tc_Gd Y) (hs : s < Y.1.1) : tc_f5_looks N t (nI s + 1) 1 μ = some (tc_bI (decide (s + 1 < Y.1.1) && tc_kL (Y.2.2.1.1 (s + 1))), μ) := by
  have g1 := g.1
  apply tc_wp_of
  unfold tc_f5_looks
  rw [tc_ad1, if_neg (tc_nn (by omega)), h.1]
  by_cases c : s + 1 < Y.1.1
  · rw [if_neg (by rw [tc_le (by omega) (by omega)]; omega)]
    obtain ⟨k, hk, hK⟩ := g.2.2.2.1 (s + 1) c
    simp only [tc_wp_ck, tc_wp_if, tc_wp_some, tc_vin (show s + 1 < 2 ^ 31 by omega) (show 8 < 2 ^ 31 by decide), tc_cl (show s + 1 < 2 ^ 31 by omega), (h.2.1 (s + 1) c).1, hK, tc_vin (show k < 2 ^ 31 by omega) (show 6 < 2 ^ 31 by decide), tc_cl (show k < 2 ^ 31 by omega), hk, show s + 1 < 8 by omega, c, decide_true, Bool.true_and, true_and]
    rcases (show k = 0 ∨ k = 1 ∨ k = 2 ∨ k = 3 ∨ k = 4 ∨ k = 5 by omega) with rfl | rfl | rfl | rfl | rfl | rfl <;> simp (decide := true)
  · rw [if_pos (by rw [tc_le (by omega) (by omega)]; omega), tc_wp_some]
    simp [tc_bI, c]
/-- the yard and the asking lie apart -/
def tc_Ap (a t : Nat) : Prop := a + 2 < t ∨ t + 10 < a
theorem tc_w0_enterBeside (hap : tc_Ap a t) (h : tc_RC μ t Y) (g : tc_Gd Y) (hA : tc_RA μ a q) (hs : s < Y.1.1) : tc_wp (tc_f0_enterBeside N a t (nI s) μ) (fun _ μ' => (∀ k, k ≠ a → k ≠ a + 2 → μ' k = μ k) ∧ μ' a 1 = μ a 1 ∧ tc_RA μ' a (tc_nbR Y.1.1 Y.2.2.1.1 (tc_nbL Y.2.2.1.1 q s) s)) := by
  have g1 := g.1
  unfold tc_Ap at hap
  have second : ∀ (μ1 : tc_Mem) (q1 : List Nat), (∀ k, k ≠ a → k ≠ a + 2 → μ1 k = μ k) → μ1 a 1 = μ a 1 → tc_RA μ1 a q1 → tc_wp (tc_f0_enterBeside_18 N a t (nI s) μ1) (fun _ μ' => (∀ k, k ≠ a → k ≠ a + 2 → μ' k = μ k) ∧ μ' a 1 = μ a 1 ∧ tc_RA μ' a (tc_nbR Y.1.1 Y.2.2.1.1 q1 s)) := by
    intro μ1 q1 hf h1 hA1
    have h2 := h.frame (μ' := μ1) (fun k k1 k2 _ => hf k (by omega) (by omega))
    unfold tc_f0_enterBeside_18
    simp only [tc_wp_bd, tc_v5_looksR h2 g hs, tc_wp_some, tc_wp_if, tc_bI_eq0, Bool.and_eq_false_iff, decide_eq_false_iff_not]
    unfold tc_nbR
    by_cases c : s + 1 < Y.1.1 ∧ tc_kL (Y.2.2.1.1 (s + 1)) = true
    · rw [if_neg (by simp [c]), if_pos c, tc_ad1]
      exact tc_wp_mono (tc_w0_enter hA1 (by omega)) (fun _ μ2 hh => ⟨fun k k1 k2 => by rw [hh.1 k k1 k2]; exact hf k k1 k2, hh.2.1.trans h1, hh.2.2⟩)
    · rw [if_pos (by
        by_cases c2 : s + 1 < Y.1.1
        · right; simpa [c2] using c
        · left; exact c2), if_neg c]
      exact ⟨hf, h1, hA1⟩
  unfold tc_f0_enterBeside
  simp only [tc_wp_bd, tc_v5_looksL h g hs, tc_wp_some, tc_wp_if, tc_bI_eq0, Bool.and_eq_false_iff, decide_eq_false_iff_not]
  by_cases c : 0 < s ∧ tc_kR (Y.2.2.1.1 (s - 1)) = true
  · rw [if_neg (by simp [c]), tc_sb1 c.1]
    have e : tc_nbL Y.2.2.1.1 q s = tc_ent q (s - 1) := if_pos c
    rw [e]
    exact tc_wp_mono (tc_w0_enter hA (by omega)) (fun _ μ2 hh => second μ2 _ hh.1 hh.2.1 hh.2.2)
  · rw [if_pos (by
      by_cases c2 : 0 < s
      · right; simpa [c2] using c
      · left; exact c2)]
    have e : tc_nbL Y.2.2.1.1 q s = q := if_neg c
    rw [e]
    exact second μ _ (fun _ _ _ => rfl) rfl hA
end CA
