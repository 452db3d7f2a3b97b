section S5
variable {N : Nat} {Y : tc_Y} {x1 x2 x3 x4 : Int32} {lg : List Int32} {μ : tc_Mem}
theorem tc_big {j k : Nat} (hj : j < 2 ^ 31) (hk : k < 2 ^ 31) : (nI j < 0 ∨ (OfNat.ofNat k : Int32) < nI j) ↔ k < j := by
  rw [tc_Llt hj hk]
  constructor
  · rintro (h | h)
    · exact absurd h (tc_nn hj)
    · exact h
  · exact Or.inr
theorem tc_nbig {j k : Nat} (hj : j ≤ k) (hk : k < 2 ^ 31) : ¬ (nI j < 0 ∨ (OfNat.ofNat k : Int32) < nI j) := by rw [tc_big (by omega) hk]; omega
theorem tc_v7_looksOf' {k : Nat} (hk : k < 6) : tc_f7_looksOf N (nI k) μ = some (tc_LOOKS (nI k).toNatClampNeg, μ) := by
  unfold tc_f7_looksOf
  rcases (show k = 0 ∨ k = 1 ∨ k = 2 ∨ k = 3 ∨ k = 4 ∨ k = 5 by omega) with rfl | rfl | rfl | rfl | rfl | rfl
  · rw [if_pos (by decide)]; rfl
  · rw [if_pos (by decide)]; rfl
  · rw [if_neg (by decide), if_pos (by decide)]; rfl
  · rw [if_neg (by decide), if_neg (by decide), if_pos (by decide)]; rfl
  · rw [if_neg (by decide), if_neg (by decide), if_neg (by decide), if_pos (by decide)]; rfl
  · rw [if_neg (by decide), if_neg (by decide), if_neg (by decide), if_neg (by decide), if_pos (by decide)]; rfl
/-- what a section tells -/
def tc_ofv (Y : tc_Y) (s j : Nat) : Int32 := if j = 0 then Y.2.2.1.2.1 s else if j = 1 then Y.2.2.1.2.2.1 s else if j = 2 then Y.2.2.1.2.2.2.1 s else if j = 3 then Y.2.2.1.1 s else if j = 4 then tc_lk Y.2.2.1 Y.2.1.2.2 s else if j = 5 then tc_cY Y s else if j = 6 then tc_bI (Y.1.2.1.testBit s) else if j = 7 then Y.2.2.1.2.2.2.2 s else tc_LOOKS (Y.2.2.1.1 s).toNatClampNeg
theorem tc_k6_of (hN : 300 ≤ N) (h : tc_RC μ 1 Y) (g : tc_Gd Y) {s j : Nat} (hs : s < Y.1.1) (hj : j < 9) : tc_wp (tc_f6_of N (nI s) (nI j) μ) (fun r μ1 => r = tc_ofv Y s j ∧ ∀ k, k ≠ 7 → μ1 k = μ k) := by
  have g1 := g.1
  have h2 : μ 2 s = Y.2.2.1.1 s ∧ μ 3 s = Y.2.2.1.2.1 s ∧ μ 4 s = Y.2.2.1.2.2.1 s ∧ μ 5 s = Y.2.2.1.2.2.2.1 s ∧ μ 6 s = Y.2.2.1.2.2.2.2 s := h.2.1 s hs
  have hv : vp_in (nI s) 8 := (tc_vin (by omega) (by decide)).mpr (by omega)
  unfold tc_f6_of
  rw [tc_wp_bd, tc_sec5 h g hs, tc_wp_some, if_neg (by decide), if_neg (tc_nbig (k := 8) (by omega) (by decide))]
  rcases (show j = 0 ∨ j = 1 ∨ j = 2 ∨ j = 3 ∨ j = 4 ∨ j = 5 ∨ j = 6 ∨ j = 7 ∨ j = 8 by omega) with rfl | rfl | rfl | rfl | rfl | rfl | rfl | rfl | rfl
  all_goals simp (decide := true) only [if_true, if_false, tc_wp_ck, tc_wp_bd, tc_wp_some, tc_v5_leak h g hs, hv, tc_cl (show s < 2 ^ 31 by omega), h2, true_and, tc_f6_bit, h.2.2.1.1, tc_bit' g.u (show s < 8 by omega), tc_ofv]
  all_goals try exact fun _ _ => trivial
  · exact tc_wp_mono (tc_w5_measure hN h g) (fun _ μ1 hh => ⟨hh.2 s hs, fun k hk => hh.1 k hk⟩)
  · obtain ⟨k, hk, hK⟩ := g.2.2.2.1 s hs
    rw [hK]
    exact ⟨(tc_vin (by omega) (by decide)).mpr hk, fun _ _ => trivial⟩
theorem tc_k7_of (hN : 300 ≤ N) {fl : tc_Fl} {w : Int32} (h : tc_RM μ Y fl w) (g : tc_Gd Y) {s j : Nat} (hs : s < Y.1.1) (hj : j < 9) : tc_f7_of N (nI s) (nI j) μ = some (tc_ofv Y s j, μ) := by
  have g1 := g.1
  have h2 := h.2.1 s hs
  have hv : vp_in (nI s) 8 := (tc_vin (by omega) (by decide)).mpr (by omega)
  apply tc_wp_of
  unfold tc_f7_of
  rw [tc_wp_bd, tc_sec7 h g hs, tc_wp_some, if_neg (by decide), if_neg (tc_nbig (k := 8) (by omega) (by decide))]
  rcases (show j = 0 ∨ j = 1 ∨ j = 2 ∨ j = 3 ∨ j = 4 ∨ j = 5 ∨ j = 6 ∨ j = 7 ∨ j = 8 by omega) with rfl | rfl | rfl | rfl | rfl | rfl | rfl | rfl | rfl
  all_goals simp (decide := true) only [if_true, if_false, tc_wp_ck, tc_wp_bd, tc_wp_some, tc_v7_leakOf h g hs, tc_v7_currentOf hN h g hs, hv, tc_cl (show s < 2 ^ 31 by omega), h2.1.1, h2.1.2.1, h2.1.2.2.1, h2.1.2.2.2.1, h2.1.2.2.2.2, h2.2.1, true_and, and_self, tc_ofv, tc_wp_if, tc_bI_eq0]
  · cases Y.1.2.1.testBit s <;> simp [tc_bI]
  · obtain ⟨k, hk, hK⟩ := g.2.2.2.1 s hs
    rw [hK, tc_v7_looksOf' hk, tc_wp_some]
    exact ⟨rfl, rfl⟩
theorem tc_J_of (hN : 300 ≤ N) (g : tc_G6 Y) : tc_J (tc_f6_of N x1 x2) (tc_f7_of N x1 x2) Y := by
  have g1 := g.1.1
  rcases tc_sec (N := N) g.1 x1 with ⟨s, hs, rfl⟩ | ⟨b1, b2⟩
  case inr => exact tc_J.same g (-2) (fun μ h => tc_wp_of (by unfold tc_f6_of; simp [tc_wp_bd, b1 μ 1 h, tc_wp_some])) (fun μ h => tc_wp_of (by unfold tc_f7_of; simp [tc_wp_bd, b2 μ _ _ h, tc_wp_some]))
  by_cases c : x2 < 0 ∨ 8 < x2
  · exact tc_J.same g (-2) (fun μ h => tc_wp_of (by unfold tc_f6_of; simp [tc_wp_bd, tc_sec5 h g.1 hs, tc_wp_some, c])) (fun μ h => tc_wp_of (by unfold tc_f7_of; simp [tc_wp_bd, tc_sec7 h g.1 hs, tc_wp_some, c]))
  rcases tc_split x2 with hx | ⟨j, hj, rfl⟩
  · exact absurd (Or.inl hx) c
  rw [tc_big (k := 8) hj (by decide)] at c
  refine ⟨tc_ofv Y s j, Y, g, fun μ h => ?_, fun μ h => ?_⟩
  · refine tc_wp_mono (tc_k6_of hN h g.1 hs (by omega)) (fun r μ1 hh => ⟨hh.1, fun k hk => hh.2 k (by omega), h.frame (fun k _ _ hk => hh.2 k hk)⟩)
  · exact tc_wp_eq (tc_k7_of hN h g.1 hs (by omega)) ⟨rfl, tc_FM.rf, h⟩
theorem tc_RM.ar {fl : tc_Fl} {w : Int32} {k i : Nat} {v : Int32} {A : tc_Ar} (h : tc_RM μ Y fl w) (hk : 51 ≤ k ∧ k ≤ 54) (hA : ∀ s, s < Y.1.1 → (if k = 51 ∧ s = i then v else Y.2.2.1.1 s) = A.1 s ∧ (if k = 52 ∧ s = i then v else Y.2.2.1.2.1 s) = A.2.1 s ∧ (if k = 53 ∧ s = i then v else Y.2.2.1.2.2.1 s) = A.2.2.1 s ∧ (if k = 54 ∧ s = i then v else Y.2.2.1.2.2.2.1 s) = A.2.2.2.1 s ∧ Y.2.2.1.2.2.2.2 s = A.2.2.2.2 s) : tc_RM (tc_wr μ k i v) (tc_yA Y A) fl w := by
  obtain ⟨q1, q2, q3, ⟨q6, q7⟩, q8, q9⟩ := h
  refine ⟨by rw [tc_wr_k (by omega)]; exact q1, fun s hs => ?_, by rw [tc_wr_k (by omega)]; exact q3, ⟨by rw [tc_wr_k (by omega)]; exact q6, q7.frame (tc_wr_k (by omega)) (tc_wr_k (by omega)) (tc_wr_k (by omega))⟩, by rw [tc_wr_k (by omega)]; exact q8, q9⟩
  obtain ⟨⟨p1, p2, p3, p4, p5⟩, p6, p7⟩ := q2 s hs
  obtain ⟨a1, a2, a3, a4, a5⟩ := hA s hs
  show (_ = A.1 s ∧ _ = A.2.1 s ∧ _ = A.2.2.1 s ∧ _ = A.2.2.2.1 s ∧ _ = A.2.2.2.2 s) ∧ _
  rw [← a1, ← a2, ← a3, ← a4, ← a5, tc_wr_at, tc_wr_at, tc_wr_at, tc_wr_at, tc_wr_at, tc_wr_k (show 56 ≠ k by omega), tc_wr_k (show 57 ≠ k by omega), p1, p2, p3, p4, p5, if_neg (show ¬ (55 = k ∧ s = i) by omega)]
  refine ⟨⟨?_, ?_, ?_, ?_, rfl⟩, p6, p7⟩ <;> simp only [eq_comm]
theorem tc_G6.yA {A : tc_Ar} (g : tc_G6 Y) (hA : ∀ s, s < Y.1.1 → ∃ k, k < 6 ∧ A.1 s = nI k) : tc_G6 (tc_yA Y A) := by
  obtain ⟨⟨g1, g2, g3, g4, g5⟩, g7⟩ := g
  exact ⟨⟨g1, g2, g3, hA, g5⟩, g7⟩
theorem tc_J_set (hN : 300 ≤ N) (g : tc_G6 Y) : tc_J (tc_f6_set N x1 x2 x3) (tc_f7_set N x1 x2 x3) Y := by
  have g1 := g.1.1
  rcases tc_sec (N := N) g.1 x1 with ⟨s, hs, rfl⟩ | ⟨b1, b2⟩
  case inr => exact tc_J.same g (-2) (fun μ h => tc_wp_of (by unfold tc_f6_set; simp [tc_wp_bd, b1 μ 1 h, tc_wp_some])) (fun μ h => tc_wp_of (by unfold tc_f7_set; simp [tc_wp_bd, b2 μ _ _ h, tc_wp_some]))
  have hv : vp_in (nI s) 8 := (tc_vin (by omega) (by decide)).mpr (by omega)
  rcases Bool.eq_false_or_eq_true (tc_wi x2 0 3) with c1 | c1
  case inr =>
    have hb : x2 < 0 ∨ 3 < x2 := by
      unfold tc_wi at c1
      by_cases q : x2 < 0
      · exact Or.inl q
      · right
        simpa [q] using c1
    exact tc_J.same g (-2) (fun μ h => tc_wp_of (by unfold tc_f6_set tc_f6_isTrait; simp [tc_wp_bd, tc_sec5 h g.1 hs, tc_wp_some, hb])) (fun μ h => tc_wp_of (by unfold tc_f7_set; simp [tc_wp_bd, tc_sec7 h g.1 hs, tc_v7_in, tc_wp_some, c1, tc_bI]))
  obtain ⟨j, -, hj, rfl⟩ := tc_wi_nI (a := 0) (b := 3) (by decide) (by decide) c1
  rcases (show j = 0 ∨ j = 1 ∨ j = 2 ∨ j = 3 by omega) with rfl | rfl | rfl | rfl
  · rcases Bool.eq_false_or_eq_true (tc_wi x3 1 99) with c3 | c3
    case inr => exact tc_J.same g (-2) (fun μ h => tc_wp_of (by unfold tc_f6_set; simp (decide := true) only [tc_wp_bd, tc_sec5 h g.1 hs, tc_wp_some, show nI 0 = (0 : Int32) from rfl, tc_tr0, c3, if_false, tc_bI_eq0, if_true, and_self, Bool.false_eq_true, tc_wp_if])) (fun μ h => tc_wp_of (by unfold tc_f7_set; simp (decide := true) only [tc_wp_bd, tc_sec7 h g.1 hs, tc_v7_in, tc_wp_some, c1, c3, if_true, if_false, tc_bI_eq0, or_false, and_self, Bool.false_eq_true, tc_wp_if, Bool.true_eq_false]))
    refine ⟨tc_ofv Y s 0, tc_yA Y (Y.2.2.1.1, upd Y.2.2.1.2.1 s x3, Y.2.2.1.2.2), g.yA g.1.2.2.2.1, fun μ h => ?_, fun μ h => ?_⟩
    · unfold tc_f6_set
      simp (decide := true) only [tc_wp_bd, tc_sec5 h g.1 hs, tc_wp_some, show nI 0 = (0 : Int32) from rfl, tc_tr0, c3, if_false, tc_bI_eq0, tc_wp_if, Bool.true_eq_false]
      refine tc_wp_mono (tc_k6_of hN h g.1 hs (j := 0) (by decide)) (fun r μ1 hh => ?_)
      have h1 := h.frame (μ' := μ1) (fun k _ _ hk => hh.2 k hk)
      unfold tc_f5_lay
      simp (decide := true) only [if_true, if_false, tc_wp_ck, tc_wp_lt, tc_wp_some, hv, true_and, tc_cl (show s < 2 ^ 31 by omega), tc_wp_if]
      exact ⟨hh.1, fun k hk => by rw [tc_wr_k (by omega)]; exact hh.2 k (by omega), h1.a2⟩
    · unfold tc_f7_set
      simp (decide := true) only [tc_wp_bd, tc_sec7 h g.1 hs, tc_v7_in, tc_wp_some, c1, c3, if_true, if_false, tc_bI_eq0, or_false, tc_wp_if, Bool.true_eq_false, tc_wp_ck, tc_wp_lt, hv, true_and, tc_cl (show s < 2 ^ 31 by omega)]
      refine ⟨(h.2.1 s hs).1.2.1, tc_FM.rf.wr (by omega), h.ar (by omega) (fun r hr => ?_)⟩
      by_cases c : r = s <;> simp [upd, c]
  · rcases Bool.eq_false_or_eq_true (tc_wi x3 0 9) with c3 | c3
    case inr => exact tc_J.same g (-2) (fun μ h => tc_wp_of (by unfold tc_f6_set; simp (decide := true) only [tc_wp_bd, tc_sec5 h g.1 hs, tc_wp_some, show nI 1 = (1 : Int32) from rfl, tc_tr1, c3, if_false, tc_bI_eq0, if_true, and_self, Bool.false_eq_true, tc_wp_if])) (fun μ h => tc_wp_of (by unfold tc_f7_set; simp (decide := true) only [tc_wp_bd, tc_sec7 h g.1 hs, tc_v7_in, tc_wp_some, c1, c3, if_true, if_false, tc_bI_eq0, or_false, and_self, Bool.false_eq_true, tc_wp_if, Bool.true_eq_false]))
    refine ⟨tc_ofv Y s 1, tc_yA Y (Y.2.2.1.1, Y.2.2.1.2.1, upd Y.2.2.1.2.2.1 s x3, Y.2.2.1.2.2.2), g.yA g.1.2.2.2.1, fun μ h => ?_, fun μ h => ?_⟩
    · unfold tc_f6_set
      simp (decide := true) only [tc_wp_bd, tc_sec5 h g.1 hs, tc_wp_some, show nI 1 = (1 : Int32) from rfl, tc_tr1, c3, if_false, tc_bI_eq0, tc_wp_if, Bool.true_eq_false]
      refine tc_wp_mono (tc_k6_of hN h g.1 hs (j := 1) (by decide)) (fun r μ1 hh => ?_)
      have h1 := h.frame (μ' := μ1) (fun k _ _ hk => hh.2 k hk)
      unfold tc_f5_lay
      simp (decide := true) only [if_true, if_false, tc_wp_ck, tc_wp_lt, tc_wp_some, hv, true_and, tc_cl (show s < 2 ^ 31 by omega), tc_wp_if]
      exact ⟨hh.1, fun k hk => by rw [tc_wr_k (by omega)]; exact hh.2 k (by omega), h1.a3⟩
    · unfold tc_f7_set
      simp (decide := true) only [tc_wp_bd, tc_sec7 h g.1 hs, tc_v7_in, tc_wp_some, c1, c3, if_true, if_false, tc_bI_eq0, or_false, tc_wp_if, Bool.true_eq_false, tc_wp_ck, tc_wp_lt, hv, true_and, tc_cl (show s < 2 ^ 31 by omega)]
      refine ⟨(h.2.1 s hs).1.2.2.1, tc_FM.rf.wr (by omega), h.ar (by omega) (fun r hr => ?_)⟩
      by_cases c : r = s <;> simp [upd, c]
  · rcases Bool.eq_false_or_eq_true (tc_wi x3 1 9) with c3 | c3
    case inr => exact tc_J.same g (-2) (fun μ h => tc_wp_of (by unfold tc_f6_set; simp (decide := true) only [tc_wp_bd, tc_sec5 h g.1 hs, tc_wp_some, show nI 2 = (2 : Int32) from rfl, tc_tr2, c3, if_false, tc_bI_eq0, if_true, and_self, Bool.false_eq_true, tc_wp_if])) (fun μ h => tc_wp_of (by unfold tc_f7_set; simp (decide := true) only [tc_wp_bd, tc_sec7 h g.1 hs, tc_v7_in, tc_wp_some, c1, c3, if_true, if_false, tc_bI_eq0, or_false, and_self, Bool.false_eq_true, tc_wp_if, Bool.true_eq_false]))
    refine ⟨tc_ofv Y s 2, tc_yA Y (Y.2.2.1.1, Y.2.2.1.2.1, Y.2.2.1.2.2.1, upd Y.2.2.1.2.2.2.1 s x3, Y.2.2.1.2.2.2.2), g.yA g.1.2.2.2.1, fun μ h => ?_, fun μ h => ?_⟩
    · unfold tc_f6_set
      simp (decide := true) only [tc_wp_bd, tc_sec5 h g.1 hs, tc_wp_some, show nI 2 = (2 : Int32) from rfl, tc_tr2, c3, if_false, tc_bI_eq0, tc_wp_if, Bool.true_eq_false]
      refine tc_wp_mono (tc_k6_of hN h g.1 hs (j := 2) (by decide)) (fun r μ1 hh => ?_)
      have h1 := h.frame (μ' := μ1) (fun k _ _ hk => hh.2 k hk)
      unfold tc_f5_lay
      simp (decide := true) only [if_true, if_false, tc_wp_ck, tc_wp_lt, tc_wp_some, hv, true_and, tc_cl (show s < 2 ^ 31 by omega), tc_wp_if]
      exact ⟨hh.1, fun k hk => by rw [tc_wr_k (by omega)]; exact hh.2 k (by omega), h1.a4⟩
    · unfold tc_f7_set
      simp (decide := true) only [tc_wp_bd, tc_sec7 h g.1 hs, tc_v7_in, tc_wp_some, c1, c3, if_true, if_false, tc_bI_eq0, or_false, tc_wp_if, Bool.true_eq_false, tc_wp_ck, tc_wp_lt, hv, true_and, tc_cl (show s < 2 ^ 31 by omega)]
      refine ⟨(h.2.1 s hs).1.2.2.2.1, tc_FM.rf.wr (by omega), h.ar (by omega) (fun r hr => ?_)⟩
      by_cases c : r = s <;> simp [upd, c]
  · rcases Bool.eq_false_or_eq_true (tc_wi x3 0 5) with c3 | c3
    case inr => exact tc_J.same g (-2) (fun μ h => tc_wp_of (by unfold tc_f6_set; simp (decide := true) only [tc_wp_bd, tc_sec5 h g.1 hs, tc_wp_some, show nI 3 = (3 : Int32) from rfl, tc_tr3, c3, if_false, tc_bI_eq0, if_true, and_self, Bool.false_eq_true, tc_wp_if])) (fun μ h => tc_wp_of (by unfold tc_f7_set; simp (decide := true) only [tc_wp_bd, tc_sec7 h g.1 hs, tc_v7_in, tc_wp_some, c1, c3, if_true, if_false, tc_bI_eq0, or_false, or_true, and_self, Bool.false_eq_true, tc_wp_if, Bool.true_eq_false]))
    obtain ⟨k, -, hk, rfl⟩ := tc_wi_nI (a := 0) (b := 5) (by decide) (by decide) c3
    refine ⟨tc_ofv Y s 3, tc_yA Y (upd Y.2.2.1.1 s (nI k), Y.2.2.1.2), g.yA (fun r hr => ?_), fun μ h => ?_, fun μ h => ?_⟩
    · by_cases c : r = s
      · exact ⟨k, by omega, by simp [upd, c]⟩
      · obtain ⟨k', q1, q2⟩ := g.1.2.2.2.1 r hr
        exact ⟨k', q1, by simp [upd, c, q2]⟩
    · unfold tc_f6_set
      simp (decide := true) only [tc_wp_bd, tc_sec5 h g.1 hs, tc_wp_some, show nI 3 = (3 : Int32) from rfl, tc_tr3, c3, if_false, tc_bI_eq0, tc_wp_if, Bool.true_eq_false]
      refine tc_wp_mono (tc_k6_of hN h g.1 hs (j := 3) (by decide)) (fun r μ1 hh => ?_)
      have h1 := h.frame (μ' := μ1) (fun k _ _ hk => hh.2 k hk)
      unfold tc_f5_lay
      simp (decide := true) only [if_true, if_false, tc_wp_ck, tc_wp_lt, tc_wp_some, hv, true_and, tc_cl (show s < 2 ^ 31 by omega), tc_wp_if, or_true]
      exact ⟨hh.1, fun k hk => by rw [tc_wr_k (by omega)]; exact hh.2 k (by omega), h1.a1⟩
    · unfold tc_f7_set
      simp (decide := true) only [tc_wp_bd, tc_sec7 h g.1 hs, tc_v7_in, tc_wp_some, c1, c3, if_true, if_false, tc_bI_eq0, or_false, or_true, tc_wp_if, Bool.true_eq_false, tc_wp_ck, tc_wp_lt, hv, true_and, tc_cl (show s < 2 ^ 31 by omega)]
      refine ⟨(h.2.1 s hs).1.1, tc_FM.rf.wr (by omega), h.ar (by omega) (fun r hr => ?_)⟩
      by_cases c : r = s <;> simp [upd, c]
end S5
