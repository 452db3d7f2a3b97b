theorem tc_wp_none {β : Type} {P : β → tc_Mem → Prop} : tc_wp (none : Option (β × tc_Mem)) P ↔ False := by
  constructor
  · rintro ⟨r, μ', h, -⟩; cases h
  · intro h; exact h.elim

section CL2
variable {N t : Nat} {μ : tc_Mem} {Y : tc_Y}
theorem tc_en_if {pk hd x y : Int32} {b : Bool} {p : Prop} [Decidable p] : tc_en pk hd (if p then x else y) b = if p then tc_en pk hd x b else tc_en pk hd y b := by
  by_cases h : p <;> simp [h]
theorem tc_and1 (a : Bool) : tc_bI a = 0 → (if tc_bI a = 0 then (0 : Int32) else 1) = tc_bI a := by intro h; rw [if_pos h, h]
theorem tc_v5_goesUp (h : tc_RC μ t Y) (g : tc_Gd Y) {s : Nat} {c : Int32} (hs : s < Y.1.1) (hc : μ (t + 6) s = c) : tc_f5_goesUp N t (nI s) μ = some (tc_bI (tc_gu Y.1.1 Y.1.2.1 Y.2.1.1 Y.2.1.2.1 (Y.2.2.1.1 s) (Y.2.2.1.2.2.2.2 s) c s), μ) := by
  have g1 := g.1
  have h2 := h.2.1 s hs
  obtain ⟨k, hk, hK⟩ := g.2.2.2.1 s hs
  have key : ∀ b : Bool, b = Y.1.2.1.testBit s → tc_f5_goesUp_14 N t (nI s) (tc_bI b) μ = some (tc_bI (tc_gu Y.1.1 Y.1.2.1 Y.2.1.1 Y.2.1.2.1 (Y.2.2.1.1 s) (Y.2.2.1.2.2.2.2 s) c s), μ) := by
    intro b hb
    apply tc_wp_of
    unfold tc_f5_goesUp_14 tc_f5_goesUp_94 tc_f5_goesUp_118 tc_f5_goesUp_148 tc_f5_goesUp_164 tc_f5_goesUp_221
    simp only [tc_wp_bd, tc_wp_ck, tc_wp_lt, tc_wp_if, tc_wp_some, tc_wp_zr, tc_wp_none, tc_v5_relayL h g hs, tc_v5_relayR h g hs, tc_v5_isEnough h, tc_vin (show s < 2 ^ 31 by omega) (show 8 < 2 ^ 31 by decide), tc_cl (show s < 2 ^ 31 by omega), h2.1, h2.2.2.2.2, hc, show s < 8 by omega, true_and]
    rw [hK]
    unfold tc_gu
    dsimp only
    rw [← hb, tc_en_if]
    generalize tc_en Y.2.1.1 Y.2.1.2.1 c b = e1
    generalize tc_en Y.2.1.1 Y.2.1.2.1 (c / 2) b = e2
    generalize Y.1.2.1.testBit (s - 1) = bl
    generalize Y.1.2.1.testBit (s + 1) = br
    generalize hw : decide (2 ≤ Y.2.2.1.2.2.2.2 s) = w
    have hw2 : (Y.2.2.1.2.2.2.2 s < 2) = (w = false) := by
      rw [← hw, decide_eq_false_iff_not, Int32.not_le]
    simp only [hw2]
    generalize hl : decide (0 < s) = cl
    generalize hr : decide (s + 1 < Y.1.1) = cr
    have hl2 : (0 < s) = (cl = true) := by rw [← hl, decide_eq_true_eq]
    have hr2 : (s + 1 < Y.1.1) = (cr = true) := by rw [← hr, decide_eq_true_eq]
    simp only [hl2, hr2]
    clear hw hw2 hl hr hl2 hr2 hb h2 hK
    rcases (show k = 0 ∨ k = 1 ∨ k = 2 ∨ k = 3 ∨ k = 4 ∨ k = 5 by omega) with rfl | rfl | rfl | rfl | rfl | rfl
    all_goals simp (decide := true) only [if_true, if_false, or_false, false_or, and_true, true_and]
    all_goals decide +revert
  unfold tc_f5_goesUp
  apply tc_wp_of
  simp only [tc_wp_bd, tc_v5_relay h g (show s < 2 ^ 31 by omega), tc_wp_some, if_pos hs, tc_wp_if, tc_bI_eq1]
  cases hb : Y.1.2.1.testBit s
  · simp only [Bool.false_eq_true, if_false]
    exact tc_wp_eq (key false hb.symm) ⟨rfl, rfl⟩
  · simp only [if_true]
    exact tc_wp_eq (key true hb.symm) ⟨rfl, rfl⟩
end CL2
