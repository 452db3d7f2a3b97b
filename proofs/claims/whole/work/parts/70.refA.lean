/-! the reference: faults but for one that is left out -/
def tc_ef (w : Int32) : Nat → tc_Fl → tc_Fl
  | _, [] => []
  | i, q :: l => if nI i = w then tc_ef w (i + 1) l else q :: tc_ef w (i + 1) l
theorem tc_ef_m1 : ∀ (l : tc_Fl) (i : Nat), i + l.length < 2 ^ 31 → tc_ef (-1) i l = l := by
  intro l
  induction l with
  | nil => intro i _; rfl
  | cons q l ih =>
    intro i hi
    rw [List.length_cons] at hi
    rw [tc_ef, if_neg, ih (i + 1) (by omega)]
    intro e
    exact absurd (show nI i < 0 by rw [e]; decide) (tc_nn (by omega))
theorem tc_ef_at : ∀ (l : tc_Fl) (i f : Nat), i + l.length < 2 ^ 31 → f < 2 ^ 31 → tc_ef (nI f) i l = if f < i then l else l.eraseIdx (f - i) := by
  intro l
  induction l with
  | nil => intro i f _ _; simp [tc_ef]
  | cons q l ih =>
    intro i f hi hf
    rw [List.length_cons] at hi
    rw [tc_ef, ih (i + 1) f (by omega) hf]
    by_cases c : i = f
    · subst c; simp
    · rw [if_neg (show ¬ nI i = nI f by rw [tc_eq (by omega) hf]; exact c)]
      by_cases c2 : f < i
      · rw [if_pos c2, if_pos (by omega)]
      · rw [if_neg c2, if_neg (by omega), show f - i = (f - (i + 1)) + 1 by omega, List.eraseIdx_cons_succ]
def tc_RM (μ : tc_Mem) (Y : tc_Y) (fl : tc_Fl) (w : Int32) : Prop := μ 50 0 = nI Y.1.1 ∧ (∀ s, s < Y.1.1 → (μ 51 s = Y.2.2.1.1 s ∧ μ 52 s = Y.2.2.1.2.1 s ∧ μ 53 s = Y.2.2.1.2.2.1 s ∧ μ 54 s = Y.2.2.1.2.2.2.1 s ∧ μ 55 s = Y.2.2.1.2.2.2.2 s) ∧ μ 56 s = tc_bI (Y.1.2.1.testBit s) ∧ μ 57 s = tc_bI (Y.1.2.2.testBit s)) ∧ (μ 58 0 = Y.2.1.1 ∧ μ 58 1 = Y.2.1.2.1 ∧ μ 58 2 = Y.2.1.2.2) ∧ (μ 50 9 = nI fl.length ∧ tc_RF μ 59 60 61 fl) ∧ μ 50 13 = w ∧ fl.length ≤ 16 ∧ tc_ef w 0 fl = Y.2.2.2 ∧ ∀ q ∈ fl, q.2.1 < Y.1.1 ∧ ∃ k, k < 4 ∧ q.1 = nI k
theorem tc_v03 : vp_in (0 : Int32) 3 := vp_in_nI (n := 0) (by decide) (by decide)
theorem tc_v13 : vp_in (1 : Int32) 3 := vp_in_nI (n := 1) (by decide) (by decide)
theorem tc_v23 : vp_in (2 : Int32) 3 := vp_in_nI (n := 2) (by decide) (by decide)
theorem tc_c0 : (0 : Int32).toNatClampNeg = 0 := rfl
theorem tc_c1 : (1 : Int32).toNatClampNeg = 1 := rfl
theorem tc_c2 : (2 : Int32).toNatClampNeg = 2 := rfl
theorem tc_drop1 {α : Type} {l : List α} {i : Nat} {q : α} (h : l[i]? = some q) : l.drop i = q :: l.drop (i + 1) := by
  obtain ⟨h1, h2⟩ := List.getElem?_eq_some_iff.mp h
  rw [List.drop_eq_getElem_cons h1, h2]
theorem tc_hf_cons (q : Int32 × Nat × Int32) (l : tc_Fl) (k : Int32) (s : Nat) : tc_hf (q :: l) k s = ((decide (q.1 = k) && decide (q.2.1 = s)) || tc_hf l k s) := by
  unfold tc_hf; rw [List.any_cons]
section RA
variable {N : Nat} {μ : tc_Mem} {Y : tc_Y} {fl : tc_Fl} {w : Int32} {s : Nat}
theorem tc_v7_leakOf (h : tc_RM μ Y fl w) (g : tc_Gd Y) (hs : s < Y.1.1) : tc_f7_leakOf N (nI s) μ = some (tc_lk Y.2.2.1 Y.2.1.2.2 s, μ) := by
  have g1 := g.1
  have h2 := h.2.1 s hs
  apply tc_wp_of
  unfold tc_f7_leakOf
  simp only [tc_wp_ck, tc_wp_some, tc_vin (show s < 2 ^ 31 by omega) (show 8 < 2 ^ 31 by decide), tc_cl (show s < 2 ^ 31 by omega), h2.1.2.2.1, h2.1.2.2.2.1, tc_c2, h.2.2.1.2.2, tc_lk, tc_v23, true_and]
  refine ⟨by omega, by omega, ?_⟩; simp
theorem tc_v7_hasFault (hN : 300 ≤ N) (h : tc_RM μ Y fl w) (g : tc_Gd Y) {k : Int32} (hs : s < Y.1.1) : tc_f7_hasFault N (nI s) k μ = some (tc_bI (tc_hf Y.2.2.2 k s), μ) := by
  have g1 := g.1
  obtain ⟨-, -, -, ⟨h4, h5⟩, h6, h7, h8, h9⟩ := h
  have key : ∀ (d f i : Nat), i + d = fl.length → d < f → tc_f7_hasFault_2 N f (nI s) k (nI i) μ = some (tc_bI (tc_hf (tc_ef w i (fl.drop i)) k s), μ) := by
    intro d
    induction d with
    | zero =>
      intro f i hi hf
      obtain ⟨f, rfl⟩ : ∃ f', f = f' + 1 := ⟨f - 1, by omega⟩
      rw [tc_f7_hasFault_2]; dsimp only
      rw [h4, if_pos (by rw [tc_le (by omega) (by omega)]; omega), show i = fl.length by omega, List.drop_length]
      rfl
    | succ d ih =>
      intro f i hi hf
      obtain ⟨f, rfl⟩ : ∃ f', f = f' + 1 := ⟨f - 1, by omega⟩
      obtain ⟨q, hq⟩ : ∃ q, fl[i]? = some q := ⟨fl[i]'(by omega), List.getElem?_eq_getElem (by omega)⟩
      obtain ⟨r1, r2, r3⟩ := h5 i q hq
      have hq8 := (h9 q (List.mem_of_getElem? hq)).1
      have ih := ih f (i + 1) (by omega) (by omega)
      apply tc_wp_of
      rw [tc_f7_hasFault_2]; dsimp only
      rw [h4, if_neg (by rw [tc_le (by omega) (by omega)]; omega), h6, tc_drop1 hq, tc_ef]
      simp only [tc_wp_if, tc_wp_ck, tc_wp_some, tc_vin (show i < 2 ^ 31 by omega) (show 20 < 2 ^ 31 by decide), tc_cl (show i < 2 ^ 31 by omega), r1, r2, tc_ad1, tc_eq (show q.2.1 < 2 ^ 31 by omega) (show s < 2 ^ 31 by omega), show i < 20 by omega, true_and]
      by_cases c : nI i = w
      · rw [if_pos c, if_pos c]
        exact tc_wp_eq ih ⟨rfl, rfl⟩
      · rw [if_neg c, if_neg c, tc_hf_cons]
        by_cases c2 : q.2.1 = s
        · rw [if_pos c2]
          by_cases c3 : q.1 = k
          · rw [if_pos c3]; simp [c2, c3, tc_bI]
          · rw [if_neg c3]
            exact tc_wp_eq ih ⟨by simp [c3], rfl⟩
        · rw [if_neg c2]
          exact tc_wp_eq ih ⟨by simp [c2], rfl⟩
  have := key fl.length N 0 (by omega) (by omega)
  rw [List.drop_zero, h8] at this
  exact this
theorem tc_mn_eq (x : Int32) : (if x < 999 then x else 999) = tc_mn x := by
  unfold tc_mn
  by_cases c : x < 999
  · rw [if_pos c, if_neg (Int32.not_lt.mpr (Int32.le_of_lt c))]
  · rw [if_neg c]
    by_cases c2 : 999 < x
    · rw [if_pos c2]
    · rw [if_neg c2]
      exact Int32.le_antisymm (Int32.not_lt.mp c) (Int32.not_lt.mp c2)
theorem tc_v7_currentOf (hN : 300 ≤ N) (h : tc_RM μ Y fl w) (g : tc_Gd Y) (hs : s < Y.1.1) : tc_f7_currentOf N (nI s) μ = some (tc_cY Y s, μ) := by
  have g1 := g.1
  have hlk := tc_v7_leakOf (N := N) h g hs
  have h2 := h.2.1 s hs
  obtain ⟨-, -, -, ⟨h4, h5⟩, h6, h7, h8, h9⟩ := id h
  have fin : ∀ v : Int32, v = tc_cv Y.2.2.1 Y.2.1.2.2 Y.2.2.2 s → tc_f7_currentOf_122 N (nI s) v μ = some (tc_cY Y s, μ) := by
    intro v hv
    apply tc_wp_of
    unfold tc_f7_currentOf_122 tc_cY tc_cu
    simp only [tc_wp_ck, tc_wp_if, tc_wp_bd, tc_wp_some, tc_v7_hasFault hN h g hs, tc_vin (show s < 2 ^ 31 by omega) (show 8 < 2 ^ 31 by decide), tc_cl (show s < 2 ^ 31 by omega), h2.2.2, tc_bI_eq0, show s < 8 by omega, true_and, ← hv]
    cases Y.1.2.2.testBit s <;> cases tc_hf Y.2.2.2 3 s <;> simp
  have key : ∀ (d f i : Nat) (v : Int32), i + d = fl.length → d < f → (tc_ef w i (fl.drop i)).foldl (tc_fs (tc_lk Y.2.2.1 Y.2.1.2.2 s) s) v = tc_cv Y.2.2.1 Y.2.1.2.2 Y.2.2.2 s → tc_f7_currentOf_19 N f (nI s) v (nI i) μ = some (tc_cY Y s, μ) := by
    intro d
    induction d with
    | zero =>
      intro f i v hi hf hv
      obtain ⟨f, rfl⟩ : ∃ f', f = f' + 1 := ⟨f - 1, by omega⟩
      rw [tc_f7_currentOf_19]; dsimp only
      rw [h4, if_pos (by rw [tc_le (by omega) (by omega)]; omega)]
      rw [show i = fl.length by omega, List.drop_length] at hv
      exact fin v hv
    | succ d ih =>
      intro f i v hi hf hv
      obtain ⟨f, rfl⟩ : ∃ f', f = f' + 1 := ⟨f - 1, by omega⟩
      obtain ⟨q, hq⟩ : ∃ q, fl[i]? = some q := ⟨fl[i]'(by omega), List.getElem?_eq_getElem (by omega)⟩
      obtain ⟨r1, r2, r3⟩ := h5 i q hq
      obtain ⟨hq8, k, hk, hK⟩ := h9 q (List.mem_of_getElem? hq)
      have ih := fun v hv => ih f (i + 1) v (by omega) (by omega) hv
      rw [tc_drop1 hq, tc_ef] at hv
      apply tc_wp_of
      rw [tc_f7_currentOf_19]; dsimp only
      rw [h4, if_neg (by rw [tc_le (by omega) (by omega)]; omega), h6]
      simp only [tc_wp_if, tc_wp_ck, tc_wp_lt, tc_wp_bd, tc_wp_none, hlk, tc_wp_some, tc_vin (show i < 2 ^ 31 by omega) (show 20 < 2 ^ 31 by decide), tc_cl (show i < 2 ^ 31 by omega), r1, r2, r3, tc_ad1, tc_eq (show q.2.1 < 2 ^ 31 by omega) (show s < 2 ^ 31 by omega), show i < 20 by omega, true_and, tc_mn_eq]
      by_cases c : nI i = w
      · rw [if_pos c] at hv ⊢
        exact tc_wp_eq (ih v hv) ⟨rfl, rfl⟩
      · rw [if_neg c] at hv ⊢
        rw [List.foldl_cons] at hv
        by_cases c2 : q.2.1 = s
        · rw [if_pos c2]
          unfold tc_fs at hv
          rw [if_pos c2] at hv
          rw [hK] at hv ⊢
          rcases (show k = 0 ∨ k = 1 ∨ k = 2 ∨ k = 3 by omega) with rfl | rfl | rfl | rfl <;> simp (decide := true) only [if_true, if_false, or_false, false_or, or_true] at hv ⊢ <;> exact tc_wp_eq (ih _ hv) ⟨rfl, rfl⟩
        · rw [if_neg c2]
          have e : tc_fs (tc_lk Y.2.2.1 Y.2.1.2.2 s) s v q = v := by unfold tc_fs; rw [if_neg c2]
          rw [e] at hv
          exact tc_wp_eq (ih v hv) ⟨rfl, rfl⟩
  apply tc_wp_of
  unfold tc_f7_currentOf
  simp only [tc_wp_ck, tc_wp_bd, hlk, tc_wp_some, tc_wp_lt, tc_vin (show s < 2 ^ 31 by omega) (show 8 < 2 ^ 31 by decide), tc_cl (show s < 2 ^ 31 by omega), h2.1.2.1, show s < 8 by omega, true_and]
  exact tc_wp_eq (key fl.length N 0 _ (by omega) (by omega) (by rw [List.drop_zero, h8]; rfl)) ⟨rfl, rfl⟩
end RA
