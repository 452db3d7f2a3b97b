/-! what holds between two calls -/
def tc_IY (μ : tc_Mem) (Y : tc_Y) : Prop := tc_Gd Y ∧ Y.2.2.2.length ≤ 6 ∧ tc_RC μ 1 Y ∧ tc_RM μ Y Y.2.2.2 (-1)
def tc_ILog (μ : tc_Mem) : Prop := ∃ lg : List Int32, lg.length ≤ 40 ∧ μ 0 5 = nI lg.length ∧ tc_CH μ 26 lg ∧ μ 50 14 = nI lg.length ∧ tc_CH μ 62 lg
def tc_ITape (μ : tc_Mem) : Prop := ∃ tp : List Int32, tp.length ≤ 60 ∧ μ 42 1 = nI tp.length ∧ tc_CH μ 43 tp ∧ μ 50 17 = nI tp.length ∧ tc_CH μ 63 tp ∧ ∀ v ∈ tp, ∃ b, b < 256 ∧ v = nI b
def tc_ISh (μ : tc_Mem) : Prop := ∀ r, r < 4 → (∃ z, z ≤ 40 ∧ μ 48 r = nI z) ∧ μ 47 r = μ 64 r ∧ ((μ 47 r = -1) ∨ ((μ 47 r = 0 ∨ μ 47 r = 1) ∧ μ 65 r = μ 48 r ∧ ∀ i, nI i < μ 48 r → i < 40 → μ 49 (40 * r + i) = μ 66 (40 * r + i)))
/-- the reference's image of a yard -/
def tc_RI (μ : tc_Mem) (Y : tc_Y) : Prop := μ 76 77 = nI Y.1.1 ∧ (∀ s, s < Y.1.1 → (μ 76 s = Y.2.2.1.1 s ∧ μ 76 (8 + s) = Y.2.2.1.2.1 s ∧ μ 76 (16 + s) = Y.2.2.1.2.2.1 s ∧ μ 76 (24 + s) = Y.2.2.1.2.2.2.1 s ∧ μ 76 (32 + s) = Y.2.2.1.2.2.2.2 s) ∧ μ 76 (40 + s) = tc_bI (Y.1.2.1.testBit s) ∧ μ 76 (48 + s) = tc_bI (Y.1.2.2.testBit s)) ∧ (μ 76 74 = Y.2.1.1 ∧ μ 76 75 = Y.2.1.2.1 ∧ μ 76 76 = Y.2.1.2.2) ∧ μ 76 78 = nI Y.2.2.2.length ∧ ∀ (i : Nat) (q : Int32 × Nat × Int32), Y.2.2.2[i]? = some q → μ 76 (56 + i) = q.1 ∧ μ 76 (62 + i) = nI q.2.1 ∧ μ 76 (68 + i) = q.2.2
def tc_IIm (μ : tc_Mem) : Prop := (μ 0 2 = 0 ∧ μ 50 37 = 0) ∨ (μ 0 2 = 1 ∧ μ 50 37 = 1 ∧ ∃ Y, tc_Gd Y ∧ Y.2.2.2.length ≤ 6 ∧ tc_RC μ 12 Y ∧ tc_RI μ Y)
def tc_IO (μ : tc_Mem) : Prop := tc_ILog μ ∧ tc_ITape μ ∧ tc_ISh μ ∧ tc_IIm μ
def tc_Inv (μ : tc_Mem) : Prop := (∃ Y, tc_IY μ Y) ∧ tc_IO μ
def tc_O (k : Nat) : Prop := k = 0 ∨ (12 ≤ k ∧ k ≤ 22) ∨ k = 26 ∨ (42 ≤ k ∧ k ≤ 49) ∨ (62 ≤ k ∧ k ≤ 66) ∨ k = 76
theorem tc_CH.frame {μ μ' : tc_Mem} {k : Nat} {l : List Int32} (h : tc_CH μ k l) (hk : μ' k = μ k) : tc_CH μ' k l := fun i v hi => by rw [hk]; exact h i v hi
/-- what the others hold is touched by nobody -/
def tc_FO (μ μ' : tc_Mem) : Prop := (∀ k, tc_O k → μ' k = μ k) ∧ ∀ j, (j = 14 ∨ j = 17 ∨ j = 37) → μ' 50 j = μ 50 j
theorem tc_FO.trans {μ μ1 μ2 : tc_Mem} (h : tc_FO μ μ1) (h2 : tc_FO μ1 μ2) : tc_FO μ μ2 := ⟨fun k hk => (h2.1 k hk).trans (h.1 k hk), fun j hj => (h2.2 j hj).trans (h.2 j hj)⟩
theorem tc_FO.rf {μ : tc_Mem} : tc_FO μ μ := ⟨fun _ _ => rfl, fun _ _ => rfl⟩
theorem tc_IO.frame {μ μ' : tc_Mem} (h : tc_IO μ) (hf : tc_FO μ μ') : tc_IO μ' := by
  obtain ⟨⟨lg, l1, l2, l3, l4, l5⟩, ⟨tp, t1, t2, t3, t4, t5, t6⟩, hS, hI⟩ := h
  obtain ⟨f1, f2⟩ := hf
  have o : ∀ k, tc_O k → μ' k = μ k := f1
  refine ⟨⟨lg, l1, by rw [o 0 (by unfold tc_O; omega)]; exact l2, l3.frame (o 26 (by unfold tc_O; omega)), by rw [f2 14 (by omega)]; exact l4, l5.frame (o 62 (by unfold tc_O; omega))⟩, ⟨tp, t1, by rw [o 42 (by unfold tc_O; omega)]; exact t2, t3.frame (o 43 (by unfold tc_O; omega)), by rw [f2 17 (by omega)]; exact t4, t5.frame (o 63 (by unfold tc_O; omega)), t6⟩, ?_, ?_⟩
  · intro r hr
    rw [o 47 (by unfold tc_O; omega), o 48 (by unfold tc_O; omega), o 49 (by unfold tc_O; omega), o 64 (by unfold tc_O; omega), o 65 (by unfold tc_O; omega), o 66 (by unfold tc_O; omega)]
    exact hS r hr
  · unfold tc_IIm
    rw [o 0 (by unfold tc_O; omega), f2 37 (by omega)]
    rcases hI with hI | ⟨i1, i2, Y, i3, i4, i5, i6⟩
    · exact Or.inl hI
    · refine Or.inr ⟨i1, i2, Y, i3, i4, i5.frame (fun k k1 k2 _ => o k (by unfold tc_O; omega)), ?_⟩
      unfold tc_RI
      rw [o 76 (by unfold tc_O; omega)]
      exact i6
/-- the class has touched its yard alone; the reference its own alone -/
def tc_FC (μ μ' : tc_Mem) : Prop := ∀ k, (k < 1 ∨ 11 < k) → μ' k = μ k
def tc_FM (μ μ' : tc_Mem) : Prop := (∀ k, (k < 50 ∨ 61 < k) → (k < 67 ∨ 74 < k) → μ' k = μ k) ∧ ∀ j, (j = 14 ∨ j = 17 ∨ (32 ≤ j ∧ j ≤ 38)) → μ' 50 j = μ 50 j
theorem tc_FC.o {μ μ' : tc_Mem} (h : tc_FC μ μ') : tc_FO μ μ' := ⟨fun k hk => h k (by unfold tc_O at hk; omega), fun j _ => by rw [h 50 (by omega)]⟩
theorem tc_FM.o {μ μ' : tc_Mem} (h : tc_FM μ μ') : tc_FO μ μ' := ⟨fun k hk => h.1 k (by unfold tc_O at hk; omega) (by unfold tc_O at hk; omega), fun j hj => h.2 j (by omega)⟩
theorem tc_FC.rf {μ : tc_Mem} : tc_FC μ μ := fun _ _ => rfl
theorem tc_FM.rf {μ : tc_Mem} : tc_FM μ μ := ⟨fun _ _ _ => rfl, fun _ _ => rfl⟩
theorem tc_RM.fc {μ μ' : tc_Mem} {Y : tc_Y} {fl : tc_Fl} {w : Int32} (h : tc_RM μ Y fl w) (hf : tc_FC μ μ') : tc_RM μ' Y fl w := h.frame (fun j _ => by rw [hf 50 (by omega)]) (fun k _ _ => hf k (by omega))
theorem tc_RC.fm {μ μ' : tc_Mem} {Y : tc_Y} (h : tc_RC μ 1 Y) (hf : tc_FM μ μ') : tc_RC μ' 1 Y := h.frame (fun k _ _ _ => hf.1 k (by omega) (by omega))
/-- a step: the class first, then the reference -/
theorem tc_mk {o1 : Option (Int32 × tc_Mem)} {o2 : tc_Mem → Option (Int32 × tc_Mem)} {Inv : tc_Mem → Prop} (h : tc_wp o1 (fun r μ1 => tc_wp (o2 μ1) (fun r2 μ2 => r2 = r ∧ Inv μ2))) : ∃ (r : Int32) (μ1 μ2 : tc_Mem), o1 = some (r, μ1) ∧ o2 μ1 = some (r, μ2) ∧ Inv μ2 := by
  obtain ⟨r, μ1, h1, r2, μ2, h2, rfl, h3⟩ := h
  exact ⟨_, μ1, μ2, h1, h2, h3⟩
/-- a step that changes the yard, on both sides alike -/
theorem tc_mkY {o1 : Option (Int32 × tc_Mem)} {o2 : tc_Mem → Option (Int32 × tc_Mem)} {μ : tc_Mem} {Y : tc_Y} (hO : tc_IO μ) (hY : tc_IY μ Y) {r0 : Int32} {Y' : tc_Y} (hG : tc_Gd Y' ∧ Y'.2.2.2.length ≤ 6) (h1 : tc_wp o1 (fun r μ1 => r = r0 ∧ tc_FC μ μ1 ∧ tc_RC μ1 1 Y')) (h2 : ∀ μ1, tc_RM μ1 Y Y.2.2.2 (-1) → tc_wp (o2 μ1) (fun r μ2 => r = r0 ∧ tc_FM μ1 μ2 ∧ tc_RM μ2 Y' Y'.2.2.2 (-1))) : ∃ (r : Int32) (μ1 μ2 : tc_Mem), o1 = some (r, μ1) ∧ o2 μ1 = some (r, μ2) ∧ tc_Inv μ2 := by
  refine tc_mk (tc_wp_mono h1 (fun r μ1 hh => ?_))
  obtain ⟨rfl, f1, r1⟩ := hh
  refine tc_wp_mono (h2 μ1 (hY.2.2.2.fc f1)) (fun r2 μ2 hh => ?_)
  obtain ⟨rfl, f2, r2⟩ := hh
  exact ⟨rfl, ⟨Y', hG.1, hG.2, r1.fm f2, r2⟩, hO.frame (f1.o.trans f2.o)⟩
/-- a step that changes nothing -/
theorem tc_mk0 {o1 : Option (Int32 × tc_Mem)} {o2 : tc_Mem → Option (Int32 × tc_Mem)} {μ : tc_Mem} (hI : tc_Inv μ) {r0 : Int32} (h1 : o1 = some (r0, μ)) (h2 : o2 μ = some (r0, μ)) : ∃ (r : Int32) (μ1 μ2 : tc_Mem), o1 = some (r, μ1) ∧ o2 μ1 = some (r, μ2) ∧ tc_Inv μ2 := ⟨r0, μ, μ, h1, h2, hI⟩
/-! small questions of both -/
def tc_wi (x a b : Int32) : Bool := !decide (x < a) && !decide (b < x)
theorem tc_v6_isWithin {N : Nat} {x a b : Int32} {μ : tc_Mem} : tc_f6_isWithin N x a b μ = some (tc_bI (tc_wi x a b), μ) := by
  unfold tc_f6_isWithin tc_wi
  by_cases c : x < a
  · rw [if_pos c]; simp [c, tc_bI]
  · rw [if_neg c]
    by_cases c2 : b < x
    · rw [if_pos c2]; simp [c, c2, tc_bI]
    · rw [if_neg c2]; simp [c, c2, tc_bI]
theorem tc_v7_in {N : Nat} {x a b : Int32} {μ : tc_Mem} : tc_f7_in N x a b μ = some (tc_bI (tc_wi x a b), μ) := by
  unfold tc_f7_in tc_wi
  by_cases c : x < a
  · rw [if_pos c]; simp [c, tc_bI]
  · rw [if_neg c]
    by_cases c2 : b < x
    · rw [if_pos c2]; simp [c, c2, tc_bI]
    · rw [if_neg c2]; simp [c, c2, tc_bI]
theorem tc_wi_nI {x : Int32} {a b : Nat} (ha : a < 2 ^ 31) (hb : b < 2 ^ 31) (h : tc_wi x (nI a) (nI b) = true) : ∃ j, a ≤ j ∧ j ≤ b ∧ x = nI j := by
  unfold tc_wi at h
  rw [Bool.and_eq_true, Bool.not_eq_true', Bool.not_eq_true', decide_eq_false_iff_not, decide_eq_false_iff_not] at h
  have h0 : ¬ x < 0 := fun c => h.1 (Int32.lt_of_lt_of_le c (nI_pos' ha))
  obtain ⟨j, hj, rfl⟩ := nI_of h0
  rw [tc_lt' hj ha, tc_lt' hb hj] at h
  exact ⟨j, by omega, by omega, rfl⟩
theorem tc_v7_isSection {N : Nat} {μ : tc_Mem} {n s : Nat} (h : μ 50 0 = nI n) (hn : n ≤ 8) (hs : s < 2 ^ 31) : tc_f7_isSection N (nI s) μ = some (tc_bI (decide (s < n)), μ) := by
  apply tc_wp_of
  unfold tc_f7_isSection
  simp only [tc_wp_bd, tc_v7_in, tc_wp_some, tc_wp_zr, tc_bI_01, true_and, h]
  refine ⟨?_, trivial⟩
  congr 1
  unfold tc_wi
  rw [decide_eq_false (tc_nn hs)]
  by_cases c : n = 0
  · subst c
    rw [decide_eq_true (show nI 0 - 1 < nI s from Int32.lt_of_lt_of_le tc_neg1 (nI_pos' hs))]
    simp
  · rw [tc_sb1 (by omega)]
    by_cases c2 : s < n
    · rw [decide_eq_false (by rw [tc_lt' (by omega) hs]; omega)]; simp [c2]
    · rw [decide_eq_true (by rw [tc_lt' (by omega) hs]; omega)]; simp [c2]
theorem tc_v7_isSectionN {N : Nat} {μ : tc_Mem} {x : Int32} (hx : x < 0) : tc_f7_isSection N x μ = some (0, μ) := by
  apply tc_wp_of
  unfold tc_f7_isSection
  simp only [tc_wp_bd, tc_v7_in, tc_wp_some, tc_wp_zr, tc_bI_01, true_and]
  refine ⟨?_, trivial⟩
  unfold tc_wi
  rw [decide_eq_true hx]; rfl
/-- a section, or none for both -/
theorem tc_sec {N : Nat} {Y : tc_Y} (g : tc_Gd Y) (x : Int32) : (∃ s, s < Y.1.1 ∧ x = nI s) ∨ ((∀ (μ : tc_Mem) (t : Nat), tc_RC μ t Y → tc_f5_has N t x μ = some (0, μ)) ∧ ∀ (μ : tc_Mem) (fl : tc_Fl) (w : Int32), tc_RM μ Y fl w → tc_f7_isSection N x μ = some (0, μ)) := by
  rcases tc_split x with hx | ⟨s, hs, rfl⟩
  · exact Or.inr ⟨fun μ t h => tc_v5_hasN hx, fun μ fl w h => tc_v7_isSectionN hx⟩
  · by_cases c : s < Y.1.1
    · exact Or.inl ⟨s, c, rfl⟩
    · refine Or.inr ⟨fun μ t h => ?_, fun μ fl w h => ?_⟩
      · rw [tc_v5_has h g hs]; simp [c, tc_bI]
      · rw [tc_v7_isSection h.1 g.1 hs]; simp [c, tc_bI]
theorem tc_sec5 {N t : Nat} {μ : tc_Mem} {Y : tc_Y} {s : Nat} (h : tc_RC μ t Y) (g : tc_Gd Y) (hs : s < Y.1.1) : tc_f5_has N t (nI s) μ = some (1, μ) := by
  have g1 := g.1
  rw [tc_v5_has h g (by omega)]; simp [hs, tc_bI]
theorem tc_sec7 {N : Nat} {μ : tc_Mem} {Y : tc_Y} {fl : tc_Fl} {w : Int32} {s : Nat} (h : tc_RM μ Y fl w) (g : tc_Gd Y) (hs : s < Y.1.1) : tc_f7_isSection N (nI s) μ = some (1, μ) := by
  have g1 := g.1
  rw [tc_v7_isSection h.1 g1 (by omega)]; simp [hs, tc_bI]
theorem tc_tr3 {N : Nat} {x : Int32} {μ : tc_Mem} : tc_f6_isTrait N 3 x μ = some (tc_bI (tc_wi x 0 5), μ) := by
  apply tc_wp_of; unfold tc_f6_isTrait
  simp (decide := true) only [if_true, if_false, tc_wp_bd, tc_v6_isWithin, tc_wp_some, tc_wp_zr, tc_bI_01, true_and, or_false, and_self]
theorem tc_tr0 {N : Nat} {x : Int32} {μ : tc_Mem} : tc_f6_isTrait N 0 x μ = some (tc_bI (tc_wi x 1 99), μ) := by
  apply tc_wp_of; unfold tc_f6_isTrait
  simp (decide := true) only [if_true, if_false, tc_wp_bd, tc_v6_isWithin, tc_wp_some, tc_wp_zr, tc_bI_01, true_and, or_false, and_self]
theorem tc_tr1 {N : Nat} {x : Int32} {μ : tc_Mem} : tc_f6_isTrait N 1 x μ = some (tc_bI (tc_wi x 0 9), μ) := by
  apply tc_wp_of; unfold tc_f6_isTrait
  simp (decide := true) only [if_true, if_false, tc_wp_bd, tc_v6_isWithin, tc_wp_some, tc_wp_zr, tc_bI_01, true_and, or_false, and_self]
theorem tc_tr2 {N : Nat} {x : Int32} {μ : tc_Mem} : tc_f6_isTrait N 2 x μ = some (tc_bI (tc_wi x 1 9), μ) := by
  apply tc_wp_of; unfold tc_f6_isTrait
  simp (decide := true) only [if_true, if_false, tc_wp_bd, tc_v6_isWithin, tc_wp_some, tc_wp_zr, tc_bI_01, true_and, or_false, and_self]
