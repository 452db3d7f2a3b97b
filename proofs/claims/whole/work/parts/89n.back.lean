/-! back to the image -/
section H7
variable {N : Nat} {Y Z : tc_Y} {x1 x2 x3 x4 x5 x6 : Int32} {μ μ0 μ1 μ2 : tc_Mem}
def tz_J7 (μ μ1 : tc_Mem) (i : Nat) : Prop := ∀ s, s < i → (μ1 51 s = μ 76 s ∧ μ1 52 s = μ 76 (8 + s) ∧ μ1 53 s = μ 76 (16 + s) ∧ μ1 54 s = μ 76 (24 + s) ∧ μ1 55 s = μ 76 (32 + s)) ∧ (μ1 56 s = if μ 76 (40 + s) = 1 then 1 else 0) ∧ (μ1 57 s = if μ 76 (48 + s) = 1 then 1 else 0)
def tz_J6 (μ μ1 : tc_Mem) (i : Nat) : Prop := ∀ s, s < i → μ1 59 s = μ 76 (56 + s) ∧ μ1 60 s = μ 76 (62 + s) ∧ μ1 61 s = μ 76 (68 + s)
def tz_J3 (μ μ1 : tc_Mem) (i : Nat) : Prop := ∀ s, s < i → μ1 58 s = μ 76 (74 + s)
theorem tz_J7.fr {i : Nat} (h : tz_J7 μ μ1 i) (hf : ∀ k, 51 ≤ k → k ≤ 57 → μ2 k = μ1 k) : tz_J7 μ μ2 i := fun s hs => by
  rw [hf 51 (by omega) (by omega), hf 52 (by omega) (by omega), hf 53 (by omega) (by omega), hf 54 (by omega) (by omega), hf 55 (by omega) (by omega), hf 56 (by omega) (by omega), hf 57 (by omega) (by omega)]
  exact h s hs
theorem tz_J6.fr {i : Nat} (h : tz_J6 μ μ1 i) (hf : ∀ k, 59 ≤ k → k ≤ 61 → μ2 k = μ1 k) : tz_J6 μ μ2 i := fun s hs => by
  rw [hf 59 (by omega) (by omega), hf 60 (by omega) (by omega), hf 61 (by omega) (by omega)]
  exact h s hs
theorem tz_J3.fr {i : Nat} (h : tz_J3 μ μ1 i) (hf : μ2 58 = μ1 58) : tz_J3 μ μ2 i := fun s hs => by
  rw [hf]; exact h s hs
theorem tz_nar1 : vp_nar .boolean 1 = 1 := tc_nar (b := true)
theorem tz_nar0 : vp_nar .boolean 0 = 0 := tc_nar (b := false)
theorem tz_back (hN : 300 ≤ N) : tc_wp (tc_f7_back_12 N N 0 μ) (fun r μ2 => r = μ 76 77 ∧ (∀ k, (k < 50 ∨ 61 < k) → μ2 k = μ k) ∧ (∀ j, j ≠ 0 → j ≠ 9 → μ2 50 j = μ 50 j) ∧ (μ2 50 0 = μ 76 77 ∧ μ2 50 9 = μ 76 78) ∧ tz_J7 μ μ2 8 ∧ tz_J6 μ μ2 6 ∧ tz_J3 μ μ2 3) := by
  have p3 : ∀ (d f i : Nat) (μ1 : tc_Mem), i + d = 3 → d < f → (∀ k, (k < 51 ∨ 61 < k) → μ1 k = μ k) → tz_J7 μ μ1 8 → tz_J6 μ μ1 6 → tz_J3 μ μ1 i → tc_wp (tc_f7_back_205 N f (nI i) μ1) (fun r μ2 => r = μ 76 77 ∧ (∀ k, (k < 50 ∨ 61 < k) → μ2 k = μ k) ∧ (∀ j, j ≠ 0 → j ≠ 9 → μ2 50 j = μ 50 j) ∧ (μ2 50 0 = μ 76 77 ∧ μ2 50 9 = μ 76 78) ∧ tz_J7 μ μ2 8 ∧ tz_J6 μ μ2 6 ∧ tz_J3 μ μ2 3) := by
    intro d
    induction d with
    | zero =>
      intro f i μ1 hi hf h0 h7 h6 h3
      obtain ⟨f, rfl⟩ : ∃ f', f = f' + 1 := ⟨f - 1, by omega⟩
      obtain rfl : i = 3 := by omega
      rw [tc_f7_back_205]; dsimp only
      rw [if_pos (by decide)]
      unfold tc_f7_back_231
      have c77 : (77 : Int32).toNatClampNeg = 77 := by decide
      have c78 : (78 : Int32).toNatClampNeg = 78 := by decide
      rw [tc_wp_ck, tc_wp_lt, tc_wp_ck, tc_wp_lt, tc_wp_some, c77, c78, tc_wr_k (show (76 : Nat) ≠ 50 by decide), h0 76 (by omega)]
      have fr : ∀ k, k ≠ 50 → tc_wr (tc_wr μ1 50 0 (μ 76 77)) 50 9 (μ 76 78) k = μ1 k := fun k hk => by rw [tc_wr_k hk, tc_wr_k hk]
      refine ⟨(tc_vin (s := 77) (n := 90) (by decide) (by decide)).mpr (by decide), (tc_vin (s := 78) (n := 90) (by decide) (by decide)).mpr (by decide), ?_, fun k hk => by rw [fr k (by omega)]; exact h0 k (by omega), fun j j0 j9 => ?_, ⟨?_, ?_⟩, h7.fr (fun k _ _ => fr k (by omega)), h6.fr (fun k _ _ => fr k (by omega)), h3.fr (fr 58 (by decide))⟩
      · rw [tz_wn (by decide), tz_we]
      · rw [tz_wn j9, tz_wn j0, h0 50 (by omega)]
      · rw [tz_wn (by decide), tz_we]
      · rw [tz_we]
    | succ d ih =>
      intro f i μ1 hi hf h0 h7 h6 h3
      obtain ⟨f, rfl⟩ : ∃ f', f = f' + 1 := ⟨f - 1, by omega⟩
      have e74 : (74 : Int32) + nI i = nI (74 + i) := nI_add 74 i
      rw [tc_f7_back_205]; dsimp only
      rw [if_neg (by rw [tc_Lle (k := 3) (by omega) (by decide)]; omega), e74, tc_wp_ck, tc_wp_ck, tc_cl (show i < 2 ^ 31 by omega), tc_cl (show 74 + i < 2 ^ 31 by omega), tc_wp_lt, tc_ad1]
      refine ⟨(tc_vin (by omega) (by decide)).mpr (by omega), (tc_vin (by omega) (by decide)).mpr (by omega), ih f (i + 1) _ (by omega) (by omega) (fun k hk => by rw [tc_wr_k (by omega)]; exact h0 k hk) (h7.fr (fun k _ _ => tc_wr_k (by omega))) (h6.fr (fun k _ _ => tc_wr_k (by omega))) (fun s hs => ?_)⟩
      by_cases c : s = i
      · rw [c, tz_we, h0 76 (by omega)]
      · rw [tz_wn c]; exact h3 s (by omega)
  have p6 : ∀ (d f i : Nat) (μ1 : tc_Mem), i + d = 6 → d < f → (∀ k, (k < 51 ∨ 61 < k) → μ1 k = μ k) → tz_J7 μ μ1 8 → tz_J6 μ μ1 i → tc_wp (tc_f7_back_146 N f (nI i) μ1) (fun r μ2 => r = μ 76 77 ∧ (∀ k, (k < 50 ∨ 61 < k) → μ2 k = μ k) ∧ (∀ j, j ≠ 0 → j ≠ 9 → μ2 50 j = μ 50 j) ∧ (μ2 50 0 = μ 76 77 ∧ μ2 50 9 = μ 76 78) ∧ tz_J7 μ μ2 8 ∧ tz_J6 μ μ2 6 ∧ tz_J3 μ μ2 3) := by
    intro d
    induction d with
    | zero =>
      intro f i μ1 hi hf h0 h7 h6
      obtain ⟨f, rfl⟩ : ∃ f', f = f' + 1 := ⟨f - 1, by omega⟩
      obtain rfl : i = 6 := by omega
      rw [tc_f7_back_146]; dsimp only
      rw [if_pos (by decide)]
      unfold tc_f7_back_203
      exact p3 3 N 0 μ1 (by omega) (by omega) h0 h7 h6 (fun s hs => absurd hs (by omega))
    | succ d ih =>
      intro f i μ1 hi hf h0 h7 h6
      obtain ⟨f, rfl⟩ : ∃ f', f = f' + 1 := ⟨f - 1, by omega⟩
      have e56 : (56 : Int32) + nI i = nI (56 + i) := nI_add 56 i
      have e62 : (62 : Int32) + nI i = nI (62 + i) := nI_add 62 i
      have e68 : (68 : Int32) + nI i = nI (68 + i) := nI_add 68 i
      have e76 := h0 76 (by omega)
      rw [tc_f7_back_146]; dsimp only
      rw [if_neg (by rw [tc_Lle (k := 6) (by omega) (by decide)]; omega), e56, e62, e68]
      simp only [tc_wp_ck, tc_wp_lt, tc_cl (show i < 2 ^ 31 by omega), tc_cl (show 56 + i < 2 ^ 31 by omega), tc_cl (show 62 + i < 2 ^ 31 by omega), tc_cl (show 68 + i < 2 ^ 31 by omega), tc_vin (show i < 2 ^ 31 by omega) (show 20 < 2 ^ 31 by decide), tc_vin (show 56 + i < 2 ^ 31 by omega) (show 90 < 2 ^ 31 by decide), tc_vin (show 62 + i < 2 ^ 31 by omega) (show 90 < 2 ^ 31 by decide), tc_vin (show 68 + i < 2 ^ 31 by omega) (show 90 < 2 ^ 31 by decide), show i < 20 by omega, show 56 + i < 90 by omega, show 62 + i < 90 by omega, show 68 + i < 90 by omega, true_and, tc_ad1, tc_wr_k (show (76 : Nat) ≠ 59 by decide), tc_wr_k (show (76 : Nat) ≠ 60 by decide), tc_wr_k (show (76 : Nat) ≠ 61 by decide), e76]
      refine ih f (i + 1) _ (by omega) (by omega) (fun k hk => by rw [tc_wr_k (by omega), tc_wr_k (by omega), tc_wr_k (by omega)]; exact h0 k hk) (h7.fr (fun k _ _ => by rw [tc_wr_k (by omega), tc_wr_k (by omega), tc_wr_k (by omega)])) (fun s hs => ?_)
      rw [tc_wr_k (show (59 : Nat) ≠ 61 by decide), tc_wr_k (show (59 : Nat) ≠ 60 by decide), tc_wr_k (show (60 : Nat) ≠ 61 by decide)]
      by_cases c : s = i
      · subst c
        rw [tz_we, tz_we, tz_we]
        exact ⟨rfl, rfl, rfl⟩
      · have := h6 s (by omega)
        rw [tz_wn c, tz_wn c, tz_wn c, tc_wr_k (show (60 : Nat) ≠ 59 by decide), tc_wr_k (show (61 : Nat) ≠ 60 by decide), tc_wr_k (show (61 : Nat) ≠ 59 by decide)]
        exact this
  have p7 : ∀ (d f i : Nat) (μ1 : tc_Mem), i + d = 8 → d < f → (∀ k, (k < 51 ∨ 61 < k) → μ1 k = μ k) → tz_J7 μ μ1 i → tc_wp (tc_f7_back_12 N f (nI i) μ1) (fun r μ2 => r = μ 76 77 ∧ (∀ k, (k < 50 ∨ 61 < k) → μ2 k = μ k) ∧ (∀ j, j ≠ 0 → j ≠ 9 → μ2 50 j = μ 50 j) ∧ (μ2 50 0 = μ 76 77 ∧ μ2 50 9 = μ 76 78) ∧ tz_J7 μ μ2 8 ∧ tz_J6 μ μ2 6 ∧ tz_J3 μ μ2 3) := by
    intro d
    induction d with
    | zero =>
      intro f i μ1 hi hf h0 h7
      obtain ⟨f, rfl⟩ : ∃ f', f = f' + 1 := ⟨f - 1, by omega⟩
      obtain rfl : i = 8 := by omega
      rw [tc_f7_back_12]; dsimp only
      rw [if_pos (by decide)]
      unfold tc_f7_back_144
      exact p6 6 N 0 μ1 (by omega) (by omega) h0 h7 (fun s hs => absurd hs (by omega))
    | succ d ih =>
      intro f i μ1 hi hf h0 h7
      obtain ⟨f, rfl⟩ : ∃ f', f = f' + 1 := ⟨f - 1, by omega⟩
      have e76 := h0 76 (by omega)
      have go : ∀ (v w : Int32), (v = if μ 76 (40 + i) = 1 then 1 else 0) → (w = if μ 76 (48 + i) = 1 then 1 else 0) → tc_wp (tc_f7_back_12 N f (nI (i + 1)) (tc_wr (tc_wr (tc_wr (tc_wr (tc_wr (tc_wr (tc_wr μ1 51 i (μ 76 i)) 52 i (μ 76 (8 + i))) 53 i (μ 76 (16 + i))) 54 i (μ 76 (24 + i))) 55 i (μ 76 (32 + i))) 56 i v) 57 i w)) (fun r μ2 => r = μ 76 77 ∧ (∀ k, (k < 50 ∨ 61 < k) → μ2 k = μ k) ∧ (∀ j, j ≠ 0 → j ≠ 9 → μ2 50 j = μ 50 j) ∧ (μ2 50 0 = μ 76 77 ∧ μ2 50 9 = μ 76 78) ∧ tz_J7 μ μ2 8 ∧ tz_J6 μ μ2 6 ∧ tz_J3 μ μ2 3) := by
        intro v w hv hw
        refine ih f (i + 1) _ (by omega) (by omega) (fun k hk => by rw [tc_wr_k (by omega), tc_wr_k (by omega), tc_wr_k (by omega), tc_wr_k (by omega), tc_wr_k (by omega), tc_wr_k (by omega), tc_wr_k (by omega)]; exact h0 k hk) (fun s hs => ?_)
        simp only [tc_wr_at]
        simp (decide := true) only [true_and, false_and, if_false]
        by_cases c : s = i
        · subst c
          simp only [if_true]
          exact ⟨⟨trivial, trivial, trivial, trivial, trivial⟩, hv, hw⟩
        · simp only [c, if_false]
          exact h7 s (by omega)
      rw [tc_f7_back_12]; dsimp only
      have e8 : (8 : Int32) + nI i = nI (8 + i) := nI_add 8 i
      have e16 : (16 : Int32) + nI i = nI (16 + i) := nI_add 16 i
      have e24 : (24 : Int32) + nI i = nI (24 + i) := nI_add 24 i
      have e32 : (32 : Int32) + nI i = nI (32 + i) := nI_add 32 i
      have e40 : (40 : Int32) + nI i = nI (40 + i) := nI_add 40 i
      have e48 : (48 : Int32) + nI i = nI (48 + i) := nI_add 48 i
      rw [if_neg (by rw [tc_Lle (k := 8) (by omega) (by decide)]; omega), e8, e16, e24, e32, e40]
      unfold tc_f7_back_113 tc_f7_back_137
      rw [e48]
      simp only [tc_wp_ck, tc_wp_lt, tc_wp_if, tc_cl (show i < 2 ^ 31 by omega), tc_vin (show i < 2 ^ 31 by omega) (show 8 < 2 ^ 31 by decide), tc_vin (show i < 2 ^ 31 by omega) (show 90 < 2 ^ 31 by decide), show i < 8 by omega, show i < 90 by omega, true_and, tc_ad1, tc_cl (show 8 + i < 2 ^ 31 by omega), tc_vin (show 8 + i < 2 ^ 31 by omega) (show 90 < 2 ^ 31 by decide), show 8 + i < 90 by omega, tc_cl (show 16 + i < 2 ^ 31 by omega), tc_vin (show 16 + i < 2 ^ 31 by omega) (show 90 < 2 ^ 31 by decide), show 16 + i < 90 by omega, tc_cl (show 24 + i < 2 ^ 31 by omega), tc_vin (show 24 + i < 2 ^ 31 by omega) (show 90 < 2 ^ 31 by decide), show 24 + i < 90 by omega, tc_cl (show 32 + i < 2 ^ 31 by omega), tc_vin (show 32 + i < 2 ^ 31 by omega) (show 90 < 2 ^ 31 by decide), show 32 + i < 90 by omega, tc_cl (show 40 + i < 2 ^ 31 by omega), tc_vin (show 40 + i < 2 ^ 31 by omega) (show 90 < 2 ^ 31 by decide), show 40 + i < 90 by omega, tc_cl (show 48 + i < 2 ^ 31 by omega), tc_vin (show 48 + i < 2 ^ 31 by omega) (show 90 < 2 ^ 31 by decide), show 48 + i < 90 by omega, tc_wr_k (show (76 : Nat) ≠ 51 by decide), tc_wr_k (show (76 : Nat) ≠ 52 by decide), tc_wr_k (show (76 : Nat) ≠ 53 by decide), tc_wr_k (show (76 : Nat) ≠ 54 by decide), tc_wr_k (show (76 : Nat) ≠ 55 by decide), tc_wr_k (show (76 : Nat) ≠ 56 by decide), tc_wr_k (show (76 : Nat) ≠ 57 by decide), e76, tz_nar1, tz_nar0]
      by_cases c6 : μ 76 (40 + i) = 1
      · rw [if_pos c6]
        by_cases c7 : μ 76 (48 + i) = 1
        · rw [if_pos c7]; exact go 1 1 (by rw [if_pos c6]) (by rw [if_pos c7])
        · rw [if_neg c7]; exact go 1 0 (by rw [if_pos c6]) (by rw [if_neg c7])
      · rw [if_neg c6]
        by_cases c7 : μ 76 (48 + i) = 1
        · rw [if_pos c7]; exact go 0 1 (by rw [if_neg c6]) (by rw [if_pos c7])
        · rw [if_neg c7]; exact go 0 0 (by rw [if_neg c6]) (by rw [if_neg c7])
  exact p7 8 N 0 μ (by omega) (by omega) (fun _ _ => rfl) (fun s hs => absurd hs (by omega))
theorem tz_s31 (hN : 300 ≤ N) : tc_S31 N tc_Inv := fun μ h => by
  obtain ⟨Y, g, hY, hO⟩ := h.g
  obtain ⟨hL, hT, hS, hI⟩ := hO
  rcases hI with ⟨i1, i2⟩ | ⟨i1, i2, Z, gZ, hZ, RZ, IZ⟩
  · refine tc_mk0 h (r0 := -3) (tc_wp_of ?_) (tc_wp_of ?_)
    · unfold tc_f6_back
      rw [i1, if_pos rfl, tc_wp_some]; exact ⟨rfl, rfl⟩
    · unfold tc_f7_back
      rw [i2, if_pos rfl, tc_wp_some]; exact ⟨rfl, rfl⟩
  refine tc_mk ?_
  unfold tc_f6_back
  rw [i1, if_neg (by decide), tc_wp_bd]
  refine tc_wp_mono (tc_w5_become hN (by omega) RZ gZ) (fun _ μ1 hh => ?_)
  obtain ⟨f1, R1⟩ := hh
  rw [tc_wp_some, R1.1]
  unfold tc_f7_back
  rw [f1 50 (by omega), i2, if_neg (by decide)]
  refine tc_wp_mono (tz_back hN) (fun r μ2 hh => ?_)
  obtain ⟨rfl, f2, f50, ⟨e0, e9⟩, j7, j6, j3⟩ := hh
  rw [f1 76 (by omega)] at e0 e9
  have o : ∀ k, (k < 1 ∨ 11 < k) → (k < 50 ∨ 61 < k) → μ2 k = μ k := fun k q1 q2 => by rw [f2 k q2, f1 k (by omega)]
  have o50 : ∀ j, j ≠ 0 → j ≠ 9 → μ2 50 j = μ 50 j := fun j a b => by rw [f50 j a b, f1 50 (by omega)]
  obtain ⟨z1, z2, z3, z4, z5⟩ := IZ
  have e76 : μ1 76 = μ 76 := f1 76 (by omega)
  refine ⟨by rw [e76, z1], ⟨Z, gZ, hZ, R1.frame (fun k q1 q2 _ => f2 k (by omega)), ?_⟩, hL.frame (by rw [o 0 (by omega) (by omega)]) (o 26 (by omega) (by omega)) (o50 14 (by decide) (by decide)) (o 62 (by omega) (by omega)), hT.frame (by rw [o 42 (by omega) (by omega)]) (o 43 (by omega) (by omega)) (o50 17 (by decide) (by decide)) (o 63 (by omega) (by omega)), hS.frame (fun k hk => o k (by omega) (by omega)), Or.inr ⟨by rw [o 0 (by omega) (by omega)]; exact i1, by rw [o50 37 (by decide) (by decide)]; exact i2, Z, gZ, hZ, RZ.frame (fun k q1 q2 _ => o k (by omega) (by omega)), ?_⟩⟩
  · have gz1 := gZ.1
    refine ⟨by rw [e0, z1], fun s hs => ?_, ⟨?_, ?_, ?_⟩, ⟨by rw [e9, z4], fun i q hq => ?_⟩, by rw [o50 13 (by decide) (by decide)]; exact hY.2.2.2.2.2.2.2.1, by omega, tc_ef_m1 _ _ (by omega), gZ.2.2.2.2.2⟩
    · obtain ⟨⟨a1, a2, a3, a4, a5⟩, a6, a7⟩ := j7 s (by omega)
      obtain ⟨⟨b1, b2, b3, b4, b5⟩, b6, b7⟩ := z2 s hs
      rw [a1, a2, a3, a4, a5, a6, a7, e76, b1, b2, b3, b4, b5, b6, b7]
      refine ⟨⟨rfl, rfl, rfl, rfl, rfl⟩, ?_, ?_⟩
      · cases Z.1.2.1.testBit s <;> decide
      · cases Z.1.2.2.testBit s <;> decide
    · rw [j3 0 (by decide), e76]; exact z3.1
    · rw [j3 1 (by decide), e76]; exact z3.2.1
    · rw [j3 2 (by decide), e76]; exact z3.2.2
    · have hi : i < 6 := by have := (List.getElem?_eq_some_iff.mp hq).1; omega
      obtain ⟨a1, a2, a3⟩ := j6 i hi
      rw [a1, a2, a3, e76]
      exact z5 i q hq
  · unfold tc_RI
    rw [o 76 (by omega) (by omega)]
    exact ⟨z1, z2, z3, z4, z5⟩
end H7
