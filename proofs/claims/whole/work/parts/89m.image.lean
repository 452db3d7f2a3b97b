/-! the image -/
section H6
variable {N : Nat} {Y Z : tc_Y} {x1 x2 x3 x4 x5 x6 : Int32} {μ μ0 μ1 μ2 : tc_Mem}
/-- rows of the reference's image, as they are laid -/
def tz_I7 (μ μ1 : tc_Mem) (i : Nat) : Prop := ∀ s, s < i → (μ1 76 s = μ 51 s ∧ μ1 76 (8 + s) = μ 52 s ∧ μ1 76 (16 + s) = μ 53 s ∧ μ1 76 (24 + s) = μ 54 s ∧ μ1 76 (32 + s) = μ 55 s) ∧ (μ1 76 (40 + s) = if μ 56 s = 0 then 0 else 1) ∧ (μ1 76 (48 + s) = if μ 57 s = 0 then 0 else 1)
def tz_I6 (μ μ1 : tc_Mem) (i : Nat) : Prop := ∀ s, s < i → μ1 76 (56 + s) = μ 59 s ∧ μ1 76 (62 + s) = μ 60 s ∧ μ1 76 (68 + s) = μ 61 s
def tz_I3 (μ μ1 : tc_Mem) (i : Nat) : Prop := ∀ s, s < i → μ1 76 (74 + s) = μ 58 s
theorem tz_wn {k i i' : Nat} {v : Int32} (h : i' ≠ i) : tc_wr μ k i v k i' = μ k i' := by rw [tc_wr_at, if_neg (fun q => h q.2)]
theorem tz_we {k i : Nat} {v : Int32} : tc_wr μ k i v k i = v := by rw [tc_wr_at, if_pos ⟨rfl, rfl⟩]
theorem tz_I7.wr {i j : Nat} {v : Int32} (h : tz_I7 μ μ1 i) (hi : i ≤ 8) (hj : 56 ≤ j) : tz_I7 μ (tc_wr μ1 76 j v) i := fun s hs => by
  rw [tz_wn (show s ≠ j by omega), tz_wn (show 8 + s ≠ j by omega), tz_wn (show 16 + s ≠ j by omega), tz_wn (show 24 + s ≠ j by omega), tz_wn (show 32 + s ≠ j by omega), tz_wn (show 40 + s ≠ j by omega), tz_wn (show 48 + s ≠ j by omega)]
  exact h s hs
theorem tz_I6.wr {i j : Nat} {v : Int32} (h : tz_I6 μ μ1 i) (hi : i ≤ 6) (hj : 74 ≤ j) : tz_I6 μ (tc_wr μ1 76 j v) i := fun s hs => by
  rw [tz_wn (show 56 + s ≠ j by omega), tz_wn (show 62 + s ≠ j by omega), tz_wn (show 68 + s ≠ j by omega)]
  exact h s hs
theorem tz_I3.wr {i j : Nat} {v : Int32} (h : tz_I3 μ μ1 i) (hi : i ≤ 3) (hj : 77 ≤ j) : tz_I3 μ (tc_wr μ1 76 j v) i := fun s hs => by
  rw [tz_wn (show 74 + s ≠ j by omega)]
  exact h s hs
theorem tz_image (hN : 300 ≤ N) : tc_wp (tc_f7_image_7 N N 0 μ) (fun r μ2 => r = μ 50 0 ∧ (∀ k, k ≠ 76 → μ2 k = μ k) ∧ tz_I7 μ μ2 8 ∧ tz_I6 μ μ2 6 ∧ tz_I3 μ μ2 3 ∧ μ2 76 77 = μ 50 0 ∧ μ2 76 78 = μ 50 9) := by
  have p3 : ∀ (d f i : Nat) (μ1 : tc_Mem), i + d = 3 → d < f → (∀ k, k ≠ 76 → μ1 k = μ k) → tz_I7 μ μ1 8 → tz_I6 μ μ1 6 → tz_I3 μ μ1 i → tc_wp (tc_f7_image_198 N f (nI i) μ1) (fun r μ2 => r = μ 50 0 ∧ (∀ k, k ≠ 76 → μ2 k = μ k) ∧ tz_I7 μ μ2 8 ∧ tz_I6 μ μ2 6 ∧ tz_I3 μ μ2 3 ∧ μ2 76 77 = μ 50 0 ∧ μ2 76 78 = μ 50 9) := by
    intro d
    induction d with
    | zero =>
      intro f i μ1 hi hf h0 h7 h6 h3
      obtain ⟨f, rfl⟩ : ∃ f', f = f' + 1 := ⟨f - 1, by omega⟩
      obtain rfl : i = 3 := by omega
      rw [tc_f7_image_198]; dsimp only
      rw [if_pos (by decide)]
      unfold tc_f7_image_224
      have c77 : (77 : Int32).toNatClampNeg = 77 := by decide
      have c78 : (78 : Int32).toNatClampNeg = 78 := by decide
      rw [tc_wp_ck, tc_wp_lt, tc_wp_ck, tc_wp_lt, tc_wp_some, c77, c78]
      refine ⟨(tc_vin (s := 77) (n := 90) (by decide) (by decide)).mpr (by decide), (tc_vin (s := 78) (n := 90) (by decide) (by decide)).mpr (by decide), ?_, fun k hk => by rw [tc_wr_k hk, tc_wr_k hk]; exact h0 k hk, (h7.wr (by decide) (by decide)).wr (by decide) (by decide), (h6.wr (by decide) (by decide)).wr (by decide) (by decide), (h3.wr (by decide) (by decide)).wr (by decide) (by decide), ?_, ?_⟩
      · rw [tc_wr_k (by decide), tc_wr_k (by decide)]; rw [h0 50 (by decide)]
      · rw [tc_wr_at, if_neg (by omega), tc_wr_at, if_pos ⟨rfl, rfl⟩, h0 50 (by decide)]
      · rw [tc_wr_at, if_pos ⟨rfl, rfl⟩, tc_wr_k (by decide), h0 50 (by decide)]
    | succ d ih =>
      intro f i μ1 hi hf h0 h7 h6 h3
      obtain ⟨f, rfl⟩ : ∃ f', f = f' + 1 := ⟨f - 1, by omega⟩
      have e74 : (74 : Int32) + nI i = nI (74 + i) := nI_add 74 i
      rw [tc_f7_image_198]; dsimp only
      rw [if_neg (by rw [tc_Lle (k := 3) (by omega) (by decide)]; omega), e74, tc_wp_ck, tc_wp_ck, tc_cl (show i < 2 ^ 31 by omega), tc_cl (show 74 + i < 2 ^ 31 by omega), tc_wp_lt, tc_ad1]
      refine ⟨(tc_vin (by omega) (by decide)).mpr (by omega), (tc_vin (by omega) (by decide)).mpr (by omega), ih f (i + 1) _ (by omega) (by omega) (fun k hk => by rw [tc_wr_k hk]; exact h0 k hk) (h7.wr (by decide) (by omega)) (h6.wr (by decide) (by omega)) (fun s hs => ?_)⟩
      by_cases c : s = i
      · rw [c, tz_we, h0 58 (by decide)]
      · rw [tz_wn (by omega)]; exact h3 s (by omega)
  have p6 : ∀ (d f i : Nat) (μ1 : tc_Mem), i + d = 6 → d < f → (∀ k, k ≠ 76 → μ1 k = μ k) → tz_I7 μ μ1 8 → tz_I6 μ μ1 i → tc_wp (tc_f7_image_139 N f (nI i) μ1) (fun r μ2 => r = μ 50 0 ∧ (∀ k, k ≠ 76 → μ2 k = μ k) ∧ tz_I7 μ μ2 8 ∧ tz_I6 μ μ2 6 ∧ tz_I3 μ μ2 3 ∧ μ2 76 77 = μ 50 0 ∧ μ2 76 78 = μ 50 9) := by
    intro d
    induction d with
    | zero =>
      intro f i μ1 hi hf h0 h7 h6
      obtain ⟨f, rfl⟩ : ∃ f', f = f' + 1 := ⟨f - 1, by omega⟩
      obtain rfl : i = 6 := by omega
      rw [tc_f7_image_139]; dsimp only
      rw [if_pos (by decide)]
      unfold tc_f7_image_196
      exact p3 3 N 0 μ1 (by omega) (by omega) h0 h7 h6 (fun s hs => absurd hs (by omega))
    | succ d ih =>
      intro f i μ1 hi hf h0 h7 h6
      obtain ⟨f, rfl⟩ : ∃ f', f = f' + 1 := ⟨f - 1, by omega⟩
      rw [tc_f7_image_139]; dsimp only
      have e56 : (56 : Int32) + nI i = nI (56 + i) := nI_add 56 i
      have e62 : (62 : Int32) + nI i = nI (62 + i) := nI_add 62 i
      have e68 : (68 : Int32) + nI i = nI (68 + i) := nI_add 68 i
      have e59 := h0 59 (by decide)
      have e60 := h0 60 (by decide)
      have e61 := h0 61 (by decide)
      rw [if_neg (by rw [tc_Lle (k := 6) (by omega) (by decide)]; omega), e56, e62, e68]
      simp only [tc_wp_ck, tc_wp_lt, tc_cl (show i < 2 ^ 31 by omega), tc_cl (show 56 + i < 2 ^ 31 by omega), tc_cl (show 62 + i < 2 ^ 31 by omega), tc_cl (show 68 + i < 2 ^ 31 by omega), tc_vin (show i < 2 ^ 31 by omega) (show 20 < 2 ^ 31 by decide), tc_vin (show 56 + i < 2 ^ 31 by omega) (show 90 < 2 ^ 31 by decide), tc_vin (show 62 + i < 2 ^ 31 by omega) (show 90 < 2 ^ 31 by decide), tc_vin (show 68 + i < 2 ^ 31 by omega) (show 90 < 2 ^ 31 by decide), show i < 20 by omega, show 56 + i < 90 by omega, show 62 + i < 90 by omega, show 68 + i < 90 by omega, true_and, tc_ad1, tc_wr_k (show (60 : Nat) ≠ 76 by decide), tc_wr_k (show (61 : Nat) ≠ 76 by decide), e59, e60, e61]
      refine ih f (i + 1) _ (by omega) (by omega) (fun k hk => by rw [tc_wr_k hk, tc_wr_k hk, tc_wr_k hk]; exact h0 k hk) (((h7.wr (by decide) (by omega)).wr (by decide) (by omega)).wr (by decide) (by omega)) (fun s hs => ?_)
      by_cases c : s = i
      · subst c
        refine ⟨?_, ?_, ?_⟩
        · rw [tz_wn (by omega), tz_wn (by omega), tz_we]
        · rw [tz_wn (by omega), tz_we]
        · rw [tz_we]
      · have := h6 s (by omega)
        rw [tz_wn (by omega), tz_wn (by omega), tz_wn (by omega), tz_wn (by omega), tz_wn (by omega), tz_wn (by omega), tz_wn (by omega), tz_wn (by omega), tz_wn (by omega)]
        exact this
  have p7 : ∀ (d f i : Nat) (μ1 : tc_Mem), i + d = 8 → d < f → (∀ k, k ≠ 76 → μ1 k = μ k) → tz_I7 μ μ1 i → tc_wp (tc_f7_image_7 N f (nI i) μ1) (fun r μ2 => r = μ 50 0 ∧ (∀ k, k ≠ 76 → μ2 k = μ k) ∧ tz_I7 μ μ2 8 ∧ tz_I6 μ μ2 6 ∧ tz_I3 μ μ2 3 ∧ μ2 76 77 = μ 50 0 ∧ μ2 76 78 = μ 50 9) := by
    intro d
    induction d with
    | zero =>
      intro f i μ1 hi hf h0 h7
      obtain ⟨f, rfl⟩ : ∃ f', f = f' + 1 := ⟨f - 1, by omega⟩
      obtain rfl : i = 8 := by omega
      rw [tc_f7_image_7]; dsimp only
      rw [if_pos (by decide)]
      unfold tc_f7_image_137
      exact p6 6 N 0 μ1 (by omega) (by omega) h0 h7 (fun s hs => absurd hs (by omega))
    | succ d ih =>
      intro f i μ1 hi hf h0 h7
      obtain ⟨f, rfl⟩ : ∃ f', f = f' + 1 := ⟨f - 1, by omega⟩
      have hk : ∀ (k : Nat), k ≠ 76 → ∀ j, μ1 k j = μ k j := fun k hk j => by rw [h0 k hk]
      rw [tc_f7_image_7]; dsimp only
      have e8 : (8 : Int32) + nI i = nI (8 + i) := nI_add 8 i
      have e16 : (16 : Int32) + nI i = nI (16 + i) := nI_add 16 i
      have e24 : (24 : Int32) + nI i = nI (24 + i) := nI_add 24 i
      have e32 : (32 : Int32) + nI i = nI (32 + i) := nI_add 32 i
      have e40 : (40 : Int32) + nI i = nI (40 + i) := nI_add 40 i
      have e48 : (48 : Int32) + nI i = nI (48 + i) := nI_add 48 i
      rw [if_neg (by rw [tc_Lle (k := 8) (by omega) (by decide)]; omega), e8, e16, e24, e32, e40]
      have go : ∀ (v w : Int32), (v = if μ 56 i = 0 then 0 else 1) → (w = if μ 57 i = 0 then 0 else 1) → tc_wp (tc_f7_image_7 N f (nI (i + 1)) (tc_wr (tc_wr (tc_wr (tc_wr (tc_wr (tc_wr (tc_wr μ1 76 i (μ 51 i)) 76 (8 + i) (μ 52 i)) 76 (16 + i) (μ 53 i)) 76 (24 + i) (μ 54 i)) 76 (32 + i) (μ 55 i)) 76 (40 + i) v) 76 (48 + i) w)) (fun r μ2 => r = μ 50 0 ∧ (∀ k, k ≠ 76 → μ2 k = μ k) ∧ tz_I7 μ μ2 8 ∧ tz_I6 μ μ2 6 ∧ tz_I3 μ μ2 3 ∧ μ2 76 77 = μ 50 0 ∧ μ2 76 78 = μ 50 9) := by
        intro v w hv hw
        refine ih f (i + 1) _ (by omega) (by omega) (fun k hk => by rw [tc_wr_k hk, tc_wr_k hk, tc_wr_k hk, tc_wr_k hk, tc_wr_k hk, tc_wr_k hk, tc_wr_k hk]; exact h0 k hk) (fun s hs => ?_)
        by_cases c : s = i
        · subst c
          refine ⟨⟨?_, ?_, ?_, ?_, ?_⟩, ?_, ?_⟩
          · rw [tz_wn (by omega), tz_wn (by omega), tz_wn (by omega), tz_wn (by omega), tz_wn (by omega), tz_wn (by omega), tz_we]
          · rw [tz_wn (by omega), tz_wn (by omega), tz_wn (by omega), tz_wn (by omega), tz_wn (by omega), tz_we]
          · rw [tz_wn (by omega), tz_wn (by omega), tz_wn (by omega), tz_wn (by omega), tz_we]
          · rw [tz_wn (by omega), tz_wn (by omega), tz_wn (by omega), tz_we]
          · rw [tz_wn (by omega), tz_wn (by omega), tz_we]
          · rw [tz_wn (by omega), tz_we]; exact hv
          · rw [tz_we]; exact hw
        · have := h7 s (by omega)
          have q : ∀ c, (c = s ∨ c = 8 + s ∨ c = 16 + s ∨ c = 24 + s ∨ c = 32 + s ∨ c = 40 + s ∨ c = 48 + s) → tc_wr (tc_wr (tc_wr (tc_wr (tc_wr (tc_wr (tc_wr μ1 76 i (μ 51 i)) 76 (8 + i) (μ 52 i)) 76 (16 + i) (μ 53 i)) 76 (24 + i) (μ 54 i)) 76 (32 + i) (μ 55 i)) 76 (40 + i) v) 76 (48 + i) w 76 c = μ1 76 c := fun c hc => by rw [tz_wn (by omega), tz_wn (by omega), tz_wn (by omega), tz_wn (by omega), tz_wn (by omega), tz_wn (by omega), tz_wn (by omega)]
          rw [q s (by omega), q (8 + s) (by omega), q (16 + s) (by omega), q (24 + s) (by omega), q (32 + s) (by omega), q (40 + s) (by omega), q (48 + s) (by omega)]
          exact this
      unfold tc_f7_image_107 tc_f7_image_130
      rw [e48]
      simp only [tc_wp_ck, tc_wp_lt, tc_wp_if, tc_cl (show i < 2 ^ 31 by omega), tc_cl (show 8 + i < 2 ^ 31 by omega), tc_cl (show 16 + i < 2 ^ 31 by omega), tc_cl (show 24 + i < 2 ^ 31 by omega), tc_cl (show 32 + i < 2 ^ 31 by omega), tc_cl (show 40 + i < 2 ^ 31 by omega), tc_cl (show 48 + i < 2 ^ 31 by omega), tc_vin (show i < 2 ^ 31 by omega) (show 8 < 2 ^ 31 by decide), tc_vin (show i < 2 ^ 31 by omega) (show 90 < 2 ^ 31 by decide), tc_vin (show 8 + i < 2 ^ 31 by omega) (show 90 < 2 ^ 31 by decide), tc_vin (show 16 + i < 2 ^ 31 by omega) (show 90 < 2 ^ 31 by decide), tc_vin (show 24 + i < 2 ^ 31 by omega) (show 90 < 2 ^ 31 by decide), tc_vin (show 32 + i < 2 ^ 31 by omega) (show 90 < 2 ^ 31 by decide), tc_vin (show 40 + i < 2 ^ 31 by omega) (show 90 < 2 ^ 31 by decide), tc_vin (show 48 + i < 2 ^ 31 by omega) (show 90 < 2 ^ 31 by decide), show i < 8 by omega, show i < 90 by omega, show 8 + i < 90 by omega, show 16 + i < 90 by omega, show 24 + i < 90 by omega, show 32 + i < 90 by omega, show 40 + i < 90 by omega, show 48 + i < 90 by omega, true_and, tc_ad1, tc_wr_k (show (52 : Nat) ≠ 76 by decide), tc_wr_k (show (53 : Nat) ≠ 76 by decide), tc_wr_k (show (54 : Nat) ≠ 76 by decide), tc_wr_k (show (55 : Nat) ≠ 76 by decide), tc_wr_k (show (56 : Nat) ≠ 76 by decide), tc_wr_k (show (57 : Nat) ≠ 76 by decide), hk 51 (by decide), hk 52 (by decide), hk 53 (by decide), hk 54 (by decide), hk 55 (by decide), hk 56 (by decide), hk 57 (by decide)]
      by_cases c6 : μ 56 i = 0
      · rw [if_pos c6]
        by_cases c7 : μ 57 i = 0
        · rw [if_pos c7]; exact go 0 0 (by rw [if_pos c6]) (by rw [if_pos c7])
        · rw [if_neg c7]; exact go 0 1 (by rw [if_pos c6]) (by rw [if_neg c7])
      · rw [if_neg c6]
        by_cases c7 : μ 57 i = 0
        · rw [if_pos c7]; exact go 1 0 (by rw [if_neg c6]) (by rw [if_pos c7])
        · rw [if_neg c7]; exact go 1 1 (by rw [if_neg c6]) (by rw [if_neg c7])
  exact p7 8 N 0 μ (by omega) (by omega) (fun _ _ => rfl) (fun s hs => absurd hs (by omega))
theorem tz_s30 (hN : 300 ≤ N) : tc_S30 N tc_Inv := fun μ h => by
  obtain ⟨Y, g, hY, hO⟩ := h.g
  have g1 := g.1.1
  have g6 := g.2
  refine tc_mk ?_
  unfold tc_f6_image
  rw [tc_wp_bd]
  refine tc_wp_mono (tc_w5_become hN (by omega) hY.2.2.1 g.1) (fun _ μ1 hh => ?_)
  obtain ⟨f1, R1⟩ := hh
  rw [tc_wp_lt, tc_wp_some]
  generalize hm2 : tc_wr μ1 0 2 1 = μ2
  have f2 : ∀ k, k ≠ 0 → μ2 k = μ1 k := fun k hk => by rw [← hm2, tc_wr_k hk]
  have e02 : μ2 0 2 = 1 := by rw [← hm2, tc_wr_at, if_pos ⟨rfl, rfl⟩]
  have e05 : μ2 0 5 = μ 0 5 := by rw [← hm2, tc_wr_at, if_neg (by omega), f1 0 (by omega)]
  have o2 : ∀ k, k ≠ 0 → (k < 12 ∨ 22 < k) → μ2 k = μ k := fun k q1 q2 => by rw [f2 k q1, f1 k q2]
  have R2 : tc_RC μ2 12 Y := R1.frame (fun k _ _ _ => f2 k (by omega))
  unfold tc_f7_image
  rw [tc_wp_lt]
  generalize hm3 : tc_wr μ2 50 37 1 = μ3
  have f3 : ∀ k, k ≠ 50 → μ3 k = μ2 k := fun k hk => by rw [← hm3, tc_wr_k hk]
  have f3j : ∀ j, j ≠ 37 → μ3 50 j = μ2 50 j := fun j hj => by rw [← hm3, tc_wr_at, if_neg (by omega)]
  have e37 : μ3 50 37 = 1 := by rw [← hm3, tc_wr_at, if_pos ⟨rfl, rfl⟩]
  have hM : tc_RM μ3 Y Y.2.2.2 (-1) := hY.2.2.2.frame (fun j hj => by rw [f3j j (by omega), o2 50 (by decide) (by omega)]) (fun k q1 q2 => by rw [f3 k (by omega), o2 k (by omega) (by omega)])
  refine tc_wp_mono (tz_image hN) (fun r μ4 hh => ?_)
  obtain ⟨rfl, f4, i7, i6, i3, i77, i78⟩ := hh
  have o : ∀ k, k ≠ 0 → k ≠ 50 → k ≠ 76 → (k < 12 ∨ 22 < k) → μ4 k = μ k := fun k q1 q2 q3 q4 => by rw [f4 k q3, f3 k q2, o2 k q1 q4]
  have o50 : ∀ j, j ≠ 37 → μ4 50 j = μ 50 j := fun j hj => by rw [f4 50 (by decide), f3j j hj, o2 50 (by decide) (by omega)]
  obtain ⟨hL, hT, hS, -⟩ := hO
  refine ⟨?_, ⟨Y, g.1, g6, hY.2.2.1.frame (fun k q1 q2 _ => o k (by omega) (by omega) (by omega) (by omega)), hM.frame (fun j _ => by rw [f4 50 (by decide)]) (fun k q1 q2 => f4 k (by omega))⟩, hL.frame (by rw [f4 0 (by decide), f3 0 (by decide)]; exact e05) (o 26 (by decide) (by decide) (by decide) (by omega)) (o50 14 (by decide)) (o 62 (by decide) (by decide) (by decide) (by omega)), hT.frame (by rw [o 42 (by decide) (by decide) (by decide) (by omega)]) (o 43 (by decide) (by decide) (by decide) (by omega)) (o50 17 (by decide)) (o 63 (by decide) (by decide) (by decide) (by omega)), hS.frame (fun k hk => o k (by omega) (by omega) (by omega) (by omega)), Or.inr ⟨by rw [f4 0 (by decide), f3 0 (by decide)]; exact e02, by rw [f4 50 (by decide)]; exact e37, Y, g.1, g6, R2.frame (fun k q1 q2 _ => by rw [f4 k (by omega), f3 k (by omega)]), ?_⟩⟩
  · rw [hM.1]; exact R2.1.symm
  · refine ⟨by rw [i77]; exact hM.1, fun s hs => ?_, ⟨?_, ?_, ?_⟩, by rw [i78]; exact hM.2.2.2.1.1, fun i q hq => ?_⟩
    · obtain ⟨⟨a1, a2, a3, a4, a5⟩, a6, a7⟩ := i7 s (by omega)
      obtain ⟨⟨b1, b2, b3, b4, b5⟩, b6, b7⟩ := hM.2.1 s hs
      rw [a1, a2, a3, a4, a5, a6, a7, b1, b2, b3, b4, b5, b6, b7]
      refine ⟨⟨rfl, rfl, rfl, rfl, rfl⟩, ?_, ?_⟩
      · cases Y.1.2.1.testBit s <;> decide
      · cases Y.1.2.2.testBit s <;> decide
    · have := i3 0 (by decide)
      rw [show 74 + 0 = 74 from rfl] at this
      rw [this]; exact hM.2.2.1.1
    · have := i3 1 (by decide)
      rw [show 74 + 1 = 75 from rfl] at this
      rw [this]; exact hM.2.2.1.2.1
    · have := i3 2 (by decide)
      rw [show 74 + 2 = 76 from rfl] at this
      rw [this]; exact hM.2.2.1.2.2
    · have hi : i < 6 := by have := (List.getElem?_eq_some_iff.mp hq).1; omega
      obtain ⟨a1, a2, a3⟩ := i6 i hi
      rw [a1, a2, a3]
      exact hM.2.2.2.1.2 i q hq
end H6
