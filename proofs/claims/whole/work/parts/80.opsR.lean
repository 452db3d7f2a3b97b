/-! the reference's masks, trains, faults -/
theorem tc_dm1 (i : Nat) : nI (i + 1) + (-1) = nI i := by rw [← nI_pred i, Int32.sub_eq_add_neg]
theorem tc_FM.trans {μ μ1 μ2 : tc_Mem} (h : tc_FM μ μ1) (h2 : tc_FM μ1 μ2) : tc_FM μ μ2 := ⟨fun k k1 k2 => (h2.1 k k1 k2).trans (h.1 k k1 k2), fun j hj => (h2.2 j hj).trans (h.2 j hj)⟩
theorem tc_FM.wr {μ μ1 : tc_Mem} {k i : Nat} {v : Int32} (h : tc_FM μ μ1) (hk : (51 ≤ k ∧ k ≤ 61) ∨ (67 ≤ k ∧ k ≤ 74)) : tc_FM μ (tc_wr μ1 k i v) := ⟨fun k' k1 k2 => by rw [tc_wr_k (by omega)]; exact h.1 k' k1 k2, fun j hj => by rw [tc_wr_k (by omega)]; exact h.2 j hj⟩
theorem tc_FM.wr50 {μ μ1 : tc_Mem} {i : Nat} {v : Int32} (h : tc_FM μ μ1) (hk : i ≠ 14 ∧ i ≠ 17 ∧ (i < 32 ∨ 38 < i)) : tc_FM μ (tc_wr μ1 50 i v) := ⟨fun k' k1 k2 => by rw [tc_wr_k (by omega)]; exact h.1 k' k1 k2, fun j hj => by rw [tc_wr_at, if_neg (by omega)]; exact h.2 j hj⟩
def tc_bq (Y : tc_Y) (w s : Nat) : Bool := if w = 0 then Y.1.2.1.testBit s else if w = 1 then tc_trb Y s && Y.1.2.1.testBit s else if w = 2 then !tc_trb Y s && !Y.1.2.1.testBit s else if w = 3 then Y.1.2.2.testBit s else tc_hf Y.2.2.2 0 s
theorem tc_nI_or0 (m : Nat) : nI m ||| 0 = nI m := by
  show nI m ||| nI 0 = nI m
  rw [tc_or2, Nat.or_zero]
section R8
variable {N : Nat} {μ : tc_Mem} {Y : tc_Y} {fl : tc_Fl} {w : Int32} {s : Nat}
theorem tc_v7_isTroubled (hN : 300 ≤ N) (h : tc_RM μ Y fl w) (g : tc_Gd Y) (hs : s < Y.1.1) : tc_f7_isTroubled N (nI s) μ = some (tc_bI (tc_trb Y s), μ) := by
  have g1 := g.1
  apply tc_wp_of
  unfold tc_f7_isTroubled tc_f7_isTroubled_18 tc_trb
  simp only [tc_wp_ck, tc_wp_if, tc_wp_bd, tc_v7_hasFault hN h g hs, tc_wp_some, tc_vin (show s < 2 ^ 31 by omega) (show 8 < 2 ^ 31 by decide), tc_cl (show s < 2 ^ 31 by omega), (h.2.1 s hs).2.2, tc_bI_eq0, show s < 8 by omega, true_and]
  cases Y.1.2.2.testBit s <;> cases tc_hf Y.2.2.2 0 s <;> simp [tc_bI]
theorem tc_v7_bitsOf (hN : 300 ≤ N) (h : tc_RM μ Y fl w) (g : tc_Gd Y) {v : Nat} (hv : v < 5) : tc_f7_bitsOf N (nI v) μ = some (nI (tc_bm (tc_bq Y v) Y.1.1), μ) := by
  have g1 := g.1
  have key : ∀ (d f i : Nat), i + d = Y.1.1 → d < f → tc_f7_bitsOf_4 N f (nI v) (nI (tc_bm (tc_bq Y v) i)) (nI i) μ = some (nI (tc_bm (tc_bq Y v) Y.1.1), μ) := by
    intro d
    induction d with
    | zero =>
      intro f i hi hf
      obtain ⟨f, rfl⟩ : ∃ f', f = f' + 1 := ⟨f - 1, by omega⟩
      obtain rfl : i = Y.1.1 := by omega
      rw [tc_f7_bitsOf_4]; dsimp only; rw [h.1, if_pos (Int32.le_refl _)]
    | succ d ih =>
      intro f i hi hf
      obtain ⟨f, rfl⟩ : ∃ f', f = f' + 1 := ⟨f - 1, by omega⟩
      have ih := ih f (i + 1) (by omega) (by omega)
      have hb := tc_bm_256 (p := tc_bq Y v) (n := i) (by omega)
      have hR := h.2.1 i (by omega)
      have fin : ∀ b : Bool, b = tc_bq Y v i → tc_f7_bitsOf_128 N (tc_f7_bitsOf_4 N f) (nI v) (nI (tc_bm (tc_bq Y v) i)) (nI i) (tc_bI b) μ = some (nI (tc_bm (tc_bq Y v) Y.1.1), μ) := by
        intro b hbb
        unfold tc_f7_bitsOf_128 tc_f7_bitsOf_141 tc_lt
        rw [tc_bm, ← hbb] at ih
        cases b
        · rw [if_pos (show tc_bI false = 0 from rfl), tc_nI_or0, tc_ad1]
          simpa using ih
        · rw [if_neg (show ¬ tc_bI true = 0 by decide), tc_orb _ hb _ (by omega), tc_ad1]
          simpa using ih
      apply tc_wp_of
      rw [tc_f7_bitsOf_4]; dsimp only
      rw [h.1, if_neg (by rw [tc_le (by omega) (by omega)]; omega)]
      simp only [tc_f7_bitsOf_76, tc_f7_bitsOf_77, tc_f7_bitsOf_103, tc_f7_bitsOf_104]
      simp only [tc_wp_if, tc_wp_ck, tc_wp_lt, tc_wp_bd, tc_wp_none, tc_v7_isTroubled hN h g (show i < Y.1.1 by omega), tc_v7_hasFault hN h g (show i < Y.1.1 by omega), tc_wp_some, tc_vin (show i < 2 ^ 31 by omega) (show 8 < 2 ^ 31 by decide), tc_cl (show i < 2 ^ 31 by omega), hR.2.1, hR.2.2, tc_bI_eq0, show i < 8 by omega, true_and]
      rcases (show v = 0 ∨ v = 1 ∨ v = 2 ∨ v = 3 ∨ v = 4 by omega) with rfl | rfl | rfl | rfl | rfl
      · simp (decide := true) only [if_true, if_false, or_false]
        exact tc_wp_eq (fin _ rfl) ⟨rfl, rfl⟩
      · simp (decide := true) only [if_true, if_false, or_false]
        by_cases c1 : tc_trb Y i = true <;> by_cases c2 : Y.1.2.1.testBit i = true
        all_goals simp only [c1, c2, if_true, if_false, Bool.true_eq_false]
        · exact tc_wp_eq (fin true (by simp [tc_bq, c1, c2])) ⟨rfl, rfl⟩
        · exact tc_wp_eq (fin false (by simp [tc_bq, c1, c2])) ⟨rfl, rfl⟩
        · exact tc_wp_eq (fin false (by simp [tc_bq, c1, c2])) ⟨rfl, rfl⟩
        · exact tc_wp_eq (fin false (by simp [tc_bq, c1, c2])) ⟨rfl, rfl⟩
      · simp (decide := true) only [if_true, if_false, or_false]
        by_cases c1 : tc_trb Y i = true <;> by_cases c2 : Y.1.2.1.testBit i = true
        all_goals simp only [c1, c2, if_true, if_false, Bool.true_eq_false]
        · exact tc_wp_eq (fin false (by simp [tc_bq, c1, c2])) ⟨rfl, rfl⟩
        · exact tc_wp_eq (fin false (by simp [tc_bq, c1, c2])) ⟨rfl, rfl⟩
        · exact tc_wp_eq (fin false (by simp [tc_bq, c1, c2])) ⟨rfl, rfl⟩
        · exact tc_wp_eq (fin true (by simp [tc_bq, c1, c2])) ⟨rfl, rfl⟩
      · simp (decide := true) only [if_true, if_false, or_false]
        exact tc_wp_eq (fin _ rfl) ⟨rfl, rfl⟩
      · simp (decide := true) only [if_true, if_false, or_false, or_true]
        exact tc_wp_eq (fin _ rfl) ⟨rfl, rfl⟩
  have := key Y.1.1 N 0 (by omega) (by omega)
  exact this
/-- trains of the reference -/
theorem tc_RM.tr {μ' : tc_Mem} {v : Nat} (h : tc_RM μ Y fl w) (h50 : ∀ j, j = 0 ∨ j = 9 ∨ j = 13 → μ' 50 j = μ 50 j) (hf : ∀ k, 51 ≤ k → k ≤ 61 → k ≠ 57 → μ' k = μ k) (hu : ∀ s, s < Y.1.1 → μ' 57 s = tc_bI (v.testBit s)) : tc_RM μ' (tc_yT Y v) fl w := by
  obtain ⟨h1, h2, h3, ⟨h4, h5⟩, h6, h7⟩ := h
  refine ⟨by rw [h50 0 (by simp)]; exact h1, fun s hs => ?_, by rw [hf 58 (by omega) (by omega) (by omega)]; exact h3, ⟨by rw [h50 9 (by simp)]; exact h4, h5.frame (hf _ (by omega) (by omega) (by omega)) (hf _ (by omega) (by omega) (by omega)) (hf _ (by omega) (by omega) (by omega))⟩, by rw [h50 13 (by simp)]; exact h6, h7⟩
  rw [hf 51 (by omega) (by omega) (by omega), hf 52 (by omega) (by omega) (by omega), hf 53 (by omega) (by omega) (by omega), hf 54 (by omega) (by omega) (by omega), hf 55 (by omega) (by omega) (by omega), hf 56 (by omega) (by omega) (by omega)]
  exact ⟨(h2 s hs).1, (h2 s hs).2.1, hu s hs⟩
theorem tc_w7_goTrains (hN : 300 ≤ N) (h : tc_RM μ Y fl w) (g : tc_Gd Y) : tc_wp (tc_f7_goTrains N μ) (fun _ μ' => (∀ k, k ≠ 57 → μ' k = μ k) ∧ tc_RM μ' (tc_yT Y ((2 * Y.1.2.2) &&& (2 ^ Y.1.1 - 1))) fl w) := by
  have g1 := g.1
  have hbit : ∀ s, s < Y.1.1 → ((2 * Y.1.2.2) &&& (2 ^ Y.1.1 - 1)).testBit s = (decide (0 < s) && Y.1.2.2.testBit (s - 1)) := by
    intro s hs
    rw [Nat.testBit_and, Nat.testBit_two_pow_sub_one, Nat.mul_comm, show Y.1.2.2 * 2 = Y.1.2.2 * 2 ^ 1 by rfl, Nat.testBit_mul_two_pow]
    cases s with
    | zero => simp
    | succ s => simp [hs]
  have fin : ∀ μ1 : tc_Mem, (∀ k, k ≠ 57 → μ1 k = μ k) → (∀ s, s < Y.1.1 → 0 < s → μ1 57 s = tc_bI (Y.1.2.2.testBit (s - 1))) → tc_wp (tc_f7_goTrains_31 N μ1) (fun _ μ' => (∀ k, k ≠ 57 → μ' k = μ k) ∧ tc_RM μ' (tc_yT Y ((2 * Y.1.2.2) &&& (2 ^ Y.1.1 - 1))) fl w) := by
    intro μ1 hfr hv
    unfold tc_f7_goTrains_31
    rw [hfr 50 (by decide), h.1, tc_wp_if]
    by_cases c : Y.1.1 = 0
    · rw [if_pos (by rw [tc_leL (k := 0) (by omega) (by decide)]; omega), tc_wp_some]
      exact ⟨hfr, h.tr (fun j _ => by rw [hfr 50 (by decide)]) (fun k _ _ hk => hfr k hk) (fun s hs => by omega)⟩
    · rw [if_neg (by rw [tc_leL (k := 0) (by omega) (by decide)]; omega), tc_wp_ck, tc_wp_lt, tc_wp_some]
      refine ⟨(tc_vin (s := 0) (by decide) (by decide)).mpr (by decide), fun k hk => by rw [tc_wr_k hk]; exact hfr k hk, h.tr (fun j _ => by rw [tc_wr_k (by decide), hfr 50 (by decide)]) (fun k _ _ hk => by rw [tc_wr_k hk]; exact hfr k hk) (fun s hs => ?_)⟩
      rw [tc_wr_at, tc_c0, hbit s hs]
      by_cases c2 : s = 0
      · rw [if_pos ⟨rfl, c2⟩, c2]; rfl
      · rw [if_neg (fun z => c2 z.2), hv s hs (by omega)]; simp [show 0 < s by omega]
  have key : ∀ (i f : Nat) (μ1 : tc_Mem), i < Y.1.1 → i < f → (∀ k, k ≠ 57 → μ1 k = μ k) → (∀ s, s < Y.1.1 → μ1 57 s = if i < s then tc_bI (Y.1.2.2.testBit (s - 1)) else tc_bI (Y.1.2.2.testBit s)) → tc_wp (tc_f7_goTrains_7 N f (nI i) μ1) (fun _ μ' => (∀ k, k ≠ 57 → μ' k = μ k) ∧ tc_RM μ' (tc_yT Y ((2 * Y.1.2.2) &&& (2 ^ Y.1.1 - 1))) fl w) := by
    intro i
    induction i with
    | zero =>
      intro f μ1 hi hf hfr hv
      obtain ⟨f, rfl⟩ : ∃ f', f = f' + 1 := ⟨f - 1, by omega⟩
      rw [tc_f7_goTrains_7]; dsimp only
      rw [if_pos (by rw [tc_leL (k := 0) (by omega) (by decide)]; omega)]
      exact fin μ1 hfr (fun s hs h0 => by rw [hv s hs, if_pos h0])
    | succ i ih =>
      intro f μ1 hi hf hfr hv
      obtain ⟨f, rfl⟩ : ∃ f', f = f' + 1 := ⟨f - 1, by omega⟩
      rw [tc_f7_goTrains_7]; dsimp only
      rw [if_neg (by rw [tc_leL (k := 0) (by omega) (by decide)]; omega), tc_sb1 (by omega), tc_dm1, show i + 1 - 1 = i by omega]
      simp only [tc_wp_ck, tc_wp_lt, tc_vin (show i < 2 ^ 31 by omega) (show 8 < 2 ^ 31 by decide), tc_vin (show i + 1 < 2 ^ 31 by omega) (show 8 < 2 ^ 31 by decide), tc_cl (show i < 2 ^ 31 by omega), tc_cl (show i + 1 < 2 ^ 31 by omega), show i < 8 by omega, show i + 1 < 8 by omega, true_and]
      refine ih f _ (by omega) (by omega) (fun k hk => by rw [tc_wr_k hk]; exact hfr k hk) (fun s hs => ?_)
      rw [tc_wr_at]
      by_cases c : s = i + 1
      · subst c
        rw [if_pos ⟨rfl, rfl⟩, if_pos (show i < i + 1 by omega), hv i (by omega), if_neg (by omega), tc_nar, show i + 1 - 1 = i by omega]
      · rw [if_neg (fun z => c z.2), hv s hs]
        by_cases c2 : i + 1 < s
        · rw [if_pos c2, if_pos (by omega)]
        · rw [if_neg c2, if_neg (by omega)]
  unfold tc_f7_goTrains
  rw [tc_wp_lt, h.1]
  by_cases c : Y.1.1 = 0
  · obtain ⟨f, rfl⟩ : ∃ f', N = f' + 1 := ⟨N - 1, by omega⟩
    rw [tc_f7_goTrains_7]; dsimp only
    rw [if_pos (by rw [c]; decide)]
    exact fin μ (fun _ _ => rfl) (fun s hs => by omega)
  · rw [tc_sb1 (by omega)]
    exact key (Y.1.1 - 1) N μ (by omega) (by omega) (fun _ _ => rfl) (fun s hs => by rw [if_neg (by omega)]; exact (h.2.1 s hs).2.2)
theorem tc_w7_addFault (h : tc_RM μ Y Y.2.2.2 (-1)) (g : tc_Gd Y) {k : Nat} (hk : k < 4) (hs : s < Y.1.1) : tc_wp (tc_f7_addFault N (nI k) (nI s) μ) (fun _ μ' => (∀ k, k ≠ 50 → k ≠ 59 → k ≠ 60 → k ≠ 61 → μ' k = μ k) ∧ (∀ j, j ≠ 9 → μ' 50 j = μ 50 j) ∧ tc_RM μ' (tc_yD Y (nI k) s) (tc_yD Y (nI k) s).2.2.2 (-1)) := by
  have g1 := g.1
  have g5 := g.2.2.2.2.1
  obtain ⟨h1, h2, h3, ⟨h4, h5⟩, h6, h7, h8, h9⟩ := h
  unfold tc_f7_addFault
  have hv : vp_in (nI Y.2.2.2.length) 20 := (tc_vin (by omega) (by decide)).mpr (by omega)
  have c0 : (nI Y.2.2.2.length).toNatClampNeg = Y.2.2.2.length := tc_cl (by omega)
  rw [h4]
  simp only [tc_wp_ck, tc_wp_lt, tc_wp_bd]
  have z : ∀ (m : tc_Mem) k i v j, k ≠ 50 → tc_wr m k i v 50 j = m 50 j := fun m k i v j hk => by rw [tc_wr_k (Ne.symm hk)]
  simp only [z _ 59 _ _ _ (by decide), z _ 60 _ _ _ (by decide), h4, hv, c0, true_and]
  generalize hm4 : tc_wr (tc_wr μ 59 Y.2.2.2.length (nI k)) 60 Y.2.2.2.length (nI s) = μ4
  have a4 : ∀ k, k ≠ 59 → k ≠ 60 → μ4 k = μ k := fun k k1 k2 => by rw [← hm4, tc_wr_k k2, tc_wr_k k1]
  have v4 : ∀ j, μ4 59 j = if j = Y.2.2.2.length then nI k else μ 59 j := fun j => by rw [← hm4, tc_wr_k (by decide), tc_wr_at]; simp
  have u4 : ∀ j, μ4 60 j = if j = Y.2.2.2.length then nI s else μ 60 j := fun j => by rw [← hm4, tc_wr_at, tc_wr_k (by decide)]; simp
  have hcb : tc_f7_caughtBy N (nI k) (nI s) μ4 = some (tc_ct Y (nI k) s, μ4) := by
    apply tc_wp_of
    unfold tc_f7_caughtBy tc_ct
    rw [a4 50 (by decide) (by decide), a4 52 (by decide) (by decide), h1, tc_wp_if]
    by_cases c : nI k = 2
    · rw [if_pos c, tc_wp_if, tc_sb1 (by omega), tc_ad1]
      by_cases c2 : s + 1 < Y.1.1
      · rw [if_neg (by rw [tc_le (by omega) (by omega)]; omega), if_pos ⟨c, c2⟩, tc_wp_ck, tc_wp_some, tc_cl (by omega), (h2 (s + 1) c2).1.2.1]
        exact ⟨(tc_vin (by omega) (by decide)).mpr (by omega), rfl, rfl⟩
      · rw [if_pos (by rw [tc_le (by omega) (by omega)]; omega), if_neg (fun z => c2 z.2), tc_wp_some]
        exact ⟨rfl, rfl⟩
    · rw [if_neg c, if_neg (fun z => c z.1), tc_wp_some]
      exact ⟨rfl, rfl⟩
  rw [hcb, tc_wp_some, tc_wp_some, z _ 61 _ _ _ (by decide), a4 50 (by decide) (by decide), h4, tc_ad1]
  refine ⟨fun k k1 k2 k3 k4 => by rw [tc_wr_k k1, tc_wr_k k4, a4 k k2 k3], fun j hj => by rw [tc_wr_at, if_neg (by omega), tc_wr_k (by decide), a4 50 (by decide) (by decide)], ?_⟩
  have hlen : (tc_yD Y (nI k) s).2.2.2.length = Y.2.2.2.length + 1 := by
    show (Y.2.2.2 ++ [_]).length = _
    simp
  have e : ∀ k, 51 ≤ k → k ≤ 58 → tc_wr (tc_wr μ4 61 Y.2.2.2.length (tc_ct Y (nI k) s)) 50 9 (nI (Y.2.2.2.length + 1)) k = μ k := fun k k1 k2 => by rw [tc_wr_k (by omega), tc_wr_k (by omega), a4 k (by omega) (by omega)]
  generalize hm5 : tc_wr (tc_wr μ4 61 Y.2.2.2.length (tc_ct Y (nI k) s)) 50 9 (nI (Y.2.2.2.length + 1)) = μ5
  have e5 : ∀ k, 51 ≤ k → k ≤ 58 → μ5 k = μ k := fun k k1 k2 => by rw [← hm5, tc_wr_k (by omega), tc_wr_k (by omega), a4 k (by omega) (by omega)]
  have d5 : ∀ j, j ≠ 9 → μ5 50 j = μ 50 j := fun j hj => by rw [← hm5, tc_wr_at, if_neg (by omega), tc_wr_k (by decide), a4 50 (by decide) (by decide)]
  refine ⟨by rw [d5 0 (by decide)]; exact h1, fun s hs => ?_, by rw [e5 58 (by decide) (by decide)]; exact h3, ⟨by rw [hlen, ← hm5, tc_wr_at, if_pos ⟨rfl, rfl⟩], fun j q hq => ?_⟩, by rw [d5 13 (by decide)]; exact h6, by omega, tc_ef_m1 _ _ (by omega), fun q hq => ?_⟩
  · rw [e5 51 (by decide) (by decide), e5 52 (by decide) (by decide), e5 53 (by decide) (by decide), e5 54 (by decide) (by decide), e5 55 (by decide) (by decide), e5 56 (by decide) (by decide), e5 57 (by decide) (by decide)]
    exact h2 s hs
  · have hq' : (Y.2.2.2 ++ [(nI k, s, tc_ct Y (nI k) s)])[j]? = some q := hq
    rw [← hm5, tc_wr_k (by decide), tc_wr_k (by decide), tc_wr_k (by decide), tc_wr_k (by decide), tc_wr_k (by decide), v4, u4, tc_wr_at, a4 61 (by decide) (by decide)]
    by_cases cj : j = Y.2.2.2.length
    · subst cj
      rw [List.getElem?_append_right (Nat.le_refl _)] at hq'
      simp at hq'
      subst hq'
      simp
    · by_cases c2 : j < Y.2.2.2.length
      · rw [List.getElem?_append_left c2] at hq'
        simpa [cj] using h5 j q hq'
      · rw [List.getElem?_eq_none (by simp; omega)] at hq'
        cases hq'
  · have hq' : q ∈ Y.2.2.2 ++ [(nI k, s, tc_ct Y (nI k) s)] := hq
    rw [List.mem_append] at hq'
    rcases hq' with hq' | hq'
    · exact h9 q hq'
    · rw [List.mem_singleton] at hq'
      subst hq'
      exact ⟨hs, k, hk, rfl⟩
end R8
