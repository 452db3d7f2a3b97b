/-! sheets -/
section H1
variable {N : Nat} {Y Z : tc_Y} {x1 x2 x3 x4 x5 : Int32} {μ μ0 μ1 μ2 : tc_Mem}
def tz_FS (μ μ' : tc_Mem) : Prop := ∀ k, (k < 28 ∨ 41 < k) → (k < 47 ∨ 49 < k) → μ' k = μ k
def tz_FR (μ μ' : tc_Mem) : Prop := (∀ k, (k < 50 ∨ 61 < k) → (k < 64 ∨ 74 < k) → μ' k = μ k) ∧ ∀ j, (j = 14 ∨ j = 17 ∨ (32 ≤ j ∧ j ≤ 38)) → μ' 50 j = μ 50 j
theorem tc_mkS {o1 : Option (Int32 × tc_Mem)} {o2 : tc_Mem → Option (Int32 × tc_Mem)} (hO : tc_IO μ) (hY : tc_IY μ Y) (h : tc_wp o1 (fun r μ1 => tz_FS μ μ1 ∧ tc_wp (o2 μ1) (fun r2 μ2 => r2 = r ∧ tz_FR μ1 μ2 ∧ tc_RM μ2 Y Y.2.2.2 (-1) ∧ tc_ISh μ2))) : ∃ (r : Int32) (μ1 μ2 : tc_Mem), o1 = some (r, μ1) ∧ o2 μ1 = some (r, μ2) ∧ tc_Inv μ2 := by
  refine tc_mk (tc_wp_mono h (fun r μ1 hh => tc_wp_mono hh.2 (fun r2 μ2 h2 => ?_)))
  obtain ⟨f1, -⟩ := hh
  obtain ⟨rfl, f2, hR, hS⟩ := h2
  have o : ∀ k, (k < 28 ∨ 41 < k) → (k < 47 ∨ 49 < k) → (k < 50 ∨ 61 < k) → (k < 64 ∨ 74 < k) → μ2 k = μ k := fun k q1 q2 q3 q4 => by rw [f2.1 k q3 q4, f1 k q1 q2]
  have o50 : ∀ j, (j = 14 ∨ j = 17 ∨ (32 ≤ j ∧ j ≤ 38)) → μ2 50 j = μ 50 j := fun j hj => by rw [f2.2 j hj, f1 50 (by omega) (by omega)]
  obtain ⟨hL, hT, -, hI⟩ := hO
  refine ⟨rfl, ⟨Y, hY.1, hY.2.1, hY.2.2.1.frame (fun k q1 q2 _ => o k (by omega) (by omega) (by omega) (by omega)), hR⟩, hL.frame (by rw [o 0 (by omega) (by omega) (by omega) (by omega)]) (o 26 (by omega) (by omega) (by omega) (by omega)) (o50 14 (by omega)) (o 62 (by omega) (by omega) (by omega) (by omega)), hT.frame (by rw [o 42 (by omega) (by omega) (by omega) (by omega)]) (o 43 (by omega) (by omega) (by omega) (by omega)) (o50 17 (by omega)) (o 63 (by omega) (by omega) (by omega) (by omega)), hS, hI.frame (by rw [o 0 (by omega) (by omega) (by omega) (by omega)]) (o50 37 (by omega)) (fun k hk => o k (by omega) (by omega) (by omega) (by omega))⟩
theorem tc_ISh.one (h : tc_ISh μ) {r : Nat} (hq : ∀ q, q < 4 → q ≠ r → μ2 47 q = μ 47 q ∧ μ2 48 q = μ 48 q ∧ μ2 64 q = μ 64 q ∧ μ2 65 q = μ 65 q ∧ ∀ i, i < 40 → μ2 49 (40 * q + i) = μ 49 (40 * q + i) ∧ μ2 66 (40 * q + i) = μ 66 (40 * q + i)) (hr : (∃ z, z ≤ 40 ∧ μ2 48 r = nI z) ∧ μ2 47 r = μ2 64 r ∧ ((μ2 47 r = -1) ∨ ((μ2 47 r = 0 ∨ μ2 47 r = 1) ∧ μ2 65 r = μ2 48 r ∧ ∀ i, nI i < μ2 48 r → i < 40 → μ2 49 (40 * r + i) = μ2 66 (40 * r + i)))) : tc_ISh μ2 := by
  intro q hq4
  by_cases c : q = r
  · subst c; exact hr
  · obtain ⟨e1, e2, e3, e4, e5⟩ := hq q hq4 c
    obtain ⟨a1, a2, a3⟩ := h q hq4
    rw [e1, e2, e3, e4]
    refine ⟨a1, a2, ?_⟩
    rcases a3 with a3 | ⟨b1, b2, b3⟩
    · exact Or.inl a3
    · exact Or.inr ⟨b1, b2, fun i h1 h2 => by rw [(e5 i h2).1, (e5 i h2).2]; exact b3 i h1 h2⟩
theorem tz_ix {r i : Nat} : nI r * 40 + nI i = nI (40 * r + i) := by show nI r * nI 40 + nI i = _; rw [pk_mul, nI_add, Nat.mul_comm]
theorem tz_ix2 {r i : Nat} : (40 : Int32) * nI r + nI i = nI (40 * r + i) := by show nI 40 * nI r + nI i = _; rw [pk_mul, nI_add]
/-- the class: a sheet made anew -/
theorem tc_w3_become (hN : 300 ≤ N) {r n : Nat} {so : Int32} (hr : r < 4) (hn : n ≤ 40) : tc_wp (tc_f3_become N (nI r) so (nI n) μ) (fun _ μ' => (∀ k, (k < 47 ∨ 49 < k) → μ' k = μ k) ∧ μ' 47 = upd (μ 47) r so ∧ μ' 48 = upd (μ 48) r (nI n) ∧ ∀ j, μ' 49 j = if 40 * r ≤ j ∧ j < 40 * r + n then 0 else μ 49 j) := by
  have hvr : vp_in (nI r) 4 := (tc_vin (by omega) (by decide)).mpr hr
  unfold tc_f3_become
  rw [tc_wp_ck, tc_cl (by omega), tc_wp_lt, tc_wp_ck, tc_wp_lt]
  refine ⟨hvr, hvr, ?_⟩
  have key : ∀ (d f i : Nat) (μ1 : tc_Mem), i + d = n → d < f → (∀ k, k ≠ 49 → μ1 k = tc_wr (tc_wr μ 47 r so) 48 r (nI n) k) → (∀ j, μ1 49 j = if 40 * r ≤ j ∧ j < 40 * r + i then 0 else μ 49 j) → tc_wp (tc_f3_become_17 N f (nI r) (nI n) (nI i) μ1) (fun _ μ' => (∀ k, (k < 47 ∨ 49 < k) → μ' k = μ k) ∧ μ' 47 = upd (μ 47) r so ∧ μ' 48 = upd (μ 48) r (nI n) ∧ ∀ j, μ' 49 j = if 40 * r ≤ j ∧ j < 40 * r + n then 0 else μ 49 j) := by
    intro d
    induction d with
    | zero =>
      intro f i μ1 hi hf h1 h2
      obtain ⟨f, rfl⟩ : ∃ f', f = f' + 1 := ⟨f - 1, by omega⟩
      obtain rfl : i = n := by omega
      rw [tc_f3_become_17]; dsimp only
      rw [if_pos (Int32.le_refl _), tc_wp_some]
      refine ⟨fun k hk => by rw [h1 k (by omega), tc_wr_k (by omega), tc_wr_k (by omega)], ?_, ?_, h2⟩
      · rw [h1 47 (by decide), tc_wr_k (by decide)]
        funext j
        rw [tc_wr_at]; unfold upd; simp
      · rw [h1 48 (by decide)]
        funext j
        rw [tc_wr_at, tc_wr_k (by decide)]; unfold upd; simp
    | succ d ih =>
      intro f i μ1 hi hf h1 h2
      obtain ⟨f, rfl⟩ : ∃ f', f = f' + 1 := ⟨f - 1, by omega⟩
      rw [tc_f3_become_17]; dsimp only
      rw [if_neg (by rw [tc_le (by omega) (by omega)]; omega), tc_wp_ck, tz_ix, tc_cl (by omega), tc_wp_lt, tc_ad1]
      refine ⟨(tc_vin (by omega) (by decide)).mpr (by omega), ih f (i + 1) _ (by omega) (by omega) (fun k hk => by rw [tc_wr_k hk]; exact h1 k hk) (fun j => ?_)⟩
      rw [tc_wr_at, h2 j]
      by_cases c : j = 40 * r + i
      · rw [if_pos ⟨rfl, c⟩, if_pos (by omega)]
      · rw [if_neg (fun q => c q.2)]
        by_cases c2 : 40 * r ≤ j ∧ j < 40 * r + i
        · rw [if_pos c2, if_pos (by omega)]
        · rw [if_neg c2, if_neg (by omega)]
  refine key n N 0 _ (by omega) (by omega) (fun _ _ => rfl) (fun j => ?_)
  rw [if_neg (by omega), tc_wr_k (by decide), tc_wr_k (by decide)]
theorem tz_s34 (hN : 300 ≤ N) : tc_S34 N tc_Inv := fun a1 a2 a3 μ h => by
  obtain ⟨Y, g, hY, hO⟩ := h.g
  rcases Bool.eq_false_or_eq_true (tc_wi a1 0 3) with c1 | c1
  case inr => exact tc_mk0 h (r0 := -2) (tc_wp_of (by unfold tc_f6_sheet; simp [tc_wp_bd, tc_v3_has, tc_wp_some, c1, tc_bI])) (tc_wp_of (by unfold tc_f7_sheet; simp [tc_wp_bd, tc_v7_isSheet, tc_wp_some, c1, tc_bI]))
  obtain ⟨r, -, hr3, rfl⟩ := tc_wi_nI (a := 0) (b := 3) (by decide) (by decide) c1
  have hr : r < 4 := by omega
  have hvr : vp_in (nI r) 4 := (tc_vin (by omega) (by decide)).mpr hr
  have hS := hO.2.2.1
  by_cases cm : a2 = -1
  · subst cm
    refine tc_mkS hO hY ?_
    unfold tc_f6_sheet
    rw [tc_wp_bd, tc_v3_has, tc_wp_some, c1, if_neg (by decide), if_pos rfl, tc_wp_bd]
    have hb := tc_w3_become (N := N) (μ := μ) (so := -1) (n := 0) hN hr (by decide)
    refine tc_wp_mono hb (fun _ μ1 hh => ?_)
    obtain ⟨f1, e47, e48, e49⟩ := hh
    rw [tc_wp_some]
    refine ⟨fun k _ q => f1 k q, ?_⟩
    unfold tc_f7_sheet
    rw [tc_wp_bd, tc_v7_isSheet, tc_wp_some, c1, if_neg (by decide), tc_wp_bd, tc_v7_in, tc_wp_some, if_neg (by decide), if_pos rfl, tc_wp_ck, tc_cl (by omega), tc_wp_lt, tc_wp_some]
    refine ⟨hvr, rfl, ⟨fun k q1 q2 => tc_wr_k (by omega), fun j _ => by rw [tc_wr_k (by decide)]⟩, hY.2.2.2.frame (fun j _ => by rw [tc_wr_k (by decide), f1 50 (by omega)]) (fun k q1 q2 => by rw [tc_wr_k (by omega), f1 k (by omega)]), ?_⟩
    refine hS.one (r := r) (fun q hq hne => ⟨?_, ?_, ?_, ?_, fun i hi => ⟨?_, ?_⟩⟩) ⟨⟨0, by decide, ?_⟩, ?_, Or.inl ?_⟩
    · rw [tc_wr_k (by decide), e47]; simp [upd, hne]
    · rw [tc_wr_k (by decide), e48]; simp [upd, hne]
    · rw [tc_wr_at, if_neg (by omega), f1 64 (by omega)]
    · rw [tc_wr_k (by decide), f1 65 (by omega)]
    · rw [tc_wr_k (by decide), e49, if_neg (by omega)]
    · rw [tc_wr_k (by decide), f1 66 (by omega)]
    · rw [tc_wr_k (by decide), e48]; simp [upd]
    · rw [tc_wr_k (by decide), e47, tc_wr_at, if_pos ⟨rfl, rfl⟩]; simp [upd]
    · rw [tc_wr_k (by decide), e47]; simp [upd]
  have hsort : tc_f6_isSort N a2 μ = some (tc_bI (tc_wi a2 0 1), μ) := by
    apply tc_wp_of
    unfold tc_f6_isSort
    rw [tc_wp_bd, tc_v6_isWithin, tc_wp_some, tc_wp_zr]
    exact ⟨tc_bI_01 _, rfl, rfl⟩
  rcases Bool.eq_false_or_eq_true (tc_wi a2 0 1) with c2 | c2
  case inr =>
    have c2' : tc_wi a2 (-1) 1 = false := by
      unfold tc_wi at c2 ⊢
      by_cases q : a2 < 0
      · have : a2 < -1 := by
          rcases Int32.lt_or_lt_of_ne cm with h | h
          · exact h
          · exfalso
            rw [Int32.lt_iff_toInt_lt] at q h
            have e : (-1 : Int32).toInt = -1 := by decide
            have e0 : (0 : Int32).toInt = 0 := by decide
            rw [e] at h; rw [e0] at q; omega
        rw [decide_eq_true this]; rfl
      · rw [decide_eq_false q] at c2
        have : decide (1 < a2) = true := by simpa using c2
        rw [this]; simp
    exact tc_mk0 h (r0 := -2) (tc_wp_of (by unfold tc_f6_sheet; rw [tc_wp_bd, tc_v3_has, tc_wp_some, c1, if_neg (by decide), if_neg cm, tc_wp_bd, hsort, tc_wp_some, c2, if_pos (show tc_bI false = 0 from rfl), tc_wp_some]; exact ⟨rfl, rfl⟩)) (tc_wp_of (by unfold tc_f7_sheet; rw [tc_wp_bd, tc_v7_isSheet, tc_wp_some, c1, if_neg (by decide), tc_wp_bd, tc_v7_in, tc_wp_some, c2', if_pos (show tc_bI false = 0 from rfl), tc_wp_some]; exact ⟨rfl, rfl⟩))
  have c2' : tc_wi a2 (-1) 1 = true := by rcases tc_01 c2 with rfl | rfl <;> decide
  by_cases c40 : a3 ≤ 40
  case neg => exact tc_mk0 h (r0 := -2) (tc_wp_of (by unfold tc_f6_sheet; rw [tc_wp_bd, tc_v3_has, tc_wp_some, c1, if_neg (by decide), if_neg cm, tc_wp_bd, hsort, tc_wp_some, c2, if_neg (by decide), if_neg c40, tc_wp_some]; exact ⟨rfl, rfl⟩)) (tc_wp_of (by unfold tc_f7_sheet; rw [tc_wp_bd, tc_v7_isSheet, tc_wp_some, c1, if_neg (by decide), tc_wp_bd, tc_v7_in, tc_wp_some, c2', if_neg (by decide), if_neg cm, if_neg c40, tc_wp_some]; exact ⟨rfl, rfl⟩))
  by_cases c0 : (0 : Int32) ≤ a3
  case neg => exact tc_mk0 h (r0 := -14) (tc_wp_of (by unfold tc_f6_sheet; rw [tc_wp_bd, tc_v3_has, tc_wp_some, c1, if_neg (by decide), if_neg cm, tc_wp_bd, hsort, tc_wp_some, c2, if_neg (by decide), if_pos c40, if_neg c0, tc_wp_some]; exact ⟨rfl, rfl⟩)) (tc_wp_of (by unfold tc_f7_sheet; rw [tc_wp_bd, tc_v7_isSheet, tc_wp_some, c1, if_neg (by decide), tc_wp_bd, tc_v7_in, tc_wp_some, c2', if_neg (by decide), if_neg cm, if_pos c40, if_neg c0, tc_wp_some]; exact ⟨rfl, rfl⟩))
  obtain ⟨n, hn31, rfl⟩ := nI_of (x := a3) (fun q => absurd c0 (Int32.not_le.mpr q))
  have hn : n ≤ 40 := (tc_leL (k := 40) hn31 (by decide)).mp c40
  refine tc_mkS hO hY ?_
  unfold tc_f6_sheet
  rw [tc_wp_bd, tc_v3_has, tc_wp_some, c1, if_neg (by decide), if_neg cm, tc_wp_bd, hsort, tc_wp_some, c2, if_neg (by decide), if_pos c40, if_pos c0, tc_wp_bd]
  have hb := tc_w3_become (N := N) (μ := μ) (so := a2) (n := n) hN hr hn
  refine tc_wp_mono hb (fun _ μ1 hh => ?_)
  obtain ⟨f1, e47, e48, e49⟩ := hh
  rw [tc_wp_some]
  refine ⟨fun k _ q => f1 k q, ?_⟩
  unfold tc_f7_sheet
  rw [tc_wp_bd, tc_v7_isSheet, tc_wp_some, c1, if_neg (by decide), tc_wp_bd, tc_v7_in, tc_wp_some, c2', if_neg (by decide), if_neg cm, if_pos c40, if_pos c0, tc_wp_ck, tc_cl (by omega), tc_wp_lt, tc_wp_ck, tc_wp_lt]
  refine ⟨hvr, hvr, ?_⟩
  have key : ∀ (d f i : Nat) (μ2 : tc_Mem), i + d = n → d < f → (∀ k, k ≠ 66 → μ2 k = tc_wr (tc_wr μ1 64 r a2) 65 r (nI n) k) → (∀ j, μ2 66 j = if 40 * r ≤ j ∧ j < 40 * r + i then 0 else μ1 66 j) → tc_wp (tc_f7_sheet_66 N f (nI r) (nI n) (nI i) μ2) (fun r2 μ2 => r2 = 1 ∧ tz_FR μ1 μ2 ∧ tc_RM μ2 Y Y.2.2.2 (-1) ∧ tc_ISh μ2) := by
    intro d
    induction d with
    | zero =>
      intro f i μ2 hi hf h1 h2
      obtain ⟨f, rfl⟩ : ∃ f', f = f' + 1 := ⟨f - 1, by omega⟩
      obtain rfl : i = n := by omega
      rw [tc_f7_sheet_66]; dsimp only
      rw [if_pos (Int32.le_refl _), tc_wp_some]
      have hk : ∀ k, k ≠ 64 → k ≠ 65 → k ≠ 66 → μ2 k = μ1 k := fun k q1 q2 q3 => by rw [h1 k q3, tc_wr_k q2, tc_wr_k q1]
      refine ⟨rfl, ⟨fun k q1 q2 => hk k (by omega) (by omega) (by omega), fun j _ => by rw [hk 50 (by decide) (by decide) (by decide)]⟩, hY.2.2.2.frame (fun j _ => by rw [hk 50 (by decide) (by decide) (by decide), f1 50 (by omega)]) (fun k q1 q2 => by rw [hk k (by omega) (by omega) (by omega), f1 k (by omega)]), ?_⟩
      refine hS.one (r := r) (fun q hq hne => ⟨?_, ?_, ?_, ?_, fun j hj => ⟨?_, ?_⟩⟩) ⟨⟨i, hn, ?_⟩, ?_, Or.inr ⟨?_, ?_, fun j hj hj4 => ?_⟩⟩
      · rw [hk 47 (by decide) (by decide) (by decide), e47]; simp [upd, hne]
      · rw [hk 48 (by decide) (by decide) (by decide), e48]; simp [upd, hne]
      · rw [h1 64 (by decide), tc_wr_k (by decide), tc_wr_at, if_neg (by omega), f1 64 (by omega)]
      · rw [h1 65 (by decide), tc_wr_at, if_neg (by omega), tc_wr_k (by decide), f1 65 (by omega)]
      · rw [hk 49 (by decide) (by decide) (by decide), e49, if_neg (by omega)]
      · rw [h2, if_neg (by omega), f1 66 (by omega)]
      · rw [hk 48 (by decide) (by decide) (by decide), e48]; simp [upd]
      · rw [hk 47 (by decide) (by decide) (by decide), e47, h1 64 (by decide), tc_wr_k (by decide), tc_wr_at, if_pos ⟨rfl, rfl⟩]; simp [upd]
      · rw [hk 47 (by decide) (by decide) (by decide), e47]
        simpa [upd] using tc_01 c2
      · rw [hk 48 (by decide) (by decide) (by decide), e48, h1 65 (by decide), tc_wr_at, if_pos ⟨rfl, rfl⟩]; simp [upd]
      · rw [hk 48 (by decide) (by decide) (by decide), e48] at hj
        simp only [upd, if_true] at hj
        rw [tc_lt' (by omega) (by omega)] at hj
        rw [hk 49 (by decide) (by decide) (by decide), e49, h2, if_pos (by omega), if_pos (by omega)]
    | succ d ih =>
      intro f i μ2 hi hf h1 h2
      obtain ⟨f, rfl⟩ : ∃ f', f = f' + 1 := ⟨f - 1, by omega⟩
      rw [tc_f7_sheet_66]; dsimp only
      rw [if_neg (by rw [tc_le (by omega) (by omega)]; omega), tc_wp_ck, tz_ix2, tc_cl (by omega), tc_wp_lt, tc_ad1]
      refine ⟨(tc_vin (by omega) (by decide)).mpr (by omega), ih f (i + 1) _ (by omega) (by omega) (fun k hk => by rw [tc_wr_k hk]; exact h1 k hk) (fun j => ?_)⟩
      rw [tc_wr_at, h2 j]
      by_cases c : j = 40 * r + i
      · rw [if_pos ⟨rfl, c⟩, if_pos (by omega)]
      · rw [if_neg (fun q => c q.2)]
        by_cases c2 : 40 * r ≤ j ∧ j < 40 * r + i
        · rw [if_pos c2, if_pos (by omega)]
        · rw [if_neg c2, if_neg (by omega)]
  exact key n N 0 _ (by omega) (by omega) (fun _ _ => rfl) (fun j => by rw [if_neg (by omega), tc_wr_k (by decide), tc_wr_k (by decide)])
end H1
