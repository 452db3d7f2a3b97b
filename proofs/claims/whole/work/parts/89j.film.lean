/-! film -/
theorem tz_shl : ∀ i, i < 10 → (1 : Int32) <<< (nI i &&& 31) = nI (2 ^ i) := by decide +kernel
theorem tz_clr : ∀ i, i < 10 → ∀ b, b < 2 ^ i → nI b &&& (((1 : Int32) <<< (nI i &&& 31)) ^^^ (-1)) = nI b := by decide +kernel
theorem tz_bit : ∀ b, b < 1024 → ∀ i, i < 10 → ((nI b >>> (nI i &&& 31)) &&& 1) = if b.testBit i then 1 else 0 := by decide +kernel
section H3
variable {N : Nat} {Y Z : tc_Y} {x1 x2 x3 x4 x5 : Int32} {μ μ0 μ1 μ2 : tc_Mem}
def tz_pu (p : Nat → Bool) (i : Nat) (b : Bool) : Nat → Bool := fun j => if j = i then b else p j
theorem tz_pu_bm {p : Nat → Bool} {i : Nat} {b : Bool} : tc_bm (tz_pu p i b) (i + 1) = if b then tc_set (tc_bm p i) i else tc_bm p i := by
  have e : tc_bm (tz_pu p i b) i = tc_bm p i := tc_bm_congr (fun s hs => by unfold tz_pu; rw [if_neg (by omega)])
  rw [tc_bm, e]
  unfold tz_pu
  rw [if_pos rfl]
theorem tz_wb {p : Nat → Bool} {i : Nat} {b : Bool} (hi : i < 10) : tc_f6_withBit N (nI (tc_bm p i)) (nI i) (tc_bI b) μ = some (nI (tc_bm (tz_pu p i b) (i + 1)), μ) := by
  unfold tc_f6_withBit
  rw [tz_pu_bm]
  cases b
  · rw [if_pos (show tc_bI false = 0 from rfl), tz_clr i hi _ (tc_bm_lt p i)]; rfl
  · rw [if_neg (show ¬ tc_bI true = 0 by decide), tz_shl i hi, tc_or2]; rfl
def tc_fp (s : Nat) : Nat → Nat → tc_Y → (Nat → Bool) → Option (Nat → Bool)
  | 0, _, _, p => some p
  | d + 1, i, Z, p => match tc_mo Z false with
    | none => none
    | some (u, _) => tc_fp s d (i + 1) (tc_mv (tc_af Z u)) (tz_pu p i (u.testBit s))
theorem tc_c_pictures (hN : 300 ≤ N) {s n : Nat} (h : tc_RC μ 1 Y) (g : tc_Gd Y) (hs : s < Y.1.1) (hn : n ≤ 10) : tc_wp (tc_f2_pictures N (nI s) (nI n) μ) (fun r μ' => tc_FD μ μ' ∧ r = match tc_fp s n 0 Y (fun _ => false) with
    | none => -1
    | some p => nI (tc_bm p n)) := by
  have g1 := g.1
  have key : ∀ (d f i : Nat) (Z : tc_Y) (p : Nat → Bool) (μ1 : tc_Mem), i + d = n → d < f → tc_CT μ μ1 Y Z → tc_Gd Z → Z.1.1 = Y.1.1 → tc_wp (tc_f2_pictures_16 N f (nI s) (nI n) (nI (tc_bm p i)) (nI i) μ1) (fun r μ' => tc_FD μ μ' ∧ r = match tc_fp s d i Z p with
      | none => -1
      | some p => nI (tc_bm p n)) := by
    intro d
    induction d with
    | zero =>
      intro f i Z p μ1 hd hf hC gZ hZ
      obtain ⟨f, rfl⟩ : ∃ f', f = f' + 1 := ⟨f - 1, by omega⟩
      obtain rfl : i = n := by omega
      rw [tc_f2_pictures_16]; dsimp only
      rw [if_pos (Int32.le_refl _), tc_wp_some]
      exact ⟨hC.1, rfl⟩
    | succ d ih =>
      intro f i Z p μ1 hd hf hC gZ hZ
      obtain ⟨f, rfl⟩ : ∃ f', f = f' + 1 := ⟨f - 1, by omega⟩
      rw [tc_f2_pictures_16]; dsimp only
      rw [if_neg (by rw [tc_le (by omega) (by omega)]; omega), tc_wp_bd]
      have hp := tc_c_passes hN hC gZ
      refine tc_wp_mono hp (fun r1 μ2 hh => ?_)
      unfold tc_fp
      cases hm : tc_mo Z false with
      | none =>
        rw [hm] at hh
        obtain ⟨rfl, hC2⟩ := hh
        rw [if_pos rfl, tc_wp_some]
        exact ⟨hC2.1, rfl⟩
      | some q =>
        obtain ⟨u, ch⟩ := q
        rw [hm] at hh
        obtain ⟨rfl, hC2, hu, -, -⟩ := hh
        have g2 := gZ.af hu
        have go : ∀ b : Bool, u.testBit s = b → tc_wp (tc_f2_pictures_58 N (tc_f2_pictures_16 N f) (nI s) (nI n) (nI i) (nI (tc_bm p i)) (nI i) (tc_bI b) μ2) (fun r μ' => tc_FD μ μ' ∧ r = match tc_fp s d (i + 1) (tc_mv (tc_af Z u)) (tz_pu p i (u.testBit s)) with
            | none => -1
            | some p => nI (tc_bm p n)) := by
          intro b hb
          rw [hb]
          unfold tc_f2_pictures_58
          rw [tc_wp_bd, tz_wb (by omega), tc_wp_some, tc_wp_bd]
          refine tc_wp_mono (tc_c_move hC2 g2) (fun _ μ3 hh => ?_)
          rw [tc_ad1]
          exact ih f (i + 1) _ _ μ3 (by omega) (by omega) hh.1 g2.mv hZ
        rw [if_neg (by decide), tc_wp_bd, tc_v5_relay hC2.2.2 g2 (by omega), tc_wp_some, if_pos (show s < (tc_af Z u).1.1 by show s < Z.1.1; omega), tc_wp_if]
        show if tc_bI (u.testBit s) = 1 then _ else _
        dsimp only
        by_cases c : u.testBit s = true
        · rw [if_pos (show tc_bI (u.testBit s) = 1 by rw [c]; rfl)]
          exact go true c
        · rw [if_neg (show ¬ tc_bI (u.testBit s) = 1 by rw [show u.testBit s = false by simpa using c]; decide)]
          exact go false (by simpa using c)
  unfold tc_f2_pictures
  rw [tc_wp_bd]
  refine tc_wp_mono (tc_c_become hN h g) (fun _ μ1 hC => ?_)
  exact key n N 0 Y (fun _ => false) μ1 (by omega) (by omega) hC g rfl
theorem tz_bk67 (hN : 300 ≤ N) : tc_wp (tc_f7_laysBack N μ) (fun _ μ' => μ' 67 = μ 67) := tc_wp_mono (tz_laysBack hN) (fun _ μ' hh => hh.1 67 (by decide) (by decide) (by decide) (by decide))
theorem tz_go67 (hN : 300 ≤ N) {fl : tc_Fl} {w : Int32} (h : tc_RM μ Z fl w) (g : tc_Gd Z) : tc_wp (tc_f7_goes N (tc_bI false) μ) (fun _ μ' => μ' 67 = μ 67) := tc_wp_mono (tc_w7_goes hN h g false) (fun _ μ' hh => hh.1.1 67 (by decide) (by decide) (by decide) (by decide) (by decide) (by decide) (by decide))
theorem tz_mv67 (hN : 300 ≤ N) {fl : tc_Fl} {w : Int32} (h : tc_RM μ Z fl w) (g : tc_Gd Z) : tc_wp (tc_f7_goTrains N μ) (fun _ μ' => μ' 67 = μ 67) := tc_wp_mono (tc_w7_goTrains hN h g) (fun _ μ' hh => hh.1 67 (by decide))
theorem tz_s27 (hN : 300 ≤ N) : tc_S27 N tc_Inv := fun a1 a2 a3 μ h => by
  obtain ⟨Y, g, hY, hO⟩ := h.g
  have g1 := g.1.1
  rcases Bool.eq_false_or_eq_true (tc_wi a1 0 3) with c1 | c1
  case inr => exact tc_mk0 h (r0 := -2) (tc_wp_of (by unfold tc_f6_film; simp [tc_wp_bd, tc_v3_has, tc_wp_some, c1, tc_bI])) (tc_wp_of (by unfold tc_f7_film; simp [tc_wp_bd, tc_v7_isSheet, tc_wp_some, c1, tc_bI]))
  rcases tc_sec (N := N) g.1 a2 with ⟨s, hs, rfl⟩ | ⟨b1, b2⟩
  case inr => exact tc_mk0 h (r0 := -2) (tc_wp_of (by unfold tc_f6_film; simp [tc_wp_bd, tc_v3_has, tc_wp_some, c1, tc_bI, b1 μ 1 hY.2.2.1])) (tc_wp_of (by unfold tc_f7_film; simp [tc_wp_bd, tc_v7_isSheet, tc_wp_some, c1, tc_bI, b2 μ _ _ hY.2.2.2]))
  rcases Bool.eq_false_or_eq_true (tc_wi a3 0 10) with c3 | c3
  case inr => exact tc_mk0 h (r0 := -2) (tc_wp_of (by unfold tc_f6_film; simp [tc_wp_bd, tc_v3_has, tc_wp_some, c1, tc_bI, tc_sec5 hY.2.2.1 g.1 hs, tc_v6_isWithin, c3])) (tc_wp_of (by unfold tc_f7_film; simp [tc_wp_bd, tc_v7_isSheet, tc_wp_some, c1, tc_bI, tc_sec7 hY.2.2.2 g.1 hs, tc_v7_in, c3]))
  obtain ⟨r, -, hr3, rfl⟩ := tc_wi_nI (a := 0) (b := 3) (by decide) (by decide) c1
  obtain ⟨n, -, hn, rfl⟩ := tc_wi_nI (a := 0) (b := 10) (by decide) (by decide) c3
  have hr : r < 4 := by omega
  have hvr : vp_in (nI r) 4 := (tc_vin (by omega) (by decide)).mpr hr
  have hvs : vp_in (nI s) 8 := (tc_vin (by omega) (by decide)).mpr (by omega)
  have hS := hO.2.2.1
  -- the reference: the loop of moments
  have ref : ∀ μ1, tc_RM μ1 Y Y.2.2.2 (-1) → tc_wp (tc_f7_film N (nI r) (nI s) (nI n) μ1) (fun r2 μ2 => match tc_fp s n 0 Y (fun _ => false) with
      | none => r2 = -3 ∧ tc_FM μ1 μ2 ∧ tc_RM μ2 Y Y.2.2.2 (-1)
      | some p => r2 = nI n ∧ (∀ k, (k < 50 ∨ 61 < k) → (k < 64 ∨ 74 < k) → μ2 k = μ1 k) ∧ (∀ j, (j = 14 ∨ j = 17 ∨ (32 ≤ j ∧ j ≤ 38)) → μ2 50 j = μ1 50 j) ∧ tc_RM μ2 Y Y.2.2.2 (-1) ∧ μ2 64 = upd (μ1 64) r 0 ∧ μ2 65 = upd (μ1 65) r (nI n) ∧ ∀ q, μ2 66 q = if 40 * r ≤ q ∧ q < 40 * r + n then tc_bI (p (q - 40 * r)) else μ1 66 q) := by
    intro μ0 h0
    have fin : ∀ (Z : tc_Y) (μ3 : tc_Mem), tc_RT μ0 μ3 Y Z Y.2.2.2 Y.2.2.2 (-1) → tc_wp (tc_f7_film_95 N (nI r) (nI n) 0 μ3) (fun r2 μ2 => r2 = -3 ∧ tc_FM μ0 μ2 ∧ tc_RM μ2 Y Y.2.2.2 (-1)) := by
      intro Z μ3 hC
      unfold tc_f7_film_95
      rw [tc_wp_bd]
      refine tc_wp_mono (tc_r_back hN hC g.1) (fun _ μ2 hh => ?_)
      rw [if_pos rfl, tc_wp_some]; exact ⟨rfl, hh⟩
    have key : ∀ (d f i : Nat) (Z : tc_Y) (p : Nat → Bool) (μ3 : tc_Mem), i + d = n → d + 1 < f → tc_RT μ0 μ3 Y Z Y.2.2.2 Y.2.2.2 (-1) → tc_Gd Z → Z.1.1 = Y.1.1 → (∀ j, j < i → μ3 67 j = tc_bI (p j)) → tc_wp (tc_f7_film_38 N f (nI r) (nI s) (nI n) 1 (nI i) μ3) (fun r2 μ2 => match tc_fp s d i Z p with
      | none => r2 = -3 ∧ tc_FM μ0 μ2 ∧ tc_RM μ2 Y Y.2.2.2 (-1)
      | some p => r2 = nI n ∧ (∀ k, (k < 50 ∨ 61 < k) → (k < 64 ∨ 74 < k) → μ2 k = μ0 k) ∧ (∀ j, (j = 14 ∨ j = 17 ∨ (32 ≤ j ∧ j ≤ 38)) → μ2 50 j = μ0 50 j) ∧ tc_RM μ2 Y Y.2.2.2 (-1) ∧ μ2 64 = upd (μ0 64) r 0 ∧ μ2 65 = upd (μ0 65) r (nI n) ∧ ∀ q, μ2 66 q = if 40 * r ≤ q ∧ q < 40 * r + n then tc_bI (p (q - 40 * r)) else μ0 66 q) := by
      intro d
      induction d with
      | zero =>
        intro f i Z p μ3 hd hf hC gZ hZ h67
        obtain ⟨f, rfl⟩ : ∃ f', f = f' + 1 := ⟨f - 1, by omega⟩
        obtain rfl : i = n := by omega
        rw [tc_f7_film_38]; dsimp only
        rw [if_pos (Int32.le_refl _)]
        unfold tc_f7_film_95 tc_fp
        rw [tc_wp_bd]
        have hb := tc_wp_and (tc_r_back hN hC g.1) (tz_bk67 hN (μ := μ3))
        refine tc_wp_mono hb (fun _ μ4 hh => ?_)
        obtain ⟨⟨hF, hR⟩, e67⟩ := hh
        rw [if_neg (by decide), tc_wp_ck, tc_cl (show r < 2 ^ 31 by omega), tc_wp_lt, tc_wp_ck, tc_wp_lt]
        refine ⟨hvr, hvr, ?_⟩
        have last : ∀ (d f k : Nat) (μ5 : tc_Mem), k + d = i → d < f → (∀ c, c ≠ 66 → μ5 c = tc_wr (tc_wr μ4 64 r 0) 65 r (nI i) c) → (∀ q, μ5 66 q = if 40 * r ≤ q ∧ q < 40 * r + k then tc_bI (p (q - 40 * r)) else μ0 66 q) → tc_wp (tc_f7_film_124 N f (nI r) (nI i) (nI k) μ5) (fun r2 μ2 => r2 = nI i ∧ (∀ k, (k < 50 ∨ 61 < k) → (k < 64 ∨ 74 < k) → μ2 k = μ0 k) ∧ (∀ j, (j = 14 ∨ j = 17 ∨ (32 ≤ j ∧ j ≤ 38)) → μ2 50 j = μ0 50 j) ∧ tc_RM μ2 Y Y.2.2.2 (-1) ∧ μ2 64 = upd (μ0 64) r 0 ∧ μ2 65 = upd (μ0 65) r (nI i) ∧ ∀ q, μ2 66 q = if 40 * r ≤ q ∧ q < 40 * r + i then tc_bI (p (q - 40 * r)) else μ0 66 q) := by
          intro d
          induction d with
          | zero =>
            intro f k μ5 hk hf q1 q2
            obtain ⟨f, rfl⟩ : ∃ f', f = f' + 1 := ⟨f - 1, by omega⟩
            obtain rfl : k = i := by omega
            rw [tc_f7_film_124]; dsimp only
            rw [if_pos (Int32.le_refl _), tc_wp_some]
            have G : ∀ c, c ≠ 64 → c ≠ 65 → c ≠ 66 → μ5 c = μ4 c := fun c c1 c2 c3 => by rw [q1 c c3, tc_wr_k c2, tc_wr_k c1]
            refine ⟨rfl, fun k k1 k2 => ?_, fun j hj => ?_, ?_, ?_, ?_, q2⟩
            · rw [G k (by omega) (by omega) (by omega)]; exact hF.1 k (by omega) (by omega)
            · rw [G 50 (by omega) (by omega) (by omega)]; exact hF.2 j hj
            · exact hR.frame (fun j _ => by rw [G 50 (by omega) (by omega) (by omega)]) (fun k k1 k2 => G k (by omega) (by omega) (by omega))
            · rw [q1 64 (by decide), tc_wr_k (by decide)]
              funext j
              rw [tc_wr_at, hF.1 64 (by omega) (by omega)]; unfold upd; simp
            · rw [q1 65 (by decide)]
              funext j
              rw [tc_wr_at, tc_wr_k (by decide), hF.1 65 (by omega) (by omega)]; unfold upd; simp
          | succ d ih =>
            intro f k μ5 hk hf q1 q2
            obtain ⟨f, rfl⟩ : ∃ f', f = f' + 1 := ⟨f - 1, by omega⟩
            rw [tc_f7_film_124]; dsimp only
            rw [if_neg (by rw [tc_le (by omega) (by omega)]; omega), tc_wp_ck, tc_wp_ck, tz_ix2, tc_cl (by omega), tc_cl (by omega), tc_wp_lt, tc_ad1]
            refine ⟨(tc_vin (by omega) (by decide)).mpr (by omega), (tc_vin (by omega) (by decide)).mpr (by omega), ih f (k + 1) _ (by omega) (by omega) (fun c hc => by rw [tc_wr_k hc]; exact q1 c hc) (fun q => ?_)⟩
            rw [tc_wr_at, q2 q]
            by_cases c : q = 40 * r + k
            · rw [if_pos ⟨rfl, c⟩, if_pos (by omega), q1 67 (by decide), tc_wr_k (by decide), tc_wr_k (by decide), e67, h67 k (by omega), c, show 40 * r + k - 40 * r = k by omega]
            · rw [if_neg (fun z => c z.2)]
              by_cases c2 : 40 * r ≤ q ∧ q < 40 * r + k
              · rw [if_pos c2, if_pos (by omega)]
              · rw [if_neg c2, if_neg (by omega)]
        exact last i N 0 _ (by omega) (by omega) (fun _ _ => rfl) (fun q => by rw [if_neg (by omega), tc_wr_k (by decide), tc_wr_k (by decide), hF.1 66 (by omega) (by omega)])
      | succ d ih =>
        intro f i Z p μ3 hd hf hC gZ hZ h67
        obtain ⟨f, rfl⟩ : ∃ f', f = f' + 1 := ⟨f - 1, by omega⟩
        rw [tc_f7_film_38]; dsimp only
        rw [if_neg (by rw [tc_le (by omega) (by omega)]; omega), if_neg (by decide), tc_wp_bd]
        have hp := tc_wp_and (tc_r_goes hN hC gZ false) (tz_go67 hN hC.2.1 gZ)
        refine tc_wp_mono hp (fun r1 μ4 hh => ?_)
        obtain ⟨hh, e67⟩ := hh
        unfold tc_fp
        unfold tc_f7_film_62 tc_f7_film_84
        cases hm : tc_mo Z false with
        | none =>
          rw [hm] at hh
          obtain ⟨rfl, hC2⟩ := hh
          rw [if_pos (by decide), tc_wp_ck]
          refine ⟨hvs, ?_⟩
          have go : ∀ v : Int32, tc_wp (tc_ck (nI i) 40 (tc_lt (tc_wr μ4 67 (nI i).toNatClampNeg v) fun μ2 => tc_bd (tc_f7_goTrains N μ2) fun _ μ4 => tc_f7_film_38 N f (nI r) (nI s) (nI n) 0 (nI i + 1) μ4)) (fun r2 μ2 => r2 = -3 ∧ tc_FM μ0 μ2 ∧ tc_RM μ2 Y Y.2.2.2 (-1)) := by
            intro v
            rw [tc_wp_ck, tc_wp_lt, tc_wp_bd, tc_cl (by omega)]
            have hC3 : tc_RT μ0 (tc_wr μ4 67 i v) Y Z Y.2.2.2 Y.2.2.2 (-1) := by
              obtain ⟨a1, a2, a3, a4⟩ := hC2
              exact ⟨a1.wr (by omega), a2.frame (fun j _ => by rw [tc_wr_k (by decide)]) (fun k _ _ => tc_wr_k (by omega)), a3.frame (by rw [tc_wr_k (by decide)]) (fun k q1 q2 => tc_wr_k (by omega)), a4⟩
            refine ⟨(tc_vin (by omega) (by decide)).mpr (by omega), tc_wp_mono (tc_r_move hN hC3 gZ) (fun _ μ5 h5 => ?_)⟩
            obtain ⟨f, rfl⟩ : ∃ f', f = f' + 1 := ⟨f - 1, by omega⟩
            rw [tc_f7_film_38]; dsimp only
            rw [tc_wp_if, tc_wp_if, if_pos rfl]
            split <;> exact fin _ μ5 h5
          rw [tc_wp_if]
          split <;> exact go _
        | some q =>
          obtain ⟨u, ch⟩ := q
          rw [hm] at hh
          obtain ⟨rfl, hC2, hu, hl⟩ := hh
          have g2 := gZ.af hu
          have e56 : μ4 56 s = tc_bI (u.testBit s) := (hC2.2.1.2.1 s (show s < Z.1.1 by omega)).2.1
          rw [if_neg (tc_nn (by omega)), tc_wp_ck, tc_cl (show s < 2 ^ 31 by omega), e56]
          refine ⟨hvs, ?_⟩
          have go : ∀ v : Int32, v = tc_bI (u.testBit s) → tc_wp (tc_ck (nI i) 40 (tc_lt (tc_wr μ4 67 (nI i).toNatClampNeg v) fun μ2 => tc_bd (tc_f7_goTrains N μ2) fun _ μ4 => tc_f7_film_38 N f (nI r) (nI s) (nI n) 1 (nI i + 1) μ4)) (fun r2 μ2 => match tc_fp s d (i + 1) (tc_mv (tc_af Z u)) (tz_pu p i (u.testBit s)) with
              | none => r2 = -3 ∧ tc_FM μ0 μ2 ∧ tc_RM μ2 Y Y.2.2.2 (-1)
              | some p => r2 = nI n ∧ (∀ k, (k < 50 ∨ 61 < k) → (k < 64 ∨ 74 < k) → μ2 k = μ0 k) ∧ (∀ j, (j = 14 ∨ j = 17 ∨ (32 ≤ j ∧ j ≤ 38)) → μ2 50 j = μ0 50 j) ∧ tc_RM μ2 Y Y.2.2.2 (-1) ∧ μ2 64 = upd (μ0 64) r 0 ∧ μ2 65 = upd (μ0 65) r (nI n) ∧ ∀ q, μ2 66 q = if 40 * r ≤ q ∧ q < 40 * r + n then tc_bI (p (q - 40 * r)) else μ0 66 q) := by
            intro v hv
            rw [tc_wp_ck, tc_wp_lt, tc_wp_bd, tc_cl (by omega)]
            have hC3 : tc_RT μ0 (tc_wr μ4 67 i v) Y (tc_af Z u) Y.2.2.2 Y.2.2.2 (-1) := by
              obtain ⟨a1, a2, a3, a4⟩ := hC2
              exact ⟨a1.wr (by omega), a2.frame (fun j _ => by rw [tc_wr_k (by decide)]) (fun k _ _ => tc_wr_k (by omega)), a3.frame (by rw [tc_wr_k (by decide)]) (fun k q1 q2 => tc_wr_k (by omega)), a4⟩
            have hmv := tc_wp_and (tc_r_move hN hC3 g2) (tz_mv67 hN hC3.2.1 g2)
            refine ⟨(tc_vin (by omega) (by decide)).mpr (by omega), tc_wp_mono hmv (fun _ μ5 h5 => ?_)⟩
            obtain ⟨h5, e5⟩ := h5
            rw [tc_ad1]
            refine ih f (i + 1) _ _ μ5 (by omega) (by omega) h5 g2.mv hZ (fun j hj => ?_)
            rw [e5, tc_wr_at]
            unfold tz_pu
            by_cases c : j = i
            · rw [if_pos ⟨rfl, c⟩, if_pos c, hv]
            · rw [if_neg (fun z => c z.2), if_neg c, e67]; exact h67 j (by omega)
          dsimp only
          rw [tc_wp_if]
          by_cases c : u.testBit s = true
          · rw [if_neg (by rw [c]; decide)]
            exact go 1 (by rw [c]; rfl)
          · have c' : u.testBit s = false := by simpa using c
            rw [if_pos (by rw [c']; rfl)]
            exact go 0 (by rw [c']; rfl)
    unfold tc_f7_film
    rw [tc_wp_bd, tc_v7_isSheet, tc_wp_some, c1, if_neg (by decide), tc_wp_bd, tc_sec7 h0 g.1 hs, tc_wp_some, if_neg (by decide), tc_wp_bd, tc_v7_in, tc_wp_some, c3, if_neg (by decide), tc_wp_bd]
    refine tc_wp_mono (tc_r_keeps hN h0 tc_FM.rf g.1) (fun _ μ3 hC => ?_)
    exact key n N 0 Y (fun _ => false) μ3 (by omega) (by omega) hC g.1 rfl (fun j hj => absurd hj (by omega))
  refine tc_mkS hO hY ?_
  unfold tc_f6_film
  rw [tc_wp_bd, tc_v3_has, tc_wp_some, c1, if_neg (by decide), tc_wp_bd, tc_sec5 hY.2.2.1 g.1 hs, tc_wp_some, if_neg (by decide), tc_wp_bd, tc_v6_isWithin, tc_wp_some, c3, if_neg (by decide), tc_wp_bd]
  refine tc_wp_mono (tc_c_pictures hN hY.2.2.1 g.1 hs hn) (fun r1 μ1 hh => ?_)
  obtain ⟨hF, hr1⟩ := hh
  cases hp : tc_fp s n 0 Y (fun _ => false) with
  | none =>
    rw [hp] at hr1 ref
    subst hr1
    rw [if_pos rfl, tc_wp_some]
    refine ⟨fun k q1 _ => hF k q1, tc_wp_mono (ref μ1 (hY.2.2.2.fd hF)) (fun r2 μ2 h2 => ?_)⟩
    obtain ⟨rfl, hF2, hR2⟩ := h2
    refine ⟨rfl, ⟨fun k q1 q2 => hF2.1 k q1 (by omega), hF2.2⟩, hR2, hS.frame (fun k hk => by rw [hF2.1 k (by omega) (by omega), hF k (by omega)])⟩
  | some p =>
    rw [hp] at hr1 ref
    subst hr1
    have hb := tc_bm_lt p n
    have h1024 : tc_bm p n < 1024 := Nat.lt_of_lt_of_le hb (show 2 ^ n ≤ 2 ^ 10 from Nat.pow_le_pow_right (by decide) hn)
    rw [if_neg (show ¬ nI (tc_bm p n) = -1 from fun q => tc_nn (show tc_bm p n < 2 ^ 31 by omega) (by rw [q]; decide)), tc_wp_bd]
    have hbe := tc_w3_become (N := N) (μ := μ1) (so := 0) (n := n) hN hr (by omega)
    refine tc_wp_mono hbe (fun _ μ2 h2 => ?_)
    obtain ⟨f2, e47, e48, e49⟩ := h2
    have lay : ∀ (d f k : Nat) (μ3 : tc_Mem), k + d = n → d < f → (∀ c, c ≠ 49 → μ3 c = μ2 c) → (∀ q, μ3 49 q = if 40 * r ≤ q ∧ q < 40 * r + k then tc_bI (p (q - 40 * r)) else μ2 49 q) → tc_wp (tc_f6_film_68 N f (nI r) (nI n) (nI (tc_bm p n)) (nI k) μ3) (fun r4 μ4 => r4 = nI n ∧ (∀ c, c ≠ 49 → μ4 c = μ2 c) ∧ ∀ q, μ4 49 q = if 40 * r ≤ q ∧ q < 40 * r + n then tc_bI (p (q - 40 * r)) else μ2 49 q) := by
      intro d
      induction d with
      | zero =>
        intro f k μ3 hk hf q1 q2
        obtain ⟨f, rfl⟩ : ∃ f', f = f' + 1 := ⟨f - 1, by omega⟩
        obtain rfl : k = n := by omega
        rw [tc_f6_film_68]; dsimp only
        rw [if_pos (Int32.le_refl _), tc_wp_some]
        exact ⟨rfl, q1, q2⟩
      | succ d ih =>
        intro f k μ3 hk hf q1 q2
        obtain ⟨f, rfl⟩ : ∃ f', f = f' + 1 := ⟨f - 1, by omega⟩
        have eb : tc_f6_bit N (nI (tc_bm p n)) (nI k) μ3 = some (tc_bI (p k), μ3) := by
          unfold tc_f6_bit
          rw [tz_bit _ h1024 k (by omega), tc_bm_bit]
          have hkn : k < n := by omega
          cases hpk : p k <;> simp [hkn, tc_bI]
        have e47r : μ3 47 r = 0 := by rw [q1 47 (by decide), e47]; simp [upd]
        have e16 : (tc_bI (p k)).toInt16.toInt32 = tc_bI (p k) := by cases p k <;> decide
        rw [tc_f6_film_68]; dsimp only
        rw [if_neg (by rw [tc_le (by omega) (by omega)]; omega), tc_wp_bd, eb, tc_wp_some, tc_wp_bd]
        unfold tc_f3_lay tc_f3_lay_25
        rw [tc_wp_ck, tc_cl (show r < 2 ^ 31 by omega), e47r, if_pos rfl, tz_ix, tc_wp_ck, tc_cl (by omega), tc_wp_lt, tc_wp_some, tc_ad1, e16]
        refine ⟨hvr, (tc_vin (by omega) (by decide)).mpr (by omega), ih f (k + 1) _ (by omega) (by omega) (fun c hc => by rw [tc_wr_k hc]; exact q1 c hc) (fun q => ?_)⟩
        rw [tc_wr_at, q2 q]
        by_cases c : q = 40 * r + k
        · rw [if_pos ⟨rfl, c⟩, if_pos (by omega), c, show 40 * r + k - 40 * r = k by omega]
        · rw [if_neg (fun z => c z.2)]
          by_cases c2 : 40 * r ≤ q ∧ q < 40 * r + k
          · rw [if_pos c2, if_pos (by omega)]
          · rw [if_neg c2, if_neg (by omega)]
    refine tc_wp_mono (lay n N 0 μ2 (by omega) (by omega) (fun _ _ => rfl) (fun q => by rw [if_neg (by omega)])) (fun r4 μ4 h4 => ?_)
    obtain ⟨rfl, k1, k2⟩ := h4
    have G : ∀ k, (k < 28 ∨ 41 < k) → (k < 47 ∨ 49 < k) → μ4 k = μ k := fun k q1 q2 => by rw [k1 k (by omega), f2 k (by omega), hF k q1]
    refine ⟨G, tc_wp_mono (ref μ4 (hY.2.2.2.frame (fun j _ => by rw [G 50 (by omega) (by omega)]) (fun k q1 q2 => G k (by omega) (by omega)))) (fun r5 μ5 h5 => ?_)⟩
    obtain ⟨rfl, l1, l2, l3, l4, l5, l6⟩ := h5
    refine ⟨rfl, ⟨l1, l2⟩, l3, ?_⟩
    have e47' : μ4 47 = upd (μ 47) r 0 := by rw [k1 47 (by decide), e47, hF 47 (by omega)]
    have e48' : μ4 48 = upd (μ 48) r (nI n) := by rw [k1 48 (by decide), e48, hF 48 (by omega)]
    refine hS.one (r := r) (fun q hq hne => ⟨?_, ?_, ?_, ?_, fun t ht => ⟨?_, ?_⟩⟩) ⟨⟨n, by omega, ?_⟩, ?_, Or.inr ⟨?_, ?_, fun t ht ht4 => ?_⟩⟩
    · rw [l1 47 (by omega) (by omega), e47']; simp [upd, hne]
    · rw [l1 48 (by omega) (by omega), e48']; simp [upd, hne]
    · rw [l4, G 64 (by omega) (by omega)]; simp [upd, hne]
    · rw [l5, G 65 (by omega) (by omega)]; simp [upd, hne]
    · rw [l1 49 (by omega) (by omega), k2, if_neg (by omega), e49, if_neg (by omega), hF 49 (by omega)]
    · rw [l6, if_neg (by omega), G 66 (by omega) (by omega)]
    · rw [l1 48 (by omega) (by omega), e48']; simp [upd]
    · rw [l1 47 (by omega) (by omega), e47', l4]; simp [upd]
    · rw [l1 47 (by omega) (by omega), e47']; simp [upd]
    · rw [l5, l1 48 (by omega) (by omega), e48']; simp [upd]
    · rw [l1 48 (by omega) (by omega), e48'] at ht
      simp only [upd, if_true] at ht
      rw [tc_lt' (by omega) (by omega)] at ht
      rw [l1 49 (by omega) (by omega), k2, l6, if_pos (by omega), if_pos (by omega)]
end H3
