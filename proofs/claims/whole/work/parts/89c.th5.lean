/-! bounds and picks -/
def tc_dn (p : Nat → Bool) : Nat → Int32
  | 0 => -1
  | d + 1 => if p d then nI d else tc_dn p d
section T5
variable {N : Nat} {Y Z W R : tc_Y} {x1 x2 x3 x4 : Int32} {μ μ0 : tc_Mem}
theorem tc_c_fairW (hN : 300 ≤ N) (h : tc_RC μ 1 Y) (g : tc_Gd Y) : tc_wp (tc_f2_greatestFairWeather N μ) (fun r μ' => r = tc_dn (fun j => tc_fr (tc_yR Y (Y.2.1.1, Y.2.1.2.1, nI j))) 10 ∧ tc_FD μ μ') := by
  have key : ∀ (d f : Nat) (μ1 : tc_Mem), d ≤ 10 → d < f → tc_FD μ μ1 → tc_RC μ1 1 Y → tc_wp (tc_f2_greatestFairWeather_3 N f (nI d + (-1)) μ1) (fun r μ' => r = tc_dn (fun j => tc_fr (tc_yR Y (Y.2.1.1, Y.2.1.2.1, nI j))) d ∧ tc_FD μ μ') := by
    intro d
    induction d with
    | zero =>
      intro f μ1 hd hf hF hR
      obtain ⟨f, rfl⟩ : ∃ f', f = f' + 1 := ⟨f - 1, by omega⟩
      rw [tc_f2_greatestFairWeather_3]; dsimp only
      rw [if_pos (by decide), tc_wp_some]
      exact ⟨rfl, hF⟩
    | succ d ih =>
      intro f μ1 hd hf hF hR
      obtain ⟨f, rfl⟩ : ∃ f', f = f' + 1 := ⟨f - 1, by omega⟩
      rw [tc_dm1, tc_f2_greatestFairWeather_3]; dsimp only
      have e10 : μ1 1 10 = Y.2.1.1 := hR.2.2.1.2.2.1
      rw [if_neg (tc_nn (by omega)), tc_wp_bd, e10]
      refine tc_wp_mono (tc_c_fair hN hR g (pk := Y.2.1.1) (we := nI d)) (fun r μ2 hh => ?_)
      obtain ⟨rfl, hF2⟩ := hh
      rw [tc_wp_if, tc_dn]
      by_cases c : tc_fr (tc_yR Y (Y.2.1.1, Y.2.1.2.1, nI d)) = true
      · rw [if_neg (by rw [c]; decide), if_pos c, tc_wp_some]
        exact ⟨rfl, hF.trans hF2⟩
      · rw [if_pos (by rw [tc_bI_eq0]; simpa using c), if_neg c]
        exact ih f μ2 (by omega) (by omega) (hF.trans hF2) (hR.fd hF2)
  unfold tc_f2_greatestFairWeather
  exact key 10 N μ (by omega) (by omega) tc_FD.rf h
theorem tc_c_fairP (hN : 300 ≤ N) (h : tc_RC μ 1 Y) (g : tc_Gd Y) : tc_wp (tc_f2_greatestFairPick N μ) (fun r μ' => r = tc_dn (fun j => tc_fr (tc_yR Y (nI j, Y.2.1.2.1, Y.2.1.2.2))) 100 ∧ tc_FD μ μ') := by
  have key : ∀ (d f : Nat) (μ1 : tc_Mem), d ≤ 100 → d < f → tc_FD μ μ1 → tc_RC μ1 1 Y → tc_wp (tc_f2_greatestFairPick_3 N f (nI d + (-1)) μ1) (fun r μ' => r = tc_dn (fun j => tc_fr (tc_yR Y (nI j, Y.2.1.2.1, Y.2.1.2.2))) d ∧ tc_FD μ μ') := by
    intro d
    induction d with
    | zero =>
      intro f μ1 hd hf hF hR
      obtain ⟨f, rfl⟩ : ∃ f', f = f' + 1 := ⟨f - 1, by omega⟩
      rw [tc_f2_greatestFairPick_3]; dsimp only
      rw [if_pos (by decide), tc_wp_some]
      exact ⟨rfl, hF⟩
    | succ d ih =>
      intro f μ1 hd hf hF hR
      obtain ⟨f, rfl⟩ : ∃ f', f = f' + 1 := ⟨f - 1, by omega⟩
      rw [tc_dm1, tc_f2_greatestFairPick_3]; dsimp only
      have e12 : μ1 1 12 = Y.2.1.2.2 := hR.2.2.1.2.2.2.2
      rw [if_neg (tc_nn (by omega)), tc_wp_bd, e12]
      refine tc_wp_mono (tc_c_fair hN hR g (pk := nI d) (we := Y.2.1.2.2)) (fun r μ2 hh => ?_)
      obtain ⟨rfl, hF2⟩ := hh
      rw [tc_wp_if, tc_dn]
      by_cases c : tc_fr (tc_yR Y (nI d, Y.2.1.2.1, Y.2.1.2.2)) = true
      · rw [if_neg (by rw [c]; decide), if_pos c, tc_wp_some]
        exact ⟨rfl, hF.trans hF2⟩
      · rw [if_pos (by rw [tc_bI_eq0]; simpa using c), if_neg c]
        exact ih f μ2 (by omega) (by omega) (hF.trans hF2) (hR.fd hF2)
  unfold tc_f2_greatestFairPick
  exact key 100 N μ (by omega) (by omega) tc_FD.rf h
def tc_us (Z : tc_Y) : Nat → Nat → Bool
  | 0, _ => false
  | d + 1, s => if tc_bk (tc_yD Z 0 s) s = 1 then true else tc_us Z d (s + 1)
theorem tc_r_unseen (hN : 300 ≤ N) (h : tc_RM μ Y Y.2.2.2 (-1)) (g : tc_G6 Y) : tc_wp (tc_f7_isUnseen N μ) (fun r μ' => r = tc_bI (tc_us Y Y.1.1 0) ∧ tc_FM μ μ' ∧ tc_RM μ' Y Y.2.2.2 (-1)) := by
  have g1 := g.1.1
  have key : ∀ (d f s : Nat) (μ1 : tc_Mem), s + d = Y.1.1 → d < f → tc_FM μ μ1 → tc_RM μ1 Y Y.2.2.2 (-1) → tc_wp (tc_f7_isUnseen_2 N f (nI s) μ1) (fun r μ' => r = tc_bI (tc_us Y d s) ∧ tc_FM μ μ' ∧ tc_RM μ' Y Y.2.2.2 (-1)) := by
    intro d
    induction d with
    | zero =>
      intro f s μ1 hd hf hF hR
      obtain ⟨f, rfl⟩ : ∃ f', f = f' + 1 := ⟨f - 1, by omega⟩
      rw [tc_f7_isUnseen_2]; dsimp only
      rw [hR.1, if_pos (by rw [tc_le (by omega) (by omega)]; omega), tc_wp_some]
      exact ⟨rfl, hF, hR⟩
    | succ d ih =>
      intro f s μ1 hd hf hF hR
      obtain ⟨f, rfl⟩ : ∃ f', f = f' + 1 := ⟨f - 1, by omega⟩
      rw [tc_f7_isUnseen_2]; dsimp only
      rw [hR.1, if_neg (by rw [tc_le (by omega) (by omega)]; omega), tc_wp_bd]
      refine tc_wp_mono (tc_r_broken hN hR g (s := s) (by omega)) (fun r μ2 hh => ?_)
      obtain ⟨rfl, hF2, hR2⟩ := hh
      rw [tc_wp_if, tc_us]
      by_cases c : tc_bk (tc_yD Y 0 s) s = 1
      · rw [if_pos c, if_pos c, tc_wp_some]
        exact ⟨rfl, hF.trans hF2, hR2⟩
      · rw [if_neg c, if_neg c, tc_ad1]
        exact ih f (s + 1) μ2 (by omega) (by omega) (hF.trans hF2) hR2
  unfold tc_f7_isUnseen
  exact key Y.1.1 N 0 μ (by omega) (by omega) tc_FM.rf h
theorem tc_c_blind (hN : 300 ≤ N) (h : tc_RC μ 1 Y) (g : tc_G6 Y) : tc_wp (tc_f2_leastBlindWeather N μ) (fun r μ' => r = tc_av id (tc_sr (fun j => tc_us (tc_yR Y (Y.2.1.1, Y.2.1.2.1, nI j)) Y.1.1 0) 10 0) ∧ tc_FD μ μ') := by
  have g1 := g.1.1
  have g6 := g.2
  have inner : ∀ (k2 : Int32 → tc_Mem → Option (Int32 × tc_Mem)) (P : Int32 → tc_Mem → Prop) (j : Nat) (d f s : Nat) (μ1 : tc_Mem), s + d = Y.1.1 → d < f → tc_FD μ μ1 → tc_RC μ1 1 Y → (tc_us (tc_yR Y (Y.2.1.1, Y.2.1.2.1, nI j)) d s = true → ∀ μ', tc_FD μ μ' → P (nI j) μ') → (tc_us (tc_yR Y (Y.2.1.1, Y.2.1.2.1, nI j)) d s = false → ∀ μ', tc_FD μ μ' → tc_RC μ' 1 Y → tc_wp (k2 (nI j + 1) μ') P) → tc_wp (tc_f2_leastBlindWeather_10 N k2 f (nI j) (nI s) μ1) P := by
    intro k2 P j d
    induction d with
    | zero =>
      intro f s μ1 hd hf hF hR h1 h2
      obtain ⟨f, rfl⟩ : ∃ f', f = f' + 1 := ⟨f - 1, by omega⟩
      rw [tc_f2_leastBlindWeather_10]; dsimp only
      rw [hR.1, if_pos (by rw [tc_le (by omega) (by omega)]; omega)]
      exact h2 rfl μ1 hF hR
    | succ d ih =>
      intro f s μ1 hd hf hF hR h1 h2
      obtain ⟨f, rfl⟩ : ∃ f', f = f' + 1 := ⟨f - 1, by omega⟩
      have hs : s < Y.1.1 := by omega
      rw [tc_f2_leastBlindWeather_10]; dsimp only
      rw [hR.1, if_neg (by rw [tc_le (by omega) (by omega)]; omega), tc_wp_bd]
      have hb := tc_c_break (N := N) hN hR g hs (we := nI j)
      refine tc_wp_mono hb (fun r μ2 hh => ?_)
      obtain ⟨hF2, hh⟩ := hh
      rw [tc_us] at h1 h2
      unfold tc_bk at h1 h2
      cases hm : tc_mo (tc_yD (tc_yR Y (Y.2.1.1, Y.2.1.2.1, nI j)) 0 s) false with
      | none =>
        rw [hm] at hh h1 h2
        obtain rfl := hh
        rw [if_neg (show ¬ (-1 : Int32) = 1 by decide)] at h1 h2
        rw [if_pos rfl, tc_ad1]
        exact ih f (s + 1) μ2 (by omega) (by omega) (hF.trans hF2) (hR.fd hF2) h1 h2
      | some p =>
        obtain ⟨u, ch⟩ := p
        rw [hm] at hh h1 h2
        obtain ⟨rfl, hC, hu⟩ := hh
        have gD : tc_Gd (tc_up (tc_yD (tc_yR Y (Y.2.1.1, Y.2.1.2.1, nI j)) 0 s) u) := (tc_Gd.yD (Y := tc_yR Y (Y.2.1.1, Y.2.1.2.1, nI j)) (k := 0) g.1 (show Y.2.2.2.length < 15 by omega) (by decide) hs).up hu
        rw [if_neg (by decide), tc_wp_bd, tc_v5_relay hC.2.2 gD (by omega), tc_wp_some, if_pos (show s < (tc_up (tc_yD (tc_yR Y (Y.2.1.1, Y.2.1.2.1, nI j)) 0 s) u).1.1 from hs), tc_wp_if]
        show if tc_bI (u.testBit s) = 1 then _ else _
        by_cases c : tc_bI (u.testBit s) = 1
        · rw [if_pos c] at h1
          rw [if_pos c, tc_wp_some]
          exact h1 rfl μ2 (hF.trans hF2)
        · rw [if_neg c] at h1 h2
          rw [if_neg c, tc_ad1]
          exact ih f (s + 1) μ2 (by omega) (by omega) (hF.trans hF2) (hR.fd hF2) h1 h2
  have outer : ∀ (d f j : Nat) (μ1 : tc_Mem), j + d = 10 → d < f → tc_FD μ μ1 → tc_RC μ1 1 Y → tc_wp (tc_f2_leastBlindWeather_2 N f (nI j) μ1) (fun r μ' => r = tc_av id (tc_sr (fun j => tc_us (tc_yR Y (Y.2.1.1, Y.2.1.2.1, nI j)) Y.1.1 0) d j) ∧ tc_FD μ μ') := by
    intro d
    induction d with
    | zero =>
      intro f j μ1 hd hf hF hR
      obtain ⟨f, rfl⟩ : ∃ f', f = f' + 1 := ⟨f - 1, by omega⟩
      rw [tc_f2_leastBlindWeather_2]; dsimp only
      rw [if_pos (by rw [tc_Llt (k := 9) (by omega) (by decide)]; omega), tc_wp_some]
      exact ⟨rfl, hF⟩
    | succ d ih =>
      intro f j μ1 hd hf hF hR
      obtain ⟨f, rfl⟩ : ∃ f', f = f' + 1 := ⟨f - 1, by omega⟩
      rw [tc_f2_leastBlindWeather_2]; dsimp only
      rw [if_neg (by rw [tc_Llt (k := 9) (by omega) (by decide)]; omega), tc_sr]
      refine inner _ _ j Y.1.1 N 0 μ1 (by omega) (by omega) hF hR ?_ ?_
      · intro c μ' hF'
        rw [if_pos c]; exact ⟨rfl, hF'⟩
      · intro c μ' hF' hR'
        rw [if_neg (by rw [c]; decide), tc_ad1]
        exact ih f (j + 1) μ' (by omega) (by omega) hF' hR'
  unfold tc_f2_leastBlindWeather
  exact outer 10 N 0 μ (by omega) (by omega) tc_FD.rf h
theorem tc_c_safeP (hN : 300 ≤ N) (h : tc_RC μ 1 Y) (g : tc_G6 Y) : tc_wp (tc_f2_leastSafePick N μ) (fun r μ' => r = tc_av id (tc_sr (fun j => (tc_sr (tc_pp (tc_yR Y (nI j, Y.2.1.2.1, Y.2.1.2.2))) ((4 * Y.1.1 + 1) * (Y.1.1 + 1)) 0).isNone) 100 0) ∧ tc_FD μ μ') := by
  have g1 := g.1.1
  have hall := tc_all_lt g1
  have outer : ∀ (d f j : Nat) (μ1 : tc_Mem), j + d = 100 → d < f → tc_FD μ μ1 → tc_RC μ1 1 Y → tc_wp (tc_f2_leastSafePick_2 N f (nI j) μ1) (fun r μ' => r = tc_av id (tc_sr (fun j => (tc_sr (tc_pp (tc_yR Y (nI j, Y.2.1.2.1, Y.2.1.2.2))) ((4 * Y.1.1 + 1) * (Y.1.1 + 1)) 0).isNone) d j) ∧ tc_FD μ μ') := by
    intro d
    induction d with
    | zero =>
      intro f j μ1 hd hf hF hR
      obtain ⟨f, rfl⟩ : ∃ f', f = f' + 1 := ⟨f - 1, by omega⟩
      rw [tc_f2_leastSafePick_2]; dsimp only
      rw [if_pos (by rw [tc_Llt (k := 99) (by omega) (by decide)]; omega), tc_wp_some]
      exact ⟨rfl, hF⟩
    | succ d ih =>
      intro f j μ1 hd hf hF hR
      obtain ⟨f, rfl⟩ : ∃ f', f = f' + 1 := ⟨f - 1, by omega⟩
      rw [tc_f2_leastSafePick_2]; dsimp only
      rw [if_neg (by rw [tc_Llt (k := 99) (by omega) (by decide)]; omega), tc_wp_bd, tc_sr]
      refine tc_wp_mono (tc_c_first hN hR g (pk := nI j)) (fun r μ2 hh => ?_)
      obtain ⟨rfl, hF2⟩ := hh
      rw [tc_wp_if]
      cases hs : tc_sr (tc_pp (tc_yR Y (nI j, Y.2.1.2.1, Y.2.1.2.2))) ((4 * Y.1.1 + 1) * (Y.1.1 + 1)) 0 with
      | none =>
        rw [if_pos (show tc_av (fun c => 100 * (c / (Y.1.1 + 1)) + c % (Y.1.1 + 1)) none = -1 from rfl), tc_wp_some, if_pos (show (none : Option Nat).isNone = true from rfl)]
        exact ⟨rfl, hF.trans hF2⟩
      | some c =>
        obtain ⟨q1, q2, -⟩ := tc_sr_some hs
        have hd' : c / (Y.1.1 + 1) ≤ c := Nat.div_le_self _ _
        have hm' : c % (Y.1.1 + 1) ≤ c := Nat.mod_le _ _
        rw [if_neg (show ¬ tc_av (fun c => 100 * (c / (Y.1.1 + 1)) + c % (Y.1.1 + 1)) (some c) = -1 from fun q => tc_nn (show 100 * (c / (Y.1.1 + 1)) + c % (Y.1.1 + 1) < 2 ^ 31 by omega) (by rw [show nI (100 * (c / (Y.1.1 + 1)) + c % (Y.1.1 + 1)) = -1 from q]; decide)), if_neg (by simp), tc_ad1]
        exact ih f (j + 1) μ2 (by omega) (by omega) (hF.trans hF2) (hR.fd hF2)
  unfold tc_f2_leastSafePick
  exact outer 100 N 0 μ (by omega) (by omega) tc_FD.rf h
end T5
