/-! in thought -/
def tc_FD (μ μ' : tc_Mem) : Prop := ∀ k, (k < 28 ∨ 41 < k) → μ' k = μ k
theorem tc_FD.rf {μ : tc_Mem} : tc_FD μ μ := fun _ _ => rfl
theorem tc_FD.trans {μ μ1 μ2 : tc_Mem} (h : tc_FD μ μ1) (h2 : tc_FD μ1 μ2) : tc_FD μ μ2 := fun k hk => (h2 k hk).trans (h k hk)
theorem tc_FD.o {μ μ' : tc_Mem} (h : tc_FD μ μ') : tc_FO μ μ' := ⟨fun k hk => h k (by unfold tc_O at hk; omega), fun j _ => by rw [h 50 (by omega)]⟩
theorem tc_RC.fd {μ μ' : tc_Mem} {Y : tc_Y} (h : tc_RC μ 1 Y) (hf : tc_FD μ μ') : tc_RC μ' 1 Y := h.frame (fun k _ _ _ => hf k (by omega))
theorem tc_RM.fd {μ μ' : tc_Mem} {Y : tc_Y} {fl : tc_Fl} {w : Int32} (h : tc_RM μ Y fl w) (hf : tc_FD μ μ') : tc_RM μ' Y fl w := h.frame (fun j _ => by rw [hf 50 (by omega)]) (fun k _ _ => hf k (by omega))
theorem tc_FY.d {μ μ' : tc_Mem} (h : tc_FY μ μ' 28) : tc_FD μ μ' := fun k hk => h k (by omega)
theorem tc_FD.wr {μ μ1 : tc_Mem} {k i : Nat} {v : Int32} (h : tc_FD μ μ1) (hk : 28 ≤ k ∧ k ≤ 41) : tc_FD μ (tc_wr μ1 k i v) := fun k' hk' => by rw [tc_wr_k (by omega)]; exact h k' hk'
def tc_T (o1 o2 : tc_Mem → Option (Int32 × tc_Mem)) (Y : tc_Y) : Prop := ∃ r : Int32, (∀ μ, tc_RC μ 1 Y → tc_wp (o1 μ) (fun r' μ1 => r' = r ∧ tc_FD μ μ1)) ∧ ∀ μ, tc_RM μ Y Y.2.2.2 (-1) → tc_wp (o2 μ) (fun r' μ2 => r' = r ∧ tc_FM μ μ2 ∧ tc_RM μ2 Y Y.2.2.2 (-1))
theorem tc_T.step {o1 o2 : tc_Mem → Option (Int32 × tc_Mem)} {Y : tc_Y} {μ : tc_Mem} (h : tc_T o1 o2 Y) (hO : tc_IO μ) (hY : tc_IY μ Y) : ∃ (r : Int32) (μ1 μ2 : tc_Mem), o1 μ = some (r, μ1) ∧ o2 μ1 = some (r, μ2) ∧ tc_Inv μ2 := by
  obtain ⟨r, h1, h2⟩ := h
  refine tc_mk (tc_wp_mono (h1 μ hY.2.2.1) (fun r' μ1 hh => ?_))
  obtain ⟨rfl, f1⟩ := hh
  refine tc_wp_mono (h2 μ1 (hY.2.2.2.fd f1)) (fun r2 μ2 hh => ?_)
  obtain ⟨rfl, f2, r2⟩ := hh
  exact ⟨rfl, ⟨Y, hY.1, hY.2.1, (hY.2.2.1.fd f1).fm f2, r2⟩, hO.frame (f1.o.trans f2.o)⟩
theorem tc_T.same {o1 o2 : tc_Mem → Option (Int32 × tc_Mem)} {Y : tc_Y} (r : Int32) (h1 : ∀ μ, tc_RC μ 1 Y → o1 μ = some (r, μ)) (h2 : ∀ μ, tc_RM μ Y Y.2.2.2 (-1) → o2 μ = some (r, μ)) : tc_T o1 o2 Y :=
  ⟨r, fun μ h => tc_wp_eq (h1 μ h) ⟨rfl, tc_FD.rf⟩, fun μ h => tc_wp_eq (h2 μ h) ⟨rfl, tc_FM.rf, h⟩⟩
def tc_mv (Z : tc_Y) : tc_Y := tc_yT Z ((2 * Z.1.2.2) &&& (2 ^ Z.1.1 - 1))
theorem tc_Gd.mv {Z : tc_Y} (g : tc_Gd Z) : tc_Gd (tc_mv Z) := g.yT (Nat.lt_of_le_of_lt Nat.and_le_right (by have := Nat.two_pow_pos Z.1.1; omega))
section T1
variable {N : Nat} {Y Z : tc_Y} {x1 x2 x3 x4 : Int32} {μ μ0 : tc_Mem}
/-- the class in thought -/
def tc_CT (μ0 μ : tc_Mem) (Y Z : tc_Y) : Prop := tc_FD μ0 μ ∧ tc_RC μ 1 Y ∧ tc_RC μ 28 Z
theorem tc_c_become (hN : 300 ≤ N) (h : tc_RC μ 1 Y) (g : tc_Gd Y) : tc_wp (tc_f5_become N 28 1 μ) (fun _ μ' => tc_CT μ μ' Y Y) := by
  refine tc_wp_mono (tc_w5_become hN (by omega) h g) (fun _ μ' hh => ?_)
  exact ⟨hh.1.d, h.fd hh.1.d, hh.2⟩
theorem tc_c_settles (hN : 300 ≤ N) (h : tc_CT μ0 μ Y Z) (g : tc_Gd Z) (tn : Bool) : tc_wp (tc_f0_settles N 39 28 (tc_bI tn) μ) (fun r μ' => match tc_mo Z tn with
    | none => r = 0 ∧ tc_CT μ0 μ' Y Z
    | some (u, ch) => r = 1 ∧ tc_CT μ0 μ' Y (tc_up Z u) ∧ u < 2 ^ Z.1.1 ∧ μ' 39 1 = nI ch.length ∧ ch.length ≤ 40) := by
  refine tc_wp_mono (tc_w0_settles hN (a := 39) (t := 28) (by unfold tc_Ap; omega) h.2.2 g tn) (fun r μ' hh => ?_)
  obtain ⟨hF, -, hh⟩ := hh
  have f : tc_FD μ μ' := fun k hk => hF.1 k (by omega) (by omega) (by omega) (by omega) (by omega)
  have F := h.1.trans f
  have R := h.2.1.fd f
  cases hm : tc_mo Z tn with
  | none => rw [hm] at hh; exact ⟨hh.1, F, R, hh.2⟩
  | some p =>
    obtain ⟨u, ch⟩ := p
    rw [hm] at hh
    exact ⟨hh.1, ⟨F, R, hh.2.1⟩, hh.2.2.1, hh.2.2.2.1, hh.2.2.2.2.1⟩
theorem tc_c_passes (hN : 300 ≤ N) (h : tc_CT μ0 μ Y Z) (g : tc_Gd Z) : tc_wp (tc_f0_passes N 39 28 μ) (fun r μ' => match tc_mo Z false with
    | none => r = 0 ∧ tc_CT μ0 μ' Y Z
    | some (u, ch) => r = 1 ∧ tc_CT μ0 μ' Y (tc_af Z u) ∧ u < 2 ^ Z.1.1 ∧ μ' 39 1 = nI ch.length ∧ ch.length ≤ 40) := by
  refine tc_wp_mono (tc_w0_passes hN (a := 39) (t := 28) (by unfold tc_Ap; omega) h.2.2 g) (fun r μ' hh => ?_)
  obtain ⟨hF, hh⟩ := hh
  have f : tc_FD μ μ' := fun k hk => hF k (by omega) (by omega) (by omega) (by omega) (by omega) (by omega)
  have F := h.1.trans f
  have R := h.2.1.fd f
  cases hm : tc_mo Z false with
  | none => rw [hm] at hh; exact ⟨hh.1, F, R, hh.2⟩
  | some p =>
    obtain ⟨u, ch⟩ := p
    rw [hm] at hh
    exact ⟨hh.1, ⟨F, R, hh.2.1⟩, hh.2.2.1, hh.2.2.2.1, hh.2.2.2.2.1⟩
theorem tc_c_move (h : tc_CT μ0 μ Y Z) (g : tc_Gd Z) : tc_wp (tc_f5_moveTrains N 28 μ) (fun _ μ' => tc_CT μ0 μ' Y (tc_mv Z) ∧ ∀ k, k ≠ 28 → μ' k = μ k) := by
  refine tc_wp_mono (tc_w5_moveTrains h.2.2 g) (fun _ μ' hh => ?_)
  have f : tc_FD μ μ' := fun k hk => hh.1 k (by omega)
  exact ⟨⟨h.1.trans f, h.2.1.fd f, hh.2⟩, hh.1⟩
/-- the reference in thought -/
def tc_RT (μ0 μ : tc_Mem) (Y Z : tc_Y) (fz : tc_Fl) (fl : tc_Fl) (w : Int32) : Prop := tc_FM μ0 μ ∧ tc_TM μ Y fl Z fz w
theorem tc_r_keeps (hN : 300 ≤ N) {fl : tc_Fl} {w : Int32} (h : tc_RM μ Y fl w) (hF : tc_FM μ0 μ) (g : tc_Gd Y) : tc_wp (tc_f7_keepsNow N μ) (fun _ μ' => tc_RT μ0 μ' Y Y fl fl w) := tc_wp_mono (tc_w7_keepsNow hN h g) (fun _ μ' hh => ⟨hF.trans hh.1, hh.2⟩)
theorem tc_r_back (hN : 300 ≤ N) {fz fl : tc_Fl} {w : Int32} (h : tc_RT μ0 μ Y Z fz fl w) (g : tc_Gd Y) : tc_wp (tc_f7_laysBack N μ) (fun _ μ' => tc_FM μ0 μ' ∧ tc_RM μ' Y fl w) := tc_wp_mono (tc_w7_laysBack hN h.2 g) (fun _ μ' hh => ⟨h.1.trans hh.1, hh.2⟩)
theorem tc_r_goes (hN : 300 ≤ N) {fz fl : tc_Fl} {w : Int32} (h : tc_RT μ0 μ Y Z fz fl w) (g : tc_Gd Z) (tn : Bool) : tc_wp (tc_f7_goes N (tc_bI tn) μ) (fun r μ' => match tc_mo Z tn with
    | none => r = -1 ∧ tc_RT μ0 μ' Y Z fz fl w
    | some (u, ch) => r = nI ch.length ∧ tc_RT μ0 μ' Y (tc_af Z u) fz fl w ∧ u < 2 ^ Z.1.1 ∧ ch.length ≤ 40) := by
  refine tc_wp_mono (tc_t7_goes hN h.2 g tn) (fun r μ' hh => ?_)
  obtain ⟨hF, hh⟩ := hh
  cases hm : tc_mo Z tn with
  | none => rw [hm] at hh; exact ⟨hh.1, h.1.trans hF, hh.2⟩
  | some p =>
    obtain ⟨u, ch⟩ := p
    rw [hm] at hh
    exact ⟨hh.1, ⟨h.1.trans hF, hh.2.1⟩, hh.2.2⟩
theorem tc_r_move (hN : 300 ≤ N) {fz fl : tc_Fl} {w : Int32} (h : tc_RT μ0 μ Y Z fz fl w) (g : tc_Gd Z) : tc_wp (tc_f7_goTrains N μ) (fun _ μ' => tc_RT μ0 μ' Y (tc_mv Z) fz fl w) := tc_wp_mono (tc_t7_goTrains hN h.2 g) (fun _ μ' hh => ⟨h.1.trans hh.1, hh.2⟩)
theorem tc_r_bits (hN : 300 ≤ N) {fz fl : tc_Fl} {w : Int32} (h : tc_RT μ0 μ Y Z fz fl w) (g : tc_Gd Z) {v : Nat} (hv : v < 5) : tc_f7_bitsOf N (nI v) μ = some (nI (tc_bm (tc_bq Z v) Z.1.1), μ) := tc_v7_bitsOf hN h.2.1 g hv
/-! run -/
def tc_rn : Nat → tc_Y → Int32 → Int32 → Option (tc_Y × Int32 × Int32)
  | 0, Z, a, b => some (Z, a, b)
  | k + 1, Z, a, b => match tc_mo Z false with
    | none => none
    | some (u, ch) => tc_rn k (tc_mv (tc_af Z u)) (a + tc_pc (nI (tc_un (tc_af Z u)))) (b + nI ch.length)
def tc_rv (w : Nat) (o : Option (tc_Y × Int32 × Int32)) : Int32 := match o with
  | none => -3
  | some (Z, a, b) => if w = 0 then nI Z.1.2.1 else if w = 1 then a else if w = 2 then b else nI Z.1.2.2
theorem tc_k_run (hN : 300 ≤ N) (g : tc_Gd Y) : tc_T (tc_f6_run N x1 x2) (tc_f7_run N x1 x2) Y := by
  rcases Bool.eq_false_or_eq_true (tc_wi x1 0 20) with c1 | c1
  case inr => exact tc_T.same (-2) (fun μ h => tc_wp_of (by unfold tc_f6_run; simp [tc_wp_bd, tc_v6_isWithin, tc_wp_some, c1, tc_bI])) (fun μ h => tc_wp_of (by unfold tc_f7_run; simp [tc_wp_bd, tc_v7_in, tc_wp_some, c1, tc_bI]))
  rcases Bool.eq_false_or_eq_true (tc_wi x2 0 3) with c2 | c2
  case inr => exact tc_T.same (-2) (fun μ h => tc_wp_of (by unfold tc_f6_run; simp [tc_wp_bd, tc_v6_isWithin, tc_wp_some, c1, c2, tc_bI])) (fun μ h => tc_wp_of (by unfold tc_f7_run; simp [tc_wp_bd, tc_v7_in, tc_wp_some, c1, c2, tc_bI]))
  obtain ⟨n, -, hn, rfl⟩ := tc_wi_nI (a := 0) (b := 20) (by decide) (by decide) c1
  obtain ⟨w, -, hw, rfl⟩ := tc_wi_nI (a := 0) (b := 3) (by decide) (by decide) c2
  refine ⟨tc_rv w (tc_rn n Y 0 0), fun μ h => ?_, fun μ h => ?_⟩
  · unfold tc_f6_run tc_f2_ran
    rw [tc_wp_bd, tc_v6_isWithin, tc_wp_some, c1, if_neg (by decide), tc_wp_bd, tc_v6_isWithin, tc_wp_some, c2, if_neg (by decide), tc_wp_bd, tc_wp_bd]
    refine tc_wp_mono (tc_c_become hN h g) (fun _ μ1 hC => ?_)
    have key : ∀ (d f i : Nat) (Z : tc_Y) (a b : Int32) (μ1 : tc_Mem), i + d = n → d < f → tc_CT μ μ1 Y Z → tc_Gd Z → tc_wp (tc_f2_ran_19 N f (nI n) (nI w) a b (nI i) μ1) (fun r μ2 => r = tc_rv w (tc_rn d Z a b) ∧ tc_FD μ μ2) := by
      intro d
      induction d with
      | zero =>
        intro f i Z a b μ1 hi hf hC gZ
        obtain ⟨f, rfl⟩ : ∃ f', f = f' + 1 := ⟨f - 1, by omega⟩
        obtain rfl : i = n := by omega
        rw [tc_f2_ran_19]; dsimp only
        rw [if_pos (Int32.le_refl _)]
        unfold tc_f2_ran_80 tc_rn tc_rv
        have e1 : μ1 28 8 = nI Z.1.2.1 := hC.2.2.2.2.1.1
        have e2 : μ1 28 9 = nI Z.1.2.2 := hC.2.2.2.2.1.2.1
        rcases (show w = 0 ∨ w = 1 ∨ w = 2 ∨ w = 3 by omega) with rfl | rfl | rfl | rfl
        all_goals simp (decide := true) only [if_true, if_false, tc_wp_some, or_false, or_true]
        · exact ⟨e1, hC.1⟩
        · exact ⟨trivial, hC.1⟩
        · exact ⟨trivial, hC.1⟩
        · exact ⟨e2, hC.1⟩
      | succ d ih =>
        intro f i Z a b μ1 hi hf hC gZ
        obtain ⟨f, rfl⟩ : ∃ f', f = f' + 1 := ⟨f - 1, by omega⟩
        rw [tc_f2_ran_19]; dsimp only
        rw [if_neg (by rw [tc_le (by omega) (by omega)]; omega), tc_wp_bd]
        refine tc_wp_mono (tc_c_passes hN hC gZ) (fun r μ2 hh => ?_)
        unfold tc_rn
        cases hm : tc_mo Z false with
        | none =>
          rw [hm] at hh
          obtain ⟨rfl, hC2⟩ := hh
          rw [if_pos rfl, tc_wp_some]
          exact ⟨rfl, hC2.1⟩
        | some p =>
          obtain ⟨u, ch⟩ := p
          rw [hm] at hh
          obtain ⟨rfl, hC2, hu, e39, hl⟩ := hh
          have g2 := gZ.af hu
          rw [if_neg (by decide), tc_wp_bd, tc_v5_unsafe hN hC2.2.2 g2, tc_wp_some, tc_wp_bd, tc_v8_bitCount, tc_wp_some, tc_wp_lt, tc_wp_lt, e39, tc_wp_bd]
          refine tc_wp_mono (tc_c_move hC2 g2) (fun _ μ3 hh => ?_)
          rw [tc_ad1]
          exact ih f (i + 1) _ _ _ μ3 (by omega) (by omega) hh.1 g2.mv
    refine tc_wp_mono (key n N 0 Y 0 0 μ1 (by omega) (by omega) hC g) (fun r μ2 hh => ?_)
    rw [tc_wp_some]; exact hh
  · unfold tc_f7_run
    rw [tc_wp_bd, tc_v7_in, tc_wp_some, c1, if_neg (by decide), tc_wp_bd, tc_v7_in, tc_wp_some, c2, if_neg (by decide), tc_wp_bd]
    refine tc_wp_mono (tc_r_keeps hN h tc_FM.rf g) (fun _ μ1 hC => ?_)
    have fin : ∀ (r : Int32) (Z : tc_Y) (μ1 : tc_Mem), tc_RT μ μ1 Y Z Y.2.2.2 Y.2.2.2 (-1) → tc_wp (tc_f7_run_146 N r μ1) (fun r' μ2 => r' = r ∧ tc_FM μ μ2 ∧ tc_RM μ2 Y Y.2.2.2 (-1)) := by
      intro r Z μ1 hC
      unfold tc_f7_run_146
      rw [tc_wp_bd]
      refine tc_wp_mono (tc_r_back hN hC g) (fun _ μ2 hh => ?_)
      rw [tc_wp_some]; exact ⟨rfl, hh⟩
    have key : ∀ (d f i : Nat) (Z : tc_Y) (a b : Int32) (μ1 : tc_Mem), i + d = n → d < f → tc_RT μ μ1 Y Z Y.2.2.2 Y.2.2.2 (-1) → tc_Gd Z → tc_wp (tc_f7_run_37 N f (nI n) (nI w) a b 1 (nI i) μ1) (fun r μ2 => r = tc_rv w (tc_rn d Z a b) ∧ tc_FM μ μ2 ∧ tc_RM μ2 Y Y.2.2.2 (-1)) := by
      intro d
      induction d with
      | zero =>
        intro f i Z a b μ1 hi hf hC gZ
        obtain ⟨f, rfl⟩ : ∃ f', f = f' + 1 := ⟨f - 1, by omega⟩
        obtain rfl : i = n := by omega
        rw [tc_f7_run_37]; dsimp only
        rw [if_pos (Int32.le_refl _)]
        unfold tc_f7_run_100 tc_rn tc_rv
        have b0 : tc_f7_bitsOf N 0 μ1 = _ := tc_r_bits hN hC gZ (v := 0) (by decide)
        have b3 : tc_f7_bitsOf N 3 μ1 = _ := tc_r_bits hN hC gZ (v := 3) (by decide)
        rw [tc_bm_u gZ] at b0
        rw [tc_bm_t gZ] at b3
        rcases (show w = 0 ∨ w = 1 ∨ w = 2 ∨ w = 3 by omega) with rfl | rfl | rfl | rfl
        all_goals simp (decide := true) only [if_true, if_false, tc_wp_some, tc_wp_bd, b0, b3]
        · exact fin _ Z μ1 hC
        · exact fin _ Z μ1 hC
        · exact fin _ Z μ1 hC
        · exact fin _ Z μ1 hC
      | succ d ih =>
        intro f i Z a b μ1 hi hf hC gZ
        obtain ⟨f, rfl⟩ : ∃ f', f = f' + 1 := ⟨f - 1, by omega⟩
        rw [tc_f7_run_37]; dsimp only
        rw [if_neg (by rw [tc_le (by omega) (by omega)]; omega), if_neg (by decide), tc_wp_bd]
        have hg := tc_r_goes hN hC gZ false
        refine tc_wp_mono hg (fun r μ2 hh => ?_)
        unfold tc_rn
        cases hm : tc_mo Z false with
        | none =>
          rw [hm] at hh
          obtain ⟨rfl, hC2⟩ := hh
          obtain ⟨f, rfl⟩ : ∃ f', f = f' + 1 := ⟨f - 1, by omega⟩
          rw [if_pos (by decide)]
          unfold tc_f7_run_65
          rw [if_pos rfl, tc_f7_run_37]; dsimp only
          have hz : tc_wp (tc_f7_run_100 N (nI w) a b 0 μ2) (fun r μ2 => r = -3 ∧ tc_FM μ μ2 ∧ tc_RM μ2 Y Y.2.2.2 (-1)) := by
            unfold tc_f7_run_100
            rw [if_pos rfl]
            exact fin _ Z μ2 hC2
          rw [tc_wp_if, tc_wp_if, if_pos rfl]
          split <;> exact hz
        | some p =>
          obtain ⟨u, ch⟩ := p
          rw [hm] at hh
          obtain ⟨rfl, hC2, hu, hl⟩ := hh
          have g2 := gZ.af hu
          have b1 : tc_f7_bitsOf N 1 μ2 = _ := tc_r_bits hN hC2 g2 (v := 1) (by decide)
          rw [tc_bm_un] at b1
          rw [if_neg (tc_nn (by omega))]
          unfold tc_f7_run_65
          rw [if_neg (by decide), tc_wp_lt, tc_wp_bd, b1, tc_wp_some, tc_wp_bd, tc_v8_bitCount, tc_wp_some, tc_wp_lt, tc_wp_bd]
          refine tc_wp_mono (tc_r_move hN hC2 g2) (fun _ μ3 hh => ?_)
          rw [tc_ad1]
          exact ih f (i + 1) _ _ _ μ3 (by omega) (by omega) hh g2.mv
    exact key n N 0 Y 0 0 μ1 (by omega) (by omega) hC g
/-! clears -/
def tc_cl' (s : Nat) : Nat → Nat → tc_Y → Int32
  | 0, _, _ => -1
  | d + 1, i, Z => match tc_mo Z false with
    | none => -1
    | some (u, _) => if u.testBit s then nI i else tc_cl' s d (i + 1) (tc_af Z u)
theorem tc_k_clears (hN : 300 ≤ N) (g : tc_Gd Y) : tc_T (tc_f6_clears N x1) (tc_f7_clears N x1) Y := by
  have g1 := g.1
  rcases tc_sec (N := N) g x1 with ⟨s, hs, rfl⟩ | ⟨b1, b2⟩
  case inr => exact tc_T.same (-2) (fun μ h => tc_wp_of (by unfold tc_f6_clears; simp [tc_wp_bd, b1 μ 1 h, tc_wp_some])) (fun μ h => tc_wp_of (by unfold tc_f7_clears; simp [tc_wp_bd, b2 μ _ _ h, tc_wp_some]))
  have hv : vp_in (nI s) 8 := (tc_vin (by omega) (by decide)).mpr (by omega)
  refine ⟨tc_cl' s 20 1 Y, fun μ h => ?_, fun μ h => ?_⟩
  · unfold tc_f6_clears tc_f2_clearing
    rw [tc_wp_bd, tc_sec5 h g hs, tc_wp_some, if_neg (by decide), tc_wp_bd, tc_wp_bd]
    refine tc_wp_mono (tc_c_become hN h g) (fun _ μ1 hC => ?_)
    have key : ∀ (d f i : Nat) (Z : tc_Y) (μ1 : tc_Mem), i + d = 21 → d < f → tc_CT μ μ1 Y Z → tc_Gd Z → Z.1.1 = Y.1.1 → tc_wp (tc_f2_clearing_13 N f (nI s) (nI i) μ1) (fun r μ2 => r = tc_cl' s d i Z ∧ tc_FD μ μ2) := by
      intro d
      induction d with
      | zero =>
        intro f i Z μ1 hi hf hC gZ hZ
        obtain ⟨f, rfl⟩ : ∃ f', f = f' + 1 := ⟨f - 1, by omega⟩
        rw [tc_f2_clearing_13]; dsimp only
        rw [if_pos (by rw [tc_Llt (k := 20) (by omega) (by decide)]; omega), tc_wp_some]
        exact ⟨rfl, hC.1⟩
      | succ d ih =>
        intro f i Z μ1 hi hf hC gZ hZ
        obtain ⟨f, rfl⟩ : ∃ f', f = f' + 1 := ⟨f - 1, by omega⟩
        rw [tc_f2_clearing_13]; dsimp only
        rw [if_neg (by rw [tc_Llt (k := 20) (by omega) (by decide)]; omega), tc_wp_bd]
        refine tc_wp_mono (tc_c_passes hN hC gZ) (fun r μ2 hh => ?_)
        unfold tc_cl'
        cases hm : tc_mo Z false with
        | none =>
          rw [hm] at hh
          obtain ⟨rfl, hC2⟩ := hh
          rw [if_pos rfl, tc_wp_some]
          exact ⟨rfl, hC2.1⟩
        | some p =>
          obtain ⟨u, ch⟩ := p
          rw [hm] at hh
          obtain ⟨rfl, hC2, hu, e39, hl⟩ := hh
          have g2 := gZ.af hu
          rw [if_neg (by decide), tc_wp_bd, tc_v5_relay hC2.2.2 g2 (by omega), tc_wp_some, if_pos (show s < (tc_af Z u).1.1 by show s < Z.1.1; omega), tc_wp_if]
          show if tc_bI (u.testBit s) = 1 then _ else _
          by_cases c : u.testBit s = true
          · rw [if_pos (by rw [c]; rfl), tc_wp_some]
            exact ⟨by simp [c], hC2.1⟩
          · rw [if_neg (by rw [tc_bI_eq1]; exact c), tc_ad1]
            refine tc_wp_mono (ih f (i + 1) _ μ2 (by omega) (by omega) hC2 g2 hZ) (fun r μ3 hh => ⟨?_, hh.2⟩)
            rw [hh.1]; simp [c]
    refine tc_wp_mono (key 20 N 1 Y μ1 (by omega) (by omega) hC g rfl) (fun r μ2 hh => ?_)
    rw [tc_wp_some]; exact hh
  · unfold tc_f7_clears
    rw [tc_wp_bd, tc_sec7 h g hs, tc_wp_some, if_neg (by decide), tc_wp_bd]
    refine tc_wp_mono (tc_r_keeps hN h tc_FM.rf g) (fun _ μ1 hC => ?_)
    have fin : ∀ (r : Int32) (Z : tc_Y) (μ1 : tc_Mem), tc_RT μ μ1 Y Z Y.2.2.2 Y.2.2.2 (-1) → tc_wp (tc_f7_clears_77 N r μ1) (fun r' μ2 => r' = r ∧ tc_FM μ μ2 ∧ tc_RM μ2 Y Y.2.2.2 (-1)) := by
      intro r Z μ1 hC
      unfold tc_f7_clears_77
      rw [tc_wp_bd]
      refine tc_wp_mono (tc_r_back hN hC g) (fun _ μ2 hh => ?_)
      rw [tc_wp_some]; exact ⟨rfl, hh⟩
    have key : ∀ (d f i : Nat) (Z : tc_Y) (μ1 : tc_Mem), i + d = 21 → d + 1 < f → tc_RT μ μ1 Y Z Y.2.2.2 Y.2.2.2 (-1) → tc_Gd Z → Z.1.1 = Y.1.1 → tc_wp (tc_f7_clears_22 N f (nI s) (-1) 1 (nI i) μ1) (fun r μ2 => r = tc_cl' s d i Z ∧ tc_FM μ μ2 ∧ tc_RM μ2 Y Y.2.2.2 (-1)) := by
      intro d
      induction d with
      | zero =>
        intro f i Z μ1 hi hf hC gZ hZ
        obtain ⟨f, rfl⟩ : ∃ f', f = f' + 1 := ⟨f - 1, by omega⟩
        rw [tc_f7_clears_22]; dsimp only
        rw [if_pos (by rw [tc_Llt (k := 20) (by omega) (by decide)]; omega)]
        exact fin _ Z μ1 hC
      | succ d ih =>
        intro f i Z μ1 hi hf hC gZ hZ
        obtain ⟨f, rfl⟩ : ∃ f', f = f' + 1 := ⟨f - 1, by omega⟩
        rw [tc_f7_clears_22]; dsimp only
        rw [if_neg (by rw [tc_Llt (k := 20) (by omega) (by decide)]; omega), if_neg (by decide), if_neg (by decide), tc_wp_bd]
        have hg := tc_r_goes hN hC gZ false
        refine tc_wp_mono hg (fun r μ2 hh => ?_)
        unfold tc_cl'
        have stop : ∀ (x2 x3 : Int32) (Z2 : tc_Y), (x3 = 0 ∨ 0 ≤ x2) → tc_RT μ μ2 Y Z2 Y.2.2.2 Y.2.2.2 (-1) → tc_wp (tc_f7_clears_22 N f (nI s) x2 x3 (nI (i + 1)) μ2) (fun r μ2 => r = x2 ∧ tc_FM μ μ2 ∧ tc_RM μ2 Y Y.2.2.2 (-1)) := by
          intro x2 x3 Z2 hx hC2
          obtain ⟨f, rfl⟩ : ∃ f', f = f' + 1 := ⟨f - 1, by omega⟩
          rw [tc_f7_clears_22]; dsimp only
          rw [tc_wp_if, tc_wp_if, tc_wp_if]
          split
          · exact fin _ Z2 μ2 hC2
          · split
            · exact fin _ Z2 μ2 hC2
            · rename_i c
              rw [if_pos (hx.resolve_left c)]
              exact fin _ Z2 μ2 hC2
        cases hm : tc_mo Z false with
        | none =>
          rw [hm] at hh
          obtain ⟨rfl, hC2⟩ := hh
          rw [if_pos (by decide)]
          unfold tc_f7_clears_50 tc_f7_clears_69 tc_f7_clears_70
          rw [if_pos rfl, tc_ad1]
          exact stop _ _ Z (Or.inl rfl) hC2
        | some p =>
          obtain ⟨u, ch⟩ := p
          rw [hm] at hh
          obtain ⟨rfl, hC2, hu, hl⟩ := hh
          have g2 := gZ.af hu
          have e56 : μ2 56 s = tc_bI (u.testBit s) := (hC2.2.1.2.1 s (show s < Z.1.1 by omega)).2.1
          rw [if_neg (tc_nn (by omega))]
          unfold tc_f7_clears_50 tc_f7_clears_69 tc_f7_clears_70
          rw [if_neg (by decide), tc_wp_ck, tc_cl (by omega), e56, tc_wp_if, tc_ad1]
          refine ⟨hv, ?_⟩
          by_cases c : u.testBit s = true
          · rw [if_neg (by rw [c]; decide)]
            refine tc_wp_mono (stop (nI i) 1 _ (Or.inr (nI_pos' (by omega))) hC2) (fun r μ3 hh => ⟨?_, hh.2⟩)
            rw [hh.1]; simp [c]
          · rw [if_pos (by rw [tc_bI_eq0]; simpa using c)]
            refine tc_wp_mono (ih f (i + 1) _ μ2 (by omega) (by omega) hC2 g2 hZ) (fun r μ3 hh => ⟨?_, hh.2⟩)
            rw [hh.1]; simp [c]
    exact key 20 N 1 Y μ1 (by omega) (by omega) hC g rfl
end T1
