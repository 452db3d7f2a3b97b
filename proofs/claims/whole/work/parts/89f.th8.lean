/-! faults by lot -/
def tz_n (v : Int32) : Nat := v.toBitVec.toNat
theorem tz_n_lt (v : Int32) : tz_n v < 2 ^ 32 := v.toBitVec.isLt
theorem tz_n_nI (v : Int32) : nI (tz_n v) = v := by
  apply Int32.toBitVec_inj.mp
  show (Int32.ofNat v.toBitVec.toNat).toBitVec = v.toBitVec
  rw [Int32.toBitVec_ofNat']
  simp
theorem tz_sh9 (v : Int32) : ((v : Int32).toUInt32 >>> ((9 : Int32).toUInt32 &&& Int32.toUInt32 31)).toInt32 = nI (tz_n v / 2 ^ 9) := by
  have := pk_ushrN (tz_n_lt v) 9 9 (by decide)
  rw [tz_n_nI] at this
  exact this
theorem tz_sh16 (v : Int32) : ((v : Int32).toUInt32 >>> ((16 : Int32).toUInt32 &&& Int32.toUInt32 31)).toInt32 = nI (tz_n v / 2 ^ 16) := by
  have := pk_ushrN (tz_n_lt v) 16 16 (by decide)
  rw [tz_n_nI] at this
  exact this
def tc_lz (z : Int32) : Int32 := z * 1103515245 + 12345
def tz_lkk (v : Int32) : Nat := tz_n v / 2 ^ 9 % 4
def tz_lpp (v : Int32) (n : Nat) : Nat := tz_n v / 2 ^ 16 % n
theorem tz_lk (v : Int32) : ((v : Int32).toUInt32 >>> ((9 : Int32).toUInt32 &&& Int32.toUInt32 31)).toInt32 - ((v : Int32).toUInt32 >>> ((9 : Int32).toUInt32 &&& Int32.toUInt32 31)).toInt32 / 4 * 4 = nI (tz_lkk v) := by
  rw [tz_sh9]
  have := tz_n_lt v
  exact pk_rem (d := 4) (by omega) (by decide) (by decide)
theorem tz_lp (v : Int32) {n : Nat} (h0 : 0 < n) (hn : n ≤ 8) : ((v : Int32).toUInt32 >>> ((16 : Int32).toUInt32 &&& Int32.toUInt32 31)).toInt32 - ((v : Int32).toUInt32 >>> ((16 : Int32).toUInt32 &&& Int32.toUInt32 31)).toInt32 / nI n * nI n = nI (tz_lpp v n) := by
  rw [tz_sh16]
  have := tz_n_lt v
  exact pk_rem (d := n) (by omega) h0 (by omega)
def tc_lot : Nat → Int32 → tc_Y → tc_Y
  | 0, _, Z => Z
  | d + 1, z, Z => tc_lot d (tc_lz z) (tc_yD Z (nI (tz_lkk (tc_lz z))) (tz_lpp (tc_lz z) Z.1.1))
def tc_da (Z : tc_Y) : Int32 := match tc_mo Z false with
  | none => 9
  | some (u, _) => tc_pc (nI (tc_un (tc_up Z u)))
section T8
variable {N : Nat} {Y Z W R : tc_Y} {x1 x2 x3 x4 x5 : Int32} {μ μ0 μ1 : tc_Mem}
theorem tc_c_lot (hN : 300 ≤ N) (h : tc_RC μ 1 Y) (g : tc_G6 Y) (h0 : 0 < Y.1.1) {n : Nat} (hn : n ≤ 9) : tc_wp (tc_f2_unsafeByLot N x1 (nI n) μ) (fun r μ' => r = tc_da (tc_lot n x1 Y) ∧ tc_FD μ μ') := by
  have g1 := g.1.1
  have g6 := g.2
  have key : ∀ (d f i : Nat) (z : Int32) (Z : tc_Y) (μ1 : tc_Mem), i + d = n → d < f → tc_CT μ μ1 Y Z → tc_Gd Z → Z.1.1 = Y.1.1 → Z.2.2.2.length + d ≤ 15 → tc_wp (tc_f2_unsafeByLot_16 N f (nI n) z (nI i) μ1) (fun r μ' => r = tc_da (tc_lot d z Z) ∧ tc_FD μ μ') := by
    intro d
    induction d with
    | zero =>
      intro f i z Z μ1 hd hf hC gZ hZ hl
      obtain ⟨f, rfl⟩ : ∃ f', f = f' + 1 := ⟨f - 1, by omega⟩
      rw [tc_f2_unsafeByLot_16]; dsimp only
      rw [if_pos (by rw [tc_le (by omega) (by omega)]; omega)]
      unfold tc_f2_unsafeByLot_72 tc_lot tc_da
      rw [tc_wp_bd]
      have hs := tc_c_settles hN hC gZ false
      refine tc_wp_mono hs (fun r μ3 hh => ?_)
      cases hm : tc_mo Z false with
      | none =>
        rw [hm] at hh
        obtain ⟨rfl, hC⟩ := hh
        rw [if_pos rfl, tc_wp_some]
        exact ⟨rfl, hC.1⟩
      | some p =>
        obtain ⟨u, ch⟩ := p
        rw [hm] at hh
        obtain ⟨rfl, hC, hu, -, -⟩ := hh
        have g3 := gZ.up hu
        rw [if_neg (by decide), tc_wp_bd, tc_v5_unsafe hN hC.2.2 g3, tc_wp_some, tc_wp_bd, tc_v8_bitCount, tc_wp_some, tc_wp_some]
        exact ⟨rfl, hC.1⟩
    | succ d ih =>
      intro f i z Z μ1 hd hf hC gZ hZ hl
      obtain ⟨f, rfl⟩ : ∃ f', f = f' + 1 := ⟨f - 1, by omega⟩
      have e28 : μ1 28 0 = nI Z.1.1 := hC.2.2.1
      rw [tc_f2_unsafeByLot_16]; dsimp only
      rw [if_neg (by rw [tc_le (by omega) (by omega)]; omega), e28, if_neg (by rw [tc_leL (k := 0) (by omega) (by decide)]; omega), tc_wp_lt, tc_wp_nz, tc_wp_bd]
      have ek := tz_lk (tc_lz z)
      have ep := tz_lp (tc_lz z) (n := Z.1.1) (by omega) (by omega)
      unfold tc_lz at ek ep
      rw [ek, ep]
      have hp : tz_lpp (z * 1103515245 + 12345) Z.1.1 < Z.1.1 := Nat.mod_lt _ (by omega)
      have hk : tz_lkk (z * 1103515245 + 12345) < 4 := Nat.mod_lt _ (by decide)
      refine ⟨by rw [tc_eqL (k := 0) (by omega) (by decide)]; omega, tc_wp_mono (tc_w5_addFault hC.2.2 gZ (by omega) hp) (fun _ μ2 hh => ?_)⟩
      rw [tc_ad1]
      unfold tc_lot tc_lz
      refine ih f (i + 1) _ _ μ2 (by omega) (by omega) ⟨hC.1.trans hh.1.d, hC.2.1.fd hh.1.d, hh.2⟩ (gZ.yD (by omega) hk hp) hZ ?_
      show (Z.2.2.2 ++ [_]).length + d ≤ 15
      rw [List.length_append, List.length_singleton]; omega
  unfold tc_f2_unsafeByLot
  rw [tc_wp_bd]
  refine tc_wp_mono (tc_c_become hN h g.1) (fun _ μ1 hC => ?_)
  exact key n N 0 x1 Y μ1 (by omega) (by omega) hC g.1 rfl (by omega)
theorem tc_r_lot (hN : 300 ≤ N) (h : tc_RM μ Y Y.2.2.2 (-1)) (g : tc_G6 Y) (h0 : 0 < Y.1.1) {n : Nat} (hn : n ≤ 9) : tc_wp (tc_f7_drawnBy N x1 (nI n) μ) (fun r μ' => r = tc_da (tc_lot n x1 Y) ∧ tc_FM μ μ' ∧ tc_RM μ' Y Y.2.2.2 (-1)) := by
  have g1 := g.1.1
  have g6 := g.2
  have key : ∀ (d f i : Nat) (z : Int32) (Z : tc_Y) (μ1 : tc_Mem), i + d = n → d < f → tc_RT μ μ1 Y Z Z.2.2.2 Y.2.2.2 (-1) → tc_Gd Z → Z.1.1 = Y.1.1 → Z.2.2.2.length + d ≤ 15 → tc_wp (tc_f7_drawnBy_9 N f (nI n) z (nI i) μ1) (fun r μ' => r = tc_da (tc_lot d z Z) ∧ tc_FM μ μ' ∧ tc_RM μ' Y Y.2.2.2 (-1)) := by
    intro d
    induction d with
    | zero =>
      intro f i z Z μ1 hd hf hC gZ hZ hl
      obtain ⟨f, rfl⟩ : ∃ f', f = f' + 1 := ⟨f - 1, by omega⟩
      rw [tc_f7_drawnBy_9]; dsimp only
      rw [if_pos (by rw [tc_le (by omega) (by omega)]; omega)]
      unfold tc_f7_drawnBy_49 tc_lot tc_da
      rw [tc_wp_bd]
      have hs := tc_r_goes hN hC gZ false
      refine tc_wp_mono hs (fun r μ3 hh => ?_)
      have fin : ∀ (r : Int32) (W : tc_Y), tc_RT μ μ3 Y W Z.2.2.2 Y.2.2.2 (-1) → tc_wp (tc_f7_drawnBy_70 N r μ3) (fun r' μ2 => r' = r ∧ tc_FM μ μ2 ∧ tc_RM μ2 Y Y.2.2.2 (-1)) := by
        intro r W hC
        unfold tc_f7_drawnBy_70
        rw [tc_wp_bd]
        refine tc_wp_mono (tc_r_back hN hC g.1) (fun _ μ2 hh => ?_)
        rw [tc_wp_some]; exact ⟨rfl, hh⟩
      cases hm : tc_mo Z false with
      | none =>
        rw [hm] at hh
        obtain ⟨rfl, hC⟩ := hh
        rw [if_neg (by decide)]
        exact fin _ _ hC
      | some p =>
        obtain ⟨u, ch⟩ := p
        rw [hm] at hh
        obtain ⟨rfl, hT2, hu, hl⟩ := hh
        have g2 := gZ.af hu
        have b1 : tc_f7_bitsOf N 1 μ3 = _ := tc_r_bits hN hT2 g2 (v := 1) (by decide)
        rw [tc_bm_un] at b1
        rw [if_pos (nI_pos' (by omega)), tc_wp_bd, b1, tc_wp_some, tc_wp_bd, tc_v8_bitCount, tc_wp_some]
        exact fin _ _ hT2
    | succ d ih =>
      intro f i z Z μ1 hd hf hC gZ hZ hl
      obtain ⟨f, rfl⟩ : ∃ f', f = f' + 1 := ⟨f - 1, by omega⟩
      have e50 : μ1 50 0 = nI Z.1.1 := hC.2.1.1
      rw [tc_f7_drawnBy_9]; dsimp only
      rw [if_neg (by rw [tc_le (by omega) (by omega)]; omega), e50, tc_wp_lt, tc_wp_nz, tc_wp_bd]
      have ek := tz_lk (tc_lz z)
      have ep := tz_lp (tc_lz z) (n := Z.1.1) (by omega) (by omega)
      unfold tc_lz at ek ep
      rw [ek, ep]
      have hp : tz_lpp (z * 1103515245 + 12345) Z.1.1 < Z.1.1 := Nat.mod_lt _ (by omega)
      have hk : tz_lkk (z * 1103515245 + 12345) < 4 := Nat.mod_lt _ (by decide)
      refine ⟨by rw [tc_eqL (k := 0) (by omega) (by decide)]; omega, tc_wp_mono (tc_t7_addFault hC.2 gZ hk hp) (fun _ μ2 hh => ?_)⟩
      rw [tc_ad1]
      unfold tc_lot tc_lz
      refine ih f (i + 1) _ _ μ2 (by omega) (by omega) ⟨hC.1.trans hh.1, hh.2⟩ (gZ.yD (by omega) hk hp) hZ ?_
      show (Z.2.2.2 ++ [_]).length + d ≤ 15
      rw [List.length_append, List.length_singleton]; omega
  unfold tc_f7_drawnBy
  rw [tc_wp_bd]
  refine tc_wp_mono (tc_r_keeps hN h tc_FM.rf g.1) (fun _ μ1 hC => ?_)
  exact key n N 0 x1 Y μ1 (by omega) (by omega) hC g.1 rfl (by omega)
theorem tc_k_drawn (hN : 300 ≤ N) (g : tc_G6 Y) : tc_T (tc_f6_drawn N x1 x2) (tc_f7_drawn N x1 x2) Y := by
  have g1 := g.1.1
  rcases Bool.eq_false_or_eq_true (tc_wi x2 0 9) with c1 | c1
  case inr => exact tc_T.same (-2) (fun μ h => tc_wp_of (by unfold tc_f6_drawn; simp [tc_wp_bd, tc_v6_isWithin, tc_wp_some, c1, tc_bI])) (fun μ h => tc_wp_of (by unfold tc_f7_drawn tc_f7_drawn_17; simp [tc_wp_bd, tc_v7_in, tc_wp_some, c1, tc_bI]))
  by_cases c0 : Y.1.1 = 0
  · have e0 : ∀ {x : Int32}, x = nI Y.1.1 → x = 0 := fun q => by rw [q, c0]; rfl
    exact tc_T.same (-2) (fun μ h => tc_wp_of (by unfold tc_f6_drawn; simp [tc_wp_bd, tc_v6_isWithin, tc_wp_some, c1, tc_bI, e0 h.1])) (fun μ h => tc_wp_of (by unfold tc_f7_drawn tc_f7_drawn_17; simp [tc_wp_bd, tc_v7_in, tc_wp_some, c1, tc_bI, e0 h.1]))
  obtain ⟨n, -, hn, rfl⟩ := tc_wi_nI (a := 0) (b := 9) (by decide) (by decide) c1
  have hz : ¬ nI Y.1.1 = 0 := by rw [tc_eqL (k := 0) (by omega) (by decide)]; omega
  refine ⟨tc_da (tc_lot n x1 Y), fun μ h => ?_, fun μ h => ?_⟩
  · unfold tc_f6_drawn
    rw [tc_wp_bd, tc_v6_isWithin, tc_wp_some, c1, if_neg (by decide), h.1, if_neg hz, tc_wp_bd]
    refine tc_wp_mono (tc_c_lot hN h g (by omega) hn) (fun r μ1 hh => ?_)
    rw [tc_wp_some]; exact hh
  · unfold tc_f7_drawn
    rw [tc_wp_bd, tc_v7_in, tc_wp_some, c1, if_neg (by decide), h.1, if_neg hz, tc_wp_bd]
    refine tc_wp_mono (tc_r_lot hN h g (by omega) hn) (fun r μ1 hh => ?_)
    rw [tc_wp_some]; exact hh
/-! a share of lots -/
theorem tz_gcd {a b : Nat} : Nat.gcd a b = Nat.gcd b (a % b) := by rw [Nat.gcd_comm a b, Nat.gcd_rec b a, Nat.gcd_comm]
theorem tz_div (hN : 300 ≤ N) : ∀ (b f a k : Nat), k + b < 64 → b < f → a ≤ 20 → b ≤ 20 → tc_f6_greatestDivisor_7 N f (nI a) (nI b) (nI k) μ = some (nI (Nat.gcd a b), μ) := by
  intro b
  induction b using Nat.strongRecOn with
  | ind b ih =>
    intro f a k hk hf ha hb
    obtain ⟨f, rfl⟩ : ∃ f', f = f' + 1 := ⟨f - 1, by omega⟩
    rw [tc_f6_greatestDivisor_7]; dsimp only
    rw [if_neg (by rw [tc_Lle (k := 64) (by omega) (by decide)]; omega)]
    by_cases c : b = 0
    · subst c
      rw [if_pos (show nI 0 = 0 from rfl), Nat.gcd_zero_right]
    · have hz : ¬ nI b = 0 := by rw [tc_eqL (k := 0) (by omega) (by decide)]; omega
      rw [if_neg hz]
      apply tc_wp_of
      rw [tc_wp_nz, tc_wp_lt, pk_rem (by omega) (by omega) (by omega), tc_ad1]
      have hl := Nat.mod_lt a (show b > 0 by omega)
      rw [ih (a % b) hl f b (k + 1) (by omega) (by omega) (by omega) (by omega), tc_wp_some]
      exact ⟨hz, by rw [tz_gcd (a := a)], rfl⟩
theorem tz_r100 (hN : 300 ≤ N) {m c : Nat} (hm : m ≤ 20) (hc : c ≤ 20) : ∀ (b f a : Nat), b < f → a ≤ 20 → b ≤ 20 → 0 < a + b → tc_f7_chance_100 N f (nI m) x5 (nI c) (nI a) (nI b) μ = some (if x5 = 0 then nI (c / Nat.gcd a b) else nI (m / Nat.gcd a b), μ) := by
  intro b
  induction b using Nat.strongRecOn with
  | ind b ih =>
    intro f a hf ha hb h0
    obtain ⟨f, rfl⟩ : ∃ f', f = f' + 1 := ⟨f - 1, by omega⟩
    rw [tc_f7_chance_100]; dsimp only
    by_cases q : b = 0
    · subst q
      have hz : ¬ nI a = 0 := by rw [tc_eqL (k := 0) (by omega) (by decide)]; omega
      rw [if_pos (show nI 0 = 0 from rfl), Nat.gcd_zero_right]
      unfold tc_f7_chance_123
      apply tc_wp_of
      rw [tc_wp_if, tc_wp_nz, tc_wp_nz, tc_wp_some, tc_wp_some, pk_div (by omega) (by omega) (by omega), pk_div (by omega) (by omega) (by omega)]
      by_cases q : x5 = 0
      · rw [if_pos q, if_pos q]; exact ⟨hz, rfl, rfl⟩
      · rw [if_neg q, if_neg q]; exact ⟨hz, rfl, rfl⟩
    · have hz : ¬ nI b = 0 := by rw [tc_eqL (k := 0) (by omega) (by decide)]; omega
      rw [if_neg hz]
      apply tc_wp_of
      rw [tc_wp_nz, tc_wp_lt, pk_rem (by omega) (by omega) (by omega)]
      have hl := Nat.mod_lt a (show b > 0 by omega)
      rw [ih (a % b) hl f b (by omega) (by omega) (by omega) (by omega), tc_wp_some]
      exact ⟨hz, by rw [tz_gcd (a := a)], rfl⟩
theorem tz_cnt_le (p : Nat → Bool) : ∀ d k, tc_cnt p d k ≤ d := by
  intro d
  induction d with
  | zero => intro k; exact Nat.le_refl _
  | succ d ih =>
    intro k
    have := ih (k + 1)
    rw [tc_cnt]
    split <;> omega
theorem tc_k_chance (hN : 300 ≤ N) (g : tc_G6 Y) : tc_T (tc_f6_chance N x1 x2 x3 x4 x5) (tc_f7_chance N x1 x2 x3 x4 x5) Y := by
  have g1 := g.1.1
  rcases Bool.eq_false_or_eq_true (tc_wi x2 1 20) with c2 | c2
  case inr => exact tc_T.same (-2) (fun μ h => tc_wp_of (by unfold tc_f6_chance; simp [tc_wp_bd, tc_v6_isWithin, tc_wp_some, c2, tc_bI])) (fun μ h => tc_wp_of (by unfold tc_f7_chance; simp [tc_wp_bd, tc_v7_in, tc_wp_some, c2, tc_bI]))
  rcases Bool.eq_false_or_eq_true (tc_wi x3 0 9) with c3 | c3
  case inr => exact tc_T.same (-2) (fun μ h => tc_wp_of (by unfold tc_f6_chance; simp [tc_wp_bd, tc_v6_isWithin, tc_wp_some, c2, c3, tc_bI])) (fun μ h => tc_wp_of (by unfold tc_f7_chance; simp [tc_wp_bd, tc_v7_in, tc_wp_some, c2, c3, tc_bI]))
  rcases Bool.eq_false_or_eq_true (tc_wi x4 0 8) with c4 | c4
  case inr => exact tc_T.same (-2) (fun μ h => tc_wp_of (by unfold tc_f6_chance; simp [tc_wp_bd, tc_v6_isWithin, tc_wp_some, c2, c3, c4, tc_bI])) (fun μ h => tc_wp_of (by unfold tc_f7_chance; simp [tc_wp_bd, tc_v7_in, tc_wp_some, c2, c3, c4, tc_bI]))
  rcases Bool.eq_false_or_eq_true (tc_wi x5 0 1) with c5 | c5
  case inr => exact tc_T.same (-2) (fun μ h => tc_wp_of (by unfold tc_f6_chance; simp [tc_wp_bd, tc_v6_isWithin, tc_wp_some, c2, c3, c4, c5, tc_bI])) (fun μ h => tc_wp_of (by unfold tc_f7_chance; simp [tc_wp_bd, tc_v7_in, tc_wp_some, c2, c3, c4, c5, tc_bI]))
  by_cases c0 : Y.1.1 = 0
  · have e0 : ∀ {x : Int32}, x = nI Y.1.1 → x = 0 := fun q => by rw [q, c0]; rfl
    exact tc_T.same (-2) (fun μ h => tc_wp_of (by unfold tc_f6_chance; simp [tc_wp_bd, tc_v6_isWithin, tc_wp_some, c2, c3, c4, c5, tc_bI, e0 h.1])) (fun μ h => tc_wp_of (by unfold tc_f7_chance; simp [tc_wp_bd, tc_v7_in, tc_wp_some, c2, c3, c4, c5, tc_bI, e0 h.1]))
  obtain ⟨m, hm1, hm, rfl⟩ := tc_wi_nI (a := 1) (b := 20) (by decide) (by decide) c2
  obtain ⟨n, -, hn, rfl⟩ := tc_wi_nI (a := 0) (b := 9) (by decide) (by decide) c3
  have hz : ¬ nI Y.1.1 = 0 := by rw [tc_eqL (k := 0) (by omega) (by decide)]; omega
  have hcl := tz_cnt_le (fun i => !decide (tc_da (tc_lot n (x1 + nI i) Y) < x4)) m 0
  have hg0 : 0 < Nat.gcd m (tc_cnt (fun i => !decide (tc_da (tc_lot n (x1 + nI i) Y) < x4)) m 0) := Nat.gcd_pos_of_pos_left _ (by omega)
  have hgm : Nat.gcd m (tc_cnt (fun i => !decide (tc_da (tc_lot n (x1 + nI i) Y) < x4)) m 0) ≤ m := Nat.le_of_dvd (by omega) (Nat.gcd_dvd_left _ _)
  refine ⟨if x5 = 0 then nI (tc_cnt (fun i => !decide (tc_da (tc_lot n (x1 + nI i) Y) < x4)) m 0 / Nat.gcd m (tc_cnt (fun i => !decide (tc_da (tc_lot n (x1 + nI i) Y) < x4)) m 0)) else nI (m / Nat.gcd m (tc_cnt (fun i => !decide (tc_da (tc_lot n (x1 + nI i) Y) < x4)) m 0)), fun μ h => ?_, fun μ h => ?_⟩
  · have key : ∀ (d f i a : Nat) (μ1 : tc_Mem), i + d = m → d < f → tc_FD μ μ1 → tc_RC μ1 1 Y → tc_wp (tc_f2_lotsWith_6 N f x1 (nI m) (nI n) x4 (nI a) (nI i) μ1) (fun r μ' => r = nI (a + tc_cnt (fun i => !decide (tc_da (tc_lot n (x1 + nI i) Y) < x4)) d i) ∧ tc_FD μ μ') := by
      intro d
      induction d with
      | zero =>
        intro f i a μ1 hd hf hF hR
        obtain ⟨f, rfl⟩ : ∃ f', f = f' + 1 := ⟨f - 1, by omega⟩
        rw [tc_f2_lotsWith_6]; dsimp only
        rw [if_pos (by rw [tc_le (by omega) (by omega)]; omega), tc_wp_some]
        exact ⟨rfl, hF⟩
      | succ d ih =>
        intro f i a μ1 hd hf hF hR
        obtain ⟨f, rfl⟩ : ∃ f', f = f' + 1 := ⟨f - 1, by omega⟩
        rw [tc_f2_lotsWith_6]; dsimp only
        rw [if_neg (by rw [tc_le (by omega) (by omega)]; omega), tc_wp_bd]
        refine tc_wp_mono (tc_c_lot hN hR g (by omega) hn) (fun r μ2 hh => ?_)
        obtain ⟨rfl, hF2⟩ := hh
        rw [tc_wp_if, tc_cnt, tc_ad1, tc_ad1]
        by_cases c : tc_da (tc_lot n (x1 + nI i) Y) < x4
        · rw [if_pos c, if_neg (by simp [c]), Nat.zero_add]
          exact ih f (i + 1) a μ2 (by omega) (by omega) (hF.trans hF2) (hR.fd hF2)
        · rw [if_neg c, if_pos (by simp [c]), ← Nat.add_assoc]
          exact ih f (i + 1) (a + 1) μ2 (by omega) (by omega) (hF.trans hF2) (hR.fd hF2)
    unfold tc_f6_chance tc_f2_lotsWith
    rw [tc_wp_bd, tc_v6_isWithin, tc_wp_some, c2, if_neg (by decide), tc_wp_bd, tc_v6_isWithin, tc_wp_some, c3, if_neg (by decide), tc_wp_bd, tc_v6_isWithin, tc_wp_some, c4, if_neg (by decide), tc_wp_bd, tc_v6_isWithin, tc_wp_some, c5, if_neg (by decide), h.1, if_neg hz, tc_wp_bd]
    refine tc_wp_mono (key m N 0 0 μ (by omega) (by omega) tc_FD.rf h) (fun r μ1 hh => ?_)
    rw [Nat.zero_add] at hh
    obtain ⟨rfl, hF⟩ := hh
    unfold tc_f6_greatestDivisor
    have hd := tz_div (N := N) (μ := μ1) hN (tc_cnt (fun i => !decide (tc_da (tc_lot n (x1 + nI i) Y) < x4)) m 0) N m 0 (by omega) (by omega) (by omega) (by omega)
    have hd' : tc_f6_greatestDivisor_7 N N (nI m) (nI (tc_cnt (fun i => !decide (tc_da (tc_lot n (x1 + nI i) Y) < x4)) m 0)) 0 μ1 = _ := hd
    rw [tc_wp_bd, hd', tc_wp_some, tc_wp_lt]
    generalize hgg : Nat.gcd m (tc_cnt (fun i => !decide (tc_da (tc_lot n (x1 + nI i) Y) < x4)) m 0) = gg at hg0 hgm ⊢
    generalize tc_cnt (fun i => !decide (tc_da (tc_lot n (x1 + nI i) Y) < x4)) m 0 = cc at hcl ⊢
    have em : (if (1 : Int32) < nI gg then nI gg else 1) = nI gg := by
      by_cases c : 1 < gg
      · rw [if_pos ((tc_Llt (k := 1) (by omega) (by decide)).mpr c)]
      · rw [if_neg (fun q => c ((tc_Llt (k := 1) (by omega) (by decide)).mp q)), show gg = 1 by omega]; rfl
    have hzg : ¬ nI gg = 0 := by rw [tc_eqL (k := 0) (by omega) (by decide)]; omega
    rw [em]
    unfold tc_f6_chance_94
    rw [tc_wp_if, tc_wp_nz, tc_wp_nz, tc_wp_some, tc_wp_some, pk_div (by omega) (by omega) (by omega), pk_div (by omega) (by omega) (by omega)]
    by_cases q : x5 = 0
    · rw [if_pos q, if_pos q]; exact ⟨hzg, rfl, hF⟩
    · rw [if_neg q, if_neg q]; exact ⟨hzg, rfl, hF⟩
  · have key : ∀ (d f i a : Nat) (μ1 : tc_Mem), i + d = m → a + d ≤ 20 → d < f → tc_FM μ μ1 → tc_RM μ1 Y Y.2.2.2 (-1) → tc_wp (tc_f7_chance_57 N f x1 (nI m) (nI n) x4 x5 (nI a) (nI i) μ1) (fun r μ' => (r = if x5 = 0 then nI ((a + tc_cnt (fun i => !decide (tc_da (tc_lot n (x1 + nI i) Y) < x4)) d i) / Nat.gcd m (a + tc_cnt (fun i => !decide (tc_da (tc_lot n (x1 + nI i) Y) < x4)) d i)) else nI (m / Nat.gcd m (a + tc_cnt (fun i => !decide (tc_da (tc_lot n (x1 + nI i) Y) < x4)) d i))) ∧ tc_FM μ μ' ∧ tc_RM μ' Y Y.2.2.2 (-1)) := by
      intro d
      induction d with
      | zero =>
        intro f i a μ1 hd ha hf hF hR
        obtain ⟨f, rfl⟩ : ∃ f', f = f' + 1 := ⟨f - 1, by omega⟩
        rw [tc_f7_chance_57]; dsimp only
        rw [if_pos (by rw [tc_le (by omega) (by omega)]; omega)]
        unfold tc_f7_chance_93
        rw [tz_r100 hN hm (by omega) m N a (by omega) (by omega) (by omega) (by omega), tc_wp_some]
        refine ⟨?_, hF, hR⟩
        rw [tc_cnt, Nat.add_zero, Nat.gcd_comm a m]
      | succ d ih =>
        intro f i a μ1 hd ha hf hF hR
        obtain ⟨f, rfl⟩ : ∃ f', f = f' + 1 := ⟨f - 1, by omega⟩
        rw [tc_f7_chance_57]; dsimp only
        rw [if_neg (by rw [tc_le (by omega) (by omega)]; omega), tc_wp_bd]
        refine tc_wp_mono (tc_r_lot hN hR g (by omega) hn) (fun r μ2 hh => ?_)
        obtain ⟨rfl, hF2, hR2⟩ := hh
        unfold tc_f7_chance_84
        rw [tc_wp_if, tc_cnt, tc_wp_lt, tc_wp_lt, tc_ad1, tc_ad1]
        have e0 : nI a + 0 = nI a := by show nI a + nI 0 = _; rw [nI_add]; rfl
        rw [e0]
        by_cases c : tc_da (tc_lot n (x1 + nI i) Y) < x4
        · rw [if_pos c, if_neg (show ¬ (!decide (tc_da (tc_lot n (x1 + nI i) Y) < x4)) = true by simp [c]), Nat.zero_add]
          exact ih f (i + 1) a μ2 (by omega) (by omega) (by omega) (hF.trans hF2) hR2
        · rw [if_neg c, if_pos (show (!decide (tc_da (tc_lot n (x1 + nI i) Y) < x4)) = true by simp [c]), ← Nat.add_assoc]
          exact ih f (i + 1) (a + 1) μ2 (by omega) (by omega) (by omega) (hF.trans hF2) hR2
    unfold tc_f7_chance
    rw [tc_wp_bd, tc_v7_in, tc_wp_some, c2, if_neg (by decide), tc_wp_bd, tc_v7_in, tc_wp_some, c3, if_neg (by decide), tc_wp_bd, tc_v7_in, tc_wp_some, c4, if_neg (by decide), tc_wp_bd, tc_v7_in, tc_wp_some, c5, if_neg (by decide), h.1, if_neg hz]
    have := key m N 0 0 μ (by omega) (by omega) (by omega) tc_FM.rf h
    rw [Nat.zero_add] at this
    exact this
end T8
