/-! told relays -/
section T9
variable {N : Nat} {Y Z W R : tc_Y} {x1 x2 x3 x4 x5 : Int32} {μ μ0 μ1 : tc_Mem}
/-- a sheet: of the class, of the reference -/
def tz_A (μ : tc_Mem) (r : Nat) (so : Int32) (z : Nat) (it : Nat → Int32) : Prop := μ 47 r = so ∧ μ 48 r = nI z ∧ ∀ i, i < z → μ 49 (40 * r + i) = it i
def tz_B (μ : tc_Mem) (r : Nat) (so : Int32) (z : Nat) (it : Nat → Int32) : Prop := μ 64 r = so ∧ μ 65 r = nI z ∧ ∀ i, i < z → μ 66 (40 * r + i) = it i
theorem tc_ISh.ab (h : tc_ISh μ) {r : Nat} (hr : r < 4) : (μ 47 r = -1 ∧ μ 64 r = -1) ∨ ∃ (so : Int32) (z : Nat) (it : Nat → Int32), (so = 0 ∨ so = 1) ∧ z ≤ 40 ∧ tz_A μ r so z it ∧ tz_B μ r so z it := by
  obtain ⟨⟨z, hz, e⟩, h2, h3⟩ := h r hr
  rcases h3 with c | ⟨c, e2, e3⟩
  · exact Or.inl ⟨c, by rw [← h2]; exact c⟩
  · refine Or.inr ⟨μ 47 r, z, fun i => μ 49 (40 * r + i), c, hz, ⟨rfl, e, fun i _ => rfl⟩, h2.symm, by rw [e2, e], fun i hi => ?_⟩
    exact (e3 i (by rw [e, tc_lt' (by omega) (by omega)]; exact hi) (by omega)).symm
theorem tz_A.fd {r : Nat} {so : Int32} {z : Nat} {it : Nat → Int32} (h : tz_A μ r so z it) (hf : tc_FD μ μ1) : tz_A μ1 r so z it := by
  unfold tz_A
  rw [hf 47 (by omega), hf 48 (by omega), hf 49 (by omega)]; exact h
theorem tz_B.fd {r : Nat} {so : Int32} {z : Nat} {it : Nat → Int32} (h : tz_B μ r so z it) (hf : tc_FD μ μ1) : tz_B μ1 r so z it := by
  unfold tz_B
  rw [hf 64 (by omega), hf 65 (by omega), hf 66 (by omega)]; exact h
theorem tz_B.fm {r : Nat} {so : Int32} {z : Nat} {it : Nat → Int32} (h : tz_B μ r so z it) (hf : tc_FM μ μ1) : tz_B μ1 r so z it := by
  unfold tz_B
  rw [hf.1 64 (by omega) (by omega), hf.1 65 (by omega) (by omega), hf.1 66 (by omega) (by omega)]; exact h
def tc_TT (o1 o2 : tc_Mem → Option (Int32 × tc_Mem)) (Y : tc_Y) (A B : tc_Mem → Prop) : Prop := ∃ r : Int32, (∀ μ, A μ → tc_RC μ 1 Y → tc_wp (o1 μ) (fun r' μ1 => r' = r ∧ tc_FD μ μ1)) ∧ ∀ μ, B μ → tc_RM μ Y Y.2.2.2 (-1) → tc_wp (o2 μ) (fun r' μ2 => r' = r ∧ tc_FM μ μ2 ∧ tc_RM μ2 Y Y.2.2.2 (-1))
theorem tc_TT.step {o1 o2 : tc_Mem → Option (Int32 × tc_Mem)} {A B : tc_Mem → Prop} (h : tc_TT o1 o2 Y A B) (hO : tc_IO μ) (hY : tc_IY μ Y) (hA : A μ) (hB : ∀ μ1, tc_FD μ μ1 → B μ1) : ∃ (r : Int32) (μ1 μ2 : tc_Mem), o1 μ = some (r, μ1) ∧ o2 μ1 = some (r, μ2) ∧ tc_Inv μ2 := by
  obtain ⟨r, h1, h2⟩ := h
  refine tc_mk (tc_wp_mono (h1 μ hA hY.2.2.1) (fun r' μ1 hh => ?_))
  obtain ⟨rfl, f1⟩ := hh
  refine tc_wp_mono (h2 μ1 (hB μ1 f1) (hY.2.2.2.fd f1)) (fun r2 μ2 hh => ?_)
  obtain ⟨rfl, f2, r2⟩ := hh
  exact ⟨rfl, ⟨Y, hY.1, hY.2.1, (hY.2.2.1.fd f1).fm f2, r2⟩, hO.frame (f1.o.trans f2.o)⟩
theorem tc_v3_has : tc_f3_has N x1 μ = some (tc_bI (tc_wi x1 0 3), μ) := by
  apply tc_wp_of
  unfold tc_f3_has
  rw [tc_wp_bd, tc_v6_isWithin, tc_wp_some, tc_wp_zr]
  exact ⟨tc_bI_01 _, rfl, rfl⟩
theorem tc_v7_isSheet : tc_f7_isSheet N x1 μ = some (tc_bI (tc_wi x1 0 3), μ) := by
  apply tc_wp_of
  unfold tc_f7_isSheet
  rw [tc_wp_bd, tc_v7_in, tc_wp_some, tc_wp_zr]
  exact ⟨tc_bI_01 _, rfl, rfl⟩
theorem tc_v3_miss {r : Nat} (hr : r < 4) : tc_f3_isMissing N (nI r) μ = some (if μ 47 r = -1 then 1 else 0, μ) := by
  apply tc_wp_of
  unfold tc_f3_isMissing
  rw [tc_wp_ck, tc_cl (by omega), tc_wp_if, tc_wp_some, tc_wp_some]
  refine ⟨(tc_vin (by omega) (by decide)).mpr hr, ?_⟩
  by_cases c : μ 47 r = -1
  · rw [if_pos c, if_pos c]; exact ⟨rfl, rfl⟩
  · rw [if_neg c, if_neg c]; exact ⟨rfl, rfl⟩
theorem tc_v3_item {r i : Nat} (hr : r < 4) (hi : i < 40) : tc_f3_item N (nI r) (nI i) μ = some (μ 49 (40 * r + i), μ) := by
  apply tc_wp_of
  unfold tc_f3_item
  have e : nI r * 40 + nI i = nI (40 * r + i) := by show nI r * nI 40 + nI i = _; rw [pk_mul, nI_add, Nat.mul_comm]
  rw [tc_wp_ck, e, tc_cl (by omega), tc_wp_some]
  exact ⟨(tc_vin (by omega) (by decide)).mpr (by omega), rfl, rfl⟩
def tc_ob (s : Nat) (it : Nat → Int32) : Nat → Nat → tc_Y → Int32
  | 0, _, _ => -1
  | d + 1, i, Z => match tc_mo Z false with
    | none => nI i
    | some (u, _) => if tc_bI (u.testBit s) = it i then tc_ob s it d (i + 1) (tc_mv (tc_af Z u)) else nI i
theorem tc_ob_v (s : Nat) (it : Nat → Int32) : ∀ (d i : Nat) (Z : tc_Y), i + d ≤ 40 → tc_ob s it d i Z = -1 ∨ (¬ tc_ob s it d i Z = -1 ∧ (0 : Int32) ≤ tc_ob s it d i Z) := by
  intro d
  induction d with
  | zero => intro i Z _; exact Or.inl rfl
  | succ d ih =>
    intro i Z hi
    have h0 : ¬ nI i = -1 ∧ (0 : Int32) ≤ nI i := ⟨fun q => tc_nn (show i < 2 ^ 31 by omega) (by rw [q]; decide), nI_pos' (by omega)⟩
    unfold tc_ob
    cases hm : tc_mo Z false with
    | none => exact Or.inr h0
    | some p =>
      obtain ⟨u, ch⟩ := p
      dsimp only
      by_cases c : tc_bI (u.testBit s) = it i
      · rw [if_pos c]; exact ih (i + 1) _ (by omega)
      · rw [if_neg c]; exact Or.inr h0
def tc_kn (Y : tc_Y) (s : Nat) (k : Int32) : tc_Y := tc_yA Y (upd Y.2.2.1.1 s k, Y.2.2.1.2)
theorem tc_kn_self (s : Nat) : tc_kn Y s (Y.2.2.1.1 s) = Y := by
  have e : upd Y.2.2.1.1 s (Y.2.2.1.1 s) = Y.2.2.1.1 := by
    funext j
    by_cases c : j = s
    · subst c; simp [upd]
    · simp [upd, c]
  unfold tc_kn
  rw [e]; rfl
theorem tc_G6.kn {s k : Nat} (g : tc_G6 Y) (hk : k < 6) : tc_G6 (tc_kn Y s (nI k)) := by
  refine g.yA (fun j hj => ?_)
  by_cases c : j = s
  · subst c; exact ⟨k, hk, by simp [upd]⟩
  · have := g.1.2.2.2.1 j hj
    simpa [upd, c] using this
theorem tc_c_other (hN : 300 ≤ N) {r s z : Nat} {so k : Int32} {it : Nat → Int32} (hr : r < 4) (hz : z ≤ 40) (hA : tz_A μ r so z it) (h : tc_RC μ 1 Y) (g : tc_Gd Y) (gk : tc_Gd (tc_kn Y s k)) (hs : s < Y.1.1) : tc_wp (tc_f2_firstOtherwise N (nI r) (nI s) k μ) (fun r' μ' => r' = tc_ob s it z 0 (tc_kn Y s k) ∧ tc_FD μ μ') := by
  have g1 := g.1
  have hvr : vp_in (nI r) 4 := (tc_vin (by omega) (by decide)).mpr hr
  have hvs : vp_in (nI s) 8 := (tc_vin (by omega) (by decide)).mpr (by omega)
  have key : ∀ (d f i : Nat) (Z : tc_Y) (μ1 : tc_Mem), i + d = z → d < f → tc_CT μ μ1 Y Z → tc_Gd Z → Z.1.1 = Y.1.1 → tc_wp (tc_f2_firstOtherwise_33 N f (nI r) (nI s) (nI z) (nI i) μ1) (fun r' μ' => r' = tc_ob s it d i Z ∧ tc_FD μ μ') := by
    intro d
    induction d with
    | zero =>
      intro f i Z μ1 hd hf hC gZ hZ
      obtain ⟨f, rfl⟩ : ∃ f', f = f' + 1 := ⟨f - 1, by omega⟩
      rw [tc_f2_firstOtherwise_33]; dsimp only
      rw [if_pos (by rw [tc_le (by omega) (by omega)]; omega), tc_wp_some]
      exact ⟨rfl, hC.1⟩
    | succ d ih =>
      intro f i Z μ1 hd hf hC gZ hZ
      obtain ⟨f, rfl⟩ : ∃ f', f = f' + 1 := ⟨f - 1, by omega⟩
      rw [tc_f2_firstOtherwise_33]; dsimp only
      rw [if_neg (by rw [tc_le (by omega) (by omega)]; omega), tc_wp_bd]
      have hp := tc_c_passes hN hC gZ
      refine tc_wp_mono hp (fun r1 μ2 hh => ?_)
      unfold tc_ob
      cases hm : tc_mo Z false with
      | none =>
        rw [hm] at hh
        obtain ⟨rfl, hC2⟩ := hh
        rw [if_pos rfl, tc_wp_some]
        exact ⟨rfl, hC2.1⟩
      | some p =>
        obtain ⟨u, ch⟩ := p
        rw [hm] at hh
        obtain ⟨rfl, hC2, hu, -, -⟩ := hh
        have g2 := gZ.af hu
        have hA2 := hA.fd hC2.1
        rw [if_neg (by decide), tc_wp_bd, tc_v5_relay hC2.2.2 g2 (by omega), tc_wp_some, if_pos (show s < (tc_af Z u).1.1 by show s < Z.1.1; omega), tc_wp_bd, tc_v3_item hr (by omega), tc_wp_some, hA2.2.2 i (by omega), tc_wp_if]
        show if tc_bI (u.testBit s) = it i then _ else _
        dsimp only
        by_cases c : tc_bI (u.testBit s) = it i
        · rw [if_pos c, if_pos c, tc_wp_bd]
          refine tc_wp_mono (tc_c_move hC2 g2) (fun _ μ3 hh => ?_)
          rw [tc_ad1]
          exact ih f (i + 1) _ μ3 (by omega) (by omega) hh.1 g2.mv hZ
        · rw [if_neg c, if_neg c, tc_wp_some]
          exact ⟨rfl, hC2.1⟩
  unfold tc_f2_firstOtherwise
  rw [tc_wp_bd]
  refine tc_wp_mono (tc_c_become hN h g) (fun _ μ1 hC => ?_)
  have R2 : tc_RC (tc_wr μ1 29 s k) 28 (tc_kn Y s k) := hC.2.2.a1
  have F2 : tc_FD μ1 (tc_wr μ1 29 s k) := tc_FD.rf.wr (by omega)
  have hA2 := hA.fd (hC.1.trans F2)
  rw [tc_wp_ck, tc_cl (by omega), tc_wp_lt, tc_wp_ck, tc_cl (by omega), tc_wp_lt, hA2.2.1]
  exact ⟨hvs, hvr, key z N 0 _ _ (by omega) (by omega) ⟨hC.1.trans F2, hC.2.1.fd F2, R2⟩ gk rfl⟩
theorem tc_r_other (hN : 300 ≤ N) {r s z : Nat} {so : Int32} {it : Nat → Int32} (hr : r < 4) (hz : z ≤ 40) (hB : tz_B μ r so z it) (h : tc_RM μ Y Y.2.2.2 (-1)) (g : tc_Gd Y) (hs : s < Y.1.1) : tc_wp (tc_f7_otherBy N (nI r) (nI s) μ) (fun r' μ' => r' = tc_ob s it z 0 Y ∧ tc_FM μ μ' ∧ tc_RM μ' Y Y.2.2.2 (-1)) := by
  have g1 := g.1
  have hvr : vp_in (nI r) 4 := (tc_vin (by omega) (by decide)).mpr hr
  have hvs : vp_in (nI s) 8 := (tc_vin (by omega) (by decide)).mpr (by omega)
  have fin : ∀ (r' : Int32) (Z : tc_Y) (μ1 : tc_Mem), tc_RT μ μ1 Y Z Y.2.2.2 Y.2.2.2 (-1) → tc_wp (tc_f7_otherBy_77 N r' μ1) (fun r1 μ2 => r1 = r' ∧ tc_FM μ μ2 ∧ tc_RM μ2 Y Y.2.2.2 (-1)) := by
    intro r' Z μ1 hC
    unfold tc_f7_otherBy_77
    rw [tc_wp_bd]
    refine tc_wp_mono (tc_r_back hN hC g) (fun _ μ2 hh => ?_)
    rw [tc_wp_some]; exact ⟨rfl, hh⟩
  have fin9 : ∀ (f i : Nat) (x4 : Int32) (Z : tc_Y) (μ1 : tc_Mem), 0 < f → i < 40 → tc_RT μ μ1 Y Z Y.2.2.2 Y.2.2.2 (-1) → tc_wp (tc_f7_otherBy_9 N f (nI r) (nI s) (nI i) x4 μ1) (fun r1 μ2 => r1 = nI i ∧ tc_FM μ μ2 ∧ tc_RM μ2 Y Y.2.2.2 (-1)) := by
    intro f i x4 Z μ1 hf hi hC
    obtain ⟨f, rfl⟩ : ∃ f', f = f' + 1 := ⟨f - 1, by omega⟩
    rw [tc_f7_otherBy_9]; dsimp only
    rw [tc_wp_ck, tc_wp_if, tc_wp_if, if_pos (nI_pos' (by omega))]
    refine ⟨hvr, ?_⟩
    split <;> exact fin _ Z μ1 hC
  have key : ∀ (d f i : Nat) (Z : tc_Y) (μ1 : tc_Mem), i + d = z → d + 1 < f → tc_RT μ μ1 Y Z Y.2.2.2 Y.2.2.2 (-1) → tc_Gd Z → Z.1.1 = Y.1.1 → tc_wp (tc_f7_otherBy_9 N f (nI r) (nI s) (-1) (nI i) μ1) (fun r' μ' => r' = tc_ob s it d i Z ∧ tc_FM μ μ' ∧ tc_RM μ' Y Y.2.2.2 (-1)) := by
    intro d
    induction d with
    | zero =>
      intro f i Z μ1 hd hf hC gZ hZ
      obtain ⟨f, rfl⟩ : ∃ f', f = f' + 1 := ⟨f - 1, by omega⟩
      have hB1 := hB.fm hC.1
      rw [tc_f7_otherBy_9]; dsimp only
      rw [tc_wp_ck, tc_cl (by omega), hB1.2.1, if_pos (by rw [tc_le (by omega) (by omega)]; omega)]
      exact ⟨hvr, fin _ Z μ1 hC⟩
    | succ d ih =>
      intro f i Z μ1 hd hf hC gZ hZ
      obtain ⟨f, rfl⟩ : ∃ f', f = f' + 1 := ⟨f - 1, by omega⟩
      have hB1 := hB.fm hC.1
      rw [tc_f7_otherBy_9]; dsimp only
      rw [tc_wp_ck, tc_cl (by omega), hB1.2.1, if_neg (by rw [tc_le (by omega) (by omega)]; omega), if_neg (by decide), tc_wp_bd]
      have hp := tc_r_goes hN hC gZ false
      refine ⟨hvr, tc_wp_mono hp (fun r1 μ2 hh => ?_)⟩
      unfold tc_ob
      unfold tc_f7_otherBy_61 tc_f7_otherBy_58 tc_f7_otherBy_61
      cases hm : tc_mo Z false with
      | none =>
        rw [hm] at hh
        obtain ⟨rfl, hC2⟩ := hh
        rw [if_pos (by decide)]
        exact fin9 f i _ _ μ2 (by omega) (by omega) hC2
      | some p =>
        obtain ⟨u, ch⟩ := p
        rw [hm] at hh
        obtain ⟨rfl, hC2, hu, hl⟩ := hh
        have g2 := gZ.af hu
        have hB2 := hB.fm hC2.1
        have e : (40 : Int32) * nI r + nI i = nI (40 * r + i) := by show nI 40 * nI r + nI i = _; rw [pk_mul, nI_add]
        have e56 : μ2 56 s = tc_bI (u.testBit s) := (hC2.2.1.2.1 s (show s < Z.1.1 by omega)).2.1
        rw [if_neg (tc_nn (by omega)), tc_wp_ck, tc_wp_ck, e, tc_cl (show 40 * r + i < 2 ^ 31 by omega), tc_cl (show s < 2 ^ 31 by omega), e56, hB2.2.2 i (by omega)]
        refine ⟨(tc_vin (by omega) (by decide)).mpr (by omega), hvs, ?_⟩
        have go : ∀ b : Int32, tc_bI (u.testBit s) = b → tc_wp (if it i = b then tc_bd (tc_f7_goTrains N μ2) fun _ μ3 => tc_f7_otherBy_9 N f (nI r) (nI s) (-1) (nI i + 1) μ3 else tc_f7_otherBy_9 N f (nI r) (nI s) (nI i) (nI i + 1) μ2) (fun r' μ' => (r' = if tc_bI (u.testBit s) = it i then tc_ob s it d (i + 1) (tc_mv (tc_af Z u)) else nI i) ∧ tc_FM μ μ' ∧ tc_RM μ' Y Y.2.2.2 (-1)) := by
          intro b hb
          subst hb
          rw [tc_wp_if]
          by_cases c : tc_bI (u.testBit s) = it i
          · rw [if_pos c.symm, if_pos c, tc_wp_bd]
            refine tc_wp_mono (tc_r_move hN hC2 g2) (fun _ μ3 hh => ?_)
            rw [tc_ad1]
            exact ih f (i + 1) _ μ3 (by omega) (by omega) hh g2.mv hZ
          · rw [if_neg (fun q => c q.symm), if_neg c]
            exact fin9 f i _ _ μ2 (by omega) (by omega) hC2
        dsimp only
        rw [tc_wp_if]
        by_cases c : u.testBit s = true
        · rw [if_neg (by rw [c]; decide)]
          exact go 1 (by rw [c]; rfl)
        · rw [if_pos (by rw [tc_bI_eq0]; simpa using c)]
          exact go 0 (by rw [tc_bI_eq0]; simpa using c)
  unfold tc_f7_otherBy
  rw [tc_wp_bd]
  refine tc_wp_mono (tc_r_keeps hN h tc_FM.rf g) (fun _ μ1 hC => ?_)
  exact key z N 0 Y μ1 (by omega) (by omega) hC g rfl
def tc_tm (v : Nat → Int32) : Nat → Nat → Int32 → Int32
  | 0, _, m => m
  | d + 1, k, m => if v k = -1 then tc_tm v d (k + 1) (m ||| ((1 : Int32) <<< (nI k &&& 31))) else tc_tm v d (k + 1) m
theorem tc_k_tells (hN : 300 ≤ N) (g : tc_G6 Y) {r s z : Nat} {so : Int32} {it : Nat → Int32} (hr : r < 4) (hs : s < Y.1.1) (hso : so = 0 ∨ so = 1) (hz : z ≤ 40) (c3 : tc_wi x3 0 1 = true) : tc_TT (tc_f6_tells N (nI r) (nI s) x3) (tc_f7_tells N (nI r) (nI s) x3) Y (fun μ => tz_A μ r so z it) (fun μ => tz_B μ r so z it) := by
  have g1 := g.1.1
  have hvr : vp_in (nI r) 4 := (tc_vin (by omega) (by decide)).mpr hr
  have hvs : vp_in (nI s) 8 := (tc_vin (by omega) (by decide)).mpr (by omega)
  have c1 : tc_wi (nI r) 0 3 = true := by
    unfold tc_wi
    rw [decide_eq_false (tc_nn (by omega)), decide_eq_false (by rw [tc_Llt (k := 3) (by omega) (by decide)]; omega)]; rfl
  have hn1 : ¬ so = -1 := by rcases hso with rfl | rfl <;> decide
  have h01 : (0 : Int32) ≤ so := by rcases hso with rfl | rfl <;> decide
  have kk : ∀ (μ : tc_Mem), tz_A μ r so z it → tc_RC μ 1 Y → ∀ P, tc_wp (if (nI z) ≤ 10 then if x3 = 0 then tc_ck (nI s) 8 (tc_bd (tc_f2_firstOtherwise N (nI r) (nI s) (Y.2.2.1.1 s) μ) fun r11 μ12 => some (r11, μ12)) else tc_f6_tells_98 N N (nI r) (nI s) 0 0 μ else some ((-2), μ)) P → tc_wp (tc_f6_tells N (nI r) (nI s) x3 μ) P := by
    intro μ hA h P hP
    have e2 : μ 2 s = Y.2.2.1.1 s := (h.2.1 s hs).1
    unfold tc_f6_tells
    rw [tc_wp_bd, tc_v3_has, tc_wp_some, c1, if_neg (by decide), tc_wp_bd, tc_sec5 h g.1 hs, tc_wp_some, if_neg (by decide), tc_wp_bd, tc_v6_isWithin, tc_wp_some, c3, if_neg (by decide), tc_wp_bd, tc_v3_miss hr, tc_wp_some, hA.1, if_neg hn1, if_pos rfl, tc_wp_ck, tc_cl (show r < 2 ^ 31 by omega), hA.2.1, tc_cl (show s < 2 ^ 31 by omega), e2]
    exact ⟨hvr, hP⟩
  have rr : ∀ (μ : tc_Mem), tz_B μ r so z it → tc_RM μ Y Y.2.2.2 (-1) → ∀ P, tc_wp (if (nI z) ≤ 10 then if x3 = 0 then tc_bd (tc_f7_otherBy N (nI r) (nI s) μ) fun r11 μ12 => some (r11, μ12) else tc_ck (nI s) 8 (tc_f7_tells_78 N N (nI r) (nI s) (Y.2.2.1.1 s) 0 0 μ) else some ((-2), μ)) P → tc_wp (tc_f7_tells N (nI r) (nI s) x3 μ) P := by
    intro μ hA h P hP
    have e2 : μ 51 s = Y.2.2.1.1 s := (h.2.1 s hs).1.1
    unfold tc_f7_tells
    rw [tc_wp_bd, tc_v7_isSheet, tc_wp_some, c1, if_neg (by decide), tc_wp_bd, tc_sec7 h g.1 hs, tc_wp_some, if_neg (by decide), tc_wp_bd, tc_v7_in, tc_wp_some, c3, if_neg (by decide), tc_wp_ck, tc_cl (show r < 2 ^ 31 by omega), hA.1, if_pos h01, tc_wp_ck, hA.2.1, tc_cl (show s < 2 ^ 31 by omega), e2]
    exact ⟨hvr, hvr, hP⟩
  by_cases cz : z ≤ 10
  case neg =>
    have hc : ¬ nI z ≤ 10 := by rw [tc_leL (k := 10) (by omega) (by decide)]; exact cz
    refine ⟨-2, fun μ hA h => kk μ hA h _ ?_, fun μ hB h => rr μ hB h _ ?_⟩
    · rw [if_neg hc, tc_wp_some]; exact ⟨rfl, tc_FD.rf⟩
    · rw [if_neg hc, tc_wp_some]; exact ⟨rfl, tc_FM.rf, h⟩
  have hc : nI z ≤ 10 := by rw [tc_leL (k := 10) (by omega) (by decide)]; exact cz
  rcases tc_01 c3 with rfl | rfl
  · refine ⟨tc_ob s it z 0 Y, fun μ hA h => kk μ hA h _ ?_, fun μ hB h => rr μ hB h _ ?_⟩
    · rw [if_pos hc, if_pos rfl, tc_wp_ck, tc_wp_bd]
      have := tc_c_other (N := N) hN (s := s) (k := Y.2.2.1.1 s) hr hz hA h g.1 (by rw [tc_kn_self]; exact g.1) hs
      rw [tc_kn_self] at this
      refine ⟨hvs, tc_wp_mono this (fun r' μ' hh => ?_)⟩
      rw [tc_wp_some]; exact hh
    · rw [if_pos hc, if_pos rfl, tc_wp_bd]
      refine tc_wp_mono (tc_r_other hN hr hz hB h g.1 hs) (fun r' μ' hh => ?_)
      rw [tc_wp_some]; exact hh
  · refine ⟨tc_tm (fun k => tc_ob s it z 0 (tc_kn Y s (nI k))) 6 0 0, fun μ hA h => kk μ hA h _ ?_, fun μ hB h => rr μ hB h _ ?_⟩
    · rw [if_pos hc, if_neg (by decide)]
      have key : ∀ (d f k : Nat) (m : Int32) (μ1 : tc_Mem), k + d = 6 → d < f → tc_FD μ μ1 → tc_wp (tc_f6_tells_98 N f (nI r) (nI s) m (nI k) μ1) (fun r' μ' => r' = tc_tm (fun k => tc_ob s it z 0 (tc_kn Y s (nI k))) d k m ∧ tc_FD μ μ') := by
        intro d
        induction d with
        | zero =>
          intro f k m μ1 hd hf hF
          obtain ⟨f, rfl⟩ : ∃ f', f = f' + 1 := ⟨f - 1, by omega⟩
          rw [tc_f6_tells_98]; dsimp only
          rw [if_pos (by rw [tc_Lle (k := 6) (by omega) (by decide)]; omega), tc_wp_some]
          exact ⟨rfl, hF⟩
        | succ d ih =>
          intro f k m μ1 hd hf hF
          obtain ⟨f, rfl⟩ : ∃ f', f = f' + 1 := ⟨f - 1, by omega⟩
          rw [tc_f6_tells_98]; dsimp only
          rw [if_neg (by rw [tc_Lle (k := 6) (by omega) (by decide)]; omega), tc_wp_bd]
          have ho := tc_c_other (N := N) hN (s := s) (k := nI k) hr hz (hA.fd hF) (h.fd hF) g.1 (g.kn (by omega)).1 hs
          refine tc_wp_mono ho (fun r' μ2 hh => ?_)
          obtain ⟨rfl, hF2⟩ := hh
          rw [tc_wp_if, tc_wp_lt, tc_tm, tc_ad1]
          by_cases c : tc_ob s it z 0 (tc_kn Y s (nI k)) = -1
          · rw [if_pos c, if_pos c]
            exact ih f (k + 1) _ μ2 (by omega) (by omega) (hF.trans hF2)
          · rw [if_neg c, if_neg c]
            exact ih f (k + 1) _ μ2 (by omega) (by omega) (hF.trans hF2)
      exact key 6 N 0 0 μ (by omega) (by omega) tc_FD.rf
    · rw [if_pos hc, if_neg (by decide), tc_wp_ck]
      refine ⟨hvs, ?_⟩
      have key : ∀ (d f k : Nat) (m x : Int32) (μ1 : tc_Mem), k + d = 6 → d < f → tc_FM μ μ1 → tc_RM μ1 (tc_kn Y s x) Y.2.2.2 (-1) → tc_wp (tc_f7_tells_78 N f (nI r) (nI s) (Y.2.2.1.1 s) m (nI k) μ1) (fun r' μ' => r' = tc_tm (fun k => tc_ob s it z 0 (tc_kn Y s (nI k))) d k m ∧ tc_FM μ μ' ∧ tc_RM μ' Y Y.2.2.2 (-1)) := by
        intro d
        have wr : ∀ (x v : Int32) (μ1 : tc_Mem), tc_RM μ1 (tc_kn Y s x) Y.2.2.2 (-1) → tc_RM (tc_wr μ1 51 s v) (tc_kn Y s v) Y.2.2.2 (-1) := by
          intro x v μ1 hR
          refine hR.ar (k := 51) (i := s) (v := v) (A := (upd Y.2.2.1.1 s v, Y.2.2.1.2)) (by omega) (fun j hj => ⟨?_, ?_, ?_, ?_, rfl⟩)
          · show (if 51 = 51 ∧ j = s then v else upd Y.2.2.1.1 s x j) = upd Y.2.2.1.1 s v j
            by_cases c : j = s
            · rw [if_pos ⟨rfl, c⟩]; simp [upd, c]
            · rw [if_neg (fun q => c q.2)]; simp [upd, c]
          · rw [if_neg (by omega)]; rfl
          · rw [if_neg (by omega)]; rfl
          · rw [if_neg (by omega)]; rfl
        induction d with
        | zero =>
          intro f k m x μ1 hd hf hF hR
          obtain ⟨f, rfl⟩ : ∃ f', f = f' + 1 := ⟨f - 1, by omega⟩
          rw [tc_f7_tells_78]; dsimp only
          rw [if_pos (by rw [tc_Lle (k := 6) (by omega) (by decide)]; omega)]
          unfold tc_f7_tells_121
          rw [tc_wp_ck, tc_cl (by omega), tc_wp_lt, tc_wp_some]
          have := wr x (Y.2.2.1.1 s) μ1 hR
          rw [tc_kn_self] at this
          exact ⟨hvs, rfl, hF.wr (by decide), this⟩
        | succ d ih =>
          intro f k m x μ1 hd hf hF hR
          obtain ⟨f, rfl⟩ : ∃ f', f = f' + 1 := ⟨f - 1, by omega⟩
          rw [tc_f7_tells_78]; dsimp only
          rw [if_neg (by rw [tc_Lle (k := 6) (by omega) (by decide)]; omega), tc_wp_ck, tc_cl (by omega), tc_wp_lt, tc_wp_bd]
          have hR2 := wr x (nI k) μ1 hR
          have hF2 : tc_FM μ (tc_wr μ1 51 s (nI k)) := hF.wr (by decide)
          have ho := tc_r_other (N := N) hN hr hz (hB.fm hF2) hR2 (g.kn (by omega)).1 (s := s) hs
          refine ⟨hvs, tc_wp_mono ho (fun r' μ2 hh => ?_)⟩
          obtain ⟨rfl, hF3, hR3⟩ := hh
          unfold tc_f7_tells_112
          rw [tc_wp_if, tc_wp_lt, tc_wp_lt, tc_tm, tc_ad1, Int32.or_zero]
          rcases tc_ob_v s it z 0 (tc_kn Y s (nI k)) (by omega) with c | ⟨c, c2⟩
          · rw [if_neg (by rw [c]; decide), if_pos c]
            exact ih f (k + 1) _ _ μ2 (by omega) (by omega) (hF2.trans hF3) hR3
          · rw [if_pos c2, if_neg c]
            exact ih f (k + 1) _ _ μ2 (by omega) (by omega) (hF2.trans hF3) hR3
      have := key 6 N 0 0 (Y.2.2.1.1 s) μ (by omega) (by omega) tc_FM.rf (by rw [tc_kn_self]; exact h)
      exact this
theorem tz_s26 (hN : 300 ≤ N) : tc_S26 N tc_Inv := fun a1 a2 a3 μ h => by
  obtain ⟨Y, g, hY, hO⟩ := h.g
  rcases Bool.eq_false_or_eq_true (tc_wi a1 0 3) with c1 | c1
  case inr => exact tc_mk0 h (r0 := -2) (tc_wp_of (by unfold tc_f6_tells; simp [tc_wp_bd, tc_v3_has, tc_wp_some, c1, tc_bI])) (tc_wp_of (by unfold tc_f7_tells; simp [tc_wp_bd, tc_v7_isSheet, tc_wp_some, c1, tc_bI]))
  rcases tc_sec (N := N) g.1 a2 with ⟨s, hs, rfl⟩ | ⟨b1, b2⟩
  case inr => exact tc_mk0 h (r0 := -2) (tc_wp_of (by unfold tc_f6_tells; simp [tc_wp_bd, tc_v3_has, tc_wp_some, c1, tc_bI, b1 μ 1 hY.2.2.1])) (tc_wp_of (by unfold tc_f7_tells; simp [tc_wp_bd, tc_v7_isSheet, tc_wp_some, c1, tc_bI, b2 μ _ _ hY.2.2.2]))
  rcases Bool.eq_false_or_eq_true (tc_wi a3 0 1) with c3 | c3
  case inr => exact tc_mk0 h (r0 := -2) (tc_wp_of (by unfold tc_f6_tells; simp [tc_wp_bd, tc_v3_has, tc_wp_some, c1, tc_bI, tc_sec5 hY.2.2.1 g.1 hs, tc_v6_isWithin, c3])) (tc_wp_of (by unfold tc_f7_tells; simp [tc_wp_bd, tc_v7_isSheet, tc_wp_some, c1, tc_bI, tc_sec7 hY.2.2.2 g.1 hs, tc_v7_in, c3]))
  obtain ⟨r, -, hr, rfl⟩ := tc_wi_nI (a := 0) (b := 3) (by decide) (by decide) c1
  have hvr : vp_in (nI r) 4 := (tc_vin (by omega) (by decide)).mpr (by omega)
  rcases hO.2.2.1.ab (r := r) (by omega) with ⟨m1, m2⟩ | ⟨so, z, it, hso, hz, hA, hB⟩
  · refine tc_mk0 h (r0 := -11) (tc_wp_of ?_) (tc_wp_of ?_)
    · unfold tc_f6_tells
      rw [tc_wp_bd, tc_v3_has, tc_wp_some, c1, if_neg (by decide), tc_wp_bd, tc_sec5 hY.2.2.1 g.1 hs, tc_wp_some, if_neg (by decide), tc_wp_bd, tc_v6_isWithin, tc_wp_some, c3, if_neg (by decide), tc_wp_bd, tc_v3_miss (by omega), tc_wp_some, m1, if_pos rfl, if_neg (by decide), tc_wp_some]
      exact ⟨rfl, rfl⟩
    · unfold tc_f7_tells
      rw [tc_wp_bd, tc_v7_isSheet, tc_wp_some, c1, if_neg (by decide), tc_wp_bd, tc_sec7 hY.2.2.2 g.1 hs, tc_wp_some, if_neg (by decide), tc_wp_bd, tc_v7_in, tc_wp_some, c3, if_neg (by decide), tc_wp_ck, tc_cl (show r < 2 ^ 31 by omega), m2, if_neg (by decide), tc_wp_some]
      exact ⟨hvr, rfl, rfl⟩
  · exact (tc_k_tells hN g (by omega) hs hso hz c3).step hO hY hA (fun μ1 f => hB.fd f)
theorem tz_s16 (hN : 300 ≤ N) : tc_S16 N tc_Inv := fun a1 a2 μ h => by obtain ⟨Y, g, hY, hO⟩ := h.g; exact (tc_k_run hN g.1).step hO hY
theorem tz_s17 (hN : 300 ≤ N) : tc_S17 N tc_Inv := fun a1 μ h => by obtain ⟨Y, g, hY, hO⟩ := h.g; exact (tc_k_clears hN g.1).step hO hY
theorem tz_s18 (hN : 300 ≤ N) : tc_S18 N tc_Inv := fun a1 μ h => by obtain ⟨Y, g, hY, hO⟩ := h.g; exact (tc_k_order hN g.1).step hO hY
theorem tz_s19 (hN : 300 ≤ N) : tc_S19 N tc_Inv := fun a1 μ h => by obtain ⟨Y, g, hY, hO⟩ := h.g; exact (tc_k_seen hN g).step hO hY
theorem tz_s20 (hN : 300 ≤ N) : tc_S20 N tc_Inv := fun a1 μ h => by obtain ⟨Y, g, hY, hO⟩ := h.g; exact (tc_k_bound hN g).step hO hY
theorem tz_s21 (hN : 300 ≤ N) : tc_S21 N tc_Inv := fun a1 μ h => by obtain ⟨Y, g, hY, hO⟩ := h.g; exact (tc_k_proof hN g).step hO hY
theorem tz_s22 (hN : 300 ≤ N) : tc_S22 N tc_Inv := fun a1 μ h => by obtain ⟨Y, g, hY, hO⟩ := h.g; exact (tc_k_pick hN g).step hO hY
theorem tz_s23 (hN : 300 ≤ N) : tc_S23 N tc_Inv := fun μ h => by obtain ⟨Y, g, hY, hO⟩ := h.g; exact (tc_k_fix hN g).step hO hY
theorem tz_s24 (hN : 300 ≤ N) : tc_S24 N tc_Inv := fun a1 a2 μ h => by obtain ⟨Y, g, hY, hO⟩ := h.g; exact (tc_k_drawn hN g).step hO hY
theorem tz_s25 (hN : 300 ≤ N) : tc_S25 N tc_Inv := fun a1 a2 a3 a4 a5 μ h => by obtain ⟨Y, g, hY, hO⟩ := h.g; exact (tc_k_chance hN g).step hO hY
end T9
