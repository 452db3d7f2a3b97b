/-! sections from a sheet -/
section H5
variable {N : Nat} {Y Z : tc_Y} {x1 x2 x3 x4 x5 x6 : Int32} {μ μ0 μ1 μ2 : tc_Mem}
theorem tz_A.fc {r : Nat} {so : Int32} {z : Nat} {it : Nat → Int32} (h : tz_A μ r so z it) (hf : tc_FC μ μ1) : tz_A μ1 r so z it := by
  unfold tz_A
  rw [hf 47 (by omega), hf 48 (by omega), hf 49 (by omega)]; exact h
theorem tz_B.fc {r : Nat} {so : Int32} {z : Nat} {it : Nat → Int32} (h : tz_B μ r so z it) (hf : tc_FC μ μ1) : tz_B μ1 r so z it := by
  unfold tz_B
  rw [hf 64 (by omega), hf 65 (by omega), hf 66 (by omega)]; exact h
theorem tc_FC.trans (h : tc_FC μ μ1) (h2 : tc_FC μ1 μ2) : tc_FC μ μ2 := fun k hk => (h2 k hk).trans (h k hk)
def tz_JJ (o1 o2 : tc_Mem → Option (Int32 × tc_Mem)) (Y : tc_Y) (A B : tc_Mem → Prop) : Prop := ∃ (r : Int32) (Y' : tc_Y), tc_G6 Y' ∧ (∀ μ, A μ → tc_RC μ 1 Y → tc_wp (o1 μ) (fun r' μ1 => r' = r ∧ tc_FC μ μ1 ∧ tc_RC μ1 1 Y')) ∧ ∀ μ, B μ → tc_RM μ Y Y.2.2.2 (-1) → tc_wp (o2 μ) (fun r' μ2 => r' = r ∧ tc_FM μ μ2 ∧ tc_RM μ2 Y' Y'.2.2.2 (-1))
theorem tz_JJ.step {o1 o2 : tc_Mem → Option (Int32 × tc_Mem)} {A B : tc_Mem → Prop} (h : tz_JJ o1 o2 Y A B) (hO : tc_IO μ) (hY : tc_IY μ Y) (hA : A μ) (hB : ∀ μ1, tc_FC μ μ1 → B μ1) : ∃ (r : Int32) (μ1 μ2 : tc_Mem), o1 μ = some (r, μ1) ∧ o2 μ1 = some (r, μ2) ∧ tc_Inv μ2 := by
  obtain ⟨r, Y', G, h1, h2⟩ := h
  refine tc_mk (tc_wp_mono (h1 μ hA hY.2.2.1) (fun r' μ1 hh => ?_))
  obtain ⟨rfl, f1, r1⟩ := hh
  refine tc_wp_mono (h2 μ1 (hB μ1 f1) (hY.2.2.2.fc f1)) (fun r2 μ2 hh => ?_)
  obtain ⟨rfl, f2, r2⟩ := hh
  exact ⟨rfl, ⟨Y', G.1, G.2, r1.fm f2, r2⟩, hO.frame (f1.o.trans f2.o)⟩
theorem tz_64 (a : Int32) {k : Nat} (hk : k ≤ 8) : (a.toInt64 + (4 : Int64) * (nI k).toInt64).toInt = a.toInt + 4 * k := by
  have e1 : (4 : Int64) * (nI k).toInt64 = (nI (4 * k)).toInt64 := by
    have : ∀ k, k < 9 → (4 : Int64) * (nI k).toInt64 = (nI (4 * k)).toInt64 := by decide +kernel
    exact this k (by omega)
  rw [e1, lg_i2l_add, nI_toInt (by omega)]
  omega
theorem tz_64b (x : Int64) {c : Nat} (hc : c ≤ 4) (h1 : -2 ^ 40 ≤ x.toInt) (h2 : x.toInt ≤ 2 ^ 40) : (x + Int64.ofNat c).toInt = x.toInt + c := by
  rw [Int64.toInt_add, lg_ofNat_toInt (by omega)]
  apply Int.bmod_eq_of_le
  · omega
  · omega
theorem tz_load (hN : 300 ≤ N) {r z n : Nat} {so a3 : Int32} {it : Nat → Int32} (hr : r < 4) (hz : z ≤ 40) (hn : n ≤ 8) : ∀ (d f k c : Nat) (Y : tc_Y), tc_G6 Y → k + d = n → c ≤ k → d < f → tz_JJ (tc_f6_load_68 N f (nI r) a3 (nI n) (nI c) (nI k)) (tc_f7_load_70 N f (nI r) a3 (nI n) (nI c) (nI k)) Y (fun μ => tz_A μ r so z it) (fun μ => tz_B μ r so z it) := by
  have hvr : vp_in (nI r) 4 := (tc_vin (by omega) (by decide)).mpr hr
  intro d
  induction d with
  | zero =>
    intro f k c Y g hk hc hf
    obtain ⟨f, rfl⟩ : ∃ f', f = f' + 1 := ⟨f - 1, by omega⟩
    refine ⟨nI c, Y, g, fun μ hA h => ?_, fun μ hB h => ?_⟩
    · rw [tc_f6_load_68]; dsimp only
      rw [if_pos (by rw [tc_le (by omega) (by omega)]; omega), tc_wp_some]
      exact ⟨rfl, tc_FC.rf, h⟩
    · rw [tc_f7_load_70]; dsimp only
      rw [if_pos (by rw [tc_le (by omega) (by omega)]; omega), tc_wp_some]
      exact ⟨rfl, tc_FM.rf, h⟩
  | succ d ih =>
    intro f k c Y g hk hc hf
    obtain ⟨f, rfl⟩ : ∃ f', f = f' + 1 := ⟨f - 1, by omega⟩
    have e := tz_64 a3 (k := k) (by omega)
    have ha : -2 ^ 31 ≤ a3.toInt ∧ a3.toInt < 2 ^ 31 := ⟨Int32.le_toInt a3, Int32.toInt_lt a3⟩
    have e4 : (a3.toInt64 + (4 : Int64) * (nI k).toInt64 + 4).toInt = (a3.toInt64 + (4 : Int64) * (nI k).toInt64).toInt + (4 : Int64).toInt := by
      have := tz_64b (a3.toInt64 + (4 : Int64) * (nI k).toInt64) (c := 4) (by decide) (by rw [e]; omega) (by rw [e]; omega)
      exact this
    have e3 : (a3.toInt64 + (4 : Int64) * (nI k).toInt64 + 3).toInt = a3.toInt + 4 * k + 3 := by
      have := tz_64b (a3.toInt64 + (4 : Int64) * (nI k).toInt64) (c := 3) (by decide) (by rw [e]; omega) (by rw [e]; omega)
      rw [e] at this
      exact this
    have i4 : (4 : Int64).toInt = 4 := by decide
    have i0 : (0 : Int64).toInt = 0 := by decide
    have ez : (nI z).toInt64.toInt = z := by rw [Int32.toInt_toInt64, nI_toInt (by omega)]
    have hl : ∀ μ, tz_A μ r so z it → tc_f3_holds N (nI r) (a3.toInt64 + (4 : Int64) * (nI k).toInt64) 4 μ = some (tc_bI (decide (0 ≤ a3.toInt + 4 * k ∧ 0 ≤ (4 : Int) ∧ a3.toInt + 4 * k + 4 ≤ z)), μ) := by
      intro μ hA
      have := tc_v3_holds (N := N) hr hA.2.1 hz e4
      rw [e, i4] at this
      exact this
    by_cases C : 0 ≤ a3.toInt + 4 * k ∧ 0 ≤ (4 : Int) ∧ a3.toInt + 4 * k + 4 ≤ z
    case neg =>
      refine ⟨-12, Y, g, fun μ hA h => ?_, fun μ hB h => ?_⟩
      · rw [tc_f6_load_68]; dsimp only
        rw [if_neg (by rw [tc_le (by omega) (by omega)]; omega), tc_wp_bd, hl μ hA, tc_wp_some, decide_eq_false C, if_pos (show tc_bI false = 0 from rfl), tc_wp_some]
        exact ⟨rfl, tc_FC.rf, h⟩
      · rw [tc_f7_load_70]; dsimp only
        rw [if_neg (by rw [tc_le (by omega) (by omega)]; omega), tc_wp_if]
        by_cases q1 : lg_cmp (a3.toInt64 + (4 : Int64) * (nI k).toInt64) 0 < 0
        · rw [if_pos q1, tc_wp_some]; exact ⟨rfl, tc_FM.rf, h⟩
        · rw [if_neg q1, tc_wp_ck, tc_cl (by omega), hB.2.1, if_neg ?_, tc_wp_some]
          · exact ⟨hvr, rfl, tc_FM.rf, h⟩
          · rw [lg_cmp_lt, Int64.lt_iff_toInt_lt, e, i0] at q1
            rw [lg_cmp_lt, Int64.lt_iff_toInt_lt, e3, ez]
            omega
    obtain ⟨C1, -, C2⟩ := C
    obtain ⟨p, hp⟩ : ∃ p : Nat, a3.toInt + 4 * k = p := ⟨(a3.toInt + 4 * k).toNat, by omega⟩
    have hpz : p + 4 ≤ z := by omega
    have ea : a3 + 4 * nI k = nI p := by
      apply Int32.toInt_inj.mp
      rw [nI_toInt (by omega), show (4 : Int32) * nI k = nI (4 * k) from pk_mul 4 k, Int32.toInt_add, nI_toInt (by omega), ← hp]
      rw [Int.bmod_eq_of_le (by omega) (by omega)]
      omega
    have eb : (a3.toInt64 + (4 : Int64) * (nI k).toInt64).toInt32 = nI p := by
      apply Int32.toInt_inj.mp
      rw [Int64.toInt_toInt32, e, hp, nI_toInt (by omega)]
      rw [Int.bmod_eq_of_le (by omega) (by omega)]
    have ec : (40 : Int32) * nI r + nI p = nI (40 * r + p) := tz_ix2
    have a1 : nI p + 1 = nI (p + 1) := tc_ad1 p
    have a2 : nI p + 2 = nI (p + 2) := nI_add p 2
    have a3' : nI p + 3 = nI (p + 3) := nI_add p 3
    have b1 : nI (40 * r + p) + 1 = nI (40 * r + p + 1) := tc_ad1 _
    have b2 : nI (40 * r + p) + 2 = nI (40 * r + p + 2) := nI_add _ 2
    have b3 : nI (40 * r + p) + 3 = nI (40 * r + p + 3) := nI_add _ 3
    obtain ⟨r1, Y1, G1, j1, j2⟩ := tc_J_section (N := N) (x1 := it p) (x2 := it (p + 1)) (x3 := it (p + 2)) (x4 := it (p + 3)) g
    obtain ⟨r2, Y2, G2, k1, k2⟩ := ih f (k + 1) (if r1 < 0 then c else c + 1) Y1 G1 (by omega) (by split <;> omega) (by omega)
    refine ⟨r2, Y2, G2, fun μ hA h => ?_, fun μ hB h => ?_⟩
    · rw [tc_f6_load_68]; dsimp only
      rw [if_neg (by rw [tc_le (by omega) (by omega)]; omega), tc_wp_bd, hl μ hA, tc_wp_some, decide_eq_true ⟨C1, by decide, C2⟩, if_neg (by decide), tc_wp_lt, ea, a1, a2, a3', tc_wp_bd, tc_v3_item hr (by omega), tc_wp_some, tc_wp_bd, tc_v3_item hr (by omega), tc_wp_some, tc_wp_bd, tc_v3_item hr (by omega), tc_wp_some, tc_wp_bd, tc_v3_item hr (by omega), tc_wp_some, hA.2.2 p (by omega), hA.2.2 (p + 1) (by omega), hA.2.2 (p + 2) (by omega), hA.2.2 (p + 3) (by omega), tc_wp_bd]
      refine tc_wp_mono (j1 μ h) (fun r' μ1 hh => ?_)
      obtain ⟨rfl, f1, h1⟩ := hh
      have := k1 μ1 (hA.fc f1) h1
      rw [tc_ad1, tc_ad1, tc_wp_if]
      by_cases q : r' < 0
      · rw [if_pos q] at this ⊢
        exact tc_wp_mono this (fun r3 μ3 h3 => ⟨h3.1, f1.trans h3.2.1, h3.2.2⟩)
      · rw [if_neg q] at this ⊢
        exact tc_wp_mono this (fun r3 μ3 h3 => ⟨h3.1, f1.trans h3.2.1, h3.2.2⟩)
    · rw [tc_f7_load_70]; dsimp only
      have q1 : ¬ lg_cmp (a3.toInt64 + (4 : Int64) * (nI k).toInt64) 0 < 0 := by rw [lg_cmp_lt, Int64.lt_iff_toInt_lt, e, i0]; omega
      have q2 : lg_cmp (a3.toInt64 + (4 : Int64) * (nI k).toInt64 + 3) (nI z).toInt64 < 0 := by rw [lg_cmp_lt, Int64.lt_iff_toInt_lt, e3, ez]; omega
      have u0 : μ 66 (40 * r + p) = it p := hB.2.2 p (by omega)
      have u1 : μ 66 (40 * r + p + 1) = it (p + 1) := hB.2.2 (p + 1) (by omega)
      have u2 : μ 66 (40 * r + p + 2) = it (p + 2) := hB.2.2 (p + 2) (by omega)
      have u3 : μ 66 (40 * r + p + 3) = it (p + 3) := hB.2.2 (p + 3) (by omega)
      rw [if_neg (by rw [tc_le (by omega) (by omega)]; omega), if_neg q1, tc_wp_ck, tc_cl (show r < 2 ^ 31 by omega), hB.2.1, if_pos q2, tc_wp_lt, eb, ec, b1, b2, b3, tc_wp_ck, tc_wp_ck, tc_wp_ck, tc_wp_ck, tc_cl (show 40 * r + p < 2 ^ 31 by omega), tc_cl (show 40 * r + p + 1 < 2 ^ 31 by omega), tc_cl (show 40 * r + p + 2 < 2 ^ 31 by omega), tc_cl (show 40 * r + p + 3 < 2 ^ 31 by omega), u0, u1, u2, u3, tc_wp_bd]
      refine ⟨hvr, (tc_vin (by omega) (by decide)).mpr (by omega), (tc_vin (by omega) (by decide)).mpr (by omega), (tc_vin (by omega) (by decide)).mpr (by omega), (tc_vin (by omega) (by decide)).mpr (by omega), tc_wp_mono (j2 μ h) (fun r' μ1 hh => ?_)⟩
      obtain ⟨rfl, f1, h1⟩ := hh
      have := k2 μ1 (hB.fm f1) h1
      have z0 : nI c + 0 = nI c := by show nI c + nI 0 = _; rw [nI_add]; rfl
      unfold tc_f7_load_174
      rw [tc_wp_if, tc_wp_lt, tc_wp_lt, z0, tc_ad1, tc_ad1]
      by_cases q : r' < 0
      · rw [if_pos q] at this ⊢
        exact tc_wp_mono this (fun r3 μ3 h3 => ⟨h3.1, f1.trans h3.2.1, h3.2.2⟩)
      · rw [if_neg q] at this ⊢
        exact tc_wp_mono this (fun r3 μ3 h3 => ⟨h3.1, f1.trans h3.2.1, h3.2.2⟩)
theorem tz_s32 (hN : 300 ≤ N) : tc_S32 N tc_Inv := fun a1 a2 a3 a4 μ h => by
  obtain ⟨Y, g, hY, hO⟩ := h.g
  have hsort : tc_f6_isSort N a2 μ = some (tc_bI (tc_wi a2 0 1), μ) := by
    apply tc_wp_of
    unfold tc_f6_isSort
    rw [tc_wp_bd, tc_v6_isWithin, tc_wp_some, tc_wp_zr]
    exact ⟨tc_bI_01 _, rfl, rfl⟩
  rcases Bool.eq_false_or_eq_true (tc_wi a1 0 3) with c1 | c1
  case inr => exact tc_mk0 h (r0 := -2) (tc_wp_of (by unfold tc_f6_load; simp [tc_wp_bd, tc_v3_has, tc_wp_some, c1, tc_bI])) (tc_wp_of (by unfold tc_f7_load; simp [tc_wp_bd, tc_v7_isSheet, tc_wp_some, c1, tc_bI]))
  rcases Bool.eq_false_or_eq_true (tc_wi a2 0 1) with c2 | c2
  case inr => exact tc_mk0 h (r0 := -2) (tc_wp_of (by unfold tc_f6_load; simp [tc_wp_bd, tc_v3_has, tc_wp_some, c1, hsort, c2, tc_bI])) (tc_wp_of (by unfold tc_f7_load; simp [tc_wp_bd, tc_v7_isSheet, tc_wp_some, c1, tc_v7_in, c2, tc_bI]))
  rcases Bool.eq_false_or_eq_true (tc_wi a4 0 8) with c4 | c4
  case inr => exact tc_mk0 h (r0 := -2) (tc_wp_of (by unfold tc_f6_load; simp [tc_wp_bd, tc_v3_has, tc_wp_some, c1, hsort, c2, tc_v6_isWithin, c4, tc_bI])) (tc_wp_of (by unfold tc_f7_load; simp [tc_wp_bd, tc_v7_isSheet, tc_wp_some, c1, tc_v7_in, c2, c4, tc_bI]))
  obtain ⟨r, -, hr3, rfl⟩ := tc_wi_nI (a := 0) (b := 3) (by decide) (by decide) c1
  obtain ⟨n, -, hn, rfl⟩ := tc_wi_nI (a := 0) (b := 8) (by decide) (by decide) c4
  have hr : r < 4 := by omega
  have hvr : vp_in (nI r) 4 := (tc_vin (by omega) (by decide)).mpr hr
  rcases hO.2.2.1.ab (r := r) hr with ⟨m1, m2⟩ | ⟨so, z, it, hso, hz, hA, hB⟩
  · refine tc_mk0 h (r0 := -11) (tc_wp_of ?_) (tc_wp_of ?_)
    · unfold tc_f6_load
      rw [tc_wp_bd, tc_v3_has, tc_wp_some, c1, if_neg (by decide), tc_wp_bd, hsort, tc_wp_some, c2, if_neg (by decide), tc_wp_bd, tc_v6_isWithin, tc_wp_some, c4, if_neg (by decide), tc_wp_bd, tc_v3_miss hr, tc_wp_some, m1, if_pos rfl, if_neg (by decide), tc_wp_some]
      exact ⟨rfl, rfl⟩
    · unfold tc_f7_load tc_f7_load_52
      rw [tc_wp_bd, tc_v7_isSheet, tc_wp_some, c1, if_neg (by decide), tc_wp_bd, tc_v7_in, tc_wp_some, c2, if_neg (by decide), tc_wp_bd, tc_v7_in, tc_wp_some, c4, if_neg (by decide), tc_wp_ck, tc_cl (show r < 2 ^ 31 by omega), m2, if_pos (by decide), tc_wp_ck, if_neg (by decide), tc_wp_some]
      exact ⟨hvr, hvr, rfl, rfl⟩
  have hn1 : ¬ so = -1 := by rcases hso with rfl | rfl <;> decide
  have h01 : (0 : Int32) ≤ so := by rcases hso with rfl | rfl <;> decide
  have h10 : ¬ so < 0 := by rcases hso with rfl | rfl <;> decide
  by_cases cs : so = a2
  case neg =>
    refine tc_mk0 h (r0 := -13) (tc_wp_of ?_) (tc_wp_of ?_)
    · unfold tc_f6_load
      rw [tc_wp_bd, tc_v3_has, tc_wp_some, c1, if_neg (by decide), tc_wp_bd, hsort, tc_wp_some, c2, if_neg (by decide), tc_wp_bd, tc_v6_isWithin, tc_wp_some, c4, if_neg (by decide), tc_wp_bd, tc_v3_miss hr, tc_wp_some, hA.1, if_neg hn1, if_pos rfl, tc_wp_ck, tc_cl (show r < 2 ^ 31 by omega), hA.1, if_neg cs, tc_wp_some]
      exact ⟨hvr, rfl, rfl⟩
    · unfold tc_f7_load
      rw [tc_wp_bd, tc_v7_isSheet, tc_wp_some, c1, if_neg (by decide), tc_wp_bd, tc_v7_in, tc_wp_some, c2, if_neg (by decide), tc_wp_bd, tc_v7_in, tc_wp_some, c4, if_neg (by decide), tc_wp_ck, tc_cl (show r < 2 ^ 31 by omega), hB.1, if_neg h10, tc_wp_ck, if_neg cs, tc_wp_some]
      exact ⟨hvr, hvr, rfl, rfl⟩
  have J : tz_JJ (tc_f6_load_68 N N (nI r) a3 (nI n) 0 0) (tc_f7_load_70 N N (nI r) a3 (nI n) 0 0) Y (fun μ => tz_A μ r so z it) (fun μ => tz_B μ r so z it) := tz_load hN hr hz hn n N 0 0 Y g (by omega) (by omega) (by omega)
  obtain ⟨q, μ1, μ2, h1, h2, h3⟩ := J.step hO hY hA (fun μ1 f => hB.fc f)
  refine ⟨q, μ1, μ2, ?_, ?_, h3⟩
  · have : tc_wp (tc_f6_load N (nI r) a2 a3 (nI n) μ) (fun r' μ' => r' = q ∧ μ' = μ1) := by
      unfold tc_f6_load
      rw [tc_wp_bd, tc_v3_has, tc_wp_some, c1, if_neg (by decide), tc_wp_bd, hsort, tc_wp_some, c2, if_neg (by decide), tc_wp_bd, tc_v6_isWithin, tc_wp_some, c4, if_neg (by decide), tc_wp_bd, tc_v3_miss hr, tc_wp_some, hA.1, if_neg hn1, if_pos rfl, tc_wp_ck, tc_cl (show r < 2 ^ 31 by omega), hA.1, if_pos cs, h1, tc_wp_some]
      exact ⟨hvr, rfl, rfl⟩
    exact tc_wp_of this
  · have hB1 : μ1 64 r = so := by
      have f := h1
      have : ∃ r' μ', tc_f6_load_68 N N (nI r) a3 (nI n) 0 0 μ = some (r', μ') ∧ tc_FC μ μ' := by
        obtain ⟨_, _, _, j1, _⟩ := J
        obtain ⟨r', μ', e, _, f, _⟩ := j1 μ hA hY.2.2.1
        exact ⟨r', μ', e, f⟩
      obtain ⟨r', μ', e, f'⟩ := this
      rw [h1] at e
      cases e
      exact (hB.fc f').1
    have : tc_wp (tc_f7_load N (nI r) a2 a3 (nI n) μ1) (fun r' μ' => r' = q ∧ μ' = μ2) := by
      unfold tc_f7_load tc_f7_load_52
      rw [tc_wp_bd, tc_v7_isSheet, tc_wp_some, c1, if_neg (by decide), tc_wp_bd, tc_v7_in, tc_wp_some, c2, if_neg (by decide), tc_wp_bd, tc_v7_in, tc_wp_some, c4, if_neg (by decide), tc_wp_ck, tc_cl (show r < 2 ^ 31 by omega), hB1, if_neg h10, tc_wp_ck, if_pos cs, tc_wp_ck, if_pos h01, h2, tc_wp_some]
      exact ⟨hvr, hvr, hvr, rfl, rfl⟩
    exact tc_wp_of this
end H5
