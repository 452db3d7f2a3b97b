section T4
variable {N : Nat} {Y Z W R : tc_Y} {x1 x2 x3 x4 : Int32} {μ μ0 : tc_Mem}
theorem tc_r_fails (hN : 300 ≤ N) (h : tc_RM μ Y Y.2.2.2 (-1)) (g : tc_G6 Y) {f t : Nat} (hf : f ≤ 4 * Y.1.1) (ht : t ≤ Y.1.1) : tc_wp (tc_f7_fails N (nI f) (nI t) μ) (fun r μ' => r = tc_bI (tc_fa (tc_cw Y f) t) ∧ tc_FM μ μ' ∧ tc_RM μ' Y Y.2.2.2 (-1)) := by
  have g1 := g.1.1
  have g6 := g.2
  have gW := tc_Gd.cw g (f := f) hf
  have hW : (tc_cw Y f).1 = Y.1 := tc_cw_1
  unfold tc_f7_fails
  rw [tc_wp_bd]
  refine tc_wp_mono (tc_r_keeps hN h tc_FM.rf g.1) (fun _ μ1 hC => ?_)
  have last : ∀ μ3, tc_RT μ μ3 Y (tc_fz (tc_cw Y f) t) (tc_cw Y f).2.2.2 Y.2.2.2 (-1) → tc_wp (tc_f7_fails_35 N μ3) (fun r μ' => r = tc_bI (tc_fa (tc_cw Y f) t) ∧ tc_FM μ μ' ∧ tc_RM μ' Y Y.2.2.2 (-1)) := by
    intro μ3 hT
    have gZ := gW.fz (t := t) (by rw [hW]; exact ht)
    unfold tc_f7_fails_35
    rw [tc_wp_bd]
    have hs2 := tc_r_goes hN hT gZ false
    refine tc_wp_mono hs2 (fun r μ4 hh => ?_)
    have fin : ∀ (b : Bool) (Z : tc_Y) (fz : tc_Fl), tc_RT μ μ4 Y Z fz Y.2.2.2 (-1) → tc_wp (tc_f7_fails_56 N (tc_bI b) μ4) (fun r' μ2 => r' = tc_bI b ∧ tc_FM μ μ2 ∧ tc_RM μ2 Y Y.2.2.2 (-1)) := by
      intro b Z fz hC
      unfold tc_f7_fails_56
      rw [tc_wp_bd]
      refine tc_wp_mono (tc_r_back hN hC g.1) (fun _ μ2 hh => ?_)
      rw [tc_wp_zr]; exact ⟨tc_bI_01 b, rfl, hh⟩
    unfold tc_f7_fails_51 tc_fa
    cases hm : tc_mo (tc_fz (tc_cw Y f) t) false with
    | none =>
      rw [hm] at hh
      obtain ⟨rfl, hT2⟩ := hh
      rw [if_pos (by decide)]
      exact fin true _ _ hT2
    | some p =>
      obtain ⟨u, ch⟩ := p
      rw [hm] at hh
      obtain ⟨rfl, hT2, hu, hl⟩ := hh
      have g2 := gZ.af hu
      have b1 : tc_f7_bitsOf N 1 μ4 = _ := tc_r_bits hN hT2 g2 (v := 1) (by decide)
      rw [tc_bm_un] at b1
      rw [if_neg (tc_nn (by omega)), tc_wp_bd, b1, tc_wp_some, tc_wp_if]
      have e : tc_un (tc_af (tc_fz (tc_cw Y f) t) u) = tc_un (tc_up (tc_fz (tc_cw Y f) t) u) := rfl
      by_cases c : tc_un (tc_up (tc_fz (tc_cw Y f) t) u) = 0
      · rw [if_pos ((tc_un_0 g2).mpr c)]
        refine tc_wp_mono (fin false _ _ hT2) (fun r' μ4 hh => ⟨?_, hh.2⟩)
        rw [hh.1]; simp [c]
      · rw [if_neg (fun q => c ((tc_un_0 g2).mp q))]
        refine tc_wp_mono (fin true _ _ hT2) (fun r' μ4 hh => ⟨?_, hh.2⟩)
        rw [hh.1]; simp [c]
  have mid : ∀ μ2, tc_RT μ μ2 Y (tc_cw Y f) (tc_cw Y f).2.2.2 Y.2.2.2 (-1) → tc_wp (tc_f7_fails_22 N (nI t) μ2) (fun r μ' => r = tc_bI (tc_fa (tc_cw Y f) t) ∧ tc_FM μ μ' ∧ tc_RM μ' Y Y.2.2.2 (-1)) := by
    intro μ2 hT
    unfold tc_f7_fails_22
    rw [tc_wp_if]
    by_cases c : t = 0
    · rw [if_pos (by rw [tc_leL (k := 0) (by omega) (by decide)]; omega)]
      refine last μ2 ?_
      unfold tc_fz
      rw [if_pos c]; exact hT
    · rw [if_neg (by rw [tc_leL (k := 0) (by omega) (by decide)]; omega), tc_sb1 (by omega), tc_wp_ck, tc_cl (by omega), tc_wp_lt]
      refine ⟨(tc_vin (by omega) (by decide)).mpr (by omega), last _ ?_⟩
      unfold tc_fz
      rw [if_neg c]
      obtain ⟨q1, q2, q3, q4, q5, q6⟩ := hT
      refine ⟨q1.wr (by omega), q2.tr (fun j _ => by rw [tc_wr_k (by decide)]) (fun k _ _ hk => tc_wr_k hk) (fun r hr => ?_), q3.frame (by rw [tc_wr_k (by decide)]) (fun k q1 q2 => tc_wr_k (by omega)), q4, q5, q6⟩
      have hr' : r < Y.1.1 := by rw [hW] at hr; exact hr
      rw [tc_wr_at, tc_set_bit _ gW.t _ (by omega) _ (by omega)]
      by_cases c2 : r = t - 1
      · rw [if_pos ⟨rfl, c2⟩]; simp [c2]; rfl
      · rw [if_neg (fun z => c2 z.2), (q2.2.1 r hr).2.2]; simp [c2]
  rw [tc_wp_if]
  by_cases c : f = 0
  · rw [if_pos (by rw [tc_leL (k := 0) (by omega) (by decide)]; omega)]
    refine mid μ1 ?_
    unfold tc_cw
    rw [if_pos c]; exact hC
  · have e4 : (nI f - 1) - (nI f - 1) / 4 * 4 = nI ((f - 1) % 4) := by
      rw [tc_sb1 (by omega)]; exact pk_rem (d := 4) (by omega) (by decide) (by decide)
    have e5 : (nI f - 1) / 4 = nI ((f - 1) / 4) := by
      rw [tc_sb1 (by omega)]; exact pk_div (d := 4) (by omega) (by decide) (by decide)
    rw [if_neg (by rw [tc_leL (k := 0) (by omega) (by decide)]; omega), tc_wp_bd, e4, e5]
    refine tc_wp_mono (tc_t7_addFault hC.2 g.1 (Nat.mod_lt _ (by decide)) (show (f - 1) / 4 < Y.1.1 by omega)) (fun _ μ2 hh => ?_)
    refine mid μ2 ?_
    unfold tc_cw
    rw [if_neg c]; exact ⟨hC.1.trans hh.1, hh.2⟩
theorem tc_all_lt {n : Nat} (hn : n ≤ 8) : (4 * n + 1) * (n + 1) ≤ 297 := Nat.le_trans (Nat.mul_le_mul (show 4 * n + 1 ≤ 33 by omega) (show n + 1 ≤ 9 by omega)) (by decide)
theorem tc_r_from (hN : 300 ≤ N) (h : tc_RM μ Y Y.2.2.2 (-1)) (g : tc_G6 Y) {c : Nat} (hc : c ≤ (4 * Y.1.1 + 1) * (Y.1.1 + 1)) : tc_wp (tc_f7_failsFrom N (nI c) μ) (fun r μ' => r = tc_av id (tc_sr (tc_pp Y) ((4 * Y.1.1 + 1) * (Y.1.1 + 1) - c) c) ∧ tc_FM μ μ' ∧ tc_RM μ' Y Y.2.2.2 (-1)) := by
  have g1 := g.1.1
  have hall := tc_all_lt g1
  unfold tc_f7_failsFrom
  rw [tc_wp_lt, h.1]
  have e : ((4 : Int32) * nI Y.1.1 + 1) * (nI Y.1.1 + 1) = nI ((4 * Y.1.1 + 1) * (Y.1.1 + 1)) := by
    show (nI 4 * nI Y.1.1 + nI 1) * (nI Y.1.1 + nI 1) = _
    rw [pk_mul, nI_add, nI_add, pk_mul]
  rw [e]
  have key : ∀ (d fu c : Nat) (μ1 : tc_Mem), c + d = (4 * Y.1.1 + 1) * (Y.1.1 + 1) → d < fu → tc_FM μ μ1 → tc_RM μ1 Y Y.2.2.2 (-1) → tc_wp (tc_f7_failsFrom_18 N fu (nI ((4 * Y.1.1 + 1) * (Y.1.1 + 1))) (nI c) μ1) (fun r μ' => r = tc_av id (tc_sr (tc_pp Y) d c) ∧ tc_FM μ μ' ∧ tc_RM μ' Y Y.2.2.2 (-1)) := by
    intro d
    induction d with
    | zero =>
      intro fu c μ1 hc hfu hF hR
      obtain ⟨fu, rfl⟩ : ∃ f', fu = f' + 1 := ⟨fu - 1, by omega⟩
      rw [tc_f7_failsFrom_18]; dsimp only
      rw [if_pos (by rw [tc_le (by omega) (by omega)]; omega), tc_wp_some]
      exact ⟨rfl, hF, hR⟩
    | succ d ih =>
      intro fu c μ1 hc hfu hF hR
      obtain ⟨fu, rfl⟩ : ∃ f', fu = f' + 1 := ⟨fu - 1, by omega⟩
      have hd : c / (Y.1.1 + 1) ≤ 4 * Y.1.1 := by
        have : c / (Y.1.1 + 1) < 4 * Y.1.1 + 1 := (Nat.div_lt_iff_lt_mul (by omega)).mpr (by omega)
        omega
      have hm : c % (Y.1.1 + 1) ≤ Y.1.1 := by
        have := Nat.mod_lt c (show 0 < Y.1.1 + 1 by omega)
        omega
      have e1 : nI c / nI (Y.1.1 + 1) = nI (c / (Y.1.1 + 1)) := pk_div (by omega) (by omega) (by omega)
      have e2 : nI c - nI c / nI (Y.1.1 + 1) * nI (Y.1.1 + 1) = nI (c % (Y.1.1 + 1)) := pk_rem (by omega) (by omega) (by omega)
      have hz : ¬ nI (Y.1.1 + 1) = 0 := by rw [tc_eqL (k := 0) (by omega) (by decide)]; omega
      rw [tc_f7_failsFrom_18]; dsimp only
      rw [if_neg (by rw [tc_le (by omega) (by omega)]; omega), hR.1, tc_ad1, e2, e1, tc_wp_nz, tc_wp_nz, tc_wp_bd]
      refine ⟨hz, hz, tc_wp_mono (tc_r_fails hN hR g hd hm) (fun r μ2 hh => ?_)⟩
      obtain ⟨rfl, hF2, hR2⟩ := hh
      rw [tc_wp_if, tc_sr]
      have hp : tc_pp Y c = tc_fa (tc_cw Y (c / (Y.1.1 + 1))) (c % (Y.1.1 + 1)) := rfl
      rw [hp]
      by_cases q : tc_fa (tc_cw Y (c / (Y.1.1 + 1))) (c % (Y.1.1 + 1)) = true
      · rw [if_neg (by rw [q]; decide), if_pos q, tc_wp_some]
        exact ⟨rfl, hF.trans hF2, hR2⟩
      · rw [if_pos (by rw [tc_bI_eq0]; simpa using q), if_neg q, tc_ad1]
        exact ih fu (c + 1) μ2 (by omega) (by omega) (hF.trans hF2) hR2
  exact key ((4 * Y.1.1 + 1) * (Y.1.1 + 1) - c) N c μ (by omega) (by omega) tc_FM.rf h
theorem tc_k_proof (hN : 300 ≤ N) (g : tc_G6 Y) : tc_T (tc_f6_proof N x1) (tc_f7_proof N x1) Y := by
  have g1 := g.1.1
  have hall := tc_all_lt g1
  rcases Bool.eq_false_or_eq_true (tc_wi x1 0 1) with c1 | c1
  case inr => exact tc_T.same (-2) (fun μ h => tc_wp_of (by unfold tc_f6_proof; simp [tc_wp_bd, tc_v6_isWithin, tc_wp_some, c1, tc_bI])) (fun μ h => tc_wp_of (by unfold tc_f7_proof; simp [tc_wp_bd, tc_v7_in, tc_wp_some, c1, tc_bI]))
  rcases tc_01 c1 with rfl | rfl
  · refine ⟨nI (tc_cnt (tc_pp Y) ((4 * Y.1.1 + 1) * (Y.1.1 + 1)) 0), fun μ h => ?_, fun μ h => ?_⟩
    · unfold tc_f6_proof
      rw [tc_wp_bd, tc_v6_isWithin, tc_wp_some, c1, if_neg (by decide), if_pos rfl, tc_wp_bd]
      refine tc_wp_mono (tc_c_count hN h g) (fun r μ1 hh => ?_)
      rw [tc_wp_some]; exact hh
    · unfold tc_f7_proof
      rw [tc_wp_bd, tc_v7_in, tc_wp_some, c1, if_neg (by decide), tc_wp_bd]
      have key : ∀ (d fu c a : Nat) (μ1 : tc_Mem), c + d = (4 * Y.1.1 + 1) * (Y.1.1 + 1) → d < fu → tc_FM μ μ1 → tc_RM μ1 Y Y.2.2.2 (-1) → tc_wp (tc_f7_proof_54 N fu (tc_av id (tc_sr (tc_pp Y) d c)) (nI a) μ1) (fun r μ' => r = nI (a + tc_cnt (tc_pp Y) d c) ∧ tc_FM μ μ' ∧ tc_RM μ' Y Y.2.2.2 (-1)) := by
        intro d
        induction d using Nat.strongRecOn with
        | ind d ih =>
          intro fu c a μ1 hc hfu hF hR
          obtain ⟨fu, rfl⟩ : ∃ f', fu = f' + 1 := ⟨fu - 1, by omega⟩
          rw [tc_f7_proof_54]; dsimp only
          cases hs : tc_sr (tc_pp Y) d c with
          | none =>
            rw [tc_sr_none hs]
            show tc_wp (if (-1 : Int32) < 0 then _ else _) _
            rw [if_pos (by decide), tc_wp_some]
            exact ⟨rfl, hF, hR⟩
          | some c' =>
            obtain ⟨q1, q2, q3⟩ := tc_sr_some hs
            show tc_wp (if nI c' < 0 then _ else _) _
            rw [if_neg (tc_nn (by omega)), tc_wp_bd]
            show tc_wp (tc_f7_failsFrom N (nI c' + 1) μ1) _
            rw [tc_ad1]
            refine tc_wp_mono (tc_r_from hN hR g (c := c' + 1) (by omega)) (fun r μ2 hh => ?_)
            obtain ⟨rfl, hF2, hR2⟩ := hh
            rw [tc_ad1, q3, show c + d - (c' + 1) = (4 * Y.1.1 + 1) * (Y.1.1 + 1) - (c' + 1) by omega, ← Nat.add_assoc]
            exact ih ((4 * Y.1.1 + 1) * (Y.1.1 + 1) - (c' + 1)) (by omega) fu (c' + 1) (a + 1) μ2 (by omega) (by omega) (hF.trans hF2) hR2
      have hf := tc_r_from (N := N) hN h g (c := 0) (by omega)
      refine tc_wp_mono hf (fun r μ1 hh => ?_)
      obtain ⟨rfl, hF, hR⟩ := hh
      rw [if_neg (by decide)]
      have := key ((4 * Y.1.1 + 1) * (Y.1.1 + 1) - 0) N 0 0 μ1 (by omega) (by omega) hF hR
      rw [Nat.zero_add] at this
      exact this
  · refine ⟨tc_av (fun c => 100 * (c / (Y.1.1 + 1)) + c % (Y.1.1 + 1)) (tc_sr (tc_pp Y) ((4 * Y.1.1 + 1) * (Y.1.1 + 1)) 0), fun μ h => ?_, fun μ h => ?_⟩
    · unfold tc_f6_proof
      have e10 : μ 1 10 = Y.2.1.1 := h.2.2.1.2.2.1
      rw [tc_wp_bd, tc_v6_isWithin, tc_wp_some, c1, if_neg (by decide), if_neg (by decide), tc_wp_bd, e10]
      refine tc_wp_mono (tc_c_first hN h g (pk := Y.2.1.1)) (fun r μ1 hh => ?_)
      rw [tc_wp_some]; exact hh
    · unfold tc_f7_proof
      rw [tc_wp_bd, tc_v7_in, tc_wp_some, c1, if_neg (by decide), tc_wp_bd]
      have hf := tc_r_from (N := N) hN h g (c := 0) (by omega)
      refine tc_wp_mono hf (fun r μ1 hh => ?_)
      obtain ⟨rfl, hF, hR⟩ := hh
      rw [if_pos rfl, Nat.sub_zero]
      cases hs : tc_sr (tc_pp Y) ((4 * Y.1.1 + 1) * (Y.1.1 + 1)) 0 with
      | none =>
        show tc_wp (if (0 : Int32) ≤ -1 then _ else _) _
        rw [if_neg (by decide), tc_wp_some]
        exact ⟨rfl, hF, hR⟩
      | some c' =>
        obtain ⟨q1, q2, q3⟩ := tc_sr_some hs
        have hz : ¬ nI (Y.1.1 + 1) = 0 := by rw [tc_eqL (k := 0) (by omega) (by decide)]; omega
        have hd : c' / (Y.1.1 + 1) ≤ c' := Nat.div_le_self _ _
        have e1 : nI c' / nI (Y.1.1 + 1) = nI (c' / (Y.1.1 + 1)) := pk_div (by omega) (by omega) (by omega)
        have e2 : nI c' - nI c' / nI (Y.1.1 + 1) * nI (Y.1.1 + 1) = nI (c' % (Y.1.1 + 1)) := pk_rem (by omega) (by omega) (by omega)
        have e3 : (100 : Int32) * nI (c' / (Y.1.1 + 1)) + nI (c' % (Y.1.1 + 1)) = nI (100 * (c' / (Y.1.1 + 1)) + c' % (Y.1.1 + 1)) := by
          show nI 100 * nI _ + nI _ = _
          rw [pk_mul, nI_add]
        show tc_wp (if (0 : Int32) ≤ nI c' then tc_nz ((μ1 50 0) + 1) (tc_nz ((μ1 50 0) + 1) (some (((100 * (nI c' / ((μ1 50 0) + 1))) + (nI c' - nI c' / ((μ1 50 0) + 1) * ((μ1 50 0) + 1))), μ1))) else _) _
        rw [if_pos (nI_pos' (by omega)), hR.1, tc_ad1, e2, e1, e3, tc_wp_nz, tc_wp_nz, tc_wp_some]
        exact ⟨hz, hz, rfl, hF, hR⟩
end T4
