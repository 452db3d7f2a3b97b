/-! the fault to mend first -/
section T7
variable {N : Nat} {Y Z W R : tc_Y} {x1 x2 x3 x4 : Int32} {μ μ0 μ1 : tc_Mem}
def tc_am (Z : tc_Y) : Int32 := match tc_mo Z false with
  | none => 16
  | some (u, _) => tc_pc (nI (tc_un (tc_up Z u))) + tc_pc (nI (tc_wg (tc_up Z u)))
def tc_fx (v : Nat → Int32) : Nat → Nat → Int32 → Int32 → Int32
  | 0, _, _, b => b
  | d + 1, i, a, b => if a ≤ v i then tc_fx v d (i + 1) a b else tc_fx v d (i + 1) (v i) (nI i)
theorem tc_Gd.er {e : Nat} (g : tc_Gd Y) : tc_Gd (tc_yF Y (Y.2.2.2.eraseIdx e)) := by
  obtain ⟨g1, g2, g3, g4, g5, g6⟩ := g
  refine ⟨g1, g2, g3, g4, ?_, fun q hq => g6 q (List.mem_of_mem_eraseIdx hq)⟩
  exact Nat.le_trans (List.length_eraseIdx_le _ _) g5
theorem tc_RM.wo {fl : tc_Fl} {w : Int32} {f : Nat} (h : tc_RM μ Y fl w) (hf : f < 2 ^ 31) : tc_RM (tc_wr μ 50 13 (nI f)) (tc_yF Y (fl.eraseIdx f)) fl (nI f) := by
  obtain ⟨h1, h2, h3, h4, h5, h6, h7, h8⟩ := h
  have e : tc_ef (nI f) 0 fl = fl.eraseIdx f := by rw [tc_ef_at _ _ _ (by omega) hf, if_neg (by omega)]; rfl
  refine ⟨by rw [tc_wr_at, if_neg (by omega)]; exact h1, fun s hs => ?_, ?_, ⟨by rw [tc_wr_at, if_neg (by omega)]; exact h4.1, h4.2.frame (tc_wr_k (by decide)) (tc_wr_k (by decide)) (tc_wr_k (by decide))⟩, by rw [tc_wr_at, if_pos ⟨rfl, rfl⟩], h6, e, h8⟩
  · have := h2 s hs
    simp only [tc_wr_k (show (51 : Nat) ≠ 50 by decide), tc_wr_k (show (52 : Nat) ≠ 50 by decide), tc_wr_k (show (53 : Nat) ≠ 50 by decide), tc_wr_k (show (54 : Nat) ≠ 50 by decide), tc_wr_k (show (55 : Nat) ≠ 50 by decide), tc_wr_k (show (56 : Nat) ≠ 50 by decide), tc_wr_k (show (57 : Nat) ≠ 50 by decide)]
    exact this
  · rw [tc_wr_k (show (58 : Nat) ≠ 50 by decide)]; exact h3
theorem tc_RM.wb {l : tc_Fl} {w : Int32} (h : tc_RM μ (tc_yF Y l) Y.2.2.2 w) (he : tc_ef (-1) 0 Y.2.2.2 = Y.2.2.2) : tc_RM (tc_wr μ 50 13 (-1)) Y Y.2.2.2 (-1) := by
  obtain ⟨h1, h2, h3, h4, h5, h6, h7, h8⟩ := h
  refine ⟨by rw [tc_wr_at, if_neg (by omega)]; exact h1, fun s hs => ?_, ?_, ⟨by rw [tc_wr_at, if_neg (by omega)]; exact h4.1, h4.2.frame (tc_wr_k (by decide)) (tc_wr_k (by decide)) (tc_wr_k (by decide))⟩, by rw [tc_wr_at, if_pos ⟨rfl, rfl⟩], h6, he, h8⟩
  · have := h2 s hs
    simp only [tc_wr_k (show (51 : Nat) ≠ 50 by decide), tc_wr_k (show (52 : Nat) ≠ 50 by decide), tc_wr_k (show (53 : Nat) ≠ 50 by decide), tc_wr_k (show (54 : Nat) ≠ 50 by decide), tc_wr_k (show (55 : Nat) ≠ 50 by decide), tc_wr_k (show (56 : Nat) ≠ 50 by decide), tc_wr_k (show (57 : Nat) ≠ 50 by decide)]
    exact this
  · rw [tc_wr_k (show (58 : Nat) ≠ 50 by decide)]; exact h3
theorem tc_c_trouble27 (hN : 300 ≤ N) (h : tc_CT μ0 μ Y Z) (g : tc_Gd Z) : tc_wp (tc_f2_troubleWithout_27 N μ) (fun r μ' => r = tc_am Z ∧ tc_FD μ0 μ') := by
  unfold tc_f2_troubleWithout_27
  rw [tc_wp_bd]
  have hs := tc_c_settles hN h g false
  refine tc_wp_mono hs (fun r μ3 hh => ?_)
  unfold tc_am
  cases hm : tc_mo Z false with
  | none =>
    rw [hm] at hh
    obtain ⟨rfl, hC⟩ := hh
    rw [if_pos rfl, tc_wp_some]
    exact ⟨rfl, hC.1⟩
  | some p =>
    obtain ⟨u, ch⟩ := p
    rw [hm] at hh
    obtain ⟨rfl, hC, hu, -, -⟩ := hh
    have g3 := g.up hu
    rw [if_neg (by decide), tc_wp_bd, tc_v5_unsafe hN hC.2.2 g3, tc_wp_some, tc_wp_bd, tc_v8_bitCount, tc_wp_some, tc_wp_bd, tc_v5_wrong hN hC.2.2 g3, tc_wp_some, tc_wp_bd, tc_v8_bitCount, tc_wp_some, tc_wp_some]
    exact ⟨rfl, hC.1⟩
theorem tc_c_trouble0 (hN : 300 ≤ N) (h : tc_RC μ 1 Y) (g : tc_Gd Y) : tc_wp (tc_f2_troubleWithout N (-1) μ) (fun r μ' => r = tc_am Y ∧ tc_FD μ μ') := by
  unfold tc_f2_troubleWithout
  rw [tc_wp_bd]
  refine tc_wp_mono (tc_c_become hN h g) (fun _ μ1 hC => ?_)
  rw [if_pos rfl]
  exact tc_c_trouble27 hN hC g
theorem tc_c_trouble (hN : 300 ≤ N) (h : tc_RC μ 1 Y) (g : tc_Gd Y) {e : Nat} (he : e < Y.2.2.2.length) : tc_wp (tc_f2_troubleWithout N (nI e) μ) (fun r μ' => r = tc_am (tc_yF Y (Y.2.2.2.eraseIdx e)) ∧ tc_FD μ μ') := by
  have g5 := g.2.2.2.2.1
  unfold tc_f2_troubleWithout
  rw [tc_wp_bd]
  refine tc_wp_mono (tc_c_become hN h g) (fun _ μ1 hC => ?_)
  rw [if_neg (show ¬ nI e = -1 from fun q => tc_nn (show e < 2 ^ 31 by omega) (by rw [q]; decide)), tc_wp_bd]
  refine tc_wp_mono (tc_w1_remove hN hC.2.2 g he) (fun _ μ2 hh => ?_)
  exact tc_c_trouble27 hN ⟨hC.1.trans hh.1.d, hC.2.1.fd hh.1.d, hh.2⟩ g.er
theorem tc_r_amiss (hN : 300 ≤ N) {fl : tc_Fl} {w : Int32} (h : tc_RM μ Y fl w) (g : tc_Gd Y) : tc_wp (tc_f7_amiss N μ) (fun r μ' => r = tc_am Y ∧ tc_FM μ μ' ∧ tc_RM μ' Y fl w) := by
  unfold tc_f7_amiss
  rw [tc_wp_bd]
  refine tc_wp_mono (tc_r_keeps hN h tc_FM.rf g) (fun _ μ1 hC => ?_)
  rw [tc_wp_bd]
  have hs2 := tc_r_goes hN hC g false
  refine tc_wp_mono hs2 (fun r μ3 hh => ?_)
  have fin : ∀ (r : Int32) (Z : tc_Y), tc_RT μ μ3 Y Z fl fl w → tc_wp (tc_f7_amiss_34 N r μ3) (fun r' μ2 => r' = r ∧ tc_FM μ μ2 ∧ tc_RM μ2 Y fl w) := by
    intro r Z hC
    unfold tc_f7_amiss_34
    rw [tc_wp_bd]
    refine tc_wp_mono (tc_r_back hN hC g) (fun _ μ2 hh => ?_)
    rw [tc_wp_some]; exact ⟨rfl, hh⟩
  unfold tc_am
  cases hm : tc_mo Y false with
  | none =>
    rw [hm] at hh
    obtain ⟨rfl, hT2⟩ := hh
    rw [if_neg (by decide)]
    exact fin _ _ hT2
  | some p =>
    obtain ⟨u, ch⟩ := p
    rw [hm] at hh
    obtain ⟨rfl, hT2, hu, hl⟩ := hh
    have g2 := g.af hu
    have b1 : tc_f7_bitsOf N 1 μ3 = _ := tc_r_bits hN hT2 g2 (v := 1) (by decide)
    have b2 : tc_f7_bitsOf N 2 μ3 = _ := tc_r_bits hN hT2 g2 (v := 2) (by decide)
    rw [tc_bm_un] at b1
    rw [tc_bm_wg] at b2
    rw [if_pos (nI_pos' (by omega)), tc_wp_bd, b1, tc_wp_some, tc_wp_bd, tc_v8_bitCount, tc_wp_some, tc_wp_bd, b2, tc_wp_some, tc_wp_bd, tc_v8_bitCount, tc_wp_some]
    exact fin _ _ hT2
theorem tc_k_fix (hN : 300 ≤ N) (g : tc_G6 Y) : tc_T (tc_f6_fix N) (tc_f7_fix N) Y := by
  have g6 := g.2
  refine ⟨tc_fx (fun i => tc_am (tc_yF Y (Y.2.2.2.eraseIdx i))) Y.2.2.2.length 0 (tc_am Y) (-1), fun μ h => ?_, fun μ h => ?_⟩
  · have key : ∀ (d f i : Nat) (a b : Int32) (μ1 : tc_Mem), i + d = Y.2.2.2.length → d < f → tc_FD μ μ1 → tc_RC μ1 1 Y → tc_wp (tc_f2_faultToMend_10 N f b a (nI i) μ1) (fun r μ' => r = tc_fx (fun i => tc_am (tc_yF Y (Y.2.2.2.eraseIdx i))) d i a b ∧ tc_FD μ μ') := by
      intro d
      induction d with
      | zero =>
        intro f i a b μ1 hd hf hF hR
        obtain ⟨f, rfl⟩ : ∃ f', f = f' + 1 := ⟨f - 1, by omega⟩
        have e8 : μ1 8 0 = nI Y.2.2.2.length := hR.2.2.2.1
        rw [tc_f2_faultToMend_10]; dsimp only
        rw [e8, if_pos (by rw [tc_le (by omega) (by omega)]; omega), tc_wp_some]
        exact ⟨rfl, hF⟩
      | succ d ih =>
        intro f i a b μ1 hd hf hF hR
        obtain ⟨f, rfl⟩ : ∃ f', f = f' + 1 := ⟨f - 1, by omega⟩
        have e8 : μ1 8 0 = nI Y.2.2.2.length := hR.2.2.2.1
        rw [tc_f2_faultToMend_10]; dsimp only
        rw [e8, if_neg (by rw [tc_le (by omega) (by omega)]; omega), tc_wp_bd]
        refine tc_wp_mono (tc_c_trouble hN hR g.1 (e := i) (by omega)) (fun r μ2 hh => ?_)
        obtain ⟨rfl, hF2⟩ := hh
        rw [tc_wp_if, tc_fx, tc_ad1]
        by_cases c : a ≤ tc_am (tc_yF Y (Y.2.2.2.eraseIdx i))
        · rw [if_pos c, if_pos c]
          exact ih f (i + 1) _ _ μ2 (by omega) (by omega) (hF.trans hF2) (hR.fd hF2)
        · rw [if_neg c, if_neg c]
          exact ih f (i + 1) _ _ μ2 (by omega) (by omega) (hF.trans hF2) (hR.fd hF2)
    unfold tc_f6_fix tc_f2_faultToMend
    rw [tc_wp_bd, tc_wp_bd]
    refine tc_wp_mono (tc_c_trouble0 hN h g.1) (fun r μ1 hh => ?_)
    obtain ⟨rfl, hF⟩ := hh
    refine tc_wp_mono (key Y.2.2.2.length N 0 _ _ μ1 (by omega) (by omega) hF (h.fd hF)) (fun r μ2 hh => ?_)
    rw [tc_wp_some]; exact hh
  · have he : tc_ef (-1) 0 Y.2.2.2 = Y.2.2.2 := h.2.2.2.2.2.2.1
    have key : ∀ (d f i : Nat) (a b : Int32) (w : Int32) (l : tc_Fl) (μ1 : tc_Mem), i + d = Y.2.2.2.length → d < f → tc_FM μ μ1 → tc_RM μ1 (tc_yF Y l) Y.2.2.2 w → tc_wp (tc_f7_fix_9 N f a b (nI i) μ1) (fun r μ' => r = tc_fx (fun i => tc_am (tc_yF Y (Y.2.2.2.eraseIdx i))) d i a b ∧ tc_FM μ μ' ∧ tc_RM μ' Y Y.2.2.2 (-1)) := by
      intro d
      induction d with
      | zero =>
        intro f i a b w l μ1 hd hf hF hR
        obtain ⟨f, rfl⟩ : ∃ f', f = f' + 1 := ⟨f - 1, by omega⟩
        rw [tc_f7_fix_9]; dsimp only
        rw [hR.2.2.2.1.1, if_pos (by rw [tc_le (by omega) (by omega)]; omega)]
        unfold tc_f7_fix_45
        rw [tc_wp_lt, tc_wp_some]
        exact ⟨rfl, hF.wr50 (by omega), hR.wb he⟩
      | succ d ih =>
        intro f i a b w l μ1 hd hf hF hR
        obtain ⟨f, rfl⟩ : ∃ f', f = f' + 1 := ⟨f - 1, by omega⟩
        rw [tc_f7_fix_9]; dsimp only
        rw [hR.2.2.2.1.1, if_neg (by rw [tc_le (by omega) (by omega)]; omega), tc_wp_lt, tc_wp_bd]
        have hR2 : tc_RM (tc_wr μ1 50 13 (nI i)) (tc_yF Y (Y.2.2.2.eraseIdx i)) Y.2.2.2 (nI i) := hR.wo (f := i) (by omega)
        have hF2 : tc_FM μ (tc_wr μ1 50 13 (nI i)) := hF.wr50 (by omega)
        refine tc_wp_mono (tc_r_amiss hN hR2 g.1.er) (fun r μ2 hh => ?_)
        obtain ⟨rfl, hF3, hR3⟩ := hh
        rw [tc_wp_if, tc_fx, tc_ad1]
        by_cases c : a ≤ tc_am (tc_yF Y (Y.2.2.2.eraseIdx i))
        · rw [if_pos c, if_pos c]
          exact ih f (i + 1) _ _ _ _ μ2 (by omega) (by omega) (hF2.trans hF3) hR3
        · rw [if_neg c, if_neg c]
          exact ih f (i + 1) _ _ _ _ μ2 (by omega) (by omega) (hF2.trans hF3) hR3
    unfold tc_f7_fix
    rw [tc_wp_bd]
    refine tc_wp_mono (tc_r_amiss hN h g.1) (fun r μ1 hh => ?_)
    obtain ⟨rfl, hF, hR⟩ := hh
    exact key Y.2.2.2.length N 0 _ _ (-1) Y.2.2.2 μ1 (by omega) (by omega) hF hR
end T7
