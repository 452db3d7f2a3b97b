/-! search -/
def tc_sr (p : Nat → Bool) : Nat → Nat → Option Nat
  | 0, _ => none
  | d + 1, k => if p k then some k else tc_sr p d (k + 1)
def tc_cnt (p : Nat → Bool) : Nat → Nat → Nat
  | 0, _ => 0
  | d + 1, k => (if p k then 1 else 0) + tc_cnt p d (k + 1)
def tc_av (v : Nat → Nat) (o : Option Nat) : Int32 := match o with
  | none => -1
  | some k => nI (v k)
theorem tc_sr_add (p : Nat → Bool) (b : Nat) : ∀ a k, tc_sr p (a + b) k = match tc_sr p a k with
    | some c => some c
    | none => tc_sr p b (k + a) := by
  intro a
  induction a with
  | zero => intro k; simp [tc_sr]
  | succ a ih =>
    intro k
    rw [show a + 1 + b = (a + b) + 1 by omega, tc_sr, tc_sr]
    by_cases c : p k = true
    · rw [if_pos c, if_pos c]
    · rw [if_neg c, if_neg c, ih, show k + 1 + a = k + (a + 1) by omega]
theorem tc_cnt_add (p : Nat → Bool) (b : Nat) : ∀ a k, tc_cnt p (a + b) k = tc_cnt p a k + tc_cnt p b (k + a) := by
  intro a
  induction a with
  | zero => intro k; simp [tc_cnt]
  | succ a ih =>
    intro k
    rw [show a + 1 + b = (a + b) + 1 by omega, tc_cnt, tc_cnt, ih, show k + 1 + a = k + (a + 1) by omega]
    omega
theorem tc_sr_some {p : Nat → Bool} : ∀ {d k c : Nat}, tc_sr p d k = some c → k ≤ c ∧ c < k + d ∧ tc_cnt p d k = 1 + tc_cnt p (k + d - (c + 1)) (c + 1) := by
  intro d
  induction d with
  | zero => intro k c h; simp [tc_sr] at h
  | succ d ih =>
    intro k c h
    rw [tc_sr] at h
    by_cases q : p k = true
    · rw [if_pos q] at h
      cases h
      refine ⟨by omega, by omega, ?_⟩
      rw [tc_cnt, if_pos q, show k + (d + 1) - (k + 1) = d by omega]
    · rw [if_neg q] at h
      obtain ⟨h1, h2, h3⟩ := ih h
      refine ⟨by omega, by omega, ?_⟩
      rw [tc_cnt, if_neg q, h3, show k + 1 + d - (c + 1) = k + (d + 1) - (c + 1) by omega]
      omega
theorem tc_sr_none {p : Nat → Bool} : ∀ {d k : Nat}, tc_sr p d k = none → tc_cnt p d k = 0 := by
  intro d
  induction d with
  | zero => intro k _; rfl
  | succ d ih =>
    intro k h
    rw [tc_sr] at h
    by_cases q : p k = true
    · rw [if_pos q] at h; cases h
    · rw [if_neg q] at h
      rw [tc_cnt, if_neg q, ih h]
section T3
variable {N : Nat} {Y Z W R : tc_Y} {x1 x2 x3 x4 : Int32} {μ μ0 : tc_Mem}
theorem tc_RC.fdI (h : tc_RC μ 1 Y) {μ' : tc_Mem} (hf : tc_FD μ μ') : tc_RC μ' 1 Y := h.fd hf
/-! who fails -/
def tc_fz (W : tc_Y) (t : Nat) : tc_Y := if t = 0 then W else tc_yT W (tc_set W.1.2.2 (t - 1))
def tc_fa (W : tc_Y) (t : Nat) : Bool := match tc_mo (tc_fz W t) false with
  | none => true
  | some (u, _) => !decide (tc_un (tc_up (tc_fz W t) u) = 0)
def tc_cw (Y : tc_Y) (f : Nat) : tc_Y := if f = 0 then Y else tc_yD Y (nI ((f - 1) % 4)) ((f - 1) / 4)
def tc_pp (R : tc_Y) (c : Nat) : Bool := tc_fa (tc_cw R (c / (R.1.1 + 1))) (c % (R.1.1 + 1))
theorem tc_Gd.fz {t : Nat} (g : tc_Gd W) (ht : t ≤ W.1.1) : tc_Gd (tc_fz W t) := by
  unfold tc_fz
  by_cases c : t = 0
  · rw [if_pos c]; exact g
  · rw [if_neg c]; exact g.yT (tc_set_lt2 g.2.2.1 (by omega))
theorem tc_Gd.cw {f : Nat} (g : tc_G6 R) (hf : f ≤ 4 * R.1.1) : tc_Gd (tc_cw R f) := by
  have g6 := g.2
  unfold tc_cw
  by_cases c : f = 0
  · rw [if_pos c]; exact g.1
  · rw [if_neg c]; exact g.1.yD (by omega) (Nat.mod_lt _ (by decide)) (by omega)
theorem tc_cw_1 {f : Nat} : (tc_cw R f).1 = R.1 := by
  unfold tc_cw
  by_cases c : f = 0
  · rw [if_pos c]
  · rw [if_neg c]; rfl
theorem tc_c_fails (hN : 300 ≤ N) (hF : tc_FD μ0 μ) (h : tc_RC μ 1 Y) {v u : Nat} (hR : tc_RC μ 28 (tc_up (tc_yT W v) u)) (gY : tc_Gd Y) (g : tc_Gd W) (hW : W.1 = Y.1) {t : Nat} (ht : t ≤ W.1.1) : tc_wp (tc_f2_failsWithTrain N (nI t) μ) (fun r μ' => r = tc_bI (tc_fa W t) ∧ tc_FD μ0 μ' ∧ tc_RC μ' 1 Y ∧ ∃ v u, tc_RC μ' 28 (tc_up (tc_yT W v) u)) := by
  have g1 := g.1
  have e8 : μ 1 8 = nI Y.1.2.1 := h.2.2.1.1
  have e9 : μ 1 9 = nI Y.1.2.2 := h.2.2.1.2.1
  unfold tc_f2_failsWithTrain
  rw [tc_wp_lt, e8]
  generalize hm1 : tc_wr μ 28 8 (nI Y.1.2.1) = μ1
  have F1 : tc_FD μ μ1 := by rw [← hm1]; exact tc_FD.rf.wr (by omega)
  have R1 : tc_RC μ1 28 (tc_up (tc_yT W v) Y.1.2.1) := by rw [← hm1]; exact hR.up
  have e9' : μ1 1 9 = nI Y.1.2.2 := by rw [F1 1 (by omega)]; exact e9
  have rest : ∀ tr : Nat, tc_yT W tr = tc_fz W t → tc_wp (tc_f2_failsWithTrain_46 N (nI tr) μ1) (fun r μ' => r = tc_bI (tc_fa W t) ∧ tc_FD μ0 μ' ∧ tc_RC μ' 1 Y ∧ ∃ v u, tc_RC μ' 28 (tc_up (tc_yT W v) u)) := by
    intro tr htr
    unfold tc_f2_failsWithTrain_46
    rw [tc_wp_lt, tc_wp_bd]
    have R2 : tc_RC (tc_wr μ1 28 9 (nI tr)) 28 (tc_fz W t) := by
      have := R1.tr (tr := tr)
      have e : tc_yT (tc_up (tc_yT W v) Y.1.2.1) tr = tc_yT W tr := by
        show ((W.1.1, Y.1.2.1, tr), W.2) = ((W.1.1, W.1.2.1, tr), W.2)
        rw [hW]
      rw [e, htr] at this
      exact this
    have F2 : tc_FD μ0 (tc_wr μ1 28 9 (nI tr)) := (hF.trans F1).wr (by omega)
    have C2 : tc_CT μ0 (tc_wr μ1 28 9 (nI tr)) Y (tc_fz W t) := ⟨F2, (h.fd F1).frame (fun k _ _ _ => tc_wr_k (by omega)), R2⟩
    have hs := tc_c_settles hN C2 (g.fz ht) false
    refine tc_wp_mono hs (fun r μ3 hh => ?_)
    unfold tc_fa tc_f2_failsWithTrain_74
    cases hm : tc_mo (tc_fz W t) false with
    | none =>
      rw [hm] at hh
      obtain ⟨rfl, C3⟩ := hh
      rw [if_pos rfl, tc_wp_some]
      refine ⟨rfl, C3.1, C3.2.1, tr, W.1.2.1, ?_⟩
      have := C3.2.2
      rw [← htr] at this
      exact this
    | some p =>
      obtain ⟨u', ch⟩ := p
      rw [hm] at hh
      obtain ⟨rfl, C3, hu, -, -⟩ := hh
      have g3 := (g.fz ht).up hu
      have ex : ∃ v u, tc_RC μ3 28 (tc_up (tc_yT W v) u) := by
        have := C3.2.2
        rw [← htr] at this
        exact ⟨tr, u', this⟩
      rw [if_neg (by decide), tc_wp_bd, tc_v5_unsafe hN C3.2.2 g3, tc_wp_some, tc_wp_if, tc_wp_some, tc_wp_some]
      by_cases c : tc_un (tc_up (tc_fz W t) u') = 0
      · rw [if_pos ((tc_un_0 g3).mpr c)]; exact ⟨by simp [c, tc_bI], C3.1, C3.2.1, ex⟩
      · rw [if_neg (fun q => c ((tc_un_0 g3).mp q))]; exact ⟨by simp [c, tc_bI], C3.1, C3.2.1, ex⟩
  rw [tc_wp_if]
  by_cases c : t = 0
  · rw [if_pos (by rw [tc_leL (k := 0) (by omega) (by decide)]; omega), e9']
    refine rest _ ?_
    unfold tc_fz
    rw [if_pos c, ← hW]; rfl
  · rw [if_neg (by rw [tc_leL (k := 0) (by omega) (by decide)]; omega), tc_sb1 (by omega), e9', tc_wp_bd]
    have e := tc_v6_withBit (N := N) (μ := μ1) (b := true) gY.t (show t - 1 < 8 by omega)
    have e2 : tc_f6_withBit N (nI Y.1.2.2) (nI (t - 1)) 1 μ1 = some (nI (tc_sb Y.1.2.2 (t - 1) true), μ1) := e
    rw [e2, tc_wp_some]
    refine rest _ ?_
    unfold tc_fz tc_sb
    rw [if_neg c, if_pos rfl, ← hW]
theorem tc_c_case (hN : 300 ≤ N) (h : tc_RC μ 1 Y) (hF : tc_FD μ0 μ) (g : tc_G6 Y) {f : Nat} (hf : f ≤ 4 * Y.1.1) {pk : Int32} : tc_wp (tc_f2_layCaseFault N (nI f) pk μ) (fun _ μ' => tc_CT μ0 μ' Y (tc_cw (tc_yR Y (pk, Y.2.1.2.1, Y.2.1.2.2)) f)) := by
  have g1 := g.1.1
  have g6 := g.2
  unfold tc_f2_layCaseFault
  rw [tc_wp_bd]
  refine tc_wp_mono (tc_c_become hN h g.1) (fun _ μ1 hC => ?_)
  rw [tc_wp_lt, tc_wp_if]
  have R2 : tc_RC (tc_wr μ1 28 10 pk) 28 (tc_yR Y (pk, Y.2.1.2.1, Y.2.1.2.2)) := hC.2.2.r10
  have F2 : tc_FD μ1 (tc_wr μ1 28 10 pk) := tc_FD.rf.wr (by omega)
  have C2 : tc_CT μ0 (tc_wr μ1 28 10 pk) Y (tc_yR Y (pk, Y.2.1.2.1, Y.2.1.2.2)) := ⟨(hF.trans hC.1).trans F2, hC.2.1.fd F2, R2⟩
  unfold tc_cw
  by_cases c : f = 0
  · rw [if_pos (by rw [tc_leL (k := 0) (by omega) (by decide)]; omega), tc_wp_some, if_pos c]
    exact C2
  · have e4 : (nI f - 1) - (nI f - 1) / 4 * 4 = nI ((f - 1) % 4) := by
      rw [tc_sb1 (by omega)]; exact pk_rem (d := 4) (by omega) (by decide) (by decide)
    have e5 : (nI f - 1) / 4 = nI ((f - 1) / 4) := by
      rw [tc_sb1 (by omega)]; exact pk_div (d := 4) (by omega) (by decide) (by decide)
    rw [if_neg (by rw [tc_leL (k := 0) (by omega) (by decide)]; omega), if_neg c, tc_wp_bd, e4, e5]
    have gR : tc_Gd (tc_yR Y (pk, Y.2.1.2.1, Y.2.1.2.2)) := g.1
    refine tc_wp_mono (tc_w5_addFault R2 gR (show Y.2.2.2.length < 15 by omega) (show (f - 1) / 4 < Y.1.1 by omega)) (fun _ μ3 hh => ?_)
    rw [tc_wp_some]
    exact ⟨C2.1.trans hh.1.d, C2.2.1.fd hh.1.d, hh.2⟩
theorem tc_c_first (hN : 300 ≤ N) (h : tc_RC μ 1 Y) (g : tc_G6 Y) {pk : Int32} : tc_wp (tc_f2_firstFailingCase N pk μ) (fun r μ' => r = tc_av (fun c => 100 * (c / (Y.1.1 + 1)) + c % (Y.1.1 + 1)) (tc_sr (tc_pp (tc_yR Y (pk, Y.2.1.2.1, Y.2.1.2.2))) ((4 * Y.1.1 + 1) * (Y.1.1 + 1)) 0) ∧ tc_FD μ μ') := by
  have g1 := g.1.1
  have gR : tc_G6 (tc_yR Y (pk, Y.2.1.2.1, Y.2.1.2.2)) := g
  -- the trains of one case
  have inner : ∀ (k2 : Int32 → Int32 → tc_Mem → Option (Int32 × tc_Mem)) (P : Int32 → tc_Mem → Prop) (f : Nat), f ≤ 4 * Y.1.1 → ∀ (d fu t : Nat) (μ1 : tc_Mem), t + d = Y.1.1 + 1 → d < fu → tc_FD μ μ1 → tc_RC μ1 1 Y → (∃ v u, tc_RC μ1 28 (tc_up (tc_yT (tc_cw (tc_yR Y (pk, Y.2.1.2.1, Y.2.1.2.2)) f) v) u)) → (∀ c, tc_sr (tc_pp (tc_yR Y (pk, Y.2.1.2.1, Y.2.1.2.2))) d (f * (Y.1.1 + 1) + t) = some c → ∀ μ', tc_FD μ μ' → P (nI (100 * (c / (Y.1.1 + 1)) + c % (Y.1.1 + 1))) μ') → (tc_sr (tc_pp (tc_yR Y (pk, Y.2.1.2.1, Y.2.1.2.2))) d (f * (Y.1.1 + 1) + t) = none → ∀ μ', tc_FD μ μ' → tc_RC μ' 1 Y → tc_wp (k2 pk (nI (f + 1)) μ') P) → tc_wp (tc_f2_firstFailingCase_23 N k2 fu pk (nI f) (nI t) μ1) P := by
    intro k2 P f hf d
    induction d with
    | zero =>
      intro fu t μ1 ht hfu hF hR hX h1 h2
      obtain ⟨fu, rfl⟩ : ∃ f', fu = f' + 1 := ⟨fu - 1, by omega⟩
      rw [tc_f2_firstFailingCase_23]; dsimp only
      rw [hR.1, if_pos (by rw [tc_lt' (by omega) (by omega)]; omega), tc_ad1]
      exact h2 rfl μ1 hF hR
    | succ d ih =>
      intro fu t μ1 ht hfu hF hR hX h1 h2
      obtain ⟨fu, rfl⟩ : ∃ f', fu = f' + 1 := ⟨fu - 1, by omega⟩
      obtain ⟨v, u, hX⟩ := hX
      have hW : (tc_cw (tc_yR Y (pk, Y.2.1.2.1, Y.2.1.2.2)) f).1 = Y.1 := tc_cw_1
      have gW := tc_Gd.cw gR (f := f) hf
      rw [tc_f2_firstFailingCase_23]; dsimp only
      rw [hR.1, if_neg (by rw [tc_lt' (by omega) (by omega)]; omega), tc_wp_bd]
      have hfa := tc_c_fails hN hF hR hX g.1 gW hW (t := t) (by rw [hW]; omega)
      refine tc_wp_mono hfa (fun r μ2 hh => ?_)
      obtain ⟨rfl, hF2, hR2, hX2⟩ := hh
      have hmul : f * (Y.1.1 + 1) + t < 2 ^ 31 ∧ (f * (Y.1.1 + 1) + t) / (Y.1.1 + 1) = f ∧ (f * (Y.1.1 + 1) + t) % (Y.1.1 + 1) = t := by
        refine ⟨?_, ?_, ?_⟩
        · have : f * (Y.1.1 + 1) ≤ 32 * 9 := Nat.mul_le_mul (by omega) (by omega)
          omega
        · rw [Nat.mul_comm, Nat.mul_add_div (by omega), Nat.div_eq_of_lt (by omega)]; rfl
        · rw [Nat.mul_comm, Nat.mul_add_mod, Nat.mod_eq_of_lt (by omega)]
      have hp : tc_pp (tc_yR Y (pk, Y.2.1.2.1, Y.2.1.2.2)) (f * (Y.1.1 + 1) + t) = tc_fa (tc_cw (tc_yR Y (pk, Y.2.1.2.1, Y.2.1.2.2)) f) t := by
        show tc_fa (tc_cw _ ((f * (Y.1.1 + 1) + t) / (Y.1.1 + 1))) ((f * (Y.1.1 + 1) + t) % (Y.1.1 + 1)) = _
        rw [hmul.2.1, hmul.2.2]
      rw [tc_sr, hp] at h1 h2
      rw [tc_wp_if]
      by_cases c : tc_fa (tc_cw (tc_yR Y (pk, Y.2.1.2.1, Y.2.1.2.2)) f) t = true
      · rw [if_pos c] at h1
        rw [if_neg (by rw [c]; decide)]
        unfold tc_f2_firstFailingCase_42
        rw [tc_wp_some]
        have := h1 _ rfl μ2 hF2
        rw [hmul.2.1, hmul.2.2] at this
        have e : (100 : Int32) * nI f + nI t = nI (100 * f + t) := by show nI 100 * nI f + nI t = _; rw [pk_mul, nI_add]
        rw [e]; exact this
      · rw [if_neg c] at h1 h2
        rw [if_pos (by rw [tc_bI_eq0]; simpa using c), tc_ad1]
        exact ih fu (t + 1) μ2 (by omega) (by omega) hF2 hR2 hX2 h1 h2
  have outer : ∀ (D fu f : Nat) (μ1 : tc_Mem), f + D = 4 * Y.1.1 + 1 → D < fu → tc_FD μ μ1 → tc_RC μ1 1 Y → tc_wp (tc_f2_firstFailingCase_2 N fu pk (nI f) μ1) (fun r μ' => r = tc_av (fun c => 100 * (c / (Y.1.1 + 1)) + c % (Y.1.1 + 1)) (tc_sr (tc_pp (tc_yR Y (pk, Y.2.1.2.1, Y.2.1.2.2))) (D * (Y.1.1 + 1)) (f * (Y.1.1 + 1))) ∧ tc_FD μ μ') := by
    intro D
    induction D with
    | zero =>
      intro fu f μ1 hf hfu hF hR
      obtain ⟨fu, rfl⟩ : ∃ f', fu = f' + 1 := ⟨fu - 1, by omega⟩
      rw [tc_f2_firstFailingCase_2]; dsimp only
      have e4 : (4 : Int32) * nI Y.1.1 = nI (4 * Y.1.1) := pk_mul 4 Y.1.1
      rw [hR.1, e4, if_pos (by rw [tc_lt' (by omega) (by omega)]; omega), tc_wp_some]
      refine ⟨?_, hF⟩
      rw [Nat.zero_mul]; rfl
    | succ D ih =>
      intro fu f μ1 hf hfu hF hR
      obtain ⟨fu, rfl⟩ : ∃ f', fu = f' + 1 := ⟨fu - 1, by omega⟩
      rw [tc_f2_firstFailingCase_2]; dsimp only
      have e4 : (4 : Int32) * nI Y.1.1 = nI (4 * Y.1.1) := pk_mul 4 Y.1.1
      rw [hR.1, e4, if_neg (by rw [tc_lt' (by omega) (by omega)]; omega), tc_wp_bd]
      refine tc_wp_mono (tc_c_case hN hR hF g (f := f) (by omega)) (fun _ μ2 hC => ?_)
      have hsum : tc_sr (tc_pp (tc_yR Y (pk, Y.2.1.2.1, Y.2.1.2.2))) ((D + 1) * (Y.1.1 + 1)) (f * (Y.1.1 + 1)) = match tc_sr (tc_pp (tc_yR Y (pk, Y.2.1.2.1, Y.2.1.2.2))) (Y.1.1 + 1) (f * (Y.1.1 + 1) + 0) with
          | some c => some c
          | none => tc_sr (tc_pp (tc_yR Y (pk, Y.2.1.2.1, Y.2.1.2.2))) (D * (Y.1.1 + 1)) ((f + 1) * (Y.1.1 + 1)) := by
        rw [Nat.succ_mul, Nat.add_comm (D * (Y.1.1 + 1)), tc_sr_add, ← Nat.succ_mul]; rfl
      rw [hsum]
      refine inner _ _ f (by omega) (Y.1.1 + 1) N 0 μ2 (by omega) (by omega) hC.1 hC.2.1 ⟨_, _, hC.2.2⟩ ?_ ?_
      · intro c hc μ' hF'
        rw [hc]; exact ⟨rfl, hF'⟩
      · intro hc μ' hF' hR'
        rw [hc]
        exact ih fu (f + 1) μ' (by omega) (by omega) hF' hR'
  unfold tc_f2_firstFailingCase
  have := outer (4 * Y.1.1 + 1) N 0 μ (by omega) (by omega) tc_FD.rf h
  rw [Nat.zero_mul] at this
  exact this
theorem tc_c_count (hN : 300 ≤ N) (h : tc_RC μ 1 Y) (g : tc_G6 Y) : tc_wp (tc_f2_failingCases N μ) (fun r μ' => r = nI (tc_cnt (tc_pp Y) ((4 * Y.1.1 + 1) * (Y.1.1 + 1)) 0) ∧ tc_FD μ μ') := by
  have g1 := g.1.1
  have inner : ∀ (k4 : Int32 → Int32 → tc_Mem → Option (Int32 × tc_Mem)) (P : Int32 → tc_Mem → Prop) (f : Nat), f ≤ 4 * Y.1.1 → ∀ (d fu t a : Nat) (μ1 : tc_Mem), t + d = Y.1.1 + 1 → d < fu → tc_FD μ μ1 → tc_RC μ1 1 Y → (∃ v u, tc_RC μ1 28 (tc_up (tc_yT (tc_cw Y f) v) u)) → (∀ μ', tc_FD μ μ' → tc_RC μ' 1 Y → tc_wp (k4 (nI (a + tc_cnt (tc_pp Y) d (f * (Y.1.1 + 1) + t))) (nI (f + 1)) μ') P) → tc_wp (tc_f2_failingCases_31 N k4 fu (nI a) (nI f) (nI t) μ1) P := by
    intro k4 P f hf d
    induction d with
    | zero =>
      intro fu t a μ1 ht hfu hF hR hX h2
      obtain ⟨fu, rfl⟩ : ∃ f', fu = f' + 1 := ⟨fu - 1, by omega⟩
      rw [tc_f2_failingCases_31]; dsimp only
      rw [hR.1, if_pos (by rw [tc_lt' (by omega) (by omega)]; omega), tc_ad1]
      exact h2 μ1 hF hR
    | succ d ih =>
      intro fu t a μ1 ht hfu hF hR hX h2
      obtain ⟨fu, rfl⟩ : ∃ f', fu = f' + 1 := ⟨fu - 1, by omega⟩
      obtain ⟨v, u, hX⟩ := hX
      have hW : (tc_cw Y f).1 = Y.1 := tc_cw_1
      have gW := tc_Gd.cw g (f := f) hf
      rw [tc_f2_failingCases_31]; dsimp only
      rw [hR.1, if_neg (by rw [tc_lt' (by omega) (by omega)]; omega), tc_wp_bd]
      have hfa := tc_c_fails hN hF hR hX g.1 gW hW (t := t) (by rw [hW]; omega)
      refine tc_wp_mono hfa (fun r μ2 hh => ?_)
      obtain ⟨rfl, hF2, hR2, hX2⟩ := hh
      have hmul : (f * (Y.1.1 + 1) + t) / (Y.1.1 + 1) = f ∧ (f * (Y.1.1 + 1) + t) % (Y.1.1 + 1) = t := by
        refine ⟨?_, ?_⟩
        · rw [Nat.mul_comm, Nat.mul_add_div (by omega), Nat.div_eq_of_lt (by omega)]; rfl
        · rw [Nat.mul_comm, Nat.mul_add_mod, Nat.mod_eq_of_lt (by omega)]
      have hp : tc_pp Y (f * (Y.1.1 + 1) + t) = tc_fa (tc_cw Y f) t := by
        show tc_fa (tc_cw _ ((f * (Y.1.1 + 1) + t) / (Y.1.1 + 1))) ((f * (Y.1.1 + 1) + t) % (Y.1.1 + 1)) = _
        rw [hmul.1, hmul.2]
      rw [tc_cnt, hp] at h2
      rw [tc_wp_if]
      by_cases c : tc_fa (tc_cw Y f) t = true
      · rw [if_pos c] at h2
        rw [if_neg (by rw [c]; decide), tc_ad1, tc_ad1]
        refine ih fu (t + 1) (a + 1) μ2 (by omega) (by omega) hF2 hR2 hX2 (fun μ' q1 q2 => ?_)
        have := h2 μ' q1 q2
        rw [← Nat.add_assoc] at this
        exact this
      · rw [if_neg c, Nat.zero_add] at h2
        rw [if_pos (by rw [tc_bI_eq0]; simpa using c), tc_ad1]
        exact ih fu (t + 1) a μ2 (by omega) (by omega) hF2 hR2 hX2 h2
  have outer : ∀ (D fu f a : Nat) (μ1 : tc_Mem), f + D = 4 * Y.1.1 + 1 → D < fu → tc_FD μ μ1 → tc_RC μ1 1 Y → tc_wp (tc_f2_failingCases_4 N fu (nI a) (nI f) μ1) (fun r μ' => r = nI (a + tc_cnt (tc_pp Y) (D * (Y.1.1 + 1)) (f * (Y.1.1 + 1))) ∧ tc_FD μ μ') := by
    intro D
    induction D with
    | zero =>
      intro fu f a μ1 hf hfu hF hR
      obtain ⟨fu, rfl⟩ : ∃ f', fu = f' + 1 := ⟨fu - 1, by omega⟩
      rw [tc_f2_failingCases_4]; dsimp only
      have e4 : (4 : Int32) * nI Y.1.1 = nI (4 * Y.1.1) := pk_mul 4 Y.1.1
      rw [hR.1, e4, if_pos (by rw [tc_lt' (by omega) (by omega)]; omega), tc_wp_some]
      refine ⟨?_, hF⟩
      rw [Nat.zero_mul]; rfl
    | succ D ih =>
      intro fu f a μ1 hf hfu hF hR
      obtain ⟨fu, rfl⟩ : ∃ f', fu = f' + 1 := ⟨fu - 1, by omega⟩
      rw [tc_f2_failingCases_4]; dsimp only
      have e4 : (4 : Int32) * nI Y.1.1 = nI (4 * Y.1.1) := pk_mul 4 Y.1.1
      have e10 : μ1 1 10 = Y.2.1.1 := hR.2.2.1.2.2.1
      rw [hR.1, e4, if_neg (by rw [tc_lt' (by omega) (by omega)]; omega), tc_wp_bd, e10]
      refine tc_wp_mono (tc_c_case hN hR hF g (f := f) (by omega)) (fun _ μ2 hC => ?_)
      have hsum : tc_cnt (tc_pp Y) ((D + 1) * (Y.1.1 + 1)) (f * (Y.1.1 + 1)) = tc_cnt (tc_pp Y) (Y.1.1 + 1) (f * (Y.1.1 + 1) + 0) + tc_cnt (tc_pp Y) (D * (Y.1.1 + 1)) ((f + 1) * (Y.1.1 + 1)) := by
        rw [Nat.succ_mul, Nat.add_comm (D * (Y.1.1 + 1)), tc_cnt_add, ← Nat.succ_mul]; rfl
      rw [hsum]
      refine inner _ _ f (by omega) (Y.1.1 + 1) N 0 a μ2 (by omega) (by omega) hC.1 hC.2.1 ⟨_, _, hC.2.2⟩ ?_
      intro μ' hF' hR'
      rw [← Nat.add_assoc]
      exact ih fu (f + 1) _ μ' (by omega) (by omega) hF' hR'
  unfold tc_f2_failingCases
  have := outer (4 * Y.1.1 + 1) N 0 0 μ (by omega) (by omega) tc_FD.rf h
  rw [Nat.zero_mul, Nat.zero_add] at this
  exact this
end T3
