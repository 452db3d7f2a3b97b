section R9
variable {N : Nat} {μ : tc_Mem} {Y Z : tc_Y} {fl fz : tc_Fl} {w : Int32} {s : Nat}
theorem tz_mends (hN : 300 ≤ N) (h9 : μ 50 9 = nI fl.length) (hF : tc_RF μ 59 60 61 fl) (g5 : fl.length ≤ 16) (g8 : ∀ q ∈ fl, q.2.1 < 8) (hs : s < 2 ^ 31) {p : Int32 × Nat × Int32 → Bool} (hp : ∀ q, p q = !decide (q.2.1 = s)) : tc_wp (tc_f7_mends N (nI s) μ) (fun r μ' => r = nI (fl.length - (fl.filter p).length) ∧ (∀ k, k ≠ 50 → k ≠ 59 → k ≠ 60 → k ≠ 61 → μ' k = μ k) ∧ (∀ j, j ≠ 9 → μ' 50 j = μ 50 j) ∧ μ' 50 9 = nI (fl.filter p).length ∧ tc_RF μ' 59 60 61 (fl.filter p)) := by
  have key : ∀ (d f i l : Nat) (μ1 : tc_Mem), l = ((fl.take i).filter p).length → i + d = fl.length → d < f → (∀ k, k ≠ 59 → k ≠ 60 → k ≠ 61 → μ1 k = μ k) → tc_Rmv fl p i (μ1 59) (μ1 60) (μ1 61) → tc_wp (tc_f7_mends_4 N f (nI s) (nI l) (nI i) μ1) (fun r μ' => r = nI (fl.length - (fl.filter p).length) ∧ (∀ k, k ≠ 50 → k ≠ 59 → k ≠ 60 → k ≠ 61 → μ' k = μ k) ∧ (∀ j, j ≠ 9 → μ' 50 j = μ 50 j) ∧ μ' 50 9 = nI (fl.filter p).length ∧ tc_RF μ' 59 60 61 (fl.filter p)) := by
    intro d
    induction d with
    | zero =>
      intro f i l μ1 hll hi hf hfr hm
      obtain ⟨f, rfl⟩ : ∃ f', f = f' + 1 := ⟨f - 1, by omega⟩
      obtain rfl : i = fl.length := by omega
      have hl := List.length_filter_le p fl
      unfold tc_Rmv at hm
      rw [List.take_length] at hm hll
      rw [tc_f7_mends_4]; dsimp only
      have e50 := hfr 50 (by decide) (by decide) (by decide)
      rw [e50, h9, if_pos (Int32.le_refl _)]
      unfold tc_f7_mends_70
      simp only [tc_wp_lt, tc_wp_some]
      rw [e50, h9, ← hll]
      refine ⟨pk_sub (by omega), fun k k0 k1 k2 k3 => by rw [tc_wr_k k0]; exact hfr k k1 k2 k3, fun j hj => by rw [tc_wr_at, if_neg (by omega), e50], by simp [tc_wr_at], fun j q hq => ?_⟩
      rw [tc_wr_k (by omega), tc_wr_k (by omega), tc_wr_k (by omega)]; exact hm.1 j q hq
    | succ d ih =>
      intro f i l μ1 hll hi hf hfr hm
      obtain ⟨f, rfl⟩ : ∃ f', f = f' + 1 := ⟨f - 1, by omega⟩
      obtain ⟨q, hq⟩ : ∃ q, fl[i]? = some q := ⟨fl[i]'(by omega), List.getElem?_eq_getElem (by omega)⟩
      obtain ⟨r1, r2, r3⟩ := hm.2 i q (Nat.le_refl _) hq
      have hl := tc_Rmv.len (fl := fl) (p := p) (i := i)
      have hq8 := g8 q (List.mem_of_getElem? hq)
      rw [tc_f7_mends_4]; dsimp only
      have e50 := hfr 50 (by decide) (by decide) (by decide)
      rw [e50, h9, if_neg (by rw [tc_le (by omega) (by omega)]; omega), tc_wp_ck]
      refine ⟨(tc_vin (by omega) (by decide)).mpr (by omega), ?_⟩
      rw [tc_wp_if, tc_cl (show i < 2 ^ 31 by omega), r2]
      by_cases c : q.2.1 = s
      · have hpq : p q = false := by rw [hp]; simp [c]
        rw [if_pos (by rw [c]), tc_ad1]
        exact ih f (i + 1) l μ1 (by rw [tc_take1 hq, List.filter_append, hll]; simp [hpq]) (by omega) (by omega) hfr (hm.skip hq hpq)
      · have hpq : p q = true := by rw [hp]; simp [c]
        rw [if_neg (by rw [tc_eq (by omega) hs]; exact c)]
        simp only [tc_wp_ck, tc_wp_lt, tc_vin (show i < 2 ^ 31 by omega) (show 20 < 2 ^ 31 by decide), tc_vin (show l < 2 ^ 31 by omega) (show 20 < 2 ^ 31 by decide), tc_cl (show l < 2 ^ 31 by omega), show i < 20 by omega, show l < 20 by omega, true_and, tc_ad1]
        have hm2 := hm.keep hq hpq
        rw [← hll] at hm2
        refine ih f (i + 1) (l + 1) _ (by rw [tc_take1 hq, List.filter_append, List.length_append, ← hll]; simp [hpq]) (by omega) (by omega) (fun k k1 k2 k3 => by rw [tc_wr_k k3, tc_wr_k k2, tc_wr_k k1]; exact hfr k k1 k2 k3) ?_
        have e1 : tc_wr (tc_wr (tc_wr μ1 59 l (μ1 59 i)) 60 l (tc_wr μ1 59 l (μ1 59 i) 60 i)) 61 l (tc_wr (tc_wr μ1 59 l (μ1 59 i)) 60 l (tc_wr μ1 59 l (μ1 59 i) 60 i) 61 i) 59 = tc_c1' (μ1 59) l (μ1 59 i) := by funext m; simp [tc_wr_at, tc_c1']
        have e2 : tc_wr (tc_wr (tc_wr μ1 59 l (μ1 59 i)) 60 l (tc_wr μ1 59 l (μ1 59 i) 60 i)) 61 l (tc_wr (tc_wr μ1 59 l (μ1 59 i)) 60 l (tc_wr μ1 59 l (μ1 59 i) 60 i) 61 i) 60 = tc_c1' (μ1 60) l (μ1 60 i) := by funext m; simp [tc_wr_at, tc_c1']
        have e3 : tc_wr (tc_wr (tc_wr μ1 59 l (μ1 59 i)) 60 l (tc_wr μ1 59 l (μ1 59 i) 60 i)) 61 l (tc_wr (tc_wr μ1 59 l (μ1 59 i)) 60 l (tc_wr μ1 59 l (μ1 59 i) 60 i) 61 i) 61 = tc_c1' (μ1 61) l (μ1 61 i) := by funext m; simp [tc_wr_at, tc_c1']
        rw [e1, e2, e3]
        exact hm2
  exact key fl.length N 0 0 μ (by simp) (by omega) (by omega) (fun _ _ _ _ => rfl) (tc_Rmv.nil (fun j q hq => hF j q hq))
theorem tz_keepsNow (hN : 300 ≤ N) : tc_wp (tc_f7_keepsNow N μ) (fun _ μ' => (∀ k, k ≠ 50 → k ≠ 72 → k ≠ 73 → k ≠ 74 → μ' k = μ k) ∧ (∀ j, j ≠ 31 → μ' 50 j = μ 50 j) ∧ μ' 50 31 = μ 50 9 ∧ ∀ s, s < 8 → μ' 72 s = vp_nar .boolean (μ 56 s) ∧ μ' 73 s = vp_nar .boolean (μ 57 s) ∧ μ' 74 s = μ 55 s) := by
  have key : ∀ (d f i : Nat) (μ1 : tc_Mem), i + d = 8 → d < f → (∀ k, k ≠ 72 → k ≠ 73 → k ≠ 74 → μ1 k = μ k) → (∀ s, s < i → μ1 72 s = vp_nar .boolean (μ 56 s) ∧ μ1 73 s = vp_nar .boolean (μ 57 s) ∧ μ1 74 s = μ 55 s) → tc_wp (tc_f7_keepsNow_2 N f (nI i) μ1) (fun _ μ' => (∀ k, k ≠ 50 → k ≠ 72 → k ≠ 73 → k ≠ 74 → μ' k = μ k) ∧ (∀ j, j ≠ 31 → μ' 50 j = μ 50 j) ∧ μ' 50 31 = μ 50 9 ∧ ∀ s, s < 8 → μ' 72 s = vp_nar .boolean (μ 56 s) ∧ μ' 73 s = vp_nar .boolean (μ 57 s) ∧ μ' 74 s = μ 55 s) := by
    intro d
    induction d with
    | zero =>
      intro f i μ1 hi hf hfr hv
      obtain ⟨f, rfl⟩ : ∃ f', f = f' + 1 := ⟨f - 1, by omega⟩
      obtain rfl : i = 8 := by omega
      rw [tc_f7_keepsNow_2]; dsimp only
      rw [if_pos (by decide)]
      unfold tc_f7_keepsNow_50
      have e50 := hfr 50 (by decide) (by decide) (by decide)
      rw [tc_wp_lt, tc_wp_some, e50]
      refine ⟨fun k k0 k1 k2 k3 => by rw [tc_wr_k k0]; exact hfr k k1 k2 k3, fun j hj => by rw [tc_wr_at, if_neg (by omega), e50], by rw [tc_wr_at, if_pos ⟨rfl, rfl⟩], fun s hs => ?_⟩
      rw [tc_wr_k (by decide), tc_wr_k (by decide), tc_wr_k (by decide)]; exact hv s hs
    | succ d ih =>
      intro f i μ1 hi hf hfr hv
      obtain ⟨f, rfl⟩ : ∃ f', f = f' + 1 := ⟨f - 1, by omega⟩
      rw [tc_f7_keepsNow_2]; dsimp only
      rw [if_neg (by rw [tc_Lle (k := 8) (by omega) (by decide)]; omega)]
      simp only [tc_wp_ck, tc_wp_lt, tc_vin (show i < 2 ^ 31 by omega) (show 8 < 2 ^ 31 by decide), tc_cl (show i < 2 ^ 31 by omega), show i < 8 by omega, true_and, tc_ad1]
      have e56 := hfr 56 (by decide) (by decide) (by decide)
      have e57 := hfr 57 (by decide) (by decide) (by decide)
      have e55 := hfr 55 (by decide) (by decide) (by decide)
      refine ih f (i + 1) _ (by omega) (by omega) (fun k k1 k2 k3 => by rw [tc_wr_k k3, tc_wr_k k2, tc_wr_k k1]; exact hfr k k1 k2 k3) (fun s hs => ?_)
      by_cases c : s = i
      · subst c; simp [tc_wr_at, e55, e56, e57]
      · simpa [tc_wr_at, c] using hv s (by omega)
  exact key 8 N 0 μ (by omega) (by omega) (fun _ _ _ _ => rfl) (fun s hs => absurd hs (by omega))
theorem tz_laysBack (hN : 300 ≤ N) : tc_wp (tc_f7_laysBack N μ) (fun _ μ' => (∀ k, k ≠ 50 → k ≠ 56 → k ≠ 57 → k ≠ 55 → μ' k = μ k) ∧ (∀ j, j ≠ 9 → μ' 50 j = μ 50 j) ∧ μ' 50 9 = μ 50 31 ∧ ∀ s, s < 8 → μ' 56 s = vp_nar .boolean (μ 72 s) ∧ μ' 57 s = vp_nar .boolean (μ 73 s) ∧ μ' 55 s = μ 74 s) := by
  have key : ∀ (d f i : Nat) (μ1 : tc_Mem), i + d = 8 → d < f → (∀ k, k ≠ 56 → k ≠ 57 → k ≠ 55 → μ1 k = μ k) → (∀ s, s < i → μ1 56 s = vp_nar .boolean (μ 72 s) ∧ μ1 57 s = vp_nar .boolean (μ 73 s) ∧ μ1 55 s = μ 74 s) → tc_wp (tc_f7_laysBack_2 N f (nI i) μ1) (fun _ μ' => (∀ k, k ≠ 50 → k ≠ 56 → k ≠ 57 → k ≠ 55 → μ' k = μ k) ∧ (∀ j, j ≠ 9 → μ' 50 j = μ 50 j) ∧ μ' 50 9 = μ 50 31 ∧ ∀ s, s < 8 → μ' 56 s = vp_nar .boolean (μ 72 s) ∧ μ' 57 s = vp_nar .boolean (μ 73 s) ∧ μ' 55 s = μ 74 s) := by
    intro d
    induction d with
    | zero =>
      intro f i μ1 hi hf hfr hv
      obtain ⟨f, rfl⟩ : ∃ f', f = f' + 1 := ⟨f - 1, by omega⟩
      obtain rfl : i = 8 := by omega
      rw [tc_f7_laysBack_2]; dsimp only
      rw [if_pos (by decide)]
      unfold tc_f7_laysBack_50
      have e50 := hfr 50 (by decide) (by decide) (by decide)
      rw [tc_wp_lt, tc_wp_some, e50]
      refine ⟨fun k k0 k1 k2 k3 => by rw [tc_wr_k k0]; exact hfr k k1 k2 k3, fun j hj => by rw [tc_wr_at, if_neg (by omega), e50], by rw [tc_wr_at, if_pos ⟨rfl, rfl⟩], fun s hs => ?_⟩
      rw [tc_wr_k (by decide), tc_wr_k (by decide), tc_wr_k (by decide)]; exact hv s hs
    | succ d ih =>
      intro f i μ1 hi hf hfr hv
      obtain ⟨f, rfl⟩ : ∃ f', f = f' + 1 := ⟨f - 1, by omega⟩
      rw [tc_f7_laysBack_2]; dsimp only
      rw [if_neg (by rw [tc_Lle (k := 8) (by omega) (by decide)]; omega)]
      simp only [tc_wp_ck, tc_wp_lt, tc_vin (show i < 2 ^ 31 by omega) (show 8 < 2 ^ 31 by decide), tc_cl (show i < 2 ^ 31 by omega), show i < 8 by omega, true_and, tc_ad1]
      have e56 := hfr 72 (by decide) (by decide) (by decide)
      have e57 := hfr 73 (by decide) (by decide) (by decide)
      have e55 := hfr 74 (by decide) (by decide) (by decide)
      refine ih f (i + 1) _ (by omega) (by omega) (fun k k1 k2 k3 => by rw [tc_wr_k k3, tc_wr_k k2, tc_wr_k k1]; exact hfr k k1 k2 k3) (fun s hs => ?_)
      by_cases c : s = i
      · subst c; simp [tc_wr_at, e55, e56, e57]
      · simpa [tc_wr_at, c] using hv s (by omega)
  exact key 8 N 0 μ (by omega) (by omega) (fun _ _ _ _ => rfl) (fun s hs => absurd hs (by omega))
/-! in thought: kept is Y, laid is Z -/
def tc_KP (μ : tc_Mem) (Y : tc_Y) (fl : tc_Fl) : Prop := μ 50 31 = nI fl.length ∧ ∀ s, s < Y.1.1 → μ 72 s = tc_bI (Y.1.2.1.testBit s) ∧ μ 73 s = tc_bI (Y.1.2.2.testBit s) ∧ μ 74 s = Y.2.2.1.2.2.2.2 s
def tc_SY (Y Z : tc_Y) : Prop := Z.1.1 = Y.1.1 ∧ Z.2.1 = Y.2.1 ∧ Z.2.2.1.1 = Y.2.2.1.1 ∧ Z.2.2.1.2.1 = Y.2.2.1.2.1 ∧ Z.2.2.1.2.2.1 = Y.2.2.1.2.2.1 ∧ Z.2.2.1.2.2.2.1 = Y.2.2.1.2.2.2.1
theorem tc_SY.rf : tc_SY Y Y := ⟨rfl, rfl, rfl, rfl, rfl, rfl⟩
def tc_OK (Y : tc_Y) (fl : tc_Fl) (w : Int32) : Prop := fl.length ≤ 16 ∧ tc_ef w 0 fl = Y.2.2.2 ∧ ∀ q ∈ fl, q.2.1 < Y.1.1 ∧ ∃ k, k < 4 ∧ q.1 = nI k
def tc_TM (μ : tc_Mem) (Y : tc_Y) (fl : tc_Fl) (Z : tc_Y) (fz : tc_Fl) (w : Int32) : Prop := tc_RM μ Z fz w ∧ tc_KP μ Y fl ∧ tc_SY Y Z ∧ tc_OK Y fl w ∧ ∃ e, fz = fl ++ e
theorem tc_KP.frame {μ' : tc_Mem} (h : tc_KP μ Y fl) (h31 : μ' 50 31 = μ 50 31) (hf : ∀ k, 72 ≤ k → k ≤ 74 → μ' k = μ k) : tc_KP μ' Y fl := ⟨h31.trans h.1, fun s hs => by rw [hf 72 (by omega) (by omega), hf 73 (by omega) (by omega), hf 74 (by omega) (by omega)]; exact h.2 s hs⟩
theorem tc_w7_keepsNow (hN : 300 ≤ N) (h : tc_RM μ Y fl w) (g : tc_Gd Y) : tc_wp (tc_f7_keepsNow N μ) (fun _ μ' => tc_FM μ μ' ∧ tc_TM μ' Y fl Y fl w) := by
  have g1 := g.1
  refine tc_wp_mono (tz_keepsNow hN) (fun _ μ' hh => ?_)
  obtain ⟨k1, k2, k3, k4⟩ := hh
  refine ⟨⟨fun k q1 q2 => k1 k (by omega) (by omega) (by omega) (by omega), fun j hj => k2 j (by omega)⟩, h.frame (fun j hj => k2 j (by omega)) (fun k q1 q2 => k1 k (by omega) (by omega) (by omega) (by omega)), ⟨by rw [k3]; exact h.2.2.2.1.1, fun s hs => ?_⟩, tc_SY.rf, h.2.2.2.2.2, [], by simp⟩
  have h2 := h.2.1 s hs
  have h4 := k4 s (by omega)
  rw [h4.1, h4.2.1, h4.2.2, h2.2.1, h2.2.2, h2.1.2.2.2.2, tc_nar, tc_nar]
  exact ⟨rfl, rfl, rfl⟩
theorem tc_w7_laysBack (hN : 300 ≤ N) (h : tc_TM μ Y fl Z fz w) (g : tc_Gd Y) : tc_wp (tc_f7_laysBack N μ) (fun _ μ' => tc_FM μ μ' ∧ tc_RM μ' Y fl w) := by
  have g1 := g.1
  obtain ⟨hR, ⟨p1, p2⟩, ⟨s1, s2, s3, s4, s5, s6⟩, ⟨o1, o2, o3⟩, e, he⟩ := h
  refine tc_wp_mono (tz_laysBack hN) (fun _ μ' hh => ?_)
  obtain ⟨k1, k2, k3, k4⟩ := hh
  refine ⟨⟨fun k q1 q2 => k1 k (by omega) (by omega) (by omega) (by omega), fun j hj => k2 j (by omega)⟩, ?_⟩
  obtain ⟨r1, r2, r3, ⟨r4, r5⟩, r6, r7⟩ := hR
  refine ⟨by rw [k2 0 (by decide), r1, s1], fun s hs => ?_, by rw [k1 58 (by decide) (by decide) (by decide) (by decide), ← s2]; exact r3, ⟨by rw [k3]; exact p1, fun i q hq => ?_⟩, by rw [k2 13 (by decide)]; exact r6, o1, o2, o3⟩
  · have h2 := r2 s (by rw [s1]; exact hs)
    have h4 := k4 s (by omega)
    have hp := p2 s hs
    rw [k1 51 (by decide) (by decide) (by decide) (by decide), k1 52 (by decide) (by decide) (by decide) (by decide), k1 53 (by decide) (by decide) (by decide) (by decide), k1 54 (by decide) (by decide) (by decide) (by decide), h4.1, h4.2.1, h4.2.2, hp.1, hp.2.1, hp.2.2, tc_nar, tc_nar, ← s3, ← s4, ← s5, ← s6]
    exact ⟨⟨h2.1.1, h2.1.2.1, h2.1.2.2.1, h2.1.2.2.2.1, rfl⟩, rfl, rfl⟩
  · rw [k1 59 (by decide) (by decide) (by decide) (by decide), k1 60 (by decide) (by decide) (by decide) (by decide), k1 61 (by decide) (by decide) (by decide) (by decide)]
    refine r5 i q ?_
    rw [he, List.getElem?_append_left (List.getElem?_eq_some_iff.mp hq).1]
    exact hq
theorem tc_FG.fm {μ' : tc_Mem} (h : tc_FG μ μ') : tc_FM μ μ' := ⟨fun k k1 k2 => h.1 k (by omega) (by omega) (by omega) (by omega) (by omega) (by omega) (by omega), fun j hj => h.2 j (by omega) (by omega)⟩
theorem tc_t7_goes (hN : 300 ≤ N) (h : tc_TM μ Y fl Z fz w) (g : tc_Gd Z) (tn : Bool) : tc_wp (tc_f7_goes N (tc_bI tn) μ) (fun r μ' => tc_FM μ μ' ∧ match tc_mo Z tn with
    | none => r = -1 ∧ tc_TM μ' Y fl Z fz w
    | some (u, ch) => r = nI ch.length ∧ tc_TM μ' Y fl (tc_af Z u) fz w ∧ u < 2 ^ Z.1.1 ∧ ch.length ≤ 40) := by
  obtain ⟨hR, hK, hS, hO, he⟩ := h
  refine tc_wp_mono (tc_w7_goes hN hR g tn) (fun r μ' hh => ?_)
  obtain ⟨hF, hh⟩ := hh
  have hK' : tc_KP μ' Y fl := hK.frame (hF.2 31 (by decide) (by decide)) (fun k k1 k2 => hF.1 k (by omega) (by omega) (by omega) (by omega) (by omega) (by omega) (by omega))
  refine ⟨hF.fm, ?_⟩
  cases hm : tc_mo Z tn with
  | none => rw [hm] at hh; exact ⟨hh.1, hh.2, hK', hS, hO, he⟩
  | some p =>
    obtain ⟨u, ch⟩ := p
    rw [hm] at hh
    exact ⟨hh.1, ⟨hh.2.1, hK', hS, hO, he⟩, hh.2.2.1, hh.2.2.2.1⟩
theorem tc_t7_goTrains (hN : 300 ≤ N) (h : tc_TM μ Y fl Z fz w) (g : tc_Gd Z) : tc_wp (tc_f7_goTrains N μ) (fun _ μ' => tc_FM μ μ' ∧ tc_TM μ' Y fl (tc_yT Z ((2 * Z.1.2.2) &&& (2 ^ Z.1.1 - 1))) fz w) := by
  obtain ⟨hR, hK, hS, hO, he⟩ := h
  refine tc_wp_mono (tc_w7_goTrains hN hR g) (fun r μ' hh => ?_)
  obtain ⟨hF, hh⟩ := hh
  exact ⟨⟨fun k k1 k2 => hF k (by omega), fun j hj => by rw [hF 50 (by decide)]⟩, hh, hK.frame (by rw [hF 50 (by decide)]) (fun k k1 k2 => hF k (by omega)), hS, hO, he⟩
theorem tc_t7_addFault (h : tc_TM μ Y fl Z Z.2.2.2 (-1)) (g : tc_Gd Z) {k : Nat} (hk : k < 4) (hs : s < Z.1.1) : tc_wp (tc_f7_addFault N (nI k) (nI s) μ) (fun _ μ' => tc_FM μ μ' ∧ tc_TM μ' Y fl (tc_yD Z (nI k) s) (tc_yD Z (nI k) s).2.2.2 (-1)) := by
  obtain ⟨hR, hK, hS, hO, e, he⟩ := h
  refine tc_wp_mono (tc_w7_addFault hR g hk hs) (fun r μ' hh => ?_)
  obtain ⟨hF, hF2, hh⟩ := hh
  refine ⟨⟨fun k k1 k2 => hF k (by omega) (by omega) (by omega) (by omega), fun j hj => hF2 j (by omega)⟩, hh, hK.frame (hF2 31 (by decide)) (fun k k1 k2 => hF k (by omega) (by omega) (by omega) (by omega)), hS, hO, e ++ [(nI k, s, tc_ct Z (nI k) s)], ?_⟩
  show Z.2.2.2 ++ _ = _
  rw [he, List.append_assoc]
end R9
