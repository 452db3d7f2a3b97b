/-! rows of faults, as three rows of numbers -/
def tz_R3 (A B C : Nat → Int32) (q : Int32 × Nat × Int32) (j : Nat) : Prop := A j = q.1 ∧ B j = nI q.2.1 ∧ C j = q.2.2
def tc_c1' (A : Nat → Int32) (j : Nat) (v : Int32) : Nat → Int32 := fun m => if m = j then v else A m
/-- those that stay are moved to the front -/
def tc_Rmv (fl : tc_Fl) (p : Int32 × Nat × Int32 → Bool) (i : Nat) (A B C : Nat → Int32) : Prop := (∀ j q, ((fl.take i).filter p)[j]? = some q → tz_R3 A B C q j) ∧ ∀ j q, i ≤ j → fl[j]? = some q → tz_R3 A B C q j
theorem tc_Rmv.len {fl : tc_Fl} {p : Int32 × Nat × Int32 → Bool} {i : Nat} : ((fl.take i).filter p).length ≤ i := by
  refine Nat.le_trans (List.length_filter_le _ _) ?_
  rw [List.length_take]; omega
theorem tc_Rmv.skip {fl : tc_Fl} {p : Int32 × Nat × Int32 → Bool} {i : Nat} {A B C : Nat → Int32} {q : Int32 × Nat × Int32} (h : tc_Rmv fl p i A B C) (hq : fl[i]? = some q) (hp : p q = false) : tc_Rmv fl p (i + 1) A B C := by
  refine ⟨fun j r hr => h.1 j r ?_, fun j r hj hr => h.2 j r (by omega) hr⟩
  rw [tc_take1 hq, List.filter_append] at hr
  simpa [hp] using hr
theorem tc_Rmv.keep {fl : tc_Fl} {p : Int32 × Nat × Int32 → Bool} {i : Nat} {A B C : Nat → Int32} {q : Int32 × Nat × Int32} (h : tc_Rmv fl p i A B C) (hq : fl[i]? = some q) (hp : p q = true) : tc_Rmv fl p (i + 1) (tc_c1' A ((fl.take i).filter p).length (A i)) (tc_c1' B ((fl.take i).filter p).length (B i)) (tc_c1' C ((fl.take i).filter p).length (C i)) := by
  have hl := tc_Rmv.len (fl := fl) (p := p) (i := i)
  refine ⟨fun j r hr => ?_, fun j r hj hr => ?_⟩
  · rw [tc_take1 hq, List.filter_append] at hr
    simp only [List.filter_cons, hp, if_true, List.filter_nil] at hr
    by_cases c : j = ((fl.take i).filter p).length
    · subst c
      rw [List.getElem?_append_right (Nat.le_refl _)] at hr
      simp at hr
      subst hr
      have := h.2 i q (Nat.le_refl _) hq
      simpa [tz_R3, tc_c1'] using this
    · by_cases c2 : j < ((fl.take i).filter p).length
      · rw [List.getElem?_append_left c2] at hr
        have := h.1 j r hr
        simpa [tz_R3, tc_c1', c] using this
      · rw [List.getElem?_append_right (by omega)] at hr
        rw [List.getElem?_eq_none (by simp; omega)] at hr
        cases hr
  · have := h.2 j r (by omega) hr
    have c : j ≠ ((fl.take i).filter p).length := by omega
    simpa [tz_R3, tc_c1', c] using this
theorem tc_Rmv.nil {fl : tc_Fl} {p : Int32 × Nat × Int32 → Bool} {A B C : Nat → Int32} (h : ∀ j q, fl[j]? = some q → tz_R3 A B C q j) : tc_Rmv fl p 0 A B C := ⟨fun j q hq => by simp at hq, fun j q _ hq => h j q hq⟩
/-- one is left out -/
def tc_Re (fl : tc_Fl) (f i : Nat) (A B C : Nat → Int32) : Prop := (∀ j q, j + 1 < i → (fl.eraseIdx f)[j]? = some q → tz_R3 A B C q j) ∧ ∀ j q, i ≤ j → fl[j]? = some q → tz_R3 A B C q j
theorem tc_Re.step {fl : tc_Fl} {f i : Nat} {A B C : Nat → Int32} {q : Int32 × Nat × Int32} (hf : f < i) (h : tc_Re fl f i A B C) (hq : fl[i]? = some q) : tc_Re fl f (i + 1) (tc_c1' A (i - 1) (A i)) (tc_c1' B (i - 1) (B i)) (tc_c1' C (i - 1) (C i)) := by
  refine ⟨fun j r hj hr => ?_, fun j r hj hr => ?_⟩
  · by_cases c : j = i - 1
    · subst c
      rw [List.getElem?_eraseIdx, if_neg (by omega), show i - 1 + 1 = i by omega, hq] at hr
      cases hr
      have := h.2 i q (Nat.le_refl _) hq
      simpa [tz_R3, tc_c1'] using this
    · have := h.1 j r (by omega) hr
      simpa [tz_R3, tc_c1', c] using this
  · have := h.2 j r (by omega) hr
    have c : j ≠ i - 1 := by omega
    simpa [tz_R3, tc_c1', c] using this
section C8
variable {N t u : Nat} {μ : tc_Mem} {Y : tc_Y}
theorem tc_w1_bringTo {i j : Nat} (hi : i < 15) (hj : j < 15) (hu : u = t ∨ t + 10 < u ∨ u + 10 < t) : tc_wp (tc_f1_bringTo N t (nI j) u (nI i) μ) (fun _ μ' => (∀ k, k ≠ t + 8 → k ≠ t + 9 → k ≠ t + 10 → μ' k = μ k) ∧ μ' (t + 8) = tc_c1' (μ (t + 8)) j (μ (u + 8) i) ∧ μ' (t + 9) = tc_c1' (μ (t + 9)) j (μ (u + 9) i) ∧ μ' (t + 10) = tc_c1' (μ (t + 10)) j (μ (u + 10) i)) := by
  unfold tc_f1_bringTo
  simp only [tc_wp_ck, tc_wp_lt, tc_wp_some, tc_vin (show i < 2 ^ 31 by omega) (show 15 < 2 ^ 31 by decide), tc_vin (show j < 2 ^ 31 by omega) (show 15 < 2 ^ 31 by decide), tc_cl (show i < 2 ^ 31 by omega), tc_cl (show j < 2 ^ 31 by omega), hi, hj, true_and]
  have e9 : tc_wr μ (t + 8) j (μ (u + 8) i) (u + 9) = μ (u + 9) := tc_wr_k (by omega)
  rw [e9]
  have e10 : tc_wr (tc_wr μ (t + 8) j (μ (u + 8) i)) (t + 9) j (μ (u + 9) i) (u + 10) = μ (u + 10) := by rw [tc_wr_k (by omega), tc_wr_k (by omega)]
  rw [e10]
  refine ⟨fun k k1 k2 k3 => by rw [tc_wr_k k3, tc_wr_k k2, tc_wr_k k1], ?_, ?_, ?_⟩
  · funext m; simp [tc_wr_at, tc_c1']
  · funext m; simp [tc_wr_at, tc_c1']
  · funext m; simp [tc_wr_at, tc_c1']
theorem tz_removeAt {fl : tc_Fl} (hN : 300 ≤ N) (h7 : μ (t + 7) 0 = nI fl.length) (hF : tc_RF μ (t + 8) (t + 9) (t + 10) fl) (g5 : fl.length ≤ 15) (g8 : ∀ q ∈ fl, q.2.1 < 8) {s : Nat} (hs : s < 2 ^ 31) {p : Int32 × Nat × Int32 → Bool} (hp : ∀ q, p q = !decide (q.2.1 = s)) : tc_wp (tc_f1_removeAt N t (nI s) μ) (fun r μ' => r = nI (fl.length - (fl.filter p).length) ∧ (∀ k, (k < t + 7 ∨ t + 10 < k) → μ' k = μ k) ∧ μ' (t + 7) 0 = nI (fl.filter p).length ∧ tc_RF μ' (t + 8) (t + 9) (t + 10) (fl.filter p)) := by
  have key : ∀ (d f i l : Nat) (μ1 : tc_Mem), l = ((fl.take i).filter p).length → i + d = fl.length → d < f → (∀ k, (k < t + 8 ∨ t + 10 < k) → μ1 k = μ k) → tc_Rmv fl p i (μ1 (t + 8)) (μ1 (t + 9)) (μ1 (t + 10)) → tc_wp (tc_f1_removeAt_4 N t f (nI s) (nI l) (nI i) μ1) (fun r μ' => r = nI (fl.length - (fl.filter p).length) ∧ (∀ k, (k < t + 7 ∨ t + 10 < k) → μ' k = μ k) ∧ μ' (t + 7) 0 = nI (fl.filter p).length ∧ tc_RF μ' (t + 8) (t + 9) (t + 10) (fl.filter p)) := by
    intro d
    induction d with
    | zero =>
      intro f i l μ1 hll hi hf hfr hm
      obtain ⟨f, rfl⟩ : ∃ f', f = f' + 1 := ⟨f - 1, by omega⟩
      obtain rfl : i = fl.length := by omega
      have hl := List.length_filter_le p fl
      unfold tc_Rmv at hm
      rw [List.take_length] at hm hll
      rw [tc_f1_removeAt_4]; dsimp only
      rw [hfr (t + 7) (by omega), h7, if_pos (Int32.le_refl _)]
      unfold tc_f1_removeAt_38
      simp only [tc_wp_lt, tc_wp_some]
      rw [hfr (t + 7) (by omega), h7, ← hll]
      refine ⟨pk_sub (by omega), fun k hk => ?_, by simp [tc_wr_at], fun j q hq => ?_⟩
      · rw [tc_wr_k (by omega)]; exact hfr k (by omega)
      · rw [tc_wr_k (by omega), tc_wr_k (by omega), tc_wr_k (by omega)]; exact hm.1 j q hq
    | succ d ih =>
      intro f i l μ1 hll hi hf hfr hm
      obtain ⟨f, rfl⟩ : ∃ f', f = f' + 1 := ⟨f - 1, by omega⟩
      obtain ⟨q, hq⟩ : ∃ q, fl[i]? = some q := ⟨fl[i]'(by omega), List.getElem?_eq_getElem (by omega)⟩
      obtain ⟨r1, r2, r3⟩ := hm.2 i q (Nat.le_refl _) hq
      have hl := tc_Rmv.len (fl := fl) (p := p) (i := i)
      have hq8 := g8 q (List.mem_of_getElem? hq)
      rw [tc_f1_removeAt_4]; dsimp only
      rw [hfr (t + 7) (by omega), h7, if_neg (by rw [tc_le (by omega) (by omega)]; omega), tc_wp_ck]
      refine ⟨(tc_vin (by omega) (by decide)).mpr (by omega), ?_⟩
      rw [tc_wp_if, tc_cl (show i < 2 ^ 31 by omega), r2]
      by_cases c : q.2.1 = s
      · have hpq : p q = false := by rw [hp]; simp [c]
        rw [if_pos (by rw [c]), tc_ad1]
        exact ih f (i + 1) l μ1 (by rw [tc_take1 hq, List.filter_append, hll]; simp [hpq]) (by omega) (by omega) hfr (hm.skip hq hpq)
      · have hpq : p q = true := by rw [hp]; simp [c]
        rw [if_neg (by rw [tc_eq (by omega) hs]; exact c), tc_wp_bd]
        have hb := tc_w1_bringTo (N := N) (t := t) (u := t) (μ := μ1) (i := i) (j := l) (by omega) (by omega) (Or.inl rfl)
        refine tc_wp_mono hb (fun _ μ2 hh => ?_)
        obtain ⟨b1, b2, b3, b4⟩ := hh
        have hm2 := hm.keep hq hpq
        rw [← hll, ← b2, ← b3, ← b4] at hm2
        rw [tc_ad1, tc_ad1]
        exact ih f (i + 1) (l + 1) μ2 (by rw [tc_take1 hq, List.filter_append, List.length_append, ← hll]; simp [hpq]) (by omega) (by omega) (fun k hk => by rw [b1 k (by omega) (by omega) (by omega)]; exact hfr k hk) hm2
  exact key fl.length N 0 0 μ (by simp) (by omega) (by omega) (fun _ _ => rfl) (tc_Rmv.nil (fun j q hq => hF j q hq))
theorem tc_w1_removeAt (hN : 300 ≤ N) (h : tc_RC μ t Y) (g : tc_Gd Y) {s : Nat} (hs : s < 2 ^ 31) {p : Int32 × Nat × Int32 → Bool} (hp : ∀ q, p q = !decide (q.2.1 = s)) : tc_wp (tc_f1_removeAt N t (nI s) μ) (fun r μ' => r = nI (Y.2.2.2.length - (Y.2.2.2.filter p).length) ∧ (∀ k, (k < t + 7 ∨ t + 10 < k) → μ' k = μ k) ∧ μ' (t + 7) 0 = nI (Y.2.2.2.filter p).length ∧ tc_RF μ' (t + 8) (t + 9) (t + 10) (Y.2.2.2.filter p)) := tz_removeAt hN h.2.2.2.1 h.2.2.2.2 g.2.2.2.2.1 g.p8 hs hp
theorem tc_w1_remove (hN : 300 ≤ N) (h : tc_RC μ t Y) (g : tc_Gd Y) {e : Nat} (he : e < Y.2.2.2.length) : tc_wp (tc_f1_remove N t (nI e) μ) (fun _ μ' => tc_FY μ μ' t ∧ tc_RC μ' t (tc_yF Y (Y.2.2.2.eraseIdx e))) := by
  have g5 := g.2.2.2.2.1
  have key : ∀ (d f i : Nat) (μ1 : tc_Mem), i + d = Y.2.2.2.length → d < f → e < i → (∀ k, (k < t + 8 ∨ t + 10 < k) → μ1 k = μ k) → tc_Re Y.2.2.2 e i (μ1 (t + 8)) (μ1 (t + 9)) (μ1 (t + 10)) → tc_wp (tc_f1_remove_17 N t f (nI i) μ1) (fun _ μ' => tc_FY μ μ' t ∧ tc_RC μ' t (tc_yF Y (Y.2.2.2.eraseIdx e))) := by
    intro d
    induction d with
    | zero =>
      intro f i μ1 hi hf hei hfr hm
      obtain ⟨f, rfl⟩ : ∃ f', f = f' + 1 := ⟨f - 1, by omega⟩
      obtain rfl : i = Y.2.2.2.length := by omega
      have hl : (Y.2.2.2.eraseIdx e).length = Y.2.2.2.length - 1 := by rw [List.length_eraseIdx, if_pos he]
      rw [tc_f1_remove_17]; dsimp only
      rw [hfr (t + 7) (by omega), h.2.2.2.1, if_pos (Int32.le_refl _)]
      unfold tc_f1_remove_40
      simp only [tc_wp_lt, tc_wp_some]
      rw [hfr (t + 7) (by omega), h.2.2.2.1, tc_sb1 (by omega)]
      obtain ⟨h1, h2, h3, h4, h5⟩ := h
      refine ⟨fun k hk => ?_, ?_, fun s hs => ?_, ?_, ?_, fun j q hq => ?_⟩
      · rw [tc_wr_k (by omega)]; exact hfr k (by omega)
      · rw [tc_wr_k (by omega), hfr t (by omega)]; exact h1
      · rw [tc_wr_k (by omega), tc_wr_k (by omega), tc_wr_k (by omega), tc_wr_k (by omega), tc_wr_k (by omega), hfr (t + 1) (by omega), hfr (t + 2) (by omega), hfr (t + 3) (by omega), hfr (t + 4) (by omega), hfr (t + 5) (by omega)]; exact h2 s hs
      · rw [tc_wr_k (by omega), hfr t (by omega)]; exact h3
      · rw [tc_wr_at, if_pos ⟨rfl, rfl⟩]; exact congrArg nI hl.symm
      · have hq' : (Y.2.2.2.eraseIdx e)[j]? = some q := hq
        have hj := (List.getElem?_eq_some_iff.mp hq').1
        rw [tc_wr_k (by omega), tc_wr_k (by omega), tc_wr_k (by omega)]; exact hm.1 j q (by omega) hq'
    | succ d ih =>
      intro f i μ1 hi hf hei hfr hm
      obtain ⟨f, rfl⟩ : ∃ f', f = f' + 1 := ⟨f - 1, by omega⟩
      obtain ⟨q, hq⟩ : ∃ q, Y.2.2.2[i]? = some q := ⟨Y.2.2.2[i]'(by omega), List.getElem?_eq_getElem (by omega)⟩
      rw [tc_f1_remove_17]; dsimp only
      rw [hfr (t + 7) (by omega), h.2.2.2.1, if_neg (by rw [tc_le (by omega) (by omega)]; omega), tc_wp_bd, tc_sb1 (by omega)]
      refine tc_wp_mono (tc_w1_bringTo (N := N) (t := t) (u := t) (μ := μ1) (i := i) (j := i - 1) (by omega) (by omega) (Or.inl rfl)) (fun _ μ2 hh => ?_)
      obtain ⟨b1, b2, b3, b4⟩ := hh
      have hm2 := hm.step hei hq
      rw [← b2, ← b3, ← b4] at hm2
      rw [tc_ad1]
      exact ih f (i + 1) μ2 (by omega) (by omega) (by omega) (fun k hk => by rw [b1 k (by omega) (by omega) (by omega)]; exact hfr k hk) hm2
  unfold tc_f1_remove
  rw [if_neg (tc_nn (by omega)), h.2.2.2.1, if_pos (by rw [tc_lt' (by omega) (by omega)]; exact he), tc_wp_lt, tc_ad1]
  refine key (Y.2.2.2.length - (e + 1)) N (e + 1) μ (by omega) (by omega) (by omega) (fun _ _ => rfl) ⟨fun j q hj hq => ?_, fun j q _ hq => h.2.2.2.2 j q hq⟩
  rw [List.getElem?_eraseIdx, if_pos (by omega)] at hq
  exact h.2.2.2.2 j q hq
theorem tc_w1_add (h : tc_RC μ t Y) (hl : Y.2.2.2.length < 15) {k c : Int32} {s : Nat} : tc_wp (tc_f1_add N t k (nI s) c μ) (fun _ μ' => tc_FY μ μ' t ∧ tc_RC μ' t (tc_yF Y (Y.2.2.2 ++ [(k, s, c)]))) := by
  obtain ⟨h1, h2, h3, h6, h7⟩ := h
  unfold tc_f1_add
  have hv : vp_in (nI Y.2.2.2.length) 15 := (tc_vin (by omega) (by decide)).mpr hl
  rw [h6, if_pos (by rw [tc_ltL (k := 15) (by omega) (by decide)]; exact hl)]
  simp only [tc_wp_ck, tc_wp_lt, tc_wp_some]
  have c0 : (nI Y.2.2.2.length).toNatClampNeg = Y.2.2.2.length := tc_cl (by omega)
  have z : ∀ k i v (m : tc_Mem), k ≠ t + 7 → tc_wr m k i v (t + 7) 0 = m (t + 7) 0 := fun k i v m hk => by rw [tc_wr_k (Ne.symm hk)]
  simp only [z (t + 8) _ _ _ (by omega), z (t + 9) _ _ _ (by omega), z (t + 10) _ _ _ (by omega), h6, hv, c0, true_and, tc_ad1]
  refine ⟨(((tc_FY.rf.wr ?_).wr ?_).wr ?_).wr ?_, ?_, fun s hs => ?_, ?_, ?_, fun j q hq => ?_⟩
  · omega
  · omega
  · omega
  · omega
  · simpa [tc_wr_at, tc_yF] using h1
  · simpa [tc_wr_at, tc_yF] using h2 s hs
  · simpa [tc_wr_at, tc_yF] using h3
  · simp [tc_wr_at, tc_yF]
  · have hq' : (Y.2.2.2 ++ [(k, s, c)])[j]? = some q := hq
    by_cases cj : j = Y.2.2.2.length
    · subst cj
      rw [List.getElem?_append_right (Nat.le_refl _)] at hq'
      simp at hq'
      subst hq'
      simp [tc_wr_at]
    · by_cases c2 : j < Y.2.2.2.length
      · rw [List.getElem?_append_left c2] at hq'
        simpa [tc_wr_at, cj] using h7 j q hq'
      · rw [List.getElem?_eq_none (by simp; omega)] at hq'
        cases hq'
def tc_ct (Y : tc_Y) (k : Int32) (s : Nat) : Int32 := if k = 2 ∧ s + 1 < Y.1.1 then Y.2.2.1.2.1 (s + 1) / 2 else 0
def tc_yD (Y : tc_Y) (k : Int32) (s : Nat) : tc_Y := tc_yF Y (Y.2.2.2 ++ [(k, s, tc_ct Y k s)])
theorem tc_Gd.yD (g : tc_Gd Y) {k s : Nat} (hl : Y.2.2.2.length < 15) (hk : k < 4) (hs : s < Y.1.1) : tc_Gd (tc_yD Y (nI k) s) := by
  obtain ⟨g1, g2, g3, g4, g5, g6⟩ := g
  refine ⟨g1, g2, g3, g4, ?_, ?_⟩
  · show (Y.2.2.2 ++ [_]).length ≤ 15
    rw [List.length_append]; simp; omega
  · intro q hq
    have hq' : q ∈ Y.2.2.2 ++ [(nI k, s, tc_ct Y (nI k) s)] := hq
    rw [List.mem_append] at hq'
    rcases hq' with hq' | hq'
    · exact g6 q hq'
    · rw [List.mem_singleton] at hq'
      subst hq'
      exact ⟨hs, k, hk, rfl⟩
theorem tc_w5_addFault (h : tc_RC μ t Y) (g : tc_Gd Y) (hl : Y.2.2.2.length < 15) {k : Int32} {s : Nat} (hs : s < Y.1.1) : tc_wp (tc_f5_addFault N t k (nI s) μ) (fun _ μ' => tc_FY μ μ' t ∧ tc_RC μ' t (tc_yD Y k s)) := by
  have g1 := g.1
  have fin : ∀ c, c = tc_ct Y k s → tc_wp (tc_f5_addFault_29 N t k (nI s) c μ) (fun _ μ' => tc_FY μ μ' t ∧ tc_RC μ' t (tc_yD Y k s)) := by
    intro c hc
    unfold tc_f5_addFault_29
    rw [tc_wp_bd]
    refine tc_wp_mono (tc_w1_add h hl) (fun _ μ2 hh => ?_)
    rw [tc_wp_some]
    unfold tc_yD
    rw [← hc]
    exact hh
  unfold tc_f5_addFault tc_f5_addFault_28
  rw [tc_wp_if]
  by_cases c : k = 2
  · rw [if_pos c, tc_wp_bd, tc_ad1, tc_v5_has h g (by omega), tc_wp_some, tc_wp_if]
    by_cases c2 : s + 1 < Y.1.1
    · rw [if_neg (by simp [c2, tc_bI]), tc_wp_ck, tc_cl (by omega)]
      refine ⟨(tc_vin (by omega) (by decide)).mpr (by omega), fin _ ?_⟩
      unfold tc_ct
      rw [if_pos ⟨c, c2⟩, (h.2.1 (s + 1) c2).2.1]
    · rw [if_pos (by simp [c2, tc_bI])]
      exact fin 0 (by unfold tc_ct; rw [if_neg (fun z => c2 z.2)])
  · rw [if_neg c]
    exact fin 0 (by unfold tc_ct; rw [if_neg (fun z => c z.1)])
end C8
