/-! texts: tokens as the class asks for them -/
section X4
variable {N : Nat} {B : Nat → Int32} {L i b e w c : Nat} {x1 x2 : Int32} {μ μ1 μ2 : tc_Mem}
theorem tz_sk_no (p : Nat → Bool) (h : p i = false) : ∀ d, tz_sk p d i = i := by
  intro d
  cases d with
  | zero => rfl
  | succ d => rw [tz_sk, if_neg (by rw [h]; decide)]
theorem tz_wi_nn {x : Int32} (h : tc_wi x 97 122 = true) : tc_wi x 48 57 = false := by
  obtain ⟨j, h1, h2, rfl⟩ := tc_wi_nI (a := 97) (b := 122) (by decide) (by decide) h
  unfold tc_wi
  rw [decide_eq_true (show (57 : Int32) < nI j by rw [tc_Llt (k := 57) (by omega) (by decide)]; omega)]; simp
theorem tz_nxW (hi : i ≤ L) (h : tz_nx B L (tz_bl B L i) μ) : match tz_W B L i with
    | .inl b => ¬ μ 50 33 = 1 ∧ μ 50 34 = nI b
    | .inr (w, e) => μ 50 33 = 1 ∧ μ 50 35 = nI w ∧ μ 50 32 = nI e := by
  have hb := tz_bl_le (B := B) hi
  unfold tz_W
  generalize tz_bl B L i = b at *
  unfold tz_nx at h
  obtain ⟨h4, h⟩ := h
  by_cases c0 : b = L
  · rw [if_pos c0] at h
    have e : tz_sk (tz_il B) (L - b) b = b := by rw [c0, Nat.sub_self]; rfl
    rw [e, tz_sp_0]
    exact ⟨by rw [h]; decide, h4⟩
  rw [if_neg c0] at h
  by_cases c1 : tz_il B b = true
  · rw [if_pos c1] at h
    obtain ⟨h2, h3⟩ := h
    cases hs : tc_sr (tz_sp B b (tz_sk (tz_il B) (L - b) b)) 8 0 with
    | none =>
      rw [hs] at h3
      exact ⟨by rw [show μ 50 33 = 4 from h3]; decide, h4⟩
    | some w =>
      rw [hs] at h3
      exact ⟨h3.1, h3.2, h2⟩
  rw [if_neg c1] at h
  rw [tz_sk_no _ (show tz_il B b = false by simpa using c1), tz_sp_0]
  refine ⟨?_, h4⟩
  by_cases c2 : tz_id B b = true
  · rw [if_pos c2] at h
    split at h
    · rw [h]; decide
    · rw [h.1]; decide
  · rw [if_neg c2] at h
    rw [h.2]
    split <;> decide
theorem tz_nxM (hi : i ≤ L) (h : tz_nx B L (tz_bl B L i) μ) : match tz_M B L i with
    | .inl b => ¬ μ 50 33 = 2 ∧ μ 50 34 = nI b
    | .inr (v, e) => μ 50 33 = 2 ∧ μ 50 35 = v ∧ μ 50 32 = nI e := by
  have hb := tz_bl_le (B := B) hi
  unfold tz_M
  generalize tz_bl B L i = b at *
  unfold tz_nx at h
  obtain ⟨h4, h⟩ := h
  by_cases c0 : b = L
  · rw [if_pos c0] at h
    have e : tz_sk (tz_id B) (L - b) b = b := by rw [c0, Nat.sub_self]; rfl
    rw [e, if_pos (Or.inl rfl)]
    exact ⟨by rw [h]; decide, h4⟩
  rw [if_neg c0] at h
  by_cases c1 : tz_il B b = true
  · rw [if_pos c1] at h
    obtain ⟨h2, h3⟩ := h
    rw [tz_sk_no _ (show tz_id B b = false from tz_wi_nn c1), if_pos (Or.inl rfl)]
    refine ⟨?_, h4⟩
    cases hs : tc_sr (tz_sp B b (tz_sk (tz_il B) (L - b) b)) 8 0 with
    | none =>
      rw [hs] at h3
      rw [show μ 50 33 = 4 from h3]; decide
    | some w =>
      rw [hs] at h3
      rw [h3.1]; decide
  rw [if_neg c1] at h
  by_cases c2 : tz_id B b = true
  · rw [if_pos c2] at h
    have hgt : b + 1 ≤ tz_sk (tz_id B) (L - b) b := by
      obtain ⟨d, hd⟩ : ∃ d, L - b = d + 1 := ⟨L - b - 1, by omega⟩
      rw [hd, tz_sk, if_pos c2]
      exact (tz_sk_le (tz_id B) d (b + 1)).1
    by_cases c3 : b + 2 < tz_sk (tz_id B) (L - b) b
    · rw [if_pos c3] at h
      rw [if_pos (Or.inr c3)]
      exact ⟨by rw [h]; decide, h4⟩
    · rw [if_neg c3] at h
      rw [if_neg (by omega)]
      exact ⟨h.1, h.2.2, h.2.1⟩
  · rw [if_neg c2] at h
    rw [tz_sk_no _ (show tz_id B b = false by simpa using c2), if_pos (Or.inl rfl)]
    refine ⟨?_, h4⟩
    rw [h.2]
    split <;> decide
theorem tz_nxS (hi : i ≤ L) (h : tz_nx B L (tz_bl B L i) μ) : if L ≤ tz_bl B L i then μ 50 33 = 0 else if B (tz_bl B L i) = 59 then μ 50 33 = 3 ∧ μ 50 32 = nI (tz_bl B L i + 1) else ¬ μ 50 33 = 0 ∧ ¬ μ 50 33 = 3 ∧ μ 50 34 = nI (tz_bl B L i) := by
  have hb := tz_bl_le (B := B) hi
  generalize tz_bl B L i = b at *
  unfold tz_nx at h
  obtain ⟨h4, h⟩ := h
  by_cases c0 : b = L
  · rw [if_pos c0] at h
    rw [if_pos (by omega)]; exact h
  rw [if_neg c0] at h
  rw [if_neg (by omega)]
  by_cases c : B b = 59
  · rw [if_pos c]
    rw [if_neg (by unfold tz_il; rw [c]; decide), if_neg (by unfold tz_id; rw [c]; decide), if_pos c] at h
    exact ⟨h.2, h.1⟩
  · rw [if_neg c]
    by_cases c1 : tz_il B b = true
    · rw [if_pos c1] at h
      obtain ⟨h2, h3⟩ := h
      cases hs : tc_sr (tz_sp B b (tz_sk (tz_il B) (L - b) b)) 8 0 with
      | none =>
        rw [hs] at h3
        rw [show μ 50 33 = 4 from h3]; exact ⟨by decide, by decide, h4⟩
      | some w =>
        rw [hs] at h3
        rw [h3.1]; exact ⟨by decide, by decide, h4⟩
    rw [if_neg c1] at h
    by_cases c2 : tz_id B b = true
    · rw [if_pos c2] at h
      split at h
      · rw [h]; exact ⟨by decide, by decide, h4⟩
      · rw [h.1]; exact ⟨by decide, by decide, h4⟩
    · rw [if_neg c2, if_neg c] at h
      rw [h.2]; exact ⟨by decide, by decide, h4⟩
theorem tz_al_ok : ∀ (d i : Nat) (l : List (Nat × List Int32)), i ≤ L → tz_al B L d i = .inr l → l ≠ [] ∧ l.length ≤ d ∧ ∀ q ∈ l, q.1 < 8 ∧ q.2.length = tz_nn q.1 := by
  intro d
  induction d with
  | zero => intro i l _ h; rw [tz_al] at h; cases h
  | succ d ih =>
    intro i l hi h
    rw [tz_al] at h
    cases hc : tz_cs B L i with
    | inl b => rw [hc] at h; cases h
    | inr p =>
      obtain ⟨q, e⟩ := p
      rw [hc] at h
      obtain ⟨l1, l2, l3, l4⟩ := tz_cs_le hi hc
      have hb := tz_bl_le (B := B) l2
      dsimp only at h
      split at h
      · cases h
        exact ⟨by simp, by simp, fun p hp => by rw [List.mem_singleton.mp hp]; exact ⟨l3, l4⟩⟩
      · split at h
        · cases ha : tz_al B L d (tz_bl B L e + 1) with
          | inl b => rw [ha] at h; cases h
          | inr l' =>
            rw [ha] at h
            cases h
            have := ih (tz_bl B L e + 1) l' (by omega) ha
            refine ⟨by simp, by simp; omega, fun p hp => ?_⟩
            rcases List.mem_cons.mp hp with rfl | hp
            · exact ⟨l3, l4⟩
            · exact this.2.2 p hp
        · cases h
theorem tz_al_err : ∀ (d i b : Nat), i ≤ L → L ≤ 60 → tz_al B L d i = .inl b → b < 2 ^ 31 ∧ b ≤ 60 := by
  intro d
  induction d with
  | zero => intro i b hi hL h; rw [tz_al] at h; cases h; omega
  | succ d ih =>
    intro i b hi hL h
    rw [tz_al] at h
    cases hc : tz_cs B L i with
    | inl b' =>
      rw [hc] at h
      cases h
      have : b ≤ L := by
        unfold tz_cs at hc
        cases h1 : tz_W B L i with
        | inl b' => rw [h1] at hc; cases hc; exact tz_W_err hi h1
        | inr p =>
          obtain ⟨w, e1⟩ := p
          rw [h1] at hc
          have q := tz_W_le hi h1
          cases h2 : tz_ns B L (tz_nn w) e1 with
          | inl b' => simp only [h2] at hc; cases hc; exact tz_ns_err _ _ _ q.2.1 h2
          | inr p => simp only [h2] at hc; cases hc
      omega
    | inr p =>
      obtain ⟨q, e⟩ := p
      rw [hc] at h
      obtain ⟨l1, l2, l3, l4⟩ := tz_cs_le hi hc
      have hb := tz_bl_le (B := B) l2
      dsimp only at h
      split at h
      · cases h
      · split at h
        · cases ha : tz_al B L d (tz_bl B L e + 1) with
          | inl b' =>
            rw [ha] at h
            cases h
            exact ih (tz_bl B L e + 1) b (by omega) hL ha
          | inr l' => rw [ha] at h; cases h
        · cases h; omega
/-! the reference reads -/
def tz_F9 (μ μ' : tc_Mem) : Prop := (∀ k, k ≠ 50 → k ≠ 75 → μ' k = μ k) ∧ ∀ j, (j < 32 ∨ 35 < j) → μ' 50 j = μ 50 j
theorem tz_F9.rf : tz_F9 μ μ := ⟨fun _ _ _ => rfl, fun _ _ => rfl⟩
theorem tz_F9.trans (h : tz_F9 μ μ1) (h2 : tz_F9 μ1 μ2) : tz_F9 μ μ2 := ⟨fun k a b => (h2.1 k a b).trans (h.1 k a b), fun j a => (h2.2 j a).trans (h.2 j a)⟩
theorem tz_FN.nine (h : tz_FN μ μ1) : tz_F9 μ μ1 := ⟨fun k a _ => h.1 k a, h.2⟩
theorem tz_Q.f9 (h : tz_Q μ B L) (hf : tz_F9 μ μ1) : tz_Q μ1 B L := ⟨by rw [hf.2 17 (by omega)]; exact h.1, fun i hi => by rw [hf.1 63 (by decide) (by decide)]; exact h.2 i hi⟩
theorem tc_v7_numbersOf (hw : w < 8) : tc_f7_numbersOf N (nI w) μ = some (nI (tz_nn w), μ) := by
  unfold tc_f7_numbersOf
  rcases (show w = 0 ∨ w = 1 ∨ w = 2 ∨ w = 3 ∨ w = 4 ∨ w = 5 ∨ w = 6 ∨ w = 7 by omega) with rfl | rfl | rfl | rfl | rfl | rfl | rfl | rfl <;> simp (decide := true) only [if_true, if_false] <;> rfl
theorem tz_r35 (hN : 300 ≤ N) (hL : L ≤ 60) (hw : w < 8) {k7 : Int32 → Int32 → tc_Mem → Option (Int32 × tc_Mem)} {P : Int32 → tc_Mem → Prop} (hQ : tz_Q μ B L) : ∀ (d f k i : Nat) (acc : List Int32) (μ1 : tc_Mem), k + d = tz_nn w → d < f → i ≤ L → tz_F9 μ μ1 → μ1 50 32 = nI i → acc.length = k → (∀ t v, acc[t]? = some v → μ1 75 t = v) → (∀ b μ', tz_ns B L d i = .inl b → tz_F9 μ μ' → P (-100 - nI b) μ') → (∀ l e μ', tz_ns B L d i = .inr (l, e) → tz_F9 μ μ' → μ' 50 32 = nI e → (∀ t v, (acc ++ l)[t]? = some v → μ' 75 t = v) → tc_wp (tc_f7_reads_81 N k7 x1 x2 (nI w) μ') P) → tc_wp (tc_f7_reads_35 N k7 f x1 x2 (nI w) (nI k) μ1) P := by
  have hnn := tz_nums w hw
  intro d
  induction d with
  | zero =>
    intro f k i acc μ1 hk hf hi hF h2 ha hT h1 h3
    obtain ⟨f, rfl⟩ : ∃ f', f = f' + 1 := ⟨f - 1, by omega⟩
    rw [tc_f7_reads_35]; dsimp only
    rw [tc_wp_bd, tc_v7_numbersOf hw, tc_wp_some, if_pos (by rw [tc_le (by omega) (by omega)]; omega)]
    exact h3 [] i μ1 rfl hF h2 (by simpa using hT)
  | succ d ih =>
    intro f k i acc μ1 hk hf hi hF h2 ha hT h1 h3
    obtain ⟨f, rfl⟩ : ∃ f', f = f' + 1 := ⟨f - 1, by omega⟩
    rw [tc_f7_reads_35]; dsimp only
    rw [tc_wp_bd, tc_v7_numbersOf hw, tc_wp_some, if_neg (by rw [tc_le (by omega) (by omega)]; omega), tc_wp_bd]
    refine tc_wp_mono (tc_w7_next hN hL (hQ.f9 hF) hi h2) (fun _ μ2 hh => ?_)
    obtain ⟨F2, nx⟩ := hh
    have hm := tz_nxM hi nx
    have F12 := hF.trans F2.nine
    rw [tz_ns] at h1 h3
    cases hM : tz_M B L i with
    | inl b =>
      rw [hM] at hm h1
      rw [if_neg hm.1]
      unfold tc_f7_reads_56
      rw [tc_wp_some, hm.2]
      exact h1 b μ2 rfl F12
    | inr p =>
      obtain ⟨v, e⟩ := p
      rw [hM] at hm h1 h3
      obtain ⟨m1, m2, m3⟩ := hm
      have hle := tz_M_le hi hM
      rw [if_pos m1, tc_wp_ck, tc_cl (by omega), tc_wp_lt, m2, tc_ad1]
      have F3 : tz_F9 μ (tc_wr μ2 75 k v) := ⟨fun q a b => by rw [tc_wr_k b]; exact F12.1 q a b, fun j a => by rw [tc_wr_k (by decide)]; exact F12.2 j a⟩
      refine ⟨(tc_vin (by omega) (by decide)).mpr (by omega), ih f (k + 1) e (acc ++ [v]) _ (by omega) (by omega) hle.2 F3 (by rw [tc_wr_k (by decide)]; exact m3) (by simp [ha]) (fun t u hu => ?_) (fun b μ' hb hF' => ?_) (fun l e' μ' hl hF' h2' hT' => ?_)⟩
      · by_cases c : t = k
        · rw [c, tz_we]
          rw [c, List.getElem?_append_right (by omega), ha, Nat.sub_self] at hu
          simpa using hu
        · have ht : t < acc.length := by
            have := (List.getElem?_eq_some_iff.mp hu).1
            rw [List.length_append, List.length_singleton] at this
            omega
          rw [List.getElem?_append_left ht] at hu
          rw [tz_wn c, F2.1 75 (by decide)]
          exact hT t u hu
      · exact h1 b μ' (by dsimp only; rw [hb]) hF'
      · refine h3 (v :: l) e' μ' (by dsimp only; rw [hl]) hF' h2' (fun t u hu => ?_)
        have : acc ++ v :: l = acc ++ [v] ++ l := by simp
        rw [this] at hu
        exact hT' t u hu
end X4
