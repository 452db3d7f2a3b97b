/-! texts: the class reads all -/
section X2
variable {N : Nat} {B : Nat → Int32} {L i b e w c : Nat} {x1 x2 : Int32} {μ μ1 μ2 : tc_Mem}
def tz_F5 (μ μ' : tc_Mem) : Prop := (∀ k, k ≠ 42 → k ≠ 44 → k ≠ 45 → μ' k = μ k) ∧ ∀ j, j ≠ 2 → j ≠ 5 → μ' 42 j = μ 42 j
theorem tz_F5.rf : tz_F5 μ μ := ⟨fun _ _ _ _ => rfl, fun _ _ _ => rfl⟩
theorem tz_F5.trans (h : tz_F5 μ μ1) (h2 : tz_F5 μ1 μ2) : tz_F5 μ μ2 := ⟨fun k a b c => (h2.1 k a b c).trans (h.1 k a b c), fun j a b => (h2.2 j a b).trans (h.2 j a b)⟩
theorem tz_F2.five (h : tz_F2 μ μ1) : tz_F5 μ μ1 := ⟨fun k a _ _ => h.1 k a, fun j a _ => h.2 j a⟩
theorem tz_P.f5 (h : tz_P μ B L) (hf : tz_F5 μ μ1) : tz_P μ1 B L := ⟨by rw [hf.2 1 (by decide) (by decide)]; exact h.1, fun i hi => by rw [hf.1 43 (by decide) (by decide) (by decide)]; exact h.2 i hi⟩
theorem tz_nm1 {b : Nat} (h : b < 2 ^ 31) : ¬ nI b = -1 := fun q => tc_nn h (by rw [q]; decide)
theorem tz_nums : ∀ w, w < 8 → tc_NUMBERS w = nI (tz_nn w) ∧ tz_nn w ≤ 4 := by decide
theorem tz_M_err (hi : i ≤ L) (h : tz_M B L i = .inl b) : b ≤ L := by
  unfold tz_M at h
  have := tz_bl_le (B := B) hi
  split at h
  · cases h; omega
  · cases h
theorem tz_ns_err : ∀ (k i b : Nat), i ≤ L → tz_ns B L k i = .inl b → b ≤ L := by
  intro k
  induction k with
  | zero => intro i b _ h; rw [tz_ns] at h; cases h
  | succ k ih =>
    intro i b hi h
    rw [tz_ns] at h
    cases h1 : tz_M B L i with
    | inl b' => rw [h1] at h; cases h; exact tz_M_err hi h1
    | inr p =>
      obtain ⟨v, e1⟩ := p
      rw [h1] at h
      have q := tz_M_le hi h1
      cases h2 : tz_ns B L k e1 with
      | inl b' => simp only [h2] at h; cases h; exact ih e1 b q.2 h2
      | inr p => simp only [h2] at h; cases h
theorem tz_W_err (hi : i ≤ L) (h : tz_W B L i = .inl b) : b ≤ L := by
  unfold tz_W at h
  have := tz_bl_le (B := B) hi
  split at h
  · cases h; omega
  · cases h
theorem tz_cs_err (hi : i ≤ L) (hL : L ≤ 60) (h : tz_cs B L i = .inl b) : b < 2 ^ 31 := by
  have : b ≤ L := by
    unfold tz_cs at h
    cases h1 : tz_W B L i with
    | inl b' => rw [h1] at h; cases h; exact tz_W_err hi h1
    | inr p =>
      obtain ⟨w, e1⟩ := p
      rw [h1] at h
      have q := tz_W_le hi h1
      cases h2 : tz_ns B L (tz_nn w) e1 with
      | inl b' => simp only [h2] at h; cases h; exact tz_ns_err _ _ _ q.2.1 h2
      | inr p => simp only [h2] at h; cases h
  omega
theorem tz_rc40 (hN : 300 ≤ N) (hL : L ≤ 60) (hc : c < 15) (hw : w < 8) : ∀ (d f k i : Nat) (μ : tc_Mem), tz_P μ B L → k + d = tz_nn w → d < f → i ≤ L → μ 42 2 = nI i → tc_wp (tc_f4_readClause_40 N f (nI c) (nI w) (nI k) μ) (fun r μ' => ((∀ k, k ≠ 42 → k ≠ 45 → μ' k = μ k) ∧ ∀ j, j ≠ 2 → μ' 42 j = μ 42 j) ∧ match tz_ns B L d i with
    | .inl b => r = nI b
    | .inr (l, e) => r = -1 ∧ μ' 42 2 = nI e ∧ (∀ t v, l[t]? = some v → μ' 45 (4 * c + k + t) = v) ∧ ∀ q, q < 4 * c + k → μ' 45 q = μ 45 q) := by
  have hnn := tz_nums w hw
  have hvw : vp_in (nI w) 8 := (tc_vin (by omega) (by decide)).mpr hw
  intro d
  induction d with
  | zero =>
    intro f k i μ hP hk hf hi h2
    obtain ⟨f, rfl⟩ : ∃ f', f = f' + 1 := ⟨f - 1, by omega⟩
    rw [tc_f4_readClause_40]; dsimp only
    rw [tc_wp_ck, tc_cl (by omega), hnn.1, if_pos (by rw [tc_le (by omega) (by omega)]; omega), tc_wp_some]
    refine ⟨hvw, ⟨fun _ _ _ => rfl, fun _ _ => rfl⟩, ?_⟩
    rw [tz_ns]
    exact ⟨rfl, h2, fun t v hv => by simp at hv, fun q _ => rfl⟩
  | succ d ih =>
    intro f k i μ hP hk hf hi h2
    obtain ⟨f, rfl⟩ : ∃ f', f = f' + 1 := ⟨f - 1, by omega⟩
    rw [tc_f4_readClause_40]; dsimp only
    rw [tc_wp_ck, tc_cl (show w < 2 ^ 31 by omega), hnn.1, if_neg (by rw [tc_le (by omega) (by omega)]; omega), tc_wp_bd]
    refine ⟨hvw, tc_wp_mono (tc_w4_blanks hN hL hP hi h2) (fun _ μ1 hh => ?_)⟩
    obtain ⟨F1, e1⟩ := hh
    have hb := tz_bl_le (B := B) hi
    rw [tc_wp_lt, tc_wp_bd]
    have hs := tc_w4_skip (N := N) (x1 := 48) (x2 := 57) hN hL (hP.f2 F1) hb.2 e1
    refine tc_wp_mono hs (fun _ μ2 hh => ?_)
    obtain ⟨F2, e2⟩ := hh
    have he := tz_sk_L (tz_id B) hb.2
    have e2' : μ2 42 2 = nI (tz_sk (tz_id B) (L - tz_bl B L i) (tz_bl B L i)) := e2
    have F12 := F1.trans F2
    rw [e2', e1]
    rw [tz_ns]
    unfold tz_M
    generalize hE : tz_sk (tz_id B) (L - tz_bl B L i) (tz_bl B L i) = E at *
    generalize hBb : tz_bl B L i = b at *
    by_cases q1 : E = b
    · rw [if_pos (by rw [q1]), tc_wp_some, if_pos (Or.inl q1)]
      exact ⟨⟨fun k a _ => F12.1 k a, F12.2⟩, rfl⟩
    rw [if_neg (by rw [tc_eq (by omega) (by omega)]; exact q1)]
    have e22 : nI b + 2 = nI (b + 2) := nI_add b 2
    rw [e22]
    by_cases q2 : b + 2 < E
    · rw [if_neg (by rw [tc_le (by omega) (by omega)]; omega), tc_wp_some, if_pos (Or.inr q2)]
      exact ⟨⟨fun k a _ => F12.1 k a, F12.2⟩, rfl⟩
    rw [if_pos (by rw [tc_le (by omega) (by omega)]; omega), if_neg (by omega), tc_wp_bd, tc_v4_numberFrom hN hL (hP.f2 F12) he.1 he.2 e2', tc_wp_some]
    have ei : nI c * 4 + nI k = nI (4 * c + k) := by show nI c * nI 4 + nI k = _; rw [pk_mul, nI_add, Nat.mul_comm]
    rw [ei, tc_wp_ck, tc_cl (by omega), tc_wp_lt, tc_ad1]
    refine ⟨(tc_vin (by omega) (by decide)).mpr (by omega), ?_⟩
    have hP3 : tz_P (tc_wr μ2 45 (4 * c + k) (tz_nv B b (E - b))) B L := ⟨by rw [tc_wr_k (by decide)]; exact (hP.f2 F12).1, fun i hi => by rw [tc_wr_k (by decide)]; exact (hP.f2 F12).2 i hi⟩
    refine tc_wp_mono (ih f (k + 1) E _ hP3 (by omega) (by omega) he.2 (by rw [tc_wr_k (by decide)]; exact e2')) (fun r μ4 hh => ?_)
    obtain ⟨⟨G1, G2⟩, hh⟩ := hh
    refine ⟨⟨fun k a b => by rw [G1 k a b, tc_wr_k b]; exact F12.1 k a, fun j hj => by rw [G2 j hj, tc_wr_k (by decide)]; exact F12.2 j hj⟩, ?_⟩
    dsimp only
    cases hn : tz_ns B L d E with
    | inl b' => rw [hn] at hh; exact hh
    | inr p =>
      obtain ⟨l, e'⟩ := p
      rw [hn] at hh
      obtain ⟨r1, r2, r3, r4⟩ := hh
      refine ⟨r1, r2, fun t v hv => ?_, fun q hq => by rw [r4 q (by omega), tz_wn (by omega), F12.1 45 (by decide)]⟩
      cases t with
      | zero =>
        simp at hv
        rw [Nat.add_zero, r4 (4 * c + k) (by omega), tz_we]; exact hv
      | succ t =>
        have := r3 t v (by simpa using hv)
        rw [show 4 * c + (k + 1) + t = 4 * c + k + (t + 1) by omega] at this
        exact this
theorem tc_w4_clause (hN : 300 ≤ N) (hL : L ≤ 60) (hP : tz_P μ B L) (hi : i ≤ L) (h2 : μ 42 2 = nI i) (hc : c < 15) : tc_wp (tc_f4_readClause N (nI c) μ) (fun r μ' => ((∀ k, k ≠ 42 → k ≠ 44 → k ≠ 45 → μ' k = μ k) ∧ ∀ j, j ≠ 2 → μ' 42 j = μ 42 j) ∧ match tz_cs B L i with
    | .inl b => r = nI b
    | .inr (q, e) => r = -1 ∧ μ' 42 2 = nI e ∧ (μ' 44 c = nI q.1 ∧ ∀ t v, q.2[t]? = some v → μ' 45 (4 * c + t) = v) ∧ (∀ j, j < c → μ' 44 j = μ 44 j) ∧ ∀ j, j < 4 * c → μ' 45 j = μ 45 j) := by
  unfold tc_f4_readClause
  rw [tc_wp_bd]
  refine tc_wp_mono (tc_w4_blanks hN hL hP hi h2) (fun _ μ1 hh => ?_)
  obtain ⟨F1, e1⟩ := hh
  have hb := tz_bl_le (B := B) hi
  rw [tc_wp_lt, tc_wp_bd]
  have hs := tc_w4_skip (N := N) (x1 := 97) (x2 := 122) hN hL (hP.f2 F1) hb.2 e1
  refine tc_wp_mono hs (fun _ μ2 hh => ?_)
  obtain ⟨F2, e2⟩ := hh
  have he := tz_sk_L (tz_il B) hb.2
  have e2' : μ2 42 2 = nI (tz_sk (tz_il B) (L - tz_bl B L i) (tz_bl B L i)) := e2
  have F12 := F1.trans F2
  have hWle := @tz_W_le B L i
  rw [e1]
  unfold tz_cs tz_W
  unfold tz_W at hWle
  generalize hE : tz_sk (tz_il B) (L - tz_bl B L i) (tz_bl B L i) = E at *
  generalize hBb : tz_bl B L i = b at *
  rw [tc_wp_bd, tc_v4_wordFrom hN hL (hP.f2 F12) he.1 he.2 e2', tc_wp_some]
  cases hw : tc_sr (tz_sp B b E) 8 0 with
  | none =>
    rw [if_pos (show tc_av id none = -1 from rfl), tc_wp_some]
    exact ⟨⟨fun k a _ _ => F12.1 k a, F12.2⟩, rfl⟩
  | some w =>
    rw [hw] at hWle
    obtain ⟨w1, w2, w3⟩ := hWle (w := w) (e := E) hi rfl
    rw [if_neg (show ¬ tc_av id (some w) = -1 from tz_nm1 (show w < 2 ^ 31 by omega)), tc_wp_ck, tc_cl (by omega), tc_wp_lt]
    refine ⟨(tc_vin (by omega) (by decide)).mpr hc, ?_⟩
    have hP3 : tz_P (tc_wr μ2 44 c (nI w)) B L := ⟨by rw [tc_wr_k (by decide)]; exact (hP.f2 F12).1, fun i hi => by rw [tc_wr_k (by decide)]; exact (hP.f2 F12).2 i hi⟩
    refine tc_wp_mono (tz_rc40 hN hL hc w3 (tz_nn w) N 0 E _ hP3 (by omega) (by have := (tz_nums w w3).2; omega) w2 (by rw [tc_wr_k (by decide)]; exact e2')) (fun r μ4 hh => ?_)
    obtain ⟨⟨G1, G2⟩, hh⟩ := hh
    refine ⟨⟨fun k a b c => by rw [G1 k a c, tc_wr_k b]; exact F12.1 k a, fun j hj => by rw [G2 j hj, tc_wr_k (by decide)]; exact F12.2 j hj⟩, ?_⟩
    dsimp only
    cases hn : tz_ns B L (tz_nn w) E with
    | inl b' => rw [hn] at hh; exact hh
    | inr p =>
      obtain ⟨l, e'⟩ := p
      rw [hn] at hh
      obtain ⟨r1, r2, r3, r4⟩ := hh
      refine ⟨r1, r2, ⟨by have := G1 44 (by decide) (by decide); rw [this]; exact tz_we, fun t v hv => r3 t v hv⟩, fun j hj => by rw [G1 44 (by decide) (by decide), tz_wn (by omega), F12.1 44 (by decide)], fun j hj => by rw [r4 j (by omega), tc_wr_k (by decide), F12.1 45 (by decide)]⟩
def tz_ST (μ : tc_Mem) (c : Nat) (l : List (Nat × List Int32)) : Prop := ∀ (j : Nat) (q : Nat × List Int32), l[j]? = some q → μ 44 (c + j) = nI q.1 ∧ ∀ t v, q.2[t]? = some v → μ 45 (4 * (c + j) + t) = v
theorem tc_w4_all (hN : 300 ≤ N) (hL : L ≤ 60) : ∀ (d f c i : Nat) (μ : tc_Mem), tz_P μ B L → c + d = 15 → d < f → i ≤ L → μ 42 2 = nI i → μ 42 5 = nI c → tc_wp (tc_f4_placeOfFault_12 N f (nI c) μ) (fun r μ' => tz_F5 μ μ' ∧ match tz_al B L d i with
    | .inl b => r = nI b
    | .inr l => r = -1 ∧ μ' 42 5 = nI (c + l.length) ∧ tz_ST μ' c l ∧ (∀ j, j < c → μ' 44 j = μ 44 j) ∧ ∀ j, j < 4 * c → μ' 45 j = μ 45 j) := by
  intro d
  induction d with
  | zero =>
    intro f c i μ hP hc hf hi h2 h5
    obtain ⟨f, rfl⟩ : ∃ f', f = f' + 1 := ⟨f - 1, by omega⟩
    rw [tc_f4_placeOfFault_12]; dsimp only
    rw [if_pos (by rw [tc_Lle (k := 15) (by omega) (by decide)]; omega)]
    unfold tc_f4_placeOfFault_93
    rw [tc_wp_some]
    exact ⟨tz_F5.rf, h2⟩
  | succ d ih =>
    intro f c i μ hP hc hf hi h2 h5
    obtain ⟨f, rfl⟩ : ∃ f', f = f' + 1 := ⟨f - 1, by omega⟩
    rw [tc_f4_placeOfFault_12]; dsimp only
    rw [if_neg (by rw [tc_Lle (k := 15) (by omega) (by decide)]; omega), tc_wp_bd]
    refine tc_wp_mono (tc_w4_clause hN hL hP hi h2 (c := c) (by omega)) (fun r μ1 hh => ?_)
    obtain ⟨⟨G1, G2⟩, hh⟩ := hh
    have F1 : tz_F5 μ μ1 := ⟨G1, fun j a _ => G2 j a⟩
    rw [tz_al]
    have hle := @tz_cs_le B L i
    cases hcs : tz_cs B L i with
    | inl b =>
      rw [hcs] at hh
      have hbL : b < 2 ^ 31 := tz_cs_err hi hL hcs
      rw [hh, if_neg (tz_nm1 hbL), tc_wp_some]
      exact ⟨F1, rfl⟩
    | inr p =>
      obtain ⟨q, e⟩ := p
      rw [hcs] at hh
      obtain ⟨rfl, a1, ⟨a2, a3⟩, a4, a5⟩ := hh
      obtain ⟨l1, l2, l3, l4⟩ := hle hi hcs
      rw [if_pos rfl, tc_wp_lt, G2 5 (by decide), h5, tc_ad1, tc_wp_bd]
      generalize hm3 : tc_wr μ1 42 5 (nI (c + 1)) = μ3
      have f3 : ∀ k, k ≠ 42 → μ3 k = μ1 k := fun k hk => by rw [← hm3, tc_wr_k hk]
      have f3j : ∀ j, j ≠ 5 → μ3 42 j = μ1 42 j := fun j hj => by rw [← hm3, tz_wn hj]
      have e5 : μ3 42 5 = nI (c + 1) := by rw [← hm3, tz_we]
      have F3 : tz_F5 μ μ3 := ⟨fun k a b c => by rw [f3 k a, G1 k a b c], fun j a b => by rw [f3j j b, G2 j a]⟩
      refine tc_wp_mono (tc_w4_blanks hN hL (hP.f5 F3) l2 (by rw [f3j 2 (by decide)]; exact a1)) (fun _ μ5 hh => ?_)
      obtain ⟨F5, e52⟩ := hh
      have hb := tz_bl_le (B := B) l2
      have F35 := F3.trans F5.five
      have hP5 := hP.f5 F35
      rw [e52, hP5.1]
      dsimp only
      by_cases q1 : L ≤ tz_bl B L e
      · rw [if_neg (by rw [tc_lt' (by omega) (by omega)]; omega), tc_wp_some, if_pos q1]
        refine ⟨F35, rfl, by rw [F5.2 5 (by decide), e5]; rfl, fun j p hp => ?_, fun j hj => by rw [F5.1 44 (by decide), f3 44 (by decide), a4 j hj], fun j hj => by rw [F5.1 45 (by decide), f3 45 (by decide), a5 j hj]⟩
        have hj : j = 0 := by
          have := (List.getElem?_eq_some_iff.mp hp).1
          simp at this; exact this
        subst hj
        simp at hp
        subst hp
        rw [F5.1 44 (by decide), F5.1 45 (by decide), f3 44 (by decide), f3 45 (by decide)]
        exact ⟨a2, a3⟩
      rw [if_pos (by rw [tc_lt' (by omega) (by omega)]; omega), if_neg q1, tc_wp_ck, tc_cl (by omega), hP5.2 _ (by omega)]
      refine ⟨(tc_vin (by omega) (by decide)).mpr (by omega), ?_⟩
      by_cases q2 : B (tz_bl B L e) = 59
      · rw [if_pos q2, if_pos q2, tc_wp_lt, tc_ad1]
        have F7 : tz_F2 μ5 (tc_wr μ5 42 2 (nI (tz_bl B L e + 1))) := tz_F2.rf.wr
        refine tc_wp_mono (ih f (c + 1) (tz_bl B L e + 1) _ (hP5.f2 F7) (by omega) (by omega) (by omega) tz_we (by rw [F7.2 5 (by decide), F5.2 5 (by decide)]; exact e5)) (fun r μ8 hh => ?_)
        obtain ⟨F8, hh⟩ := hh
        refine ⟨F35.trans (F7.five.trans F8), ?_⟩
        cases hal : tz_al B L d (tz_bl B L e + 1) with
        | inl b => rw [hal] at hh; exact hh
        | inr l =>
          rw [hal] at hh
          obtain ⟨r1, r2, r3, r4, r5⟩ := hh
          refine ⟨r1, by rw [r2, List.length_cons, show c + 1 + l.length = c + (l.length + 1) by omega], fun j p hp => ?_, fun j hj => by rw [r4 j (by omega), F7.1 44 (by decide), F5.1 44 (by decide), f3 44 (by decide), a4 j hj], fun j hj => by rw [r5 j (by omega), F7.1 45 (by decide), F5.1 45 (by decide), f3 45 (by decide), a5 j hj]⟩
          cases j with
          | zero =>
            simp at hp
            subst hp
            refine ⟨?_, fun t v hv => ?_⟩
            · rw [r4 (c + 0) (by omega), F7.1 44 (by decide), F5.1 44 (by decide), f3 44 (by decide)]; exact a2
            · have ht : t < 4 := by
                have h1 := (List.getElem?_eq_some_iff.mp hv).1
                have h2 := (tz_nums q.1 l3).2
                omega
              rw [r5 (4 * (c + 0) + t) (by omega), F7.1 45 (by decide), F5.1 45 (by decide), f3 45 (by decide)]; exact a3 t v hv
          | succ j =>
            have := r3 j p (by simpa using hp)
            rw [show c + 1 + j = c + (j + 1) by omega] at this
            exact this
      · rw [if_neg q2, if_neg q2]
        unfold tc_f4_placeOfFault_72
        rw [tc_wp_some]
        exact ⟨F35, e52⟩
end X2
