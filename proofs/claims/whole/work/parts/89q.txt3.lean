/-! texts: the reference's tokens -/
def tz_lm (p : Nat → Bool) : Nat → Nat → Option Nat → Option Nat
  | 0, _, o => o
  | d + 1, k, o => tz_lm p d (k + 1) (if p k then some k else o)
theorem tz_lm_no {p : Nat → Bool} : ∀ (d k : Nat) (o : Option Nat), (∀ j, k ≤ j → j < k + d → p j = false) → tz_lm p d k o = o := by
  intro d
  induction d with
  | zero => intro k o _; rfl
  | succ d ih =>
    intro k o h
    rw [tz_lm, if_neg (by rw [h k (by omega) (by omega)]; decide)]
    exact ih (k + 1) o (fun j h1 h2 => h j (by omega) (by omega))
theorem tz_lm_sr {p : Nat → Bool} : ∀ (d k : Nat), (∀ i j, k ≤ i → i < k + d → k ≤ j → j < k + d → p i = true → p j = true → i = j) → tz_lm p d k none = tc_sr p d k := by
  intro d
  induction d with
  | zero => intro k _; rfl
  | succ d ih =>
    intro k h
    rw [tz_lm, tc_sr]
    by_cases c : p k = true
    · rw [if_pos c, if_pos c]
      refine tz_lm_no d (k + 1) (some k) (fun j h1 h2 => ?_)
      cases hj : p j with
      | false => rfl
      | true => exact absurd (h k j (by omega) (by omega) (by omega) (by omega) c hj) (by omega)
    · rw [if_neg c, if_neg c]
      exact ih (k + 1) (fun i j a b c d => h i j (by omega) (by omega) (by omega) (by omega))
theorem tz_tab : ∀ w, w < 8 → ∀ w', w' < 8 → tz_ln w = tz_ln w' → tc_sch w 0 = tc_sch w' 0 → w = w' := by decide
section X3
variable {N : Nat} {B : Nat → Int32} {L i b e w c : Nat} {x1 x2 : Int32} {μ μ1 μ2 : tc_Mem}
theorem tz_sp_1 (hw : w < 8) (h : tz_sp B b e w = true) : e - b = tz_ln w ∧ B b = tc_sch w 0 := by
  unfold tz_sp at h
  split at h
  · rename_i q
    refine ⟨q, ?_⟩
    obtain ⟨d, hd⟩ : ∃ d, tz_ln w = d + 1 := ⟨tz_ln w - 1, by have := tz_ln4 w hw; omega⟩
    rw [hd, tz_ch] at h
    split at h
    · rename_i q2; exact q2
    · cases h
  · cases h
theorem tz_sp_u {w' : Nat} (hw : w < 8) (hw' : w' < 8) (h : tz_sp B b e w = true) (h' : tz_sp B b e w' = true) : w = w' := by
  have a := tz_sp_1 hw h
  have c := tz_sp_1 hw' h'
  exact tz_tab w hw w' hw' (by omega) (by rw [← a.2, ← c.2])
theorem tz_lm_sp : tz_lm (tz_sp B b e) 8 0 none = tc_sr (tz_sp B b e) 8 0 := tz_lm_sr 8 0 (fun i j _ h1 _ h2 a c => tz_sp_u (by omega) (by omega) a c)
theorem tz_sp_0 : tc_sr (tz_sp B b b) 8 0 = none := by
  cases h : tc_sr (tz_sp B b b) 8 0 with
  | none => rfl
  | some w =>
    have hw : w < 8 := by have := (tc_sr_some h).2.1; omega
    have := (tz_sp_1 hw (tz_sr_p h)).1
    have := tz_ln4 w hw
    omega
def tz_Q (μ : tc_Mem) (B : Nat → Int32) (L : Nat) : Prop := μ 50 17 = nI L ∧ ∀ i, i < L → μ 63 i = B i
def tz_FN (μ μ' : tc_Mem) : Prop := (∀ k, k ≠ 50 → μ' k = μ k) ∧ ∀ j, (j < 32 ∨ 35 < j) → μ' 50 j = μ 50 j
theorem tz_FN.rf : tz_FN μ μ := ⟨fun _ _ => rfl, fun _ _ => rfl⟩
theorem tz_FN.trans (h : tz_FN μ μ1) (h2 : tz_FN μ1 μ2) : tz_FN μ μ2 := ⟨fun k a => (h2.1 k a).trans (h.1 k a), fun j a => (h2.2 j a).trans (h.2 j a)⟩
theorem tz_FN.wr {j : Nat} {v : Int32} (h : tz_FN μ μ1) (hj : 32 ≤ j ∧ j ≤ 35) : tz_FN μ (tc_wr μ1 50 j v) := ⟨fun k a => by rw [tc_wr_k a]; exact h.1 k a, fun i a => by rw [tz_wn (by omega)]; exact h.2 i a⟩
theorem tz_Q.fn (h : tz_Q μ B L) (hf : tz_FN μ μ1) : tz_Q μ1 B L := ⟨by rw [hf.2 17 (by omega)]; exact h.1, fun i hi => by rw [hf.1 63 (by decide)]; exact h.2 i hi⟩
theorem tc_v7_letter (hL : L ≤ 60) (hQ : tz_Q μ B L) (hi : i ≤ L) (h2 : μ 50 32 = nI i) : tc_f7_isLetterHere N μ = some (tc_bI (decide (i < L) && tz_il B i), μ) := by
  unfold tc_f7_isLetterHere
  rw [hQ.1, h2]
  by_cases c : i < L
  · apply tc_wp_of
    rw [if_neg (by rw [tc_le (by omega) (by omega)]; omega), tc_wp_ck, tc_cl (by omega), hQ.2 i c, tc_wp_bd, tc_v7_in, tc_wp_some, tc_wp_if, tc_wp_some, tc_wp_some]
    refine ⟨(tc_vin (by omega) (by decide)).mpr (by omega), ?_⟩
    unfold tz_il
    cases tc_wi (B i) 97 122
    · rw [if_pos (show tc_bI false = 0 from rfl)]; simp [tc_bI]
    · rw [if_neg (by decide)]; simp [c, tc_bI]
  · rw [if_pos (by rw [tc_le (by omega) (by omega)]; omega)]; simp [c, tc_bI]
theorem tc_v7_digit (hL : L ≤ 60) (hQ : tz_Q μ B L) (hi : i ≤ L) (h2 : μ 50 32 = nI i) : tc_f7_isDigitHere N μ = some (tc_bI (decide (i < L) && tz_id B i), μ) := by
  unfold tc_f7_isDigitHere
  rw [hQ.1, h2]
  by_cases c : i < L
  · apply tc_wp_of
    rw [if_neg (by rw [tc_le (by omega) (by omega)]; omega), tc_wp_ck, tc_cl (by omega), hQ.2 i c, tc_wp_bd, tc_v7_in, tc_wp_some, tc_wp_if, tc_wp_some, tc_wp_some]
    refine ⟨(tc_vin (by omega) (by decide)).mpr (by omega), ?_⟩
    unfold tz_id
    cases tc_wi (B i) 48 57
    · rw [if_pos (show tc_bI false = 0 from rfl)]; simp [tc_bI]
    · rw [if_neg (by decide)]; simp [c, tc_bI]
  · rw [if_pos (by rw [tc_le (by omega) (by omega)]; omega)]; simp [c, tc_bI]
theorem tc_v7_word (hw : w < 8) : tc_f7_word N (nI w) μ = some (w, μ) := by
  unfold tc_f7_word
  rcases (show w = 0 ∨ w = 1 ∨ w = 2 ∨ w = 3 ∨ w = 4 ∨ w = 5 ∨ w = 6 ∨ w = 7 by omega) with rfl | rfl | rfl | rfl | rfl | rfl | rfl | rfl <;> simp (decide := true) only [if_true, if_false]
theorem tc_v7_isWord (hN : 300 ≤ N) (hL : L ≤ 60) (hQ : tz_Q μ B L) (hb : b ≤ e) (he : e ≤ L) (h2 : μ 50 32 = nI e) (h4 : μ 50 34 = nI b) (hw : w < 8) : tc_f7_isWord N w μ = some (tc_bI (tz_sp B b e w), μ) := by
  have l4 := tz_ln4 w hw
  unfold tc_f7_isWord tz_sp
  have es : tc_slen w = nI (tz_ln w) := rfl
  have el : tc_txL.getD w 0 = tz_ln w := rfl
  rw [h2, h4, pk_sub hb, es]
  by_cases c : e - b = tz_ln w
  case neg => rw [if_neg (by rw [tc_eq (by omega) (by omega)]; exact c), if_neg c]; rfl
  rw [if_pos (by rw [c]), if_pos c]
  have key : ∀ (d f k : Nat), k + d = tz_ln w → d < f → tc_f7_isWord_20 N w f (nI k) μ = some (tc_bI (tz_ch B b w d k), μ) := by
    intro d
    induction d with
    | zero =>
      intro f k hk hf
      obtain ⟨f, rfl⟩ : ∃ f', f = f' + 1 := ⟨f - 1, by omega⟩
      rw [tc_f7_isWord_20]; dsimp only
      rw [es, if_pos (by rw [tc_le (by omega) (by omega)]; omega)]; rfl
    | succ d ih =>
      intro f k hk hf
      obtain ⟨f, rfl⟩ : ∃ f', f = f' + 1 := ⟨f - 1, by omega⟩
      rw [tc_f7_isWord_20]; dsimp only
      apply tc_wp_of
      rw [es, if_neg (by rw [tc_le (by omega) (by omega)]; omega), h4, nI_add, tc_wp_ck, tc_wp_ck, tc_cl (show b + k < 2 ^ 31 by omega), tc_cl (show k < 2 ^ 31 by omega), hQ.2 (b + k) (by omega), el, tc_ad1, tc_wp_if, tz_ch]
      refine ⟨(tc_vin (by omega) (by decide)).mpr (by omega), (tc_vin (by omega) (by omega)).mpr (by omega), ?_⟩
      by_cases q : B (b + k) = tc_sch w k
      · rw [if_pos q, if_pos q, ih f (k + 1) (by omega) (by omega), tc_wp_some]; exact ⟨rfl, rfl⟩
      · rw [if_neg q, if_neg q, tc_wp_some]; exact ⟨rfl, rfl⟩
  exact key (tz_ln w) N 0 (by omega) (by omega)
def tz_tv (μ : tc_Mem) (o : Option Nat) : Prop := match o with
  | none => μ 50 33 = 4
  | some w => μ 50 33 = 1 ∧ μ 50 35 = nI w
/-- a token at b -/
def tz_nx (B : Nat → Int32) (L b : Nat) (μ : tc_Mem) : Prop := μ 50 34 = nI b ∧ if b = L then μ 50 33 = 0 else if tz_il B b = true then μ 50 32 = nI (tz_sk (tz_il B) (L - b) b) ∧ tz_tv μ (tc_sr (tz_sp B b (tz_sk (tz_il B) (L - b) b)) 8 0) else if tz_id B b = true then (if b + 2 < tz_sk (tz_id B) (L - b) b then μ 50 33 = 4 else μ 50 33 = 2 ∧ μ 50 32 = nI (tz_sk (tz_id B) (L - b) b) ∧ μ 50 35 = tz_nv B b (tz_sk (tz_id B) (L - b) b - b)) else μ 50 32 = nI (b + 1) ∧ μ 50 33 = if B b = 59 then 3 else 4
theorem tz_nw (hN : 300 ≤ N) (hL : L ≤ 60) (hQ : tz_Q μ B L) (hb : b ≤ e) (he : e ≤ L) : ∀ (d f k : Nat) (o : Option Nat) (μ1 : tc_Mem), k + d = 8 → d < f → tz_FN μ μ1 → μ1 50 32 = nI e → μ1 50 34 = nI b → tz_tv μ1 o → tc_wp (tc_f7_next_113 N f (nI k) μ1) (fun _ μ' => tz_FN μ μ' ∧ μ' 50 32 = nI e ∧ μ' 50 34 = nI b ∧ tz_tv μ' (tz_lm (tz_sp B b e) d k o)) := by
  intro d
  induction d with
  | zero =>
    intro f k o μ1 hk hf hF h2 h4 ho
    obtain ⟨f, rfl⟩ : ∃ f', f = f' + 1 := ⟨f - 1, by omega⟩
    rw [tc_f7_next_113]; dsimp only
    rw [if_pos (by rw [tc_Lle (k := 8) (by omega) (by decide)]; omega)]
    unfold tc_f7_next_146
    rw [tc_wp_some]
    exact ⟨hF, h2, h4, ho⟩
  | succ d ih =>
    intro f k o μ1 hk hf hF h2 h4 ho
    obtain ⟨f, rfl⟩ : ∃ f', f = f' + 1 := ⟨f - 1, by omega⟩
    rw [tc_f7_next_113]; dsimp only
    rw [if_neg (by rw [tc_Lle (k := 8) (by omega) (by decide)]; omega), tc_wp_bd, tc_v7_word (by omega), tc_wp_some, tc_wp_bd, tc_v7_isWord hN hL (hQ.fn hF) hb he h2 h4 (by omega), tc_wp_some, tc_wp_if, tz_lm, tc_ad1]
    by_cases c : tz_sp B b e k = true
    · rw [if_neg (by rw [c]; decide), if_pos c, tc_wp_lt, tc_wp_lt]
      refine ih f (k + 1) _ _ (by omega) (by omega) ((hF.wr (by omega)).wr (by omega)) ?_ ?_ ⟨?_, ?_⟩
      · rw [tz_wn (by decide), tz_wn (by decide)]; exact h2
      · rw [tz_wn (by decide), tz_wn (by decide)]; exact h4
      · rw [tz_wn (by decide), tz_we]
      · rw [tz_we]
    · rw [if_pos (by rw [tc_bI_eq0]; simpa using c), if_neg c]
      exact ih f (k + 1) _ _ (by omega) (by omega) hF h2 h4 ho
theorem tz_nl (hN : 300 ≤ N) (hL : L ≤ 60) (hQ : tz_Q μ B L) : ∀ (d f k : Nat) (μ1 : tc_Mem), k + d = L → b ≤ k → d < f → tz_FN μ μ1 → μ1 50 32 = nI k → μ1 50 34 = nI b → tc_wp (tc_f7_next_86 N f μ1) (fun _ μ' => tz_FN μ μ' ∧ μ' 50 32 = nI (tz_sk (tz_il B) d k) ∧ μ' 50 34 = nI b ∧ tz_tv μ' (tc_sr (tz_sp B b (tz_sk (tz_il B) d k)) 8 0)) := by
  intro d
  have fin : ∀ (k : Nat) (μ1 : tc_Mem), b ≤ k → k ≤ L → tz_FN μ μ1 → μ1 50 32 = nI k → μ1 50 34 = nI b → tc_wp (tc_f7_next_106 N μ1) (fun _ μ' => tz_FN μ μ' ∧ μ' 50 32 = nI k ∧ μ' 50 34 = nI b ∧ tz_tv μ' (tc_sr (tz_sp B b k) 8 0)) := by
    intro k μ1 hbk hkL hF h2 h4
    unfold tc_f7_next_106
    rw [tc_wp_lt, ← tz_lm_sp]
    exact tz_nw hN hL hQ hbk hkL 8 N 0 none _ (by omega) (by omega) (hF.wr (by omega)) (by rw [tz_wn (by decide)]; exact h2) (by rw [tz_wn (by decide)]; exact h4) (show _ = _ from tz_we)
  induction d with
  | zero =>
    intro f k μ1 hk hb hf hF h2 h4
    obtain ⟨f, rfl⟩ : ∃ f', f = f' + 1 := ⟨f - 1, by omega⟩
    rw [tc_f7_next_86]; dsimp only
    rw [tc_wp_bd, tc_v7_letter hL (hQ.fn hF) (by omega) h2, tc_wp_some, if_pos (by rw [tc_bI_eq0, decide_eq_false (by omega)]; rfl)]
    exact fin k μ1 hb (by omega) hF h2 h4
  | succ d ih =>
    intro f k μ1 hk hb hf hF h2 h4
    obtain ⟨f, rfl⟩ : ∃ f', f = f' + 1 := ⟨f - 1, by omega⟩
    rw [tc_f7_next_86]; dsimp only
    rw [tc_wp_bd, tc_v7_letter hL (hQ.fn hF) (by omega) h2, tc_wp_some, decide_eq_true (by omega), tc_wp_if, tz_sk]
    by_cases c : tz_il B k = true
    · rw [if_neg (by rw [c]; decide), tc_wp_lt, h2, tc_ad1, if_pos c]
      exact ih f (k + 1) _ (by omega) (by omega) (by omega) (hF.wr (by omega)) tz_we (by rw [tz_wn (by decide)]; exact h4)
    · rw [if_pos (by rw [tc_bI_eq0]; simpa using c), if_neg c]
      exact fin k μ1 hb (by omega) hF h2 h4
theorem tz_nd (hN : 300 ≤ N) (hL : L ≤ 60) (hQ : tz_Q μ B L) : ∀ (d f k : Nat) (μ1 : tc_Mem), k + d = L → b ≤ k → d < f → tz_FN μ μ1 → μ1 50 32 = nI k → μ1 50 34 = nI b → (k ≤ b + 2 → μ1 50 35 = tz_nv B b (k - b)) → tc_wp (tc_f7_next_161 N f μ1) (fun _ μ' => tz_FN μ μ' ∧ μ' 50 34 = nI b ∧ if b + 2 < tz_sk (tz_id B) d k then μ' 50 33 = 4 else μ' 50 33 = 2 ∧ μ' 50 32 = nI (tz_sk (tz_id B) d k) ∧ μ' 50 35 = tz_nv B b (tz_sk (tz_id B) d k - b)) := by
  intro d
  have fin : ∀ (k : Nat) (μ1 : tc_Mem), b ≤ k → k ≤ L → tz_FN μ μ1 → μ1 50 32 = nI k → μ1 50 34 = nI b → (k ≤ b + 2 → μ1 50 35 = tz_nv B b (k - b)) → tc_wp (tc_f7_next_225 N μ1) (fun _ μ' => tz_FN μ μ' ∧ μ' 50 34 = nI b ∧ if b + 2 < k then μ' 50 33 = 4 else μ' 50 33 = 2 ∧ μ' 50 32 = nI k ∧ μ' 50 35 = tz_nv B b (k - b)) := by
    intro k μ1 hbk hkL hF h2 h4 h5
    unfold tc_f7_next_225 tc_f7_next_244
    rw [h2, h4, pk_sub hbk, tc_wp_if, tc_wp_lt, tc_wp_lt, tc_wp_some, tc_wp_some]
    by_cases c : b + 2 < k
    · rw [if_neg (by rw [tc_leL (k := 2) (by omega) (by decide)]; omega), if_pos c]
      exact ⟨hF.wr (by omega), by rw [tz_wn (by decide)]; exact h4, tz_we⟩
    · rw [if_pos (by rw [tc_leL (k := 2) (by omega) (by decide)]; omega), if_neg c]
      exact ⟨hF.wr (by omega), by rw [tz_wn (by decide)]; exact h4, tz_we, by rw [tz_wn (by decide)]; exact h2, by rw [tz_wn (by decide)]; exact h5 (by omega)⟩
  induction d with
  | zero =>
    intro f k μ1 hk hb hf hF h2 h4 h5
    obtain ⟨f, rfl⟩ : ∃ f', f = f' + 1 := ⟨f - 1, by omega⟩
    rw [tc_f7_next_161]; dsimp only
    rw [tc_wp_bd, tc_v7_digit hL (hQ.fn hF) (by omega) h2, tc_wp_some, if_pos (by rw [tc_bI_eq0, decide_eq_false (by omega)]; rfl)]
    exact fin k μ1 hb (by omega) hF h2 h4 h5
  | succ d ih =>
    intro f k μ1 hk hb hf hF h2 h4 h5
    obtain ⟨f, rfl⟩ : ∃ f', f = f' + 1 := ⟨f - 1, by omega⟩
    rw [tc_f7_next_161]; dsimp only
    rw [tc_wp_bd, tc_v7_digit hL (hQ.fn hF) (by omega) h2, tc_wp_some, decide_eq_true (by omega), tc_wp_if, tz_sk]
    by_cases c : tz_id B k = true
    · have go : ∀ v : Int32, (k + 1 ≤ b + 2 → v = tz_nv B b (k + 1 - b)) → tc_wp (tc_f7_next_209 N (tc_f7_next_161 N f) v μ1) (fun _ μ' => tz_FN μ μ' ∧ μ' 50 34 = nI b ∧ if b + 2 < tz_sk (tz_id B) d (k + 1) then μ' 50 33 = 4 else μ' 50 33 = 2 ∧ μ' 50 32 = nI (tz_sk (tz_id B) d (k + 1)) ∧ μ' 50 35 = tz_nv B b (tz_sk (tz_id B) d (k + 1) - b)) := by
        intro v hv
        unfold tc_f7_next_209
        rw [tc_wp_lt, tc_wp_lt, tz_wn (show (32 : Nat) ≠ 35 by decide), h2, tc_ad1]
        refine ih f (k + 1) _ (by omega) (by omega) (by omega) ((hF.wr (by omega)).wr (by omega)) tz_we (by rw [tz_wn (by decide), tz_wn (by decide)]; exact h4) (fun q => ?_)
        rw [tz_wn (by decide), tz_we]; exact hv q
      rw [if_neg (by rw [c]; decide), if_pos c, h2, h4, pk_sub hb, tc_wp_if]
      by_cases q : 2 ≤ k - b
      · rw [if_pos (by rw [tc_Lle (k := 2) (by omega) (by decide)]; exact q)]
        exact go _ (fun q' => absurd q' (by omega))
      · rw [if_neg (by rw [tc_Lle (k := 2) (by omega) (by decide)]; exact q), tc_wp_ck, tc_cl (by omega), (hQ.fn hF).2 k (by omega)]
        refine ⟨(tc_vin (by omega) (by decide)).mpr (by omega), go _ (fun _ => ?_)⟩
        rw [h5 (by omega), show k + 1 - b = (k - b) + 1 by omega, tz_nv, show b + (k - b) = k by omega, Int32.mul_comm]
    · rw [if_pos (by rw [tc_bI_eq0]; simpa using c), if_neg c]
      exact fin k μ1 hb (by omega) hF h2 h4 h5
theorem tc_w7_next (hN : 300 ≤ N) (hL : L ≤ 60) (hQ : tz_Q μ B L) (hi : i ≤ L) (h2 : μ 50 32 = nI i) : tc_wp (tc_f7_next N μ) (fun _ μ' => tz_FN μ μ' ∧ tz_nx B L (tz_bl B L i) μ') := by
  have mid : ∀ (b : Nat) (μ1 : tc_Mem), b ≤ L → tz_FN μ μ1 → μ1 50 32 = nI b → tc_wp (tc_f7_next_52 N μ1) (fun _ μ' => tz_FN μ μ' ∧ tz_nx B L b μ') := by
    intro b μ1 hb hF h2
    unfold tc_f7_next_52
    rw [tc_wp_lt, h2]
    generalize hm2 : tc_wr μ1 50 34 (nI b) = μ2
    have F2 : tz_FN μ μ2 := by rw [← hm2]; exact hF.wr (by omega)
    have e2 : μ2 50 32 = nI b := by rw [← hm2, tz_wn (by decide)]; exact h2
    have e4 : μ2 50 34 = nI b := by rw [← hm2, tz_we]
    have Q2 := hQ.fn F2
    unfold tz_nx
    rw [e2, Q2.1, tc_wp_if]
    by_cases c0 : b = L
    · rw [if_pos (by rw [c0]), tc_wp_lt, tc_wp_some, if_pos c0]
      exact ⟨F2.wr (by omega), by rw [tz_wn (by decide)]; exact e4, tz_we⟩
    rw [if_neg (by rw [tc_eq (by omega) (by omega)]; exact c0), tc_wp_bd, tc_v7_letter hL Q2 hb e2, tc_wp_some, decide_eq_true (by omega), tc_wp_if]
    by_cases c1 : tz_il B b = true
    · rw [if_neg (by rw [c1]; decide)]
      refine tc_wp_mono (tz_nl hN hL hQ (L - b) N b μ2 (by omega) (by omega) (by omega) F2 e2 e4) (fun _ μ' hh => ?_)
      rw [if_neg c0, if_pos c1]
      exact ⟨hh.1, hh.2.2.1, hh.2.1, hh.2.2.2⟩
    rw [if_pos (by rw [tc_bI_eq0]; simpa using c1), tc_wp_bd, tc_v7_digit hL Q2 hb e2, tc_wp_some, decide_eq_true (by omega), tc_wp_if]
    by_cases c2 : tz_id B b = true
    · rw [if_neg (by rw [c2]; decide), tc_wp_lt]
      refine tc_wp_mono (tz_nd (b := b) hN hL hQ (L - b) N b _ (by omega) (by omega) (by omega) (F2.wr (by omega)) (by rw [tz_wn (by decide)]; exact e2) (by rw [tz_wn (by decide)]; exact e4) (fun _ => by rw [tz_we, Nat.sub_self]; rfl)) (fun _ μ' hh => ?_)
      rw [if_neg c0, if_neg c1, if_pos c2]
      exact hh
    rw [if_pos (by rw [tc_bI_eq0]; simpa using c2), e2, tc_wp_ck, tc_cl (by omega), Q2.2 b (by omega)]
    refine ⟨(tc_vin (by omega) (by decide)).mpr (by omega), ?_⟩
    unfold tc_f7_next_270
    rw [tc_wp_if, tc_wp_lt, tc_wp_lt, tc_wp_lt, tc_wp_lt, tc_wp_some, tc_wp_some]
    by_cases c3 : B b = 59
    · rw [if_pos c3, if_neg c0, if_neg c1, if_neg c2, if_pos c3, tz_wn (show (32 : Nat) ≠ 33 by decide), e2, tc_ad1]
      exact ⟨(F2.wr (by omega)).wr (by omega), by rw [tz_wn (by decide), tz_wn (by decide)]; exact e4, tz_we, by rw [tz_wn (by decide), tz_we]⟩
    · rw [if_neg c3, if_neg c0, if_neg c1, if_neg c2, if_neg c3, tz_wn (show (32 : Nat) ≠ 33 by decide), e2, tc_ad1]
      exact ⟨(F2.wr (by omega)).wr (by omega), by rw [tz_wn (by decide), tz_wn (by decide)]; exact e4, tz_we, by rw [tz_wn (by decide), tz_we]⟩
  have key : ∀ (d f i : Nat) (μ1 : tc_Mem), i + d = L → d < f → tz_FN μ μ1 → μ1 50 32 = nI i → tc_wp (tc_f7_next_0 N f μ1) (fun _ μ' => tz_FN μ μ' ∧ tz_nx B L (tz_sk (tz_ib B) d i) μ') := by
    intro d
    induction d with
    | zero =>
      intro f i μ1 hi hf hF h2
      obtain ⟨f, rfl⟩ : ∃ f', f = f' + 1 := ⟨f - 1, by omega⟩
      rw [tc_f7_next_0]; dsimp only
      rw [(hQ.fn hF).1, h2, if_pos (by rw [tc_le (by omega) (by omega)]; omega)]
      exact mid i μ1 (by omega) hF h2
    | succ d ih =>
      intro f i μ1 hi hf hF h2
      obtain ⟨f, rfl⟩ : ∃ f', f = f' + 1 := ⟨f - 1, by omega⟩
      have hv : vp_in (nI i) 60 := (tc_vin (by omega) (by decide)).mpr (by omega)
      rw [tc_f7_next_0]; dsimp only
      rw [(hQ.fn hF).1, h2, if_neg (by rw [tc_le (by omega) (by omega)]; omega), tc_wp_ck, tc_cl (by omega), (hQ.fn hF).2 i (by omega), tz_sk]
      refine ⟨hv, ?_⟩
      have step : tz_ib B i = true → tc_wp (tc_f7_next_39 N (tc_f7_next_0 N f) μ1) (fun _ μ' => tz_FN μ μ' ∧ tz_nx B L (if tz_ib B i = true then tz_sk (tz_ib B) d (i + 1) else i) μ') := by
        intro c
        unfold tc_f7_next_39
        rw [tc_wp_lt, h2, tc_ad1, if_pos c]
        exact ih f (i + 1) _ (by omega) (by omega) (hF.wr (by omega)) tz_we
      by_cases c1 : B i = 32
      · rw [if_pos c1]; exact step (by unfold tz_ib; simp [c1])
      · rw [if_neg c1, tc_wp_ck]
        refine ⟨hv, ?_⟩
        by_cases c2 : B i = 10
        · rw [if_pos c2]; exact step (by unfold tz_ib; simp [c2])
        · rw [if_neg c2, if_neg (show ¬ tz_ib B i = true by unfold tz_ib; simp [c1, c2])]
          exact mid i μ1 (by omega) hF h2
  exact key (L - i) N i μ (by omega) (by omega) tz_FN.rf h2
end X3
