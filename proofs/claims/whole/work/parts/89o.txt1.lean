/-! texts: what is read, and by the class -/
def tz_sk (p : Nat → Bool) : Nat → Nat → Nat
  | 0, i => i
  | d + 1, i => if p i then tz_sk p d (i + 1) else i
theorem tz_sk_le (p : Nat → Bool) : ∀ d i, i ≤ tz_sk p d i ∧ tz_sk p d i ≤ i + d := by
  intro d
  induction d with
  | zero => intro i; exact ⟨Nat.le_refl _, Nat.le_refl _⟩
  | succ d ih =>
    intro i
    rw [tz_sk]
    have := ih (i + 1)
    split <;> omega
theorem tz_sr_p {p : Nat → Bool} : ∀ {d k c : Nat}, tc_sr p d k = some c → p c = true := by
  intro d
  induction d with
  | zero => intro k c h; simp [tc_sr] at h
  | succ d ih =>
    intro k c h
    rw [tc_sr] at h
    by_cases q : p k = true
    · rw [if_pos q] at h; cases h; exact q
    · rw [if_neg q] at h; exact ih h
def tz_ib (B : Nat → Int32) (i : Nat) : Bool := decide (B i = 32) || decide (B i = 10)
def tz_il (B : Nat → Int32) (i : Nat) : Bool := tc_wi (B i) 97 122
def tz_id (B : Nat → Int32) (i : Nat) : Bool := tc_wi (B i) 48 57
def tz_ln (w : Nat) : Nat := tc_txL.getD w 0
def tz_ch (B : Nat → Int32) (b w : Nat) : Nat → Nat → Bool
  | 0, _ => true
  | d + 1, k => if B (b + k) = tc_sch w k then tz_ch B b w d (k + 1) else false
def tz_sp (B : Nat → Int32) (b e w : Nat) : Bool := if e - b = tz_ln w then tz_ch B b w (tz_ln w) 0 else false
def tz_nv (B : Nat → Int32) (b : Nat) : Nat → Int32
  | 0 => 0
  | d + 1 => tz_nv B b d * 10 + B (b + d) - 48
def tz_bl (B : Nat → Int32) (L i : Nat) : Nat := tz_sk (tz_ib B) (L - i) i
def tz_W (B : Nat → Int32) (L i : Nat) : Sum Nat (Nat × Nat) := match tc_sr (tz_sp B (tz_bl B L i) (tz_sk (tz_il B) (L - tz_bl B L i) (tz_bl B L i))) 8 0 with
  | none => .inl (tz_bl B L i)
  | some w => .inr (w, tz_sk (tz_il B) (L - tz_bl B L i) (tz_bl B L i))
def tz_M (B : Nat → Int32) (L i : Nat) : Sum Nat (Int32 × Nat) := if tz_sk (tz_id B) (L - tz_bl B L i) (tz_bl B L i) = tz_bl B L i ∨ tz_bl B L i + 2 < tz_sk (tz_id B) (L - tz_bl B L i) (tz_bl B L i) then .inl (tz_bl B L i) else .inr (tz_nv B (tz_bl B L i) (tz_sk (tz_id B) (L - tz_bl B L i) (tz_bl B L i) - tz_bl B L i), tz_sk (tz_id B) (L - tz_bl B L i) (tz_bl B L i))
def tz_nn (w : Nat) : Nat := ([4, 1, 1, 2, 1, 1, 0, 0] : List Nat).getD w 0
def tz_ns (B : Nat → Int32) (L : Nat) : Nat → Nat → Sum Nat (List Int32 × Nat)
  | 0, i => .inr ([], i)
  | k + 1, i => match tz_M B L i with
    | .inl b => .inl b
    | .inr (v, e) => match tz_ns B L k e with
      | .inl b => .inl b
      | .inr (l, e') => .inr (v :: l, e')
def tz_cs (B : Nat → Int32) (L i : Nat) : Sum Nat ((Nat × List Int32) × Nat) := match tz_W B L i with
  | .inl b => .inl b
  | .inr (w, e) => match tz_ns B L (tz_nn w) e with
    | .inl b => .inl b
    | .inr (l, e') => .inr ((w, l), e')
def tz_al (B : Nat → Int32) (L : Nat) : Nat → Nat → Sum Nat (List (Nat × List Int32))
  | 0, i => .inl i
  | d + 1, i => match tz_cs B L i with
    | .inl b => .inl b
    | .inr (c, e) => if L ≤ tz_bl B L e then .inr [c] else if B (tz_bl B L e) = 59 then (match tz_al B L d (tz_bl B L e + 1) with
      | .inl b => .inl b
      | .inr l => .inr (c :: l)) else .inl (tz_bl B L e)
section X1
variable {N : Nat} {B : Nat → Int32} {L i b e w : Nat} {x1 x2 : Int32} {μ μ1 μ2 : tc_Mem}
theorem tz_bl_le (h : i ≤ L) : i ≤ tz_bl B L i ∧ tz_bl B L i ≤ L := by
  have := tz_sk_le (tz_ib B) (L - i) i
  unfold tz_bl; omega
theorem tz_sk_L (p : Nat → Bool) (h : i ≤ L) : i ≤ tz_sk p (L - i) i ∧ tz_sk p (L - i) i ≤ L := by
  have := tz_sk_le p (L - i) i
  omega
theorem tz_M_le {v : Int32} (h : i ≤ L) (hm : tz_M B L i = .inr (v, e)) : i ≤ e ∧ e ≤ L := by
  unfold tz_M at hm
  have b1 := tz_bl_le (B := B) h
  have b2 := tz_sk_L (tz_id B) b1.2
  split at hm
  · cases hm
  · cases hm; omega
theorem tz_ns_le : ∀ (k i e : Nat) (l : List Int32), i ≤ L → tz_ns B L k i = .inr (l, e) → i ≤ e ∧ e ≤ L ∧ l.length = k := by
  intro k
  induction k with
  | zero => intro i e l h hm; rw [tz_ns] at hm; cases hm; exact ⟨Nat.le_refl _, h, rfl⟩
  | succ k ih =>
    intro i e l h hm
    rw [tz_ns] at hm
    cases h1 : tz_M B L i with
    | inl b => rw [h1] at hm; cases hm
    | inr p =>
      obtain ⟨v, e1⟩ := p
      rw [h1] at hm
      have q := tz_M_le h h1
      cases h2 : tz_ns B L k e1 with
      | inl b => simp only [h2] at hm; cases hm
      | inr p =>
        obtain ⟨l', e'⟩ := p
        simp only [h2] at hm
        cases hm
        have := ih e1 e l' q.2 h2
        exact ⟨by omega, this.2.1, by simp [this.2.2]⟩
theorem tz_ln4 : ∀ w, w < 8 → 4 ≤ tz_ln w ∧ tz_ln w ≤ 7 := by decide
theorem tz_W_le (h : i ≤ L) (hm : tz_W B L i = .inr (w, e)) : i + 4 ≤ e ∧ e ≤ L ∧ w < 8 := by
  unfold tz_W at hm
  have b1 := tz_bl_le (B := B) h
  have b2 := tz_sk_L (tz_il B) b1.2
  cases hs : tc_sr (tz_sp B (tz_bl B L i) (tz_sk (tz_il B) (L - tz_bl B L i) (tz_bl B L i))) 8 0 with
  | none => rw [hs] at hm; cases hm
  | some w' =>
    rw [hs] at hm
    cases hm
    have hw := (tc_sr_some hs).2.1
    have hp : tz_sp B (tz_bl B L i) (tz_sk (tz_il B) (L - tz_bl B L i) (tz_bl B L i)) w = true := tz_sr_p hs
    unfold tz_sp at hp
    split at hp
    · rename_i q
      have := tz_ln4 w (by omega)
      omega
    · cases hp
theorem tz_cs_le {c : Nat × List Int32} (h : i ≤ L) (hm : tz_cs B L i = .inr (c, e)) : i + 4 ≤ e ∧ e ≤ L ∧ c.1 < 8 ∧ c.2.length = tz_nn c.1 := by
  unfold tz_cs at hm
  cases h1 : tz_W B L i with
  | inl b => rw [h1] at hm; cases hm
  | inr p =>
    obtain ⟨w, e1⟩ := p
    rw [h1] at hm
    have q := tz_W_le h h1
    cases h2 : tz_ns B L (tz_nn w) e1 with
    | inl b => simp only [h2] at hm; cases hm
    | inr p =>
      obtain ⟨l, e'⟩ := p
      simp only [h2] at hm
      cases hm
      have := tz_ns_le _ _ _ _ q.2.1 h2
      exact ⟨by omega, this.2.1, q.2.2, this.2.2⟩
/-! the class -/
def tz_P (μ : tc_Mem) (B : Nat → Int32) (L : Nat) : Prop := μ 42 1 = nI L ∧ ∀ i, i < L → μ 43 i = B i
def tz_F2 (μ μ' : tc_Mem) : Prop := (∀ k, k ≠ 42 → μ' k = μ k) ∧ ∀ j, j ≠ 2 → μ' 42 j = μ 42 j
theorem tz_F2.rf : tz_F2 μ μ := ⟨fun _ _ => rfl, fun _ _ => rfl⟩
theorem tz_F2.trans (h : tz_F2 μ μ1) (h2 : tz_F2 μ1 μ2) : tz_F2 μ μ2 := ⟨fun k hk => (h2.1 k hk).trans (h.1 k hk), fun j hj => (h2.2 j hj).trans (h.2 j hj)⟩
theorem tz_P.f2 (h : tz_P μ B L) (hf : tz_F2 μ μ1) : tz_P μ1 B L := ⟨by rw [hf.2 1 (by decide)]; exact h.1, fun i hi => by rw [hf.1 43 (by decide)]; exact h.2 i hi⟩
theorem tz_F2.wr {v : Int32} (h : tz_F2 μ μ1) : tz_F2 μ (tc_wr μ1 42 2 v) := ⟨fun k hk => by rw [tc_wr_k hk]; exact h.1 k hk, fun j hj => by rw [tz_wn hj]; exact h.2 j hj⟩
theorem tz_blank (hL : L ≤ 60) (hP : tz_P μ B L) : ∀ (d f i : Nat) (μ1 : tc_Mem), i + d = L → d < f → tz_F2 μ μ1 → μ1 42 2 = nI i → tc_wp (tc_f4_skipBlanks_0 N f μ1) (fun _ μ' => tz_F2 μ μ' ∧ μ' 42 2 = nI (tz_sk (tz_ib B) d i)) := by
  intro d
  induction d with
  | zero =>
    intro f i μ1 hi hf hF h2
    obtain ⟨f, rfl⟩ : ∃ f', f = f' + 1 := ⟨f - 1, by omega⟩
    rw [tc_f4_skipBlanks_0]; dsimp only
    rw [(hP.f2 hF).1, h2, if_pos (by rw [tc_le (by omega) (by omega)]; omega), tc_wp_some]
    exact ⟨hF, h2⟩
  | succ d ih =>
    intro f i μ1 hi hf hF h2
    obtain ⟨f, rfl⟩ : ∃ f', f = f' + 1 := ⟨f - 1, by omega⟩
    have hv : vp_in (nI i) 60 := (tc_vin (by omega) (by decide)).mpr (by omega)
    rw [tc_f4_skipBlanks_0]; dsimp only
    rw [(hP.f2 hF).1, h2, if_neg (by rw [tc_le (by omega) (by omega)]; omega), tc_wp_ck, tc_cl (by omega), (hP.f2 hF).2 i (by omega), tz_sk]
    refine ⟨hv, ?_⟩
    have step : tz_ib B i = true → tc_wp (tc_f4_skipBlanks_39 N (tc_f4_skipBlanks_0 N f) μ1) (fun _ μ' => tz_F2 μ μ' ∧ μ' 42 2 = nI (if tz_ib B i = true then tz_sk (tz_ib B) d (i + 1) else i)) := by
      intro c
      unfold tc_f4_skipBlanks_39
      rw [tc_wp_lt, h2, tc_ad1, if_pos c]
      exact ih f (i + 1) _ (by omega) (by omega) hF.wr tz_we
    by_cases c1 : B i = 32
    · rw [if_pos c1]; exact step (by unfold tz_ib; simp [c1])
    · rw [if_neg c1, tc_wp_ck]
      refine ⟨hv, ?_⟩
      by_cases c2 : B i = 10
      · rw [if_pos c2]; exact step (by unfold tz_ib; simp [c2])
      · rw [if_neg c2, tc_wp_some, if_neg (by unfold tz_ib; simp [c1, c2])]
        exact ⟨hF, h2⟩
theorem tc_w4_blanks (hN : 300 ≤ N) (hL : L ≤ 60) (hP : tz_P μ B L) (hi : i ≤ L) (h2 : μ 42 2 = nI i) : tc_wp (tc_f4_skipBlanks N μ) (fun _ μ' => tz_F2 μ μ' ∧ μ' 42 2 = nI (tz_bl B L i)) := tz_blank hL hP (L - i) N i μ (by omega) (by omega) tz_F2.rf h2
theorem tz_skip (hL : L ≤ 60) (hP : tz_P μ B L) : ∀ (d f i : Nat) (μ1 : tc_Mem), i + d = L → d < f → tz_F2 μ μ1 → μ1 42 2 = nI i → tc_wp (tc_f4_skipAll_0 N f x1 x2 μ1) (fun _ μ' => tz_F2 μ μ' ∧ μ' 42 2 = nI (tz_sk (fun i => tc_wi (B i) x1 x2) d i)) := by
  intro d
  induction d with
  | zero =>
    intro f i μ1 hi hf hF h2
    obtain ⟨f, rfl⟩ : ∃ f', f = f' + 1 := ⟨f - 1, by omega⟩
    rw [tc_f4_skipAll_0]; dsimp only
    rw [(hP.f2 hF).1, h2, if_pos (by rw [tc_le (by omega) (by omega)]; omega), tc_wp_some]
    exact ⟨hF, h2⟩
  | succ d ih =>
    intro f i μ1 hi hf hF h2
    obtain ⟨f, rfl⟩ : ∃ f', f = f' + 1 := ⟨f - 1, by omega⟩
    have hv : vp_in (nI i) 60 := (tc_vin (by omega) (by decide)).mpr (by omega)
    rw [tc_f4_skipAll_0]; dsimp only
    rw [(hP.f2 hF).1, h2, if_neg (by rw [tc_le (by omega) (by omega)]; omega), tc_wp_ck, tc_cl (by omega), (hP.f2 hF).2 i (by omega), tz_sk]
    refine ⟨hv, ?_⟩
    by_cases c1 : B i < x1
    · rw [if_pos c1, tc_wp_some, if_neg (by unfold tc_wi; simp [c1])]; exact ⟨hF, h2⟩
    · rw [if_neg c1, tc_wp_ck]
      refine ⟨hv, ?_⟩
      by_cases c2 : x2 < B i
      · rw [if_pos c2, tc_wp_some, if_neg (by unfold tc_wi; simp [c2])]; exact ⟨hF, h2⟩
      · rw [if_neg c2, tc_wp_lt, tc_ad1, if_pos (by unfold tc_wi; simp [c1, c2])]
        exact ih f (i + 1) _ (by omega) (by omega) hF.wr tz_we
theorem tc_w4_skip (hN : 300 ≤ N) (hL : L ≤ 60) (hP : tz_P μ B L) (hi : i ≤ L) (h2 : μ 42 2 = nI i) : tc_wp (tc_f4_skipAll N x1 x2 μ) (fun _ μ' => tz_F2 μ μ' ∧ μ' 42 2 = nI (tz_sk (fun i => tc_wi (B i) x1 x2) (L - i) i)) := tz_skip hL hP (L - i) N i μ (by omega) (by omega) tz_F2.rf h2
theorem tc_v4_isSpelt (hN : 300 ≤ N) (hL : L ≤ 60) (hP : tz_P μ B L) (hb : b ≤ e) (he : e ≤ L) (h2 : μ 42 2 = nI e) (hw : w < 8) : tc_f4_isSpelt N w (nI b) μ = some (tc_bI (tz_sp B b e w), μ) := by
  have l4 := tz_ln4 w hw
  unfold tc_f4_isSpelt tz_sp
  have es : tc_slen w = nI (tz_ln w) := rfl
  have el : tc_txL.getD w 0 = tz_ln w := rfl
  rw [h2, pk_sub hb, es]
  by_cases c : e - b = tz_ln w
  case neg => rw [if_neg (by rw [tc_eq (by omega) (by omega)]; exact c), if_neg c]; rfl
  rw [if_pos (by rw [c]), if_pos c]
  have key : ∀ (d f k : Nat), k + d = tz_ln w → d < f → tc_f4_isSpelt_17 N w f (nI b) (nI k) μ = some (tc_bI (tz_ch B b w d k), μ) := by
    intro d
    induction d with
    | zero =>
      intro f k hk hf
      obtain ⟨f, rfl⟩ : ∃ f', f = f' + 1 := ⟨f - 1, by omega⟩
      rw [tc_f4_isSpelt_17]; dsimp only
      rw [es, if_pos (by rw [tc_le (by omega) (by omega)]; omega)]; rfl
    | succ d ih =>
      intro f k hk hf
      obtain ⟨f, rfl⟩ : ∃ f', f = f' + 1 := ⟨f - 1, by omega⟩
      rw [tc_f4_isSpelt_17]; dsimp only
      apply tc_wp_of
      rw [es, if_neg (by rw [tc_le (by omega) (by omega)]; omega), nI_add, tc_wp_ck, tc_wp_ck, tc_cl (show b + k < 2 ^ 31 by omega), tc_cl (show k < 2 ^ 31 by omega), hP.2 (b + k) (by omega), el, tc_ad1, tc_wp_if, tz_ch]
      refine ⟨(tc_vin (by omega) (by decide)).mpr (by omega), (tc_vin (by omega) (by omega)).mpr (by omega), ?_⟩
      by_cases q : B (b + k) = tc_sch w k
      · rw [if_pos q, if_pos q, ih f (k + 1) (by omega) (by omega), tc_wp_some]; exact ⟨rfl, rfl⟩
      · rw [if_neg q, if_neg q, tc_wp_some]; exact ⟨rfl, rfl⟩
  exact key (tz_ln w) N 0 (by omega) (by omega)
theorem tc_v4_spelling (hw : w < 8) : tc_f4_spelling N (nI w) μ = some (w, μ) := by
  unfold tc_f4_spelling
  rcases (show w = 0 ∨ w = 1 ∨ w = 2 ∨ w = 3 ∨ w = 4 ∨ w = 5 ∨ w = 6 ∨ w = 7 by omega) with rfl | rfl | rfl | rfl | rfl | rfl | rfl | rfl <;> simp (decide := true) only [if_true, if_false]
theorem tc_v4_wordFrom (hN : 300 ≤ N) (hL : L ≤ 60) (hP : tz_P μ B L) (hb : b ≤ e) (he : e ≤ L) (h2 : μ 42 2 = nI e) : tc_f4_wordFrom N (nI b) μ = some (tc_av id (tc_sr (tz_sp B b e) 8 0), μ) := by
  have key : ∀ (d f k : Nat), k + d = 8 → d < f → tc_f4_wordFrom_2 N f (nI b) (nI k) μ = some (tc_av id (tc_sr (tz_sp B b e) d k), μ) := by
    intro d
    induction d with
    | zero =>
      intro f k hk hf
      obtain ⟨f, rfl⟩ : ∃ f', f = f' + 1 := ⟨f - 1, by omega⟩
      rw [tc_f4_wordFrom_2]; dsimp only
      rw [if_pos (by rw [tc_Lle (k := 8) (by omega) (by decide)]; omega)]; rfl
    | succ d ih =>
      intro f k hk hf
      obtain ⟨f, rfl⟩ : ∃ f', f = f' + 1 := ⟨f - 1, by omega⟩
      rw [tc_f4_wordFrom_2]; dsimp only
      apply tc_wp_of
      rw [if_neg (by rw [tc_Lle (k := 8) (by omega) (by decide)]; omega), tc_wp_bd, tc_v4_spelling (by omega), tc_wp_some, tc_wp_bd, tc_v4_isSpelt hN hL hP hb he h2 (by omega), tc_wp_some, tc_wp_if, tc_sr, tc_ad1]
      by_cases c : tz_sp B b e k = true
      · rw [if_neg (by rw [c]; decide), if_pos c, tc_wp_some]; exact ⟨rfl, rfl⟩
      · rw [if_pos (by rw [tc_bI_eq0]; simpa using c), if_neg c, ih f (k + 1) (by omega) (by omega), tc_wp_some]; exact ⟨rfl, rfl⟩
  exact key 8 N 0 (by omega) (by omega)
theorem tc_v4_numberFrom (hN : 300 ≤ N) (hL : L ≤ 60) (hP : tz_P μ B L) (hb : b ≤ e) (he : e ≤ L) (h2 : μ 42 2 = nI e) : tc_f4_numberFrom N (nI b) μ = some (tz_nv B b (e - b), μ) := by
  have key : ∀ (d f k : Nat), b + k + d = e → d < f → tc_f4_numberFrom_4 N f (tz_nv B b k) (nI (b + k)) μ = some (tz_nv B b (e - b), μ) := by
    intro d
    induction d with
    | zero =>
      intro f k hk hf
      obtain ⟨f, rfl⟩ : ∃ f', f = f' + 1 := ⟨f - 1, by omega⟩
      rw [tc_f4_numberFrom_4]; dsimp only
      rw [h2, if_pos (by rw [tc_le (by omega) (by omega)]; omega), show e - b = k by omega]
    | succ d ih =>
      intro f k hk hf
      obtain ⟨f, rfl⟩ : ∃ f', f = f' + 1 := ⟨f - 1, by omega⟩
      rw [tc_f4_numberFrom_4]; dsimp only
      apply tc_wp_of
      rw [h2, if_neg (by rw [tc_le (by omega) (by omega)]; omega), tc_wp_ck, tc_cl (by omega), hP.2 (b + k) (by omega), tc_wp_lt, tc_ad1]
      have := ih f (k + 1) (by omega) (by omega)
      rw [tz_nv, ← Nat.add_assoc] at this
      rw [this, tc_wp_some]
      exact ⟨(tc_vin (by omega) (by decide)).mpr (by omega), rfl, rfl⟩
  exact key (e - b) N 0 (by omega) (by omega)
end X1
