/-! the functions' own calculus -/
def tc_wp {β : Type} (o : Option (β × tc_Mem)) (P : β → tc_Mem → Prop) : Prop := ∃ r μ', o = some (r, μ') ∧ P r μ'
theorem tc_wp_some {β : Type} {r : β} {μ : tc_Mem} {P : β → tc_Mem → Prop} : tc_wp (some (r, μ)) P ↔ P r μ := by
  constructor
  · rintro ⟨r', μ', h, hp⟩; cases h; exact hp
  · intro h; exact ⟨r, μ, rfl, h⟩
theorem tc_wp_ck {β : Type} {i : Int32} {n : Nat} {b : Option (β × tc_Mem)} {P : β → tc_Mem → Prop} : tc_wp (tc_ck i n b) P ↔ vp_in i n ∧ tc_wp b P := by
  constructor
  · rintro ⟨r, μ', h, hp⟩
    obtain ⟨h1, h2⟩ := tc_ckS h
    exact ⟨h1, r, μ', h2, hp⟩
  · rintro ⟨h1, r, μ', h, hp⟩
    exact ⟨r, μ', by unfold tc_ck; rw [if_neg h1]; exact h, hp⟩
theorem tc_wp_nz {β : Type} {d : Int32} {b : Option (β × tc_Mem)} {P : β → tc_Mem → Prop} : tc_wp (tc_nz d b) P ↔ ¬ d = 0 ∧ tc_wp b P := by
  constructor
  · rintro ⟨r, μ', h, hp⟩
    obtain ⟨h1, h2⟩ := tc_nzS h
    exact ⟨h1, r, μ', h2, hp⟩
  · rintro ⟨h1, r, μ', h, hp⟩
    exact ⟨r, μ', by unfold tc_nz; rw [if_neg h1]; exact h, hp⟩
theorem tc_wp_lt {β γ : Type} {m : γ} {k : γ → Option (β × tc_Mem)} {P : β → tc_Mem → Prop} : tc_wp (tc_lt m k) P ↔ tc_wp (k m) P := Iff.rfl
theorem tc_wp_bd {β γ : Type} {o : Option (γ × tc_Mem)} {k : γ → tc_Mem → Option (β × tc_Mem)} {P : β → tc_Mem → Prop} : tc_wp (tc_bd o k) P ↔ tc_wp o (fun r μ1 => tc_wp (k r μ1) P) := by
  constructor
  · rintro ⟨r, μ', h, hp⟩
    obtain ⟨r1, μ1, h1, h2⟩ := tc_bdS h
    exact ⟨r1, μ1, h1, r, μ', h2, hp⟩
  · rintro ⟨r1, μ1, h1, r, μ', h2, hp⟩
    exact ⟨r, μ', by rw [h1]; exact h2, hp⟩
theorem tc_wp_if {β : Type} {c : Prop} [Decidable c] {a b : Option (β × tc_Mem)} {P : β → tc_Mem → Prop} : tc_wp (if c then a else b) P ↔ (if c then tc_wp a P else tc_wp b P) := by
  by_cases h : c
  · rw [if_pos h, if_pos h]
  · rw [if_neg h, if_neg h]
theorem tc_wp_zr {v : Int32} {μ : tc_Mem} {P : Int32 → tc_Mem → Prop} : tc_wp (tc_zr v μ) P ↔ (v = 0 ∨ v = 1) ∧ P v μ := by
  unfold tc_zr
  by_cases h : v = 0 ∨ v = 1
  · rw [if_pos h, tc_wp_some]; simp [h]
  · rw [if_neg h]
    constructor
    · rintro ⟨r, μ', h, hp⟩; cases h
    · rintro ⟨h1, -⟩; exact absurd h1 h
theorem tc_wp_cp {β : Type} {μ : tc_Mem} {k0 n0 k1 n1 : Nat} {sp dp n : Int32} {f : tc_Mem → Option (β × tc_Mem)} {P : β → tc_Mem → Prop} : tc_wp (tc_cp μ k0 n0 k1 n1 sp dp n f) P ↔ (¬ sp < 0 ∧ ¬ dp < 0 ∧ ¬ n < 0 ∧ sp.toNatClampNeg + n.toNatClampNeg ≤ n0 ∧ dp.toNatClampNeg + n.toNatClampNeg ≤ n1) ∧ tc_wp (f (tc_row μ k1 (va_cpy (μ k0) (μ k1) sp.toNatClampNeg dp.toNatClampNeg n.toNatClampNeg))) P := by
  unfold tc_cp
  by_cases h : ¬ sp < 0 ∧ ¬ dp < 0 ∧ ¬ n < 0 ∧ sp.toNatClampNeg + n.toNatClampNeg ≤ n0 ∧ dp.toNatClampNeg + n.toNatClampNeg ≤ n1
  · rw [if_pos h, tc_wp_lt]; simp [h]
  · rw [if_neg h]
    constructor
    · rintro ⟨r, μ', h, hp⟩; cases h
    · rintro ⟨h1, -⟩; exact absurd h1 h
theorem tc_wp_mono {β : Type} {o : Option (β × tc_Mem)} {P Q : β → tc_Mem → Prop} (h : tc_wp o P) (hq : ∀ r μ, P r μ → Q r μ) : tc_wp o Q := by
  obtain ⟨r, μ', h1, h2⟩ := h
  exact ⟨r, μ', h1, hq r μ' h2⟩
theorem tc_wp_eq {β : Type} {o : Option (β × tc_Mem)} {r : β} {μ : tc_Mem} {P : β → tc_Mem → Prop} (h : o = some (r, μ)) (hp : P r μ) : tc_wp o P := ⟨r, μ, h, hp⟩
theorem tc_wp_of {β : Type} {o : Option (β × tc_Mem)} {r : β} {μ : tc_Mem} (h : tc_wp o (fun r' μ' => r' = r ∧ μ' = μ)) : o = some (r, μ) := by
  obtain ⟨r', μ', h1, rfl, rfl⟩ := h
  exact h1
/-! memory -/
theorem tc_wr_at (μ : tc_Mem) (k i : Nat) (v : Int32) (k' i' : Nat) : tc_wr μ k i v k' i' = if k' = k ∧ i' = i then v else μ k' i' := by
  unfold tc_wr tc_row
  by_cases h : k' = k
  · subst h
    rw [if_pos rfl]
    by_cases h2 : i' = i
    · subst h2; simp [upd]
    · simp [upd, h2]
  · simp [h]
theorem tc_wr_k {μ : tc_Mem} {k i k' : Nat} {v : Int32} (h : k' ≠ k) : tc_wr μ k i v k' = μ k' := by
  funext j; rw [tc_wr_at, if_neg (fun q => h q.1)]
/-! numbers -/
theorem tc_lit (k : Nat) : (OfNat.ofNat k : Int32) = nI k := rfl
theorem tc_cl {s : Nat} (h : s < 2 ^ 31) : (nI s).toNatClampNeg = s := nI_clamp h
theorem tc_vin {s n : Nat} (hs : s < 2 ^ 31) (hn : n < 2 ^ 31) : vp_in (nI s) n ↔ s < n := by
  rw [vp_in_iff, nI_toInt hs]; omega
theorem tc_le {a b : Nat} (ha : a < 2 ^ 31) (hb : b < 2 ^ 31) : nI a ≤ nI b ↔ a ≤ b := nI_leI ha hb
theorem tc_lt' {a b : Nat} (ha : a < 2 ^ 31) (hb : b < 2 ^ 31) : nI a < nI b ↔ a < b := nI_ltI ha hb
theorem tc_eq {a b : Nat} (ha : a < 2 ^ 31) (hb : b < 2 ^ 31) : nI a = nI b ↔ a = b := nI_eq ha hb
theorem tc_leL {a k : Nat} (ha : a < 2 ^ 31) (hk : k < 2 ^ 31) : nI a ≤ (OfNat.ofNat k : Int32) ↔ a ≤ k := nI_leI ha hk
theorem tc_Lle {a k : Nat} (ha : a < 2 ^ 31) (hk : k < 2 ^ 31) : (OfNat.ofNat k : Int32) ≤ nI a ↔ k ≤ a := nI_leI hk ha
theorem tc_ltL {a k : Nat} (ha : a < 2 ^ 31) (hk : k < 2 ^ 31) : nI a < (OfNat.ofNat k : Int32) ↔ a < k := nI_ltI ha hk
theorem tc_Llt {a k : Nat} (ha : a < 2 ^ 31) (hk : k < 2 ^ 31) : (OfNat.ofNat k : Int32) < nI a ↔ k < a := nI_ltI hk ha
theorem tc_eqL {a k : Nat} (ha : a < 2 ^ 31) (hk : k < 2 ^ 31) : nI a = (OfNat.ofNat k : Int32) ↔ a = k := nI_eq ha hk
theorem tc_ad1 (a : Nat) : nI a + 1 = nI (a + 1) := nI_1 a
theorem tc_sb1 {a : Nat} (h : 0 < a) : nI a - 1 = nI (a - 1) := by
  obtain ⟨b, rfl⟩ : ∃ b, a = b + 1 := ⟨a - 1, by omega⟩
  exact nI_pred b
/-- any int is one of these -/
theorem tc_split (x : Int32) : x < 0 ∨ ∃ j : Nat, j < 2 ^ 31 ∧ x = nI j := by
  by_cases h : x < 0
  · exact Or.inl h
  · exact Or.inr (nI_of h)
/-! masks of eight -/
theorem tc_bit : ∀ u, u < 256 → ∀ s, s < 8 → ((nI u >>> (nI s &&& 31)) &&& 1) = if u.testBit s then 1 else 0 := by decide +kernel
theorem tc_shl : ∀ s, s < 8 → (1 : Int32) <<< (nI s &&& 31) = nI (2 ^ s) := by decide +kernel
theorem tc_andb : ∀ u, u < 256 → ∀ s, s < 8 → ((nI u &&& ((1 : Int32) <<< (nI s &&& 31))) = 0 ↔ u.testBit s = false) := by decide +kernel
def tc_set (u s : Nat) : Nat := u ||| 2 ^ s
def tc_clr (u s : Nat) : Nat := if u.testBit s then u ^^^ 2 ^ s else u
theorem tc_orb : ∀ u, u < 256 → ∀ s, s < 8 → (nI u ||| ((1 : Int32) <<< (nI s &&& 31))) = nI (tc_set u s) := by decide +kernel
theorem tc_clb : ∀ u, u < 256 → ∀ s, s < 8 → (nI u &&& (((1 : Int32) <<< (nI s &&& 31)) ^^^ (-1))) = nI (tc_clr u s) := by decide +kernel
theorem tc_set_lt : ∀ u, u < 256 → ∀ s, s < 8 → tc_set u s < 256 := by decide +kernel
theorem tc_clr_lt : ∀ u, u < 256 → ∀ s, s < 8 → tc_clr u s < 256 := by decide +kernel
theorem tc_set_bit : ∀ u, u < 256 → ∀ s, s < 8 → ∀ r, r < 8 → (tc_set u s).testBit r = (u.testBit r || decide (r = s)) := by decide +kernel
theorem tc_clr_bit : ∀ u, u < 256 → ∀ s, s < 8 → ∀ r, r < 8 → (tc_clr u s).testBit r = (u.testBit r && !decide (r = s)) := by decide +kernel
theorem tc_ext : ∀ u, u < 256 → ∀ v, v < 256 → (∀ s, s < 8 → u.testBit s = v.testBit s) → u = v := by
  intro u hu v hv h
  apply Nat.eq_of_testBit_eq
  intro i
  by_cases hi : i < 8
  · exact h i hi
  · rw [Nat.testBit_lt_two_pow, Nat.testBit_lt_two_pow]
    · exact Nat.lt_of_lt_of_le hv (show 2 ^ 8 ≤ 2 ^ i from Nat.pow_le_pow_right (by decide) (by omega))
    · exact Nat.lt_of_lt_of_le hu (show 2 ^ 8 ≤ 2 ^ i from Nat.pow_le_pow_right (by decide) (by omega))
