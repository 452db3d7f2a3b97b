/-! masks -/
theorem tc_and2 (a b : Nat) : nI a &&& nI b = nI (a &&& b) := by
  apply Int32.toBitVec_inj.mp
  apply BitVec.eq_of_getLsbD_eq
  intro i hi
  simp [nI, BitVec.getLsbD_ofNat, hi]
theorem tc_or2 (a b : Nat) : nI a ||| nI b = nI (a ||| b) := by
  apply Int32.toBitVec_inj.mp
  apply BitVec.eq_of_getLsbD_eq
  intro i hi
  simp [nI, BitVec.getLsbD_ofNat, hi]
theorem tc_not2 {a : Nat} (b : Nat) (ha : a < 256) : nI a &&& (nI b ^^^ (-1)) = nI (a &&& (255 ^^^ b)) := by
  apply Int32.toBitVec_inj.mp
  apply BitVec.eq_of_getLsbD_eq
  intro i hi
  show ((BitVec.ofNat 32 a) &&& ((BitVec.ofNat 32 b) ^^^ (BitVec.allOnes 32))).getLsbD i = (BitVec.ofNat 32 (a &&& (255 ^^^ b))).getLsbD i
  rw [BitVec.getLsbD_and, BitVec.getLsbD_xor, BitVec.getLsbD_ofNat, BitVec.getLsbD_ofNat, BitVec.getLsbD_ofNat, BitVec.getLsbD_allOnes, Nat.testBit_and, Nat.testBit_xor]
  rcases Nat.lt_or_ge i 8 with c | c
  · have h255 : Nat.testBit 255 i = true := by
      rw [show (255 : Nat) = 2 ^ 8 - 1 by rfl, Nat.testBit_two_pow_sub_one]; simpa using c
    rw [h255]; simp [hi]
  · rw [Nat.testBit_lt_two_pow (Nat.lt_of_lt_of_le ha (show 2 ^ 8 ≤ 2 ^ i from Nat.pow_le_pow_right (by decide) c))]; simp
theorem tc_allm : ∀ n, n ≤ 8 → ((1 : Int32) <<< (nI n &&& 31)) - 1 = nI (2 ^ n - 1) := by
  intro n hn
  have : ∀ n, n < 9 → ((1 : Int32) <<< (nI n &&& 31)) - 1 = nI (2 ^ n - 1) := by decide +kernel
  exact this n (by omega)
theorem tc_shl1 : ∀ u, u < 256 → nI u <<< ((1 : Int32) &&& 31) = nI (2 * u) := by decide +kernel
/-- a mask of a question -/
def tc_bm (p : Nat → Bool) : Nat → Nat
  | 0 => 0
  | i + 1 => if p i then tc_set (tc_bm p i) i else tc_bm p i
theorem tc_set_lt2 {u s n : Nat} (hu : u < 2 ^ n) (hs : s < n) : tc_set u s < 2 ^ n := by
  unfold tc_set
  exact Nat.or_lt_two_pow hu (Nat.pow_lt_pow_right (by decide) hs)
theorem tc_bm_lt (p : Nat → Bool) : ∀ i, tc_bm p i < 2 ^ i := by
  intro i
  induction i with
  | zero => simp [tc_bm]
  | succ i ih =>
    have h2 : tc_bm p i < 2 ^ (i + 1) := Nat.lt_of_lt_of_le ih (Nat.pow_le_pow_right (by decide) (by omega))
    unfold tc_bm
    split
    · exact tc_set_lt2 h2 (by omega)
    · exact h2
theorem tc_bm_bit (p : Nat → Bool) : ∀ i s, (tc_bm p i).testBit s = (decide (s < i) && p s) := by
  intro i
  induction i with
  | zero => intro s; simp [tc_bm]
  | succ i ih =>
    intro s
    unfold tc_bm
    by_cases c : p i = true
    · rw [if_pos c]
      unfold tc_set
      rw [Nat.testBit_or, ih s, Nat.testBit_two_pow]
      by_cases c2 : s = i
      · subst c2; simp [c]
      · by_cases c3 : s < i
        · simp [c3, show s < i + 1 by omega, show ¬ i = s by omega]
        · simp [c3, show ¬ s < i + 1 by omega, show ¬ i = s by omega]
    · rw [if_neg c, ih s]
      by_cases c2 : s = i
      · subst c2; simp [c]
      · by_cases c3 : s < i
        · simp [c3, show s < i + 1 by omega]
        · simp [c3, show ¬ s < i + 1 by omega]
theorem tc_bm_eq {p : Nat → Bool} {n m : Nat} (hm : m < 2 ^ n) (h : ∀ s, s < n → m.testBit s = p s) : tc_bm p n = m := by
  apply Nat.eq_of_testBit_eq
  intro s
  rw [tc_bm_bit]
  by_cases c : s < n
  · rw [h s c]; simp [c]
  · rw [Nat.testBit_lt_two_pow (Nat.lt_of_lt_of_le hm (Nat.pow_le_pow_right (by decide) (by omega)))]; simp [c]
theorem tc_bm_congr {p q : Nat → Bool} : ∀ {n : Nat}, (∀ s, s < n → p s = q s) → tc_bm p n = tc_bm q n := fun {n} h => tc_bm_eq (tc_bm_lt _ _) (fun s hs => by rw [tc_bm_bit, h s hs]; simp [hs])
theorem tc_bm_256 {p : Nat → Bool} {n : Nat} (hn : n ≤ 8) : tc_bm p n < 256 := Nat.lt_of_lt_of_le (tc_bm_lt p n) (show 2 ^ n ≤ 2 ^ 8 from Nat.pow_le_pow_right (by decide) hn)
/-- who is not safe, who is wrong -/
def tc_trb (Y : tc_Y) (s : Nat) : Bool := Y.1.2.2.testBit s || tc_hf Y.2.2.2 0 s
def tc_un (Y : tc_Y) : Nat := tc_bm (fun s => tc_trb Y s && Y.1.2.1.testBit s) Y.1.1
def tc_wg (Y : tc_Y) : Nat := tc_bm (fun s => !tc_trb Y s && !Y.1.2.1.testBit s) Y.1.1
theorem tc_hf_lt {Y : tc_Y} (g : tc_Gd Y) {k : Int32} {s : Nat} (hs : ¬ s < Y.1.1) : tc_hf Y.2.2.2 k s = false := by
  unfold tc_hf
  rw [List.any_eq_false]
  intro q hq
  have := (g.2.2.2.2.2 q hq).1
  simp; omega
theorem tc_pm_lt {Y : tc_Y} (g : tc_Gd Y) (k : Int32) : tc_pm Y.2.2.2 k < 2 ^ Y.1.1 := by
  have h := tc_pm_all k g.p8
  apply Nat.lt_pow_two_of_testBit
  intro i hi
  by_cases c : i < 8
  · rw [h.2 i c, tc_hf_lt g (by omega)]
  · exact Nat.testBit_lt_two_pow (Nat.lt_of_lt_of_le h.1 (show 2 ^ 8 ≤ 2 ^ i from Nat.pow_le_pow_right (by decide) (by omega)))
def tc_pc (x : Int32) : Int32 := ((tc_f8_bitCount 0 x (fun _ _ => 0)).getD (0, fun _ _ => 0)).1
theorem tc_v8_bitCount {N : Nat} {x : Int32} {μ : tc_Mem} : tc_f8_bitCount N x μ = some (tc_pc x, μ) := rfl
section C6
variable {N t : Nat} {μ : tc_Mem} {Y : tc_Y}
theorem tc_v5_troubled (hN : 300 ≤ N) (h : tc_RC μ t Y) (g : tc_Gd Y) : tc_f5_troubled N t μ = some (nI (Y.1.2.2 ||| tc_pm Y.2.2.2 0), μ) := by
  unfold tc_f5_troubled
  apply tc_wp_of
  simp only [tc_wp_bd, tc_v1_placesOf hN h g, tc_wp_some, h.2.2.1.2.1, tc_or2, true_and, and_self]
theorem tc_trb_bit (g : tc_Gd Y) {s : Nat} (hs : s < Y.1.1) : (Y.1.2.2 ||| tc_pm Y.2.2.2 0).testBit s = tc_trb Y s := by
  have g1 := g.1
  rw [Nat.testBit_or, (tc_pm_all 0 g.p8).2 s (by omega)]; rfl
theorem tc_v5_unsafe (hN : 300 ≤ N) (h : tc_RC μ t Y) (g : tc_Gd Y) : tc_f5_unsafe N t μ = some (nI (tc_un Y), μ) := by
  unfold tc_f5_unsafe
  apply tc_wp_of
  simp only [tc_wp_bd, tc_v5_troubled hN h g, tc_wp_some, h.2.2.1.1, tc_and2, and_true]
  congr 1
  refine (tc_bm_eq (Nat.lt_of_le_of_lt Nat.and_le_right g.2.1) (fun s hs => ?_)).symm
  rw [Nat.testBit_and, tc_trb_bit g hs]
theorem tc_v5_all (h : tc_RC μ t Y) (g : tc_Gd Y) : tc_f5_all N t μ = some (nI (2 ^ Y.1.1 - 1), μ) := by
  unfold tc_f5_all
  rw [h.1, tc_allm _ g.1]
theorem tc_v5_wrong (hN : 300 ≤ N) (h : tc_RC μ t Y) (g : tc_Gd Y) : tc_f5_wrong N t μ = some (nI (tc_wg Y), μ) := by
  have g1 := g.1
  unfold tc_f5_wrong
  apply tc_wp_of
  have hp : 2 ^ Y.1.1 - 1 < 256 := by
    have : 2 ^ Y.1.1 ≤ 2 ^ 8 := Nat.pow_le_pow_right (by decide) g1
    have : 0 < 2 ^ Y.1.1 := Nat.two_pow_pos _
    omega
  simp only [tc_wp_bd, tc_v5_all h g, tc_v5_troubled hN h g, tc_wp_some, h.2.2.1.1, tc_not2 _ hp, and_true]
  rw [tc_not2 _ (Nat.lt_of_le_of_lt Nat.and_le_left hp)]
  congr 1
  refine (tc_bm_eq (Nat.lt_of_le_of_lt (Nat.le_trans Nat.and_le_left Nat.and_le_left) (by have : 0 < 2 ^ Y.1.1 := Nat.two_pow_pos _; omega)) (fun s hs => ?_)).symm
  have h255 : Nat.testBit 255 s = true := by
    rw [show (255 : Nat) = 2 ^ 8 - 1 by rfl, Nat.testBit_two_pow_sub_one]; simp; omega
  rw [Nat.testBit_and, Nat.testBit_and, Nat.testBit_xor, Nat.testBit_xor, tc_trb_bit g hs, h255, Nat.testBit_two_pow_sub_one]
  simp [hs]
end C6
