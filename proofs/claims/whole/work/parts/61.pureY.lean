/-! the yard, as both sides have it -/
abbrev tc_Fl : Type := List (Int32 × Nat × Int32)
abbrev tc_Ar : Type := (Nat → Int32) × (Nat → Int32) × (Nat → Int32) × (Nat → Int32) × (Nat → Int32)
/-- sections, up, trains; pick, hold, weather; kinds, feeds, losses, lengths, waits; faults -/
abbrev tc_Y : Type := (Nat × Nat × Nat) × (Int32 × Int32 × Int32) × tc_Ar × tc_Fl
def tc_bI (b : Bool) : Int32 := if b then 1 else 0
def tc_lk (A : tc_Ar) (we : Int32) (s : Nat) : Int32 := (A.2.2.1 s * A.2.2.2.1 s * we) / 10
def tc_mx (x : Int32) : Int32 := if 0 < x then x else 0
def tc_mn (x : Int32) : Int32 := if 999 < x then 999 else x
def tc_fs (lk : Int32) (s : Nat) (v : Int32) (q : Int32 × Nat × Int32) : Int32 := if q.2.1 = s then (if q.1 = 0 then lk / 2 else if q.1 = 1 then v / 2 else if q.1 = 2 then tc_mn (v + q.2.2) else v) else v
def tc_hf (fl : tc_Fl) (k : Int32) (s : Nat) : Bool := fl.any (fun q => decide (q.1 = k) && decide (q.2.1 = s))
def tc_cv (A : tc_Ar) (we : Int32) (fl : tc_Fl) (s : Nat) : Int32 := fl.foldl (tc_fs (tc_lk A we s) s) (tc_mx (A.2.1 s - tc_lk A we s))
def tc_cu (A : tc_Ar) (we : Int32) (t : Nat) (fl : tc_Fl) (s : Nat) : Int32 := if t.testBit s then (if tc_hf fl 3 s then tc_cv A we fl s / 4 else 0) else tc_cv A we fl s
def tc_en (pk hd c : Int32) (up : Bool) : Bool := decide (pk ≤ c) || (decide (hd ≤ c) && up)
def tc_gu (n u : Nat) (pk hd k w c : Int32) (s : Nat) : Bool :=
  let up := u.testBit s
  let ld := decide (0 < s) && !u.testBit (s - 1)
  let rd := decide (s + 1 < n) && !u.testBit (s + 1)
  let lf := decide (0 < s) && u.testBit (s - 1)
  let rt := decide (s + 1 < n) && u.testBit (s + 1)
  if k = 1 then (up || decide (2 ≤ w)) && tc_en pk hd c up
  else if k = 2 then (up || !ld) && tc_en pk hd c up
  else if k = 3 then (up || decide (2 ≤ w)) && tc_en pk hd (if rd then c / 2 else c) up
  else if k = 4 then !rt && tc_en pk hd c up
  else if k = 5 then !((ld || rd) && !lf && !rt) && (up || !ld) && tc_en pk hd c up
  else tc_en pk hd c up
def tc_kR (k : Int32) : Bool := decide (k = 3) || decide (k = 4) || decide (k = 5)
def tc_kL (k : Int32) : Bool := decide (k = 2) || decide (k = 5)
def tc_ent (q : List Nat) (s : Nat) : List Nat := if s ∈ q then q else q ++ [s]
def tc_nbL (K : Nat → Int32) (q : List Nat) (s : Nat) : List Nat := if 0 < s ∧ tc_kR (K (s - 1)) = true then tc_ent q (s - 1) else q
def tc_nbR (n : Nat) (K : Nat → Int32) (q : List Nat) (s : Nat) : List Nat := if s + 1 < n ∧ tc_kL (K (s + 1)) = true then tc_ent q (s + 1) else q
/-- the asking: the queue, who is up, what has changed -/
def tc_ml (n : Nat) (pk hd : Int32) (K W C : Nat → Int32) : Nat → List Nat → Nat → List Int32 → Option (Nat × List Int32)
  | 0, _, _, _ => none
  | _ + 1, [], u, ch => some (u, ch)
  | k + 1, s :: q, u, ch =>
    if tc_gu n u pk hd (K s) (W s) (C s) s = u.testBit s then tc_ml n pk hd K W C k q u ch
    else if 40 ≤ ch.length then none
    else tc_ml n pk hd K W C k (tc_nbR n K (tc_nbL K q s) s) (u ^^^ 2 ^ s) (ch ++ [10 * nI s + tc_bI (!u.testBit s)])
def tc_q0 (n : Nat) (turned : Bool) : List Nat := if turned then (List.range n).reverse else List.range n
def tc_mo (Y : tc_Y) (turned : Bool) : Option (Nat × List Int32) := tc_ml Y.1.1 Y.2.1.1 Y.2.1.2.1 Y.2.2.1.1 Y.2.2.1.2.2.2.2 (tc_cu Y.2.2.1 Y.2.1.2.2 Y.1.2.2 Y.2.2.2) 200 (tc_q0 Y.1.1 turned) Y.1.2.1 []
/-- the waits behind a moment -/
def tc_wt (pk w c : Int32) : Int32 := if c < pk then 0 else if w + 1 < 3 then w + 1 else 3
/-! what is kept of it: by the class in the yard at b, by the reference -/
def tc_RF (μ : tc_Mem) (kk kp kc : Nat) (fl : tc_Fl) : Prop := ∀ (i : Nat) (q : Int32 × Nat × Int32), fl[i]? = some q → μ kk i = q.1 ∧ μ kp i = nI q.2.1 ∧ μ kc i = q.2.2
def tc_RC (μ : tc_Mem) (b : Nat) (Y : tc_Y) : Prop := μ b 0 = nI Y.1.1 ∧ (∀ s, s < Y.1.1 → μ (b + 1) s = Y.2.2.1.1 s ∧ μ (b + 2) s = Y.2.2.1.2.1 s ∧ μ (b + 3) s = Y.2.2.1.2.2.1 s ∧ μ (b + 4) s = Y.2.2.1.2.2.2.1 s ∧ μ (b + 5) s = Y.2.2.1.2.2.2.2 s) ∧ (μ b 8 = nI Y.1.2.1 ∧ μ b 9 = nI Y.1.2.2 ∧ μ b 10 = Y.2.1.1 ∧ μ b 11 = Y.2.1.2.1 ∧ μ b 12 = Y.2.1.2.2) ∧ μ (b + 7) 0 = nI Y.2.2.2.length ∧ tc_RF μ (b + 8) (b + 9) (b + 10) Y.2.2.2
def tc_Gd (Y : tc_Y) : Prop := Y.1.1 ≤ 8 ∧ Y.1.2.1 < 2 ^ Y.1.1 ∧ Y.1.2.2 < 2 ^ Y.1.1 ∧ (∀ s, s < Y.1.1 → ∃ k, k < 6 ∧ Y.2.2.1.1 s = nI k) ∧ Y.2.2.2.length ≤ 15 ∧ ∀ q ∈ Y.2.2.2, q.2.1 < Y.1.1 ∧ ∃ k, k < 4 ∧ q.1 = nI k
theorem tc_Gd.u {Y : tc_Y} (g : tc_Gd Y) : Y.1.2.1 < 256 := Nat.lt_of_lt_of_le g.2.1 (show 2 ^ Y.1.1 ≤ 2 ^ 8 from Nat.pow_le_pow_right (by decide) g.1)
theorem tc_Gd.t {Y : tc_Y} (g : tc_Gd Y) : Y.1.2.2 < 256 := Nat.lt_of_lt_of_le g.2.2.1 (show 2 ^ Y.1.1 ≤ 2 ^ 8 from Nat.pow_le_pow_right (by decide) g.1)
theorem tc_bI_eq0 (b : Bool) : tc_bI b = 0 ↔ b = false := by cases b <;> decide
theorem tc_bI_eq1 (b : Bool) : tc_bI b = 1 ↔ b = true := by cases b <;> decide
theorem tc_bI_01 (b : Bool) : tc_bI b = 0 ∨ tc_bI b = 1 := by cases b <;> decide
theorem tc_bit' {u s : Nat} (hu : u < 256) (hs : s < 8) : ((nI u >>> (nI s &&& 31)) &&& 1) = tc_bI (u.testBit s) := tc_bit u hu s hs
theorem tc_neg1 : (nI 0 - 1 : Int32) < 0 := by decide
theorem tc_nn {s : Nat} (h : s < 2 ^ 31) : ¬ nI s < 0 := nI_pos h
/-! the class's small answers -/
section CL
variable {N t : Nat} {μ : tc_Mem} {Y : tc_Y}
theorem tc_v5_has (h : tc_RC μ t Y) (g : tc_Gd Y) {s : Nat} (hs : s < 2 ^ 31) : tc_f5_has N t (nI s) μ = some (tc_bI (decide (s < Y.1.1)), μ) := by
  have g1 := g.1
  unfold tc_f5_has
  rw [if_neg (tc_nn hs), h.1]
  by_cases q : s < Y.1.1
  · rw [if_neg (by rw [tc_le (by omega) hs]; omega)]; simp [q, tc_bI]
  · rw [if_pos (by rw [tc_le (by omega) hs]; omega)]; simp [q, tc_bI]
theorem tc_v5_hasN {x : Int32} (hx : x < 0) : tc_f5_has N t x μ = some (0, μ) := by
  unfold tc_f5_has
  rw [if_pos hx]
theorem tc_v5_relay (h : tc_RC μ t Y) (g : tc_Gd Y) {s : Nat} (hs : s < 2 ^ 31) : tc_f5_relay N t (nI s) μ = some (if s < Y.1.1 then tc_bI (Y.1.2.1.testBit s) else -1, μ) := by
  have g1 := g.1
  unfold tc_f5_relay
  rw [if_neg (tc_nn hs), h.1, h.2.2.1.1]
  by_cases q : s < Y.1.1
  · rw [if_neg (by rw [tc_le (by omega) hs]; omega), if_pos q, tc_bit' g.u (by omega)]
  · rw [if_pos (by rw [tc_le (by omega) hs]; omega), if_neg q]
theorem tc_v5_relayN {x : Int32} (hx : x < 0) : tc_f5_relay N t x μ = some (-1, μ) := by
  unfold tc_f5_relay
  rw [if_pos hx]
theorem tc_v5_relayL (h : tc_RC μ t Y) (g : tc_Gd Y) {s : Nat} (hs : s < Y.1.1) : tc_f5_relay N t (nI s - 1) μ = some (if 0 < s then tc_bI (Y.1.2.1.testBit (s - 1)) else -1, μ) := by
  have g1 := g.1
  by_cases q : 0 < s
  · rw [tc_sb1 q, tc_v5_relay h g (by omega), if_pos (by omega), if_pos q]
  · obtain rfl : s = 0 := by omega
    rw [tc_v5_relayN tc_neg1, if_neg q]
theorem tc_v5_relayR (h : tc_RC μ t Y) (g : tc_Gd Y) {s : Nat} (hs : s < Y.1.1) : tc_f5_relay N t (nI s + 1) μ = some (if s + 1 < Y.1.1 then tc_bI (Y.1.2.1.testBit (s + 1)) else -1, μ) := by
  have g1 := g.1
  rw [tc_ad1, tc_v5_relay h g (by omega)]
theorem tc_v5_leak (h : tc_RC μ t Y) (g : tc_Gd Y) {s : Nat} (hs : s < Y.1.1) : tc_f5_leak N t (nI s) μ = some (tc_lk Y.2.2.1 Y.2.1.2.2 s, μ) := by
  have g1 := g.1
  have h2 := h.2.1 s hs
  apply tc_wp_of
  unfold tc_f5_leak
  simp only [tc_wp_ck, tc_wp_some, tc_vin (show s < 2 ^ 31 by omega) (show 8 < 2 ^ 31 by decide), tc_cl (show s < 2 ^ 31 by omega), h2.2.2.1, h2.2.2.2.1, h.2.2.1.2.2.2.2, tc_lk]
  refine ⟨by omega, by omega, ?_⟩; simp
theorem tc_v5_isEnough (h : tc_RC μ t Y) {c : Int32} {b : Bool} : tc_f5_isEnough N t c (tc_bI b) μ = some (tc_bI (tc_en Y.2.1.1 Y.2.1.2.1 c b), μ) := by
  unfold tc_f5_isEnough tc_f5_isEnough_20 tc_en
  rw [h.2.2.1.2.2.1, h.2.2.1.2.2.2.1]
  by_cases q : Y.2.1.1 ≤ c
  · simp [q, tc_bI]
  · rw [if_neg q]
    by_cases q2 : c < Y.2.1.2.1
    · rw [if_pos q2]; simp [q, Int32.not_le.mpr q2, tc_bI]
    · rw [if_neg q2]
      have q3 := Int32.not_lt.mp q2
      cases b <;> simp [q, q3, tc_bI]
end CL
