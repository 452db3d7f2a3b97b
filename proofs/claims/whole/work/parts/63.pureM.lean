theorem tc_RF.frame {μ μ' : tc_Mem} {a b c : Nat} {fl : tc_Fl} (h : tc_RF μ a b c fl) (ha : μ' a = μ a) (hb : μ' b = μ b) (hc : μ' c = μ c) : tc_RF μ' a b c fl := by
  intro i q hq
  rw [ha, hb, hc]
  exact h i q hq
theorem tc_RC.frame {μ μ' : tc_Mem} {b : Nat} {Y : tc_Y} (h : tc_RC μ b Y) (hf : ∀ k, b ≤ k → k ≤ b + 10 → k ≠ b + 6 → μ' k = μ k) : tc_RC μ' b Y := by
  obtain ⟨h1, h2, h3, h4, h5⟩ := h
  refine ⟨?_, fun s hs => ?_, ?_, ?_, h5.frame (hf _ (by omega) (by omega) (by omega)) (hf _ (by omega) (by omega) (by omega)) (hf _ (by omega) (by omega) (by omega))⟩
  · rw [hf b (by omega) (by omega) (by omega)]; exact h1
  · rw [hf (b + 1) (by omega) (by omega) (by omega), hf (b + 2) (by omega) (by omega) (by omega), hf (b + 3) (by omega) (by omega) (by omega), hf (b + 4) (by omega) (by omega) (by omega), hf (b + 5) (by omega) (by omega) (by omega)]; exact h2 s hs
  · rw [hf b (by omega) (by omega) (by omega)]; exact h3
  · rw [hf (b + 7) (by omega) (by omega) (by omega)]; exact h4
theorem tc_take1 {α : Type} {l : List α} {i : Nat} {q : α} (h : l[i]? = some q) : l.take (i + 1) = l.take i ++ [q] := by
  rw [List.take_succ, h]; rfl
/-- where there is a fault of a kind, as a mask -/
def tc_pm (fl : tc_Fl) (k : Int32) : Nat := fl.foldl (fun m q => if q.1 = k then tc_set m q.2.1 else m) 0
theorem tc_pm_snoc (fl : tc_Fl) (k : Int32) (q : Int32 × Nat × Int32) : tc_pm (fl ++ [q]) k = if q.1 = k then tc_set (tc_pm fl k) q.2.1 else tc_pm fl k := by
  unfold tc_pm; rw [List.foldl_append]; rfl
theorem tc_hf_snoc (fl : tc_Fl) (k : Int32) (s : Nat) (q : Int32 × Nat × Int32) : tc_hf (fl ++ [q]) k s = (tc_hf fl k s || (decide (q.1 = k) && decide (q.2.1 = s))) := by
  unfold tc_hf; rw [List.any_append]; simp
theorem tc_pm_ok (fl : tc_Fl) (k : Int32) (hp : ∀ q ∈ fl, q.2.1 < 8) : ∀ i, i ≤ fl.length → tc_pm (fl.take i) k < 256 ∧ ∀ s, s < 8 → (tc_pm (fl.take i) k).testBit s = tc_hf (fl.take i) k s := by
  intro i
  induction i with
  | zero => intro _; exact ⟨by simp [tc_pm], fun s _ => by simp [tc_pm, tc_hf]⟩
  | succ i ih =>
    intro hi
    obtain ⟨h1, h2⟩ := ih (by omega)
    obtain ⟨q, hq⟩ : ∃ q, fl[i]? = some q := ⟨fl[i]'(by omega), List.getElem?_eq_getElem (by omega)⟩
    have hq8 := hp q (List.mem_of_getElem? hq)
    rw [tc_take1 hq, tc_pm_snoc]
    by_cases c : q.1 = k
    · rw [if_pos c]
      refine ⟨tc_set_lt _ h1 _ hq8, fun s hs => ?_⟩
      rw [tc_set_bit _ h1 _ hq8 _ hs, h2 s hs, tc_hf_snoc]
      simp [c, eq_comm]
    · rw [if_neg c]
      refine ⟨h1, fun s hs => ?_⟩
      rw [h2 s hs, tc_hf_snoc]
      simp [c]
theorem tc_pm_all {fl : tc_Fl} (k : Int32) (hp : ∀ q ∈ fl, q.2.1 < 8) : tc_pm fl k < 256 ∧ ∀ s, s < 8 → (tc_pm fl k).testBit s = tc_hf fl k s := by
  have := tc_pm_ok fl k hp fl.length (Nat.le_refl _)
  rw [List.take_length] at this
  exact this
section CL3
variable {N t : Nat} {μ : tc_Mem} {Y : tc_Y}
theorem tc_Gd.p8 (g : tc_Gd Y) : ∀ q ∈ Y.2.2.2, q.2.1 < 8 := fun q hq => Nat.lt_of_lt_of_le (g.2.2.2.2.2 q hq).1 g.1
theorem tc_v1_placesOf (hN : 300 ≤ N) (h : tc_RC μ t Y) (g : tc_Gd Y) {k : Int32} : tc_f1_placesOf N t k μ = some (nI (tc_pm Y.2.2.2 k), μ) := by
  have g5 := g.2.2.2.2.1
  have key : ∀ (d f i : Nat), i + d = Y.2.2.2.length → d < f → tc_f1_placesOf_4 N t f k (nI (tc_pm (Y.2.2.2.take i) k)) (nI i) μ = some (nI (tc_pm Y.2.2.2 k), μ) := by
    intro d
    induction d with
    | zero =>
      intro f i hi hf
      obtain ⟨f, rfl⟩ : ∃ f', f = f' + 1 := ⟨f - 1, by omega⟩
      rw [tc_f1_placesOf_4]; dsimp only; rw [h.2.2.2.1, if_pos (by rw [tc_le (by omega) (by omega)]; omega), show i = Y.2.2.2.length by omega, List.take_length]
    | succ d ih =>
      intro f i hi hf
      obtain ⟨f, rfl⟩ : ∃ f', f = f' + 1 := ⟨f - 1, by omega⟩
      obtain ⟨q, hq⟩ : ∃ q, Y.2.2.2[i]? = some q := ⟨Y.2.2.2[i]'(by omega), List.getElem?_eq_getElem (by omega)⟩
      obtain ⟨r1, r2, r3⟩ := h.2.2.2.2 i q hq
      have hq8 := g.p8 q (List.mem_of_getElem? hq)
      have hpm := (tc_pm_ok Y.2.2.2 k g.p8 i (by omega)).1
      have ih := ih f (i + 1) (by omega) (by omega)
      rw [tc_take1 hq, tc_pm_snoc] at ih
      apply tc_wp_of
      rw [tc_f1_placesOf_4]; dsimp only; rw [h.2.2.2.1, if_neg (by rw [tc_le (by omega) (by omega)]; omega)]
      simp only [tc_wp_ck, tc_wp_if, tc_wp_lt, tc_vin (show i < 2 ^ 31 by omega) (show 15 < 2 ^ 31 by decide), tc_cl (show i < 2 ^ 31 by omega), r1, r2, tc_ad1, tc_orb _ hpm _ hq8]
      refine ⟨by omega, ?_⟩
      by_cases c : q.1 = k
      · rw [if_pos c] at ih ⊢
        exact ⟨by omega, tc_wp_eq ih ⟨rfl, rfl⟩⟩
      · rw [if_neg c] at ih ⊢
        exact tc_wp_eq ih ⟨rfl, rfl⟩
  have := key Y.2.2.2.length N 0 (by omega) (by omega)
  exact this
theorem tc_v1_change (h : tc_RC μ t Y) (g : tc_Gd Y) {i : Nat} {q : Int32 × Nat × Int32} (hq : Y.2.2.2[i]? = some q) {v lk : Int32} : tc_f1_change N t (nI i) v lk μ = some (tc_fs lk q.2.1 v q, μ) := by
  have g5 := g.2.2.2.2.1
  have hi : i < 15 := Nat.lt_of_lt_of_le (List.getElem?_eq_some_iff.mp hq).1 g5
  obtain ⟨r1, r2, r3⟩ := h.2.2.2.2 i q hq
  obtain ⟨k, hk, hK⟩ := (g.2.2.2.2.2 q (List.mem_of_getElem? hq)).2
  apply tc_wp_of
  unfold tc_f1_change tc_fs tc_mn
  simp only [tc_wp_ck, tc_wp_lt, tc_wp_if, tc_wp_some, tc_wp_none, tc_vin (show i < 2 ^ 31 by omega) (show 15 < 2 ^ 31 by decide), tc_cl (show i < 2 ^ 31 by omega), r1, r3, if_true]
  refine ⟨hi, ?_⟩
  rw [hK]
  rcases (show k = 0 ∨ k = 1 ∨ k = 2 ∨ k = 3 by omega) with rfl | rfl | rfl | rfl <;> simp (decide := true) [hi]
end CL3
