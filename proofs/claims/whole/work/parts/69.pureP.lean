section CP
variable {N a t : Nat} {μ : tc_Mem} {Y : tc_Y} {C : Nat → Int32}
def tc_cY (Y : tc_Y) : Nat → Int32 := tc_cu Y.2.2.1 Y.2.1.2.2 Y.1.2.2 Y.2.2.2
theorem tc_w0_settles (hN : 300 ≤ N) (hap : tc_Ap a t) (h : tc_RC μ t Y) (g : tc_Gd Y) (tn : Bool) : tc_wp (tc_f0_settles N a t (tc_bI tn) μ) (tc_PS μ a t Y (tc_cY Y) (tc_mo Y tn)) := by
  have g1 := g.1
  have hap' := hap
  unfold tc_Ap at hap'
  unfold tc_f0_settles
  rw [tc_wp_lt, tc_wp_bd, h.2.2.1.1]
  refine tc_wp_mono (tc_w5_measure hN h g) (fun _ μ3 hh => ?_)
  obtain ⟨m1, m2⟩ := hh
  rw [tc_wp_lt, tc_wp_bd]
  have R3 : tc_RC μ3 t Y := h.frame (fun k k1 k2 k3 => m1 k k3)
  generalize hm4 : tc_wr μ3 a 1 0 = μ4
  have a4 : ∀ k, k ≠ a → μ4 k = μ3 k := fun k hk => by rw [← hm4, tc_wr_k hk]
  have e4 : μ4 a 1 = 0 := by rw [← hm4, tc_wr_at, if_pos ⟨rfl, rfl⟩]
  have R4 : tc_RC μ4 t Y := R3.frame (fun k k1 k2 _ => a4 k (by omega))
  rw [R4.1]
  refine tc_wp_mono (tc_w0_enterAll hN g1 tn) (fun _ μ6 hh => ?_)
  obtain ⟨w1, w2, w3⟩ := hh
  have R6 : tc_RC μ6 t Y := R4.frame (fun k k1 k2 _ => w1 k (by omega) (by omega))
  refine tc_w0_loop hap h g 200 (tc_q0 Y.1.1 tn) Y.1.2.1 [] N 0 μ6 ?_ (by omega) (by omega) ⟨⟨fun k k1 k2 k3 k4 k5 => ?_, fun j hj => ?_⟩, fun s hs => ?_, R6, g.2.1, w3, tc_q0_lt _ _, ?_, by simp, fun i v hi => by simp at hi⟩
  · unfold tc_me; rw [tc_q0_len]; simp; omega
  · rw [w1 k k1 k3, a4 k k1, m1 k k5]
  · rw [w1 t (by omega) (by omega), a4 t (by omega), m1 t (by omega)]
  · rw [w1 (t + 6) (by omega) (by omega), a4 _ (by omega), m2 s hs]; rfl
  · rw [w2, e4]; rfl
theorem tc_w5_countWaits (hN : 300 ≤ N) (h : tc_RC μ t Y) (g : tc_Gd Y) (hc : ∀ s, s < Y.1.1 → μ (t + 6) s = C s) : tc_wp (tc_f5_countWaits N t μ) (fun _ μ' => (∀ k, k ≠ t + 5 → μ' k = μ k) ∧ ∀ s, s < Y.1.1 → μ' (t + 5) s = tc_wt Y.2.1.1 (Y.2.2.1.2.2.2.2 s) (C s)) := by
  have g1 := g.1
  have key : ∀ (d f i : Nat) (μ1 : tc_Mem), i + d = Y.1.1 → d < f → (∀ k, k ≠ t + 5 → μ1 k = μ k) → (∀ s, s < Y.1.1 → μ1 (t + 5) s = if s < i then tc_wt Y.2.1.1 (Y.2.2.1.2.2.2.2 s) (C s) else Y.2.2.1.2.2.2.2 s) → tc_wp (tc_f5_countWaits_2 N t f (nI i) μ1) (fun _ μ' => (∀ k, k ≠ t + 5 → μ' k = μ k) ∧ ∀ s, s < Y.1.1 → μ' (t + 5) s = tc_wt Y.2.1.1 (Y.2.2.1.2.2.2.2 s) (C s)) := by
    intro d
    induction d with
    | zero =>
      intro f i μ1 hi hf hfr hv
      obtain ⟨f, rfl⟩ : ∃ f', f = f' + 1 := ⟨f - 1, by omega⟩
      rw [tc_f5_countWaits_2]; dsimp only
      rw [hfr t (by omega), h.1, if_pos (by rw [tc_le (by omega) (by omega)]; omega), tc_wp_some]
      exact ⟨hfr, fun s hs => by rw [hv s hs, if_pos (show s < i by omega)]⟩
    | succ d ih =>
      intro f i μ1 hi hf hfr hv
      obtain ⟨f, rfl⟩ : ∃ f', f = f' + 1 := ⟨f - 1, by omega⟩
      rw [tc_f5_countWaits_2]; dsimp only
      rw [hfr t (by omega), hfr (t + 6) (by omega), h.1, if_neg (by rw [tc_le (by omega) (by omega)]; omega)]
      simp only [tc_wp_if, tc_wp_ck, tc_wp_lt, tc_f5_countWaits_44, tc_vin (show i < 2 ^ 31 by omega) (show 8 < 2 ^ 31 by decide), tc_cl (show i < 2 ^ 31 by omega), hc i (by omega), h.2.2.1.2.2.1, tc_ad1, show i < 8 by omega, true_and]
      have step : ∀ v : Int32, v = tc_wt Y.2.1.1 (Y.2.2.1.2.2.2.2 i) (C i) → tc_wp (tc_f5_countWaits_2 N t f (nI (i + 1)) (tc_wr μ1 (t + 5) i v)) (fun _ μ' => (∀ k, k ≠ t + 5 → μ' k = μ k) ∧ ∀ s, s < Y.1.1 → μ' (t + 5) s = tc_wt Y.2.1.1 (Y.2.2.1.2.2.2.2 s) (C s)) := by
        intro v hvv
        refine ih f (i + 1) _ (by omega) (by omega) (fun k hk => by rw [tc_wr_k hk]; exact hfr k hk) (fun s hs => ?_)
        rw [tc_wr_at]
        by_cases c : s = i
        · subst c; rw [if_pos ⟨rfl, rfl⟩, if_pos (show s < s + 1 by omega)]; exact hvv
        · rw [if_neg (fun q => c q.2), hv s hs]
          by_cases c2 : s < i
          · rw [if_pos c2, if_pos (show s < i + 1 by omega)]
          · rw [if_neg c2, if_neg (show ¬ s < i + 1 by omega)]
      have hvi := hv i (by omega)
      rw [if_neg (show ¬ i < i by omega)] at hvi
      by_cases c : C i < Y.2.1.1
      · rw [if_pos c]
        exact step 0 (by unfold tc_wt; rw [if_pos c])
      · rw [if_neg c]
        exact step _ (by unfold tc_wt; rw [if_neg c, hvi])
  exact key Y.1.1 N 0 μ (by omega) (by omega) (fun _ _ => rfl) (fun s hs => by rw [if_neg (show ¬ s < 0 by omega)]; exact (h.2.1 s hs).2.2.2.2)
/-- the yard behind a moment that doesn't flap -/
def tc_af (Y : tc_Y) (u : Nat) : tc_Y := ((Y.1.1, u, Y.1.2.2), Y.2.1, (Y.2.2.1.1, Y.2.2.1.2.1, Y.2.2.1.2.2.1, Y.2.2.1.2.2.2.1, fun s => tc_wt Y.2.1.1 (Y.2.2.1.2.2.2.2 s) (tc_cY Y s)), Y.2.2.2)
theorem tc_Gd.af {u : Nat} (g : tc_Gd Y) (hu : u < 2 ^ Y.1.1) : tc_Gd (tc_af Y u) := by
  obtain ⟨g1, g2, g3⟩ := g
  exact ⟨g1, hu, g3⟩
/-- outside asking and yard nothing changes; of the yard relays, currents, waits -/
def tc_FP (μ μ' : tc_Mem) (a t : Nat) : Prop := ∀ k, k ≠ a → k ≠ a + 1 → k ≠ a + 2 → k ≠ t → k ≠ t + 5 → k ≠ t + 6 → μ' k = μ k
def tc_PP (μ : tc_Mem) (a t : Nat) (Y : tc_Y) (o : Option (Nat × List Int32)) (r : Int32) (μ' : tc_Mem) : Prop := tc_FP μ μ' a t ∧ match o with
  | none => r = 0 ∧ tc_RC μ' t Y
  | some (u, ch) => r = 1 ∧ tc_RC μ' t (tc_af Y u) ∧ u < 2 ^ Y.1.1 ∧ μ' a 1 = nI ch.length ∧ ch.length ≤ 40 ∧ tc_CH μ' (a + 1) ch
theorem tc_w0_passes (hN : 300 ≤ N) (hap : tc_Ap a t) (h : tc_RC μ t Y) (g : tc_Gd Y) : tc_wp (tc_f0_passes N a t μ) (tc_PP μ a t Y (tc_mo Y false)) := by
  have g1 := g.1
  have hap' := hap
  unfold tc_Ap at hap'
  unfold tc_f0_passes
  rw [tc_wp_bd]
  refine tc_wp_mono (tc_w0_settles hN hap h g false) (fun r μ2 hh => ?_)
  obtain ⟨f1, f2, f3⟩ := hh
  cases hmo : tc_mo Y false with
  | none =>
    rw [hmo] at f3
    obtain ⟨rfl, f4⟩ := f3
    rw [if_pos rfl, tc_wp_some]
    exact ⟨fun k k1 k2 k3 k4 k5 k6 => f1.1 k k1 k2 k3 k4 k6, rfl, f4⟩
  | some p =>
    obtain ⟨u, ch⟩ := p
    rw [hmo] at f3
    obtain ⟨rfl, f4, f5, f6, f7, f8⟩ := f3
    rw [if_neg (by decide), tc_wp_bd]
    refine tc_wp_mono (tc_w5_countWaits hN f4 (g.up f5) f2) (fun _ μ4 hh => ?_)
    obtain ⟨w1, w2⟩ := hh
    rw [tc_wp_some]
    refine ⟨fun k k1 k2 k3 k4 k5 k6 => by rw [w1 k k5]; exact f1.1 k k1 k2 k3 k4 k6, rfl, ?_, f5, by rw [w1 a (by omega)]; exact f6, f7, fun i v hi => by rw [w1 (a + 1) (by omega)]; exact f8 i v hi⟩
    obtain ⟨r1, r2, r3, r4, r5⟩ := f4
    refine ⟨by rw [w1 t (by omega)]; exact r1, fun s hs => ?_, by rw [w1 t (by omega)]; exact r3, by rw [w1 _ (by omega)]; exact r4, r5.frame (w1 _ (by omega)) (w1 _ (by omega)) (w1 _ (by omega))⟩
    obtain ⟨q1, q2, q3, q4, q5⟩ := r2 s hs
    exact ⟨by rw [w1 _ (by omega)]; exact q1, by rw [w1 _ (by omega)]; exact q2, by rw [w1 _ (by omega)]; exact q3, by rw [w1 _ (by omega)]; exact q4, w2 s hs⟩
end CP
