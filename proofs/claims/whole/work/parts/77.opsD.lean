/-! the yard is changed -/
def tc_FY (μ μ' : tc_Mem) (t : Nat) : Prop := ∀ k, (k < t ∨ t + 10 < k) → μ' k = μ k
theorem tc_FY.rf {μ : tc_Mem} {t : Nat} : tc_FY μ μ t := fun _ _ => rfl
theorem tc_FY.trans {μ μ1 μ2 : tc_Mem} {t : Nat} (h : tc_FY μ μ1 t) (h2 : tc_FY μ1 μ2 t) : tc_FY μ μ2 t := fun k hk => (h2 k hk).trans (h k hk)
theorem tc_FY.wr {μ μ1 : tc_Mem} {t k i : Nat} {v : Int32} (h : tc_FY μ μ1 t) (hk : t ≤ k ∧ k ≤ t + 10) : tc_FY μ (tc_wr μ1 k i v) t := fun k' hk' => by rw [tc_wr_k (by omega)]; exact h k' hk'
def tc_yT (Y : tc_Y) (tr : Nat) : tc_Y := ((Y.1.1, Y.1.2.1, tr), Y.2)
def tc_yR (Y : tc_Y) (r : Int32 × Int32 × Int32) : tc_Y := (Y.1, r, Y.2.2)
def tc_yA (Y : tc_Y) (A : tc_Ar) : tc_Y := (Y.1, Y.2.1, A, Y.2.2.2)
def tc_yF (Y : tc_Y) (fl : tc_Fl) : tc_Y := (Y.1, Y.2.1, Y.2.2.1, fl)
def tc_yN (Y : tc_Y) (n : Nat) : tc_Y := ((n, Y.1.2), Y.2)
def tc_yS (Y : tc_Y) (x1 x2 x3 x4 : Int32) : tc_Y := ((Y.1.1 + 1, Y.1.2), Y.2.1, (upd Y.2.2.1.1 Y.1.1 x1, upd Y.2.2.1.2.1 Y.1.1 x2, upd Y.2.2.1.2.2.1 Y.1.1 x3, upd Y.2.2.1.2.2.2.1 Y.1.1 x4, upd Y.2.2.1.2.2.2.2 Y.1.1 0), Y.2.2.2)
theorem tc_yT_yT (Y : tc_Y) (a b : Nat) : tc_yT (tc_yT Y a) b = tc_yT Y b := rfl
section C7
variable {N t : Nat} {μ : tc_Mem} {Y : tc_Y}
theorem tc_RC.tr {tr : Nat} (h : tc_RC μ t Y) : tc_RC (tc_wr μ t 9 (nI tr)) t (tc_yT Y tr) := by
  obtain ⟨h1, h2, ⟨h3, h4, h5⟩, h6, h7⟩ := h
  refine ⟨by simp [tc_wr_at, tc_yT, h1], fun s hs => ?_, ?_, by simp [tc_wr_at, tc_yT, h6], h7.frame (tc_wr_k (by omega)) (tc_wr_k (by omega)) (tc_wr_k (by omega))⟩
  · simpa [tc_wr_at, tc_yT] using h2 s hs
  · simp [tc_wr_at, tc_yT, h3, h5]
theorem tc_RC.r10 {x : Int32} (h : tc_RC μ t Y) : tc_RC (tc_wr μ t 10 x) t (tc_yR Y (x, Y.2.1.2.1, Y.2.1.2.2)) := by
  obtain ⟨h1, h2, h3, h6, h7⟩ := h
  refine ⟨by simp [tc_wr_at, tc_yR, h1], fun s hs => ?_, ?_, by simp [tc_wr_at, tc_yR, h6], h7.frame (tc_wr_k (by omega)) (tc_wr_k (by omega)) (tc_wr_k (by omega))⟩
  · simpa [tc_wr_at, tc_yR] using h2 s hs
  · simp [tc_wr_at, tc_yR, h3]
theorem tc_RC.r11 {x : Int32} (h : tc_RC μ t Y) : tc_RC (tc_wr μ t 11 x) t (tc_yR Y (Y.2.1.1, x, Y.2.1.2.2)) := by
  obtain ⟨h1, h2, h3, h6, h7⟩ := h
  refine ⟨by simp [tc_wr_at, tc_yR, h1], fun s hs => ?_, ?_, by simp [tc_wr_at, tc_yR, h6], h7.frame (tc_wr_k (by omega)) (tc_wr_k (by omega)) (tc_wr_k (by omega))⟩
  · simpa [tc_wr_at, tc_yR] using h2 s hs
  · simp [tc_wr_at, tc_yR, h3]
theorem tc_RC.r12 {x : Int32} (h : tc_RC μ t Y) : tc_RC (tc_wr μ t 12 x) t (tc_yR Y (Y.2.1.1, Y.2.1.2.1, x)) := by
  obtain ⟨h1, h2, h3, h6, h7⟩ := h
  refine ⟨by simp [tc_wr_at, tc_yR, h1], fun s hs => ?_, ?_, by simp [tc_wr_at, tc_yR, h6], h7.frame (tc_wr_k (by omega)) (tc_wr_k (by omega)) (tc_wr_k (by omega))⟩
  · simpa [tc_wr_at, tc_yR] using h2 s hs
  · simp [tc_wr_at, tc_yR, h3]
/-- one of the rows of numbers -/
theorem tc_RC.a1 {x : Int32} {i : Nat} (h : tc_RC μ t Y) : tc_RC (tc_wr μ (t + 1) i x) t (tc_yA Y (upd Y.2.2.1.1 i x, Y.2.2.1.2)) := by
  obtain ⟨h1, h2, h3, h6, h7⟩ := h
  refine ⟨by simp [tc_wr_at, tc_yA, h1], fun s hs => ?_, by simpa [tc_wr_at, tc_yA] using h3, by simp [tc_wr_at, tc_yA, h6], h7.frame (tc_wr_k (by omega)) (tc_wr_k (by omega)) (tc_wr_k (by omega))⟩
  have := h2 s hs
  by_cases c : s = i <;> simp_all [tc_wr_at, tc_yA, upd]
theorem tc_RC.a2 {x : Int32} {i : Nat} (h : tc_RC μ t Y) : tc_RC (tc_wr μ (t + 2) i x) t (tc_yA Y (Y.2.2.1.1, upd Y.2.2.1.2.1 i x, Y.2.2.1.2.2)) := by
  obtain ⟨h1, h2, h3, h6, h7⟩ := h
  refine ⟨by simp [tc_wr_at, tc_yA, h1], fun s hs => ?_, by simpa [tc_wr_at, tc_yA] using h3, by simp [tc_wr_at, tc_yA, h6], h7.frame (tc_wr_k (by omega)) (tc_wr_k (by omega)) (tc_wr_k (by omega))⟩
  have := h2 s hs
  by_cases c : s = i <;> simp_all [tc_wr_at, tc_yA, upd]
theorem tc_RC.a3 {x : Int32} {i : Nat} (h : tc_RC μ t Y) : tc_RC (tc_wr μ (t + 3) i x) t (tc_yA Y (Y.2.2.1.1, Y.2.2.1.2.1, upd Y.2.2.1.2.2.1 i x, Y.2.2.1.2.2.2)) := by
  obtain ⟨h1, h2, h3, h6, h7⟩ := h
  refine ⟨by simp [tc_wr_at, tc_yA, h1], fun s hs => ?_, by simpa [tc_wr_at, tc_yA] using h3, by simp [tc_wr_at, tc_yA, h6], h7.frame (tc_wr_k (by omega)) (tc_wr_k (by omega)) (tc_wr_k (by omega))⟩
  have := h2 s hs
  by_cases c : s = i <;> simp_all [tc_wr_at, tc_yA, upd]
theorem tc_RC.a4 {x : Int32} {i : Nat} (h : tc_RC μ t Y) : tc_RC (tc_wr μ (t + 4) i x) t (tc_yA Y (Y.2.2.1.1, Y.2.2.1.2.1, Y.2.2.1.2.2.1, upd Y.2.2.1.2.2.2.1 i x, Y.2.2.1.2.2.2.2)) := by
  obtain ⟨h1, h2, h3, h6, h7⟩ := h
  refine ⟨by simp [tc_wr_at, tc_yA, h1], fun s hs => ?_, by simpa [tc_wr_at, tc_yA] using h3, by simp [tc_wr_at, tc_yA, h6], h7.frame (tc_wr_k (by omega)) (tc_wr_k (by omega)) (tc_wr_k (by omega))⟩
  have := h2 s hs
  by_cases c : s = i <;> simp_all [tc_wr_at, tc_yA, upd]
theorem tc_RC.a5 {x : Int32} {i : Nat} (h : tc_RC μ t Y) : tc_RC (tc_wr μ (t + 5) i x) t (tc_yA Y (Y.2.2.1.1, Y.2.2.1.2.1, Y.2.2.1.2.2.1, Y.2.2.1.2.2.2.1, upd Y.2.2.1.2.2.2.2 i x)) := by
  obtain ⟨h1, h2, h3, h6, h7⟩ := h
  refine ⟨by simp [tc_wr_at, tc_yA, h1], fun s hs => ?_, by simpa [tc_wr_at, tc_yA] using h3, by simp [tc_wr_at, tc_yA, h6], h7.frame (tc_wr_k (by omega)) (tc_wr_k (by omega)) (tc_wr_k (by omega))⟩
  have := h2 s hs
  by_cases c : s = i <;> simp_all [tc_wr_at, tc_yA, upd]
theorem tc_w5_addSection {x1 x2 x3 x4 : Int32} (h : tc_RC μ t Y) (hn : Y.1.1 < 8) : tc_wp (tc_f5_addSection N t x1 x2 x3 x4 μ) (fun _ μ' => tc_FY μ μ' t ∧ tc_RC μ' t (tc_yS Y x1 x2 x3 x4)) := by
  have e0 := h.1
  obtain ⟨h1, h2, h3, h6, h7⟩ := h
  unfold tc_f5_addSection
  have hv : vp_in (nI Y.1.1) 8 := (tc_vin (by omega) (by decide)).mpr hn
  rw [e0, if_pos (by rw [tc_ltL (k := 8) (by omega) (by decide)]; exact hn)]
  simp only [tc_wp_ck, tc_wp_lt, tc_wp_some]
  have c0 : (nI Y.1.1).toNatClampNeg = Y.1.1 := tc_cl (by omega)
  have z : ∀ k i v (m : tc_Mem), k ≠ t → tc_wr m k i v t 0 = m t 0 := fun k i v m hk => by rw [tc_wr_k (Ne.symm hk)]
  simp only [z (t + 1) _ _ _ (by omega), z (t + 2) _ _ _ (by omega), z (t + 3) _ _ _ (by omega), z (t + 4) _ _ _ (by omega), z (t + 5) _ _ _ (by omega), e0, hv, c0, true_and, tc_ad1]
  refine ⟨(((((tc_FY.rf.wr ?_).wr ?_).wr ?_).wr ?_).wr ?_).wr ?_, ?_, fun s hs => ?_, ?_, ?_, h7.frame ?_ ?_ ?_⟩
  · omega
  · omega
  · omega
  · omega
  · omega
  · omega
  · simp [tc_wr_at, tc_yS]
  · simp only [tc_yS] at hs
    by_cases c : s = Y.1.1
    · simp [tc_wr_at, tc_yS, upd, c]
    · have := h2 s (by omega)
      simpa [tc_wr_at, tc_yS, upd, c] using this
  · simpa [tc_wr_at, tc_yS] using h3
  · simpa [tc_wr_at, tc_yS] using h6
  · simp [tc_wr_k]
  · simp [tc_wr_k]
  · simp [tc_wr_k]
theorem tc_w5_moveTrains (h : tc_RC μ t Y) (g : tc_Gd Y) : tc_wp (tc_f5_moveTrains N t μ) (fun _ μ' => (∀ k, k ≠ t → μ' k = μ k) ∧ tc_RC μ' t (tc_yT Y ((2 * Y.1.2.2) &&& (2 ^ Y.1.1 - 1)))) := by
  unfold tc_f5_moveTrains
  simp only [tc_wp_bd, tc_v5_all h g, tc_wp_some, tc_wp_lt, h.2.2.1.2.1, tc_shl1 _ g.t, tc_and2]
  exact ⟨fun k hk => tc_wr_k hk, h.tr⟩
end C7
