theorem tc_q0_at {n i : Nat} {tn : Bool} (h : i < n) : (tc_q0 n tn)[i]? = some (if tn then n - 1 - i else i) := by
  unfold tc_q0
  cases tn
  · simp [h]
  · simp only [if_true]
    rw [List.getElem?_reverse (by simpa using h)]
    simp only [List.length_range]
    rw [List.getElem?_range (by omega)]
theorem tc_q0_len (n : Nat) (tn : Bool) : (tc_q0 n tn).length = n := by
  unfold tc_q0; cases tn <;> simp
theorem tc_q0_nd (n : Nat) (tn : Bool) : (tc_q0 n tn).Nodup := by
  unfold tc_q0
  cases tn
  · exact List.nodup_range
  · exact List.pairwise_reverse.mpr ((show List.Pairwise _ _ from List.nodup_range).imp (fun h => Ne.symm h))
theorem tc_q0_lt (n : Nat) (tn : Bool) : ∀ s ∈ tc_q0 n tn, s < n := by
  unfold tc_q0; cases tn <;> simp
theorem tc_q0_snoc {n i : Nat} {tn : Bool} (h : i < n) : tc_ent ((tc_q0 n tn).take i) (if tn then n - 1 - i else i) = (tc_q0 n tn).take (i + 1) := by
  have h1 := tc_take1 (tc_q0_at (tn := tn) h)
  have h2 : ((tc_q0 n tn).take (i + 1)).Nodup := (tc_q0_nd n tn).sublist (List.take_sublist _ _)
  rw [h1] at h2 ⊢
  unfold tc_ent
  rw [if_neg]
  intro c
  exact (List.nodup_append.mp h2).2.2 _ c _ (List.mem_singleton.mpr rfl) rfl
section CS
variable {N a t n : Nat} {μ : tc_Mem} {Y : tc_Y}
theorem tc_w0_enterAll (hN : 300 ≤ N) (hn : n ≤ 8) (tn : Bool) : tc_wp (tc_f0_enterAll N a (nI n) (tc_bI tn) μ) (fun _ μ' => (∀ k, k ≠ a → k ≠ a + 2 → μ' k = μ k) ∧ μ' a 1 = μ a 1 ∧ tc_RA μ' a (tc_q0 n tn)) := by
  have key : ∀ (d f i : Nat) (μ1 : tc_Mem), i + d = n → d < f → (∀ k, k ≠ a → k ≠ a + 2 → μ1 k = μ k) → μ1 a 1 = μ a 1 → tc_RA μ1 a ((tc_q0 n tn).take i) → tc_wp (tc_f0_enterAll_17 N a f (nI n) (tc_bI tn) (nI i) μ1) (fun _ μ' => (∀ k, k ≠ a → k ≠ a + 2 → μ' k = μ k) ∧ μ' a 1 = μ a 1 ∧ tc_RA μ' a (tc_q0 n tn)) := by
    intro d
    induction d with
    | zero =>
      intro f i μ1 hi hf hfr h1 hA
      obtain ⟨f, rfl⟩ : ∃ f', f = f' + 1 := ⟨f - 1, by omega⟩
      rw [tc_f0_enterAll_17]; dsimp only
      rw [if_pos (by rw [tc_le (by omega) (by omega)]; omega), tc_wp_some]
      rw [show i = (tc_q0 n tn).length by rw [tc_q0_len]; omega, List.take_length] at hA
      exact ⟨hfr, h1, hA⟩
    | succ d ih =>
      intro f i μ1 hi hf hfr h1 hA
      obtain ⟨f, rfl⟩ : ∃ f', f = f' + 1 := ⟨f - 1, by omega⟩
      rw [tc_f0_enterAll_17]; dsimp only
      rw [if_neg (by rw [tc_le (by omega) (by omega)]; omega)]
      have hs := tc_q0_snoc (n := n) (i := i) (tn := tn) (by omega)
      have hx : (if tn then n - 1 - i else i) < 8 := by cases tn <;> simp <;> omega
      have step : tc_wp (tc_f0_enterAll_36 N a (tc_f0_enterAll_17 N a f) (nI n) (tc_bI tn) (nI i) (nI (if tn then n - 1 - i else i)) μ1) (fun _ μ' => (∀ k, k ≠ a → k ≠ a + 2 → μ' k = μ k) ∧ μ' a 1 = μ a 1 ∧ tc_RA μ' a (tc_q0 n tn)) := by
        unfold tc_f0_enterAll_36
        rw [tc_wp_bd]
        refine tc_wp_mono (tc_w0_enter hA hx) (fun _ μ2 hh => ?_)
        rw [hs] at hh
        rw [tc_ad1]
        exact ih f (i + 1) μ2 (by omega) (by omega) (fun k k1 k2 => by rw [hh.1 k k1 k2]; exact hfr k k1 k2) (hh.2.1.trans h1) hh.2.2
      rw [tc_wp_if]
      cases tn
      · rw [if_pos (show tc_bI false = 0 from rfl)]; exact step
      · rw [if_neg (show ¬ tc_bI true = 0 by decide), tc_sb1 (by omega), pk_sub (by omega)]; exact step
  unfold tc_f0_enterAll
  simp only [tc_wp_lt]
  refine key n N 0 _ (by omega) (by omega) (fun k k1 k2 => by rw [tc_wr_k k1, tc_wr_k k1, tc_wr_k k1]) (by rw [tc_wr_at, if_neg (by omega), tc_wr_at, if_neg (by omega), tc_wr_at, if_neg (by omega)]) ?_
  rw [List.take_zero]
  refine ⟨⟨List.nodup_nil, fun s hs => by simp at hs⟩, ?_, 0, ?_, tc_Mk.nil⟩
  · rw [show tc_wr (tc_wr (tc_wr μ a 3 0) a 4 0) a 5 0 a 3 = 0 by rw [tc_wr_at, if_neg (by omega), tc_wr_at, if_neg (by omega), tc_wr_at, if_pos ⟨rfl, rfl⟩], show tc_wr (tc_wr (tc_wr μ a 3 0) a 4 0) a 5 0 a 4 = 0 by rw [tc_wr_at, if_neg (by omega), tc_wr_at, if_pos ⟨rfl, rfl⟩]]
    exact tc_Ring.nil _
  · rw [tc_wr_at, if_pos ⟨rfl, rfl⟩]; rfl
/-- the yard with other relays -/
def tc_up (Y : tc_Y) (u : Nat) : tc_Y := ((Y.1.1, u, Y.1.2.2), Y.2)
theorem tc_RC.up {u : Nat} (h : tc_RC μ t Y) : tc_RC (tc_wr μ t 8 (nI u)) t (tc_up Y u) := by
  obtain ⟨h1, h2, ⟨h3, h4, h5, h6, h7⟩, h8, h9⟩ := h
  refine ⟨?_, fun s hs => ?_, ⟨?_, ?_, ?_, ?_, ?_⟩, ?_, h9.frame (tc_wr_k (by omega)) (tc_wr_k (by omega)) (tc_wr_k (by omega))⟩
  · rw [tc_wr_at, if_neg (by omega)]; exact h1
  · rw [tc_wr_k (by omega), tc_wr_k (by omega), tc_wr_k (by omega), tc_wr_k (by omega), tc_wr_k (by omega)]; exact h2 s hs
  · rw [tc_wr_at, if_pos ⟨rfl, rfl⟩]; rfl
  · rw [tc_wr_at, if_neg (by omega)]; exact h4
  · rw [tc_wr_at, if_neg (by omega)]; exact h5
  · rw [tc_wr_at, if_neg (by omega)]; exact h6
  · rw [tc_wr_at, if_neg (by omega)]; exact h7
  · rw [tc_wr_k (by omega)]; exact h8
theorem tc_Gd.up {u : Nat} (g : tc_Gd Y) (hu : u < 2 ^ Y.1.1) : tc_Gd (tc_up Y u) := by
  obtain ⟨g1, g2, g3⟩ := g
  exact ⟨g1, hu, g3⟩
def tc_CH (μ : tc_Mem) (k : Nat) (ch : List Int32) : Prop := ∀ (i : Nat) (v : Int32), ch[i]? = some v → μ k i = v
/-- outside asking and yard nothing changes, of the yard the relays and the currents alone -/
def tc_FS (μ μ' : tc_Mem) (a t : Nat) : Prop := (∀ k, k ≠ a → k ≠ a + 1 → k ≠ a + 2 → k ≠ t → k ≠ t + 6 → μ' k = μ k) ∧ ∀ j, j ≠ 8 → μ' t j = μ t j
def tc_PS (μ : tc_Mem) (a t : Nat) (Y : tc_Y) (C : Nat → Int32) (o : Option (Nat × List Int32)) (r : Int32) (μ' : tc_Mem) : Prop := tc_FS μ μ' a t ∧ (∀ s, s < Y.1.1 → μ' (t + 6) s = C s) ∧ match o with
  | none => r = 0 ∧ tc_RC μ' t Y
  | some (u, ch) => r = 1 ∧ tc_RC μ' t (tc_up Y u) ∧ u < 2 ^ Y.1.1 ∧ μ' a 1 = nI ch.length ∧ ch.length ≤ 40 ∧ tc_CH μ' (a + 1) ch
theorem tc_bI_inj (b c : Bool) : tc_bI b = tc_bI c ↔ b = c := by cases b <;> cases c <;> decide
theorem tc_nb_lt {K : Nat → Int32} {q : List Nat} {s n : Nat} (hq : ∀ r ∈ q, r < n) (hs : s < n) : ∀ r ∈ tc_nbR n K (tc_nbL K q s) s, r < n := by
  have h1 : ∀ r ∈ tc_nbL K q s, r < n := by
    intro r hr
    unfold tc_nbL at hr
    split at hr
    · unfold tc_ent at hr
      split at hr
      · exact hq r hr
      · rcases List.mem_append.mp hr with hr | hr
        · exact hq r hr
        · rw [List.mem_singleton] at hr; omega
    · exact hq r hr
  intro r hr
  unfold tc_nbR at hr
  split at hr
  · rename_i c
    unfold tc_ent at hr
    split at hr
    · exact h1 r hr
    · rcases List.mem_append.mp hr with hr | hr
      · exact h1 r hr
      · rw [List.mem_singleton] at hr; omega
  · exact h1 r hr
end CS
