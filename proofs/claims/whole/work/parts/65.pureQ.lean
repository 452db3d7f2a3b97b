/-! the queue: a ring of eight places -/
def tc_Ring (Q : Nat → Int32) (f w : Int32) (q : List Nat) : Prop := ∃ f0, f0 < 8 ∧ f = nI f0 ∧ w = nI q.length ∧ q.length ≤ 8 ∧ ∀ i s, q[i]? = some s → Q ((f0 + i) % 8) = nI s
def tc_Qok (q : List Nat) : Prop := q.Nodup ∧ ∀ s ∈ q, s < 8
theorem tc_nodup_len : ∀ {n : Nat} {q : List Nat}, q.Nodup → (∀ s ∈ q, s < n) → q.length ≤ n := by
  intro n
  induction n with
  | zero =>
    intro q h hs
    cases q with
    | nil => simp
    | cons a l => exact absurd (hs a List.mem_cons_self) (by omega)
  | succ n ih =>
    intro q h hs
    by_cases c : n ∈ q
    · have h1 := ih (h.erase n) (fun s hq => by
        have h2 := hs s (List.mem_of_mem_erase hq)
        have h3 : s ≠ n := (h.mem_erase_iff.mp hq).1
        omega)
      rw [List.length_erase_of_mem c] at h1
      omega
    · have h1 := ih h (fun s hq => by
        have h2 := hs s hq
        have h3 : s ≠ n := fun e => c (e ▸ hq)
        omega)
      omega
theorem tc_Qok.len {q : List Nat} (h : tc_Qok q) : q.length ≤ 8 := tc_nodup_len h.1 h.2
theorem tc_Qok.ent {q : List Nat} {s : Nat} (h : tc_Qok q) (hs : s < 8) : tc_Qok (tc_ent q s) := by
  unfold tc_ent
  by_cases c : s ∈ q
  · rw [if_pos c]; exact h
  · rw [if_neg c]
    refine ⟨List.nodup_append.mpr ⟨h.1, by simp, ?_⟩, fun r hr => ?_⟩
    · intro a ha b hb
      rw [List.mem_singleton] at hb
      subst hb
      exact fun e => c (e ▸ ha)
    · rcases List.mem_append.mp hr with hr | hr
      · exact h.2 r hr
      · rw [List.mem_singleton] at hr; subst hr; exact hs
theorem tc_Qok.lt {q : List Nat} {s : Nat} (h : tc_Qok q) (hs : s < 8) (c : s ∉ q) : q.length < 8 := by
  have h1 := (h.ent hs).len
  unfold tc_ent at h1
  rw [if_neg c, List.length_append] at h1
  simp at h1
  omega
theorem tc_Qok.tail {q : List Nat} {s : Nat} (h : tc_Qok (s :: q)) : tc_Qok q ∧ s < 8 ∧ s ∉ q := by
  obtain ⟨h1, h2⟩ := h
  rw [List.nodup_cons] at h1
  exact ⟨⟨h1.2, fun r hr => h2 r (List.mem_cons_of_mem _ hr)⟩, h2 s List.mem_cons_self, h1.1⟩
theorem tc_rem8 {a : Nat} (h : a < 2 ^ 31) : nI a - nI a / 8 * 8 = nI (a % 8) := pk_rem h (by decide) (by decide)
theorem tc_Ring.push {Q : Nat → Int32} {f w : Int32} {q : List Nat} {s : Nat} (h : tc_Ring Q f w q) (hl : q.length < 8) : ∃ j, j < 8 ∧ (f + w) - (f + w) / 8 * 8 = nI j ∧ tc_Ring (upd Q j (nI s)) f (w + 1) (q ++ [s]) := by
  obtain ⟨f0, h1, rfl, rfl, h2, h3⟩ := h
  refine ⟨(f0 + q.length) % 8, by omega, ?_, f0, h1, rfl, ?_, ?_, fun i r hi => ?_⟩
  · rw [nI_add, tc_rem8 (by omega)]
  · rw [tc_ad1, List.length_append]; rfl
  · rw [List.length_append]; simp; omega
  · by_cases c : i < q.length
    · rw [List.getElem?_append_left c] at hi
      rw [show upd Q ((f0 + q.length) % 8) (nI s) ((f0 + i) % 8) = Q ((f0 + i) % 8) from if_neg (by omega)]
      exact h3 i r hi
    · rw [List.getElem?_append_right (by omega)] at hi
      have hz : i - q.length < 1 := (List.getElem?_eq_some_iff.mp hi).1
      rw [show i - q.length = 0 by omega] at hi
      cases hi
      rw [show i = q.length by omega]
      exact if_pos rfl
theorem tc_Ring.pop {Q : Nat → Int32} {f w : Int32} {q : List Nat} {s : Nat} (h : tc_Ring Q f w (s :: q)) : ∃ j, j < 8 ∧ f = nI j ∧ Q j = nI s ∧ tc_Ring Q ((f + 1) - (f + 1) / 8 * 8) (w - 1) q := by
  obtain ⟨f0, h1, rfl, rfl, h2, h3⟩ := h
  have h4 := h3 0 s rfl
  rw [Nat.add_zero, Nat.mod_eq_of_lt h1] at h4
  refine ⟨f0, h1, rfl, h4, (f0 + 1) % 8, by omega, ?_, ?_, ?_, fun i r hi => ?_⟩
  · rw [tc_ad1, tc_rem8 (by omega)]
  · rw [List.length_cons]; exact nI_pred _
  · rw [List.length_cons] at h2; omega
  · have h5 := h3 (i + 1) r (by rw [List.getElem?_cons_succ]; exact hi)
    rw [show ((f0 + 1) % 8 + i) % 8 = (f0 + (i + 1)) % 8 by omega]
    exact h5
theorem tc_Ring.w {Q : Nat → Int32} {f w : Int32} {q : List Nat} (h : tc_Ring Q f w q) : w = nI q.length ∧ q.length ≤ 8 := by
  obtain ⟨f0, h1, rfl, rfl, h2, h3⟩ := h
  exact ⟨rfl, h2⟩
theorem tc_Ring.nil (Q : Nat → Int32) : tc_Ring Q 0 0 [] := ⟨0, by decide, rfl, rfl, by decide, fun i s h => by simp at h⟩
/-! a mask says who is in it -/
def tc_Mk (m : Nat) (q : List Nat) : Prop := m < 256 ∧ ∀ s, s < 8 → m.testBit s = decide (s ∈ q)
theorem tc_Mk.push {m : Nat} {q : List Nat} {s : Nat} (h : tc_Mk m q) (hs : s < 8) : tc_Mk (tc_set m s) (q ++ [s]) := by
  refine ⟨tc_set_lt _ h.1 _ hs, fun r hr => ?_⟩
  rw [tc_set_bit _ h.1 _ hs _ hr, h.2 r hr]
  simp
theorem tc_Mk.pop {m : Nat} {q : List Nat} {s : Nat} (h : tc_Mk m (s :: q)) (hs : s < 8) (hn : s ∉ q) : tc_Mk (tc_clr m s) q := by
  refine ⟨tc_clr_lt _ h.1 _ hs, fun r hr => ?_⟩
  rw [tc_clr_bit _ h.1 _ hs _ hr, h.2 r hr]
  by_cases c : r = s
  · subst c; simp [hn]
  · simp [c]
theorem tc_Mk.nil : tc_Mk 0 [] := ⟨by decide, fun s hs => by simp⟩
theorem tc_tog0 : ∀ u, u < 256 → ∀ s, s < 8 → u.testBit s = false → tc_set u s = u ^^^ 2 ^ s := by decide +kernel
theorem tc_tog1 : ∀ u, u < 256 → ∀ s, s < 8 → u.testBit s = true → tc_clr u s = u ^^^ 2 ^ s := by decide +kernel
theorem tc_tog_lt : ∀ n, n < 9 → ∀ u, u < 2 ^ n → ∀ s, s < n → u ^^^ 2 ^ s < 2 ^ n := by
  intro n _ u hu s hs
  exact Nat.xor_lt_two_pow hu (Nat.pow_lt_pow_right (by decide) hs)
theorem tc_tog_bit (u s r : Nat) : (u ^^^ 2 ^ s).testBit r = (u.testBit r ^^ decide (s = r)) := by
  rw [Nat.testBit_xor, Nat.testBit_two_pow]
/-- the asking comes to its end: so much is left to do at most -/
def tc_me (q : List Nat) (ch : List Int32) : Nat := q.length + 3 * (40 - ch.length)
theorem tc_ent_len (q : List Nat) (s : Nat) : (tc_ent q s).length ≤ q.length + 1 := by
  unfold tc_ent
  by_cases c : s ∈ q
  · rw [if_pos c]; omega
  · rw [if_neg c, List.length_append]; simp
theorem tc_nb_len (n : Nat) (K : Nat → Int32) (q : List Nat) (s : Nat) : (tc_nbR n K (tc_nbL K q s) s).length ≤ q.length + 2 := by
  have h1 : (tc_nbL K q s).length ≤ q.length + 1 := by
    unfold tc_nbL
    by_cases c : 0 < s ∧ tc_kR (K (s - 1)) = true
    · rw [if_pos c]; exact tc_ent_len _ _
    · rw [if_neg c]; omega
  unfold tc_nbR
  by_cases c : s + 1 < n ∧ tc_kL (K (s + 1)) = true
  · rw [if_pos c]; have := tc_ent_len (tc_nbL K q s) (s + 1); omega
  · rw [if_neg c]; omega
