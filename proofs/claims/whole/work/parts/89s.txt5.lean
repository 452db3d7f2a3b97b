/-! texts: done -/
section X5
variable {N : Nat} {B : Nat → Int32} {L i b e w c : Nat} {x1 x2 : Int32} {μ μ1 μ2 : tc_Mem} {Y : tc_Y} {lg : List Int32}
theorem tz_rd0 (hN : 300 ≤ N) (hL : L ≤ 60) (hQ : tz_Q μ B L) : ∀ (d f i : Nat) (μ1 : tc_Mem), 75 ≤ i + 5 * d → i ≤ L → d < f → tz_F9 μ μ1 → μ1 50 32 = nI i → tc_wp (tc_f7_reads_7 N f 0 0 μ1) (fun r μ' => tz_F9 μ μ' ∧ r = match tz_al B L d i with
    | .inl b => -100 - nI b
    | .inr _ => 0) := by
  intro d
  induction d with
  | zero => intro f i μ1 h75 hi hf; omega
  | succ d ih =>
    intro f i μ1 h75 hi hf hF h2
    obtain ⟨f, rfl⟩ : ∃ f', f = f' + 1 := ⟨f - 1, by omega⟩
    rw [tc_f7_reads_7]; dsimp only
    rw [tc_wp_bd]
    refine tc_wp_mono (tc_w7_next hN hL (hQ.f9 hF) hi h2) (fun _ μ2 hh => ?_)
    obtain ⟨F2, nx⟩ := hh
    have hw := tz_nxW hi nx
    have F12 := hF.trans F2.nine
    rw [tz_al]
    have hcs := @tz_cs_le B L i
    unfold tz_cs at hcs ⊢
    cases hW : tz_W B L i with
    | inl b =>
      rw [hW] at hw
      rw [if_neg hw.1]
      unfold tc_f7_reads_19
      rw [tc_wp_some, hw.2]
      exact ⟨F12, rfl⟩
    | inr p =>
      obtain ⟨w, e⟩ := p
      rw [hW] at hw hcs
      obtain ⟨m1, m2, m3⟩ := hw
      obtain ⟨w1, w2, w3⟩ := tz_W_le hi hW
      rw [if_pos m1, tc_wp_lt, m2]
      refine tz_r35 hN hL w3 hQ (tz_nn w) N 0 e [] μ2 (by omega) (by have := (tz_nums w w3).2; omega) w2 F12 m3 rfl (fun t v hv => by simp at hv) (fun b μ' hb hF' => ?_) (fun l e' μ3 hl F3 h32 hT => ?_)
      · dsimp only
        rw [hb]
        exact ⟨hF', rfl⟩
      · dsimp only at hcs
        rw [hl] at hcs
        obtain ⟨l1, l2, l3, l4⟩ := hcs (c := (w, l)) (e := e') hi rfl
        have hb := tz_bl_le (B := B) l2
        unfold tc_f7_reads_81 tc_f7_reads_98 tc_f7_reads_99
        rw [if_pos rfl, tc_wp_lt, tc_wp_bd, show (0 : Int32) + 0 = 0 by decide]
        refine tc_wp_mono (tc_w7_next hN hL (hQ.f9 F3) l2 h32) (fun _ μ4 hh => ?_)
        obtain ⟨F4, nx4⟩ := hh
        have hs := tz_nxS l2 nx4
        have F34 := F3.trans F4.nine
        dsimp only
        rw [hl]
        dsimp only
        by_cases q1 : L ≤ tz_bl B L e'
        · rw [if_pos q1] at hs ⊢
          rw [if_pos hs, tc_wp_some]
          exact ⟨F34, rfl⟩
        rw [if_neg q1] at hs ⊢
        by_cases q2 : B (tz_bl B L e') = 59
        · rw [if_pos q2] at hs ⊢
          rw [if_neg (by rw [hs.1]; decide), if_pos hs.1]
          refine tc_wp_mono (ih f (tz_bl B L e' + 1) μ4 (by omega) (by omega) (by omega) F34 hs.2) (fun r μ5 hh => ⟨hh.1, ?_⟩)
          rw [hh.2]
          cases tz_al B L d (tz_bl B L e' + 1) <;> rfl
        · rw [if_neg q2] at hs ⊢
          rw [if_neg hs.1, if_neg hs.2.1]
          unfold tc_f7_reads_122
          rw [tc_wp_some, hs.2.2]
          exact ⟨F34, rfl⟩
def tz_oC (N : Nat) (q : Nat × List Int32) : tc_Mem → Option (Int32 × tc_Mem) := if q.1 = 0 then tc_f6_section N (q.2.getD 0 0) (q.2.getD 1 0) (q.2.getD 2 0) (q.2.getD 3 0) else if q.1 = 1 then tc_f6_train N (q.2.getD 0 0) 1 else if q.1 = 2 then tc_f6_train N (q.2.getD 0 0) 0 else if q.1 = 3 then tc_f6_fault N (q.2.getD 0 0) (q.2.getD 1 0) else if q.1 = 4 then tc_f6_mend N (q.2.getD 0 0) else if q.1 = 5 then tc_f6_rule N 2 (q.2.getD 0 0) else if q.1 = 6 then tc_f6_moment N else tc_f6_drop N
def tz_oR (N : Nat) (q : Nat × List Int32) : tc_Mem → Option (Int32 × tc_Mem) := if q.1 = 0 then tc_f7_section N (q.2.getD 0 0) (q.2.getD 1 0) (q.2.getD 2 0) (q.2.getD 3 0) else if q.1 = 1 then tc_f7_train N (q.2.getD 0 0) 1 else if q.1 = 2 then tc_f7_train N (q.2.getD 0 0) 0 else if q.1 = 3 then tc_f7_fault N (q.2.getD 0 0) (q.2.getD 1 0) else if q.1 = 4 then tc_f7_mend N (q.2.getD 0 0) else if q.1 = 5 then tc_f7_rule N 2 (q.2.getD 0 0) else if q.1 = 6 then tc_f7_moment N else tc_f7_drop N
theorem tz_op (hN : 300 ≤ N) {q : Nat × List Int32} (hq : q.1 < 8) (g : tc_G6 Y) (hl : lg.length ≤ 40) : tc_L (tz_oC N q) (tz_oR N q) Y lg := by
  obtain ⟨w, l⟩ := q
  unfold tz_oC tz_oR
  rcases (show w = 0 ∨ w = 1 ∨ w = 2 ∨ w = 3 ∨ w = 4 ∨ w = 5 ∨ w = 6 ∨ w = 7 by have : w < 8 := hq; omega) with rfl | rfl | rfl | rfl | rfl | rfl | rfl | rfl
  all_goals simp (decide := true) only [if_true, if_false]
  · exact (tc_J_section g).l hl
  · exact (tc_J_train g).l hl
  · exact (tc_J_train g).l hl
  · exact (tc_J_fault g).l hl
  · exact (tc_J_mend hN g).l hl
  · exact (tc_J_rule g).l hl
  · exact tc_L_moment hN g hl
  · exact (tc_J_drop hN g).l hl
theorem tz_does {q : Nat × List Int32} {P : Int32 → tc_Mem → Prop} (hq : q.1 < 8) (hl : q.2.length = tz_nn q.1) (hT : ∀ t v, q.2[t]? = some v → μ 75 t = v) (h : tc_wp (tz_oR N q μ) (fun r μ' => P (if r < 0 then 0 else 1) μ')) : tc_wp (tc_f7_does N (nI q.1) μ) P := by
  obtain ⟨w, l⟩ := q
  have hT' : ∀ t, t < l.length → μ 75 t = l.getD t 0 := fun t ht => by
    rw [hT t (l.getD t 0) (by simp [List.getElem?_eq_getElem ht])]
  have fin : ∀ (r : Int32) (μ' : tc_Mem), P (if r < 0 then 0 else 1) μ' → tc_wp (if r < 0 then some (0, μ') else some (1, μ')) P := by
    intro r μ' hp
    rw [tc_wp_if, tc_wp_some, tc_wp_some]
    by_cases c : r < 0
    · rw [if_pos c] at hp ⊢; exact hp
    · rw [if_neg c] at hp ⊢; exact hp
  have v0 : vp_in (0 : Int32) 4 := (tc_vin (s := 0) (n := 4) (by decide) (by decide)).mpr (by decide)
  have v1 : vp_in (1 : Int32) 4 := (tc_vin (s := 1) (n := 4) (by decide) (by decide)).mpr (by decide)
  have v2 : vp_in (2 : Int32) 4 := (tc_vin (s := 2) (n := 4) (by decide) (by decide)).mpr (by decide)
  have v3 : vp_in (3 : Int32) 4 := (tc_vin (s := 3) (n := 4) (by decide) (by decide)).mpr (by decide)
  have k0 : (0 : Int32).toNatClampNeg = 0 := by decide
  have k1 : (1 : Int32).toNatClampNeg = 1 := by decide
  have k2 : (2 : Int32).toNatClampNeg = 2 := by decide
  have k3 : (3 : Int32).toNatClampNeg = 3 := by decide
  unfold tz_oR at h
  unfold tc_f7_does
  rcases (show w = 0 ∨ w = 1 ∨ w = 2 ∨ w = 3 ∨ w = 4 ∨ w = 5 ∨ w = 6 ∨ w = 7 by have : w < 8 := hq; omega) with rfl | rfl | rfl | rfl | rfl | rfl | rfl | rfl
  all_goals simp (decide := true) only [if_true, if_false, tc_wp_ck, tc_wp_bd, v0, v1, v2, v3, true_and, k0, k1, k2, k3] at h ⊢
  · have hl4 : l.length = 4 := hl
    rw [hT' 0 (by omega), hT' 1 (by omega), hT' 2 (by omega), hT' 3 (by omega)]
    exact tc_wp_mono h fin
  · have hl1 : l.length = 1 := hl
    rw [hT' 0 (by omega)]
    exact tc_wp_mono h fin
  · have hl1 : l.length = 1 := hl
    rw [hT' 0 (by omega)]
    exact tc_wp_mono h fin
  · have hl1 : l.length = 2 := hl
    rw [hT' 0 (by omega), hT' 1 (by omega)]
    exact tc_wp_mono h fin
  · have hl1 : l.length = 1 := hl
    rw [hT' 0 (by omega)]
    exact tc_wp_mono h fin
  · have hl1 : l.length = 1 := hl
    rw [hT' 0 (by omega)]
    exact tc_wp_mono h fin
  · exact tc_wp_mono h fin
  · exact tc_wp_mono h fin
theorem tz_number {t : Nat} (hc : c < 15) (ht : t < 4) : tc_f4_number N (nI c) (nI t) μ = some (μ 45 (4 * c + t), μ) := by
  apply tc_wp_of
  unfold tc_f4_number
  have ei : nI c * 4 + nI t = nI (4 * c + t) := by show nI c * nI 4 + nI t = _; rw [pk_mul, nI_add, Nat.mul_comm]
  rw [ei, tc_wp_ck, tc_cl (by omega), tc_wp_some]
  exact ⟨(tc_vin (by omega) (by decide)).mpr (by omega), rfl, rfl⟩
theorem tz_answer {q : Nat × List Int32} {P : Int32 → tc_Mem → Prop} (hc : c < 15) (hq : q.1 < 8) (hl : q.2.length = tz_nn q.1) (h44 : μ 44 c = nI q.1) (hT : ∀ t v, q.2[t]? = some v → μ 45 (4 * c + t) = v) (h : tc_wp (tz_oC N q μ) P) : tc_wp (tc_f6_answerOfClause N (nI c) μ) P := by
  obtain ⟨w, l⟩ := q
  have hT' : ∀ t, t < l.length → μ 45 (4 * c + t) = l.getD t 0 := fun t ht => by
    rw [hT t (l.getD t 0) (by simp [List.getElem?_eq_getElem ht])]
  have fin : ∀ (r : Int32) (μ' : tc_Mem), P r μ' → tc_wp (some (r, μ')) P := fun r μ' hp => by rw [tc_wp_some]; exact hp
  have n0 : tc_f4_number N (nI c) 0 μ = _ := tz_number (t := 0) hc (by decide)
  have n1 : tc_f4_number N (nI c) 1 μ = _ := tz_number (t := 1) hc (by decide)
  have n2 : tc_f4_number N (nI c) 2 μ = _ := tz_number (t := 2) hc (by decide)
  have n3 : tc_f4_number N (nI c) 3 μ = _ := tz_number (t := 3) hc (by decide)
  unfold tz_oC at h
  unfold tc_f6_answerOfClause
  rw [tc_wp_bd, n0, tc_wp_some, tc_wp_bd, n1, tc_wp_some, tc_wp_ck, tc_cl (by omega), tc_wp_lt, h44]
  refine ⟨(tc_vin (by omega) (by decide)).mpr hc, ?_⟩
  rcases (show w = 0 ∨ w = 1 ∨ w = 2 ∨ w = 3 ∨ w = 4 ∨ w = 5 ∨ w = 6 ∨ w = 7 by have : w < 8 := hq; omega) with rfl | rfl | rfl | rfl | rfl | rfl | rfl | rfl
  all_goals simp (decide := true) only [if_true, if_false, tc_wp_bd, n2, n3, tc_wp_some] at h ⊢
  · have hl4 : l.length = 4 := hl
    rw [hT' 0 (by omega), hT' 1 (by omega), hT' 2 (by omega), hT' 3 (by omega)]
    exact h
  · have hl1 : l.length = 1 := hl
    rw [hT' 0 (by omega)]
    exact h
  · have hl1 : l.length = 1 := hl
    rw [hT' 0 (by omega)]
    exact h
  · have hl1 : l.length = 2 := hl
    rw [hT' 0 (by omega), hT' 1 (by omega)]
    exact h
  · have hl1 : l.length = 1 := hl
    rw [hT' 0 (by omega)]
    exact h
  · have hl1 : l.length = 1 := hl
    rw [hT' 0 (by omega)]
    exact h
  · exact h
  · exact h
end X5
