section X6
variable {N : Nat} {B : Nat → Int32} {L i b e w c : Nat} {x1 x2 : Int32} {μ μ1 μ2 : tc_Mem} {Y : tc_Y} {lg : List Int32}
def tz_FX (μ μ' : tc_Mem) : Prop := (∀ k, (k < 50 ∨ 62 < k) → (k < 67 ∨ 75 < k) → μ' k = μ k) ∧ ∀ j, (j = 17 ∨ j = 37) → μ' 50 j = μ 50 j
theorem tz_FX.rf : tz_FX μ μ := ⟨fun _ _ _ => rfl, fun _ _ => rfl⟩
theorem tz_FX.trans (h : tz_FX μ μ1) (h2 : tz_FX μ1 μ2) : tz_FX μ μ2 := ⟨fun k a b => (h2.1 k a b).trans (h.1 k a b), fun j a => (h2.2 j a).trans (h.2 j a)⟩
theorem tz_F9.x (h : tz_F9 μ μ1) : tz_FX μ μ1 := ⟨fun k a b => h.1 k (by omega) (by omega), fun j a => h.2 j (by omega)⟩
theorem tc_FMl.x (h : tc_FMl μ μ1) : tz_FX μ μ1 := ⟨fun k a b => h.1 k a (by omega), fun j a => h.2 j (by omega)⟩
theorem tc_KM.f9 (h : tc_KM μ Y lg) (hf : tz_F9 μ μ1) : tc_KM μ1 Y lg := ⟨h.1.frame (fun j hj => hf.2 j (by omega)) (fun k a b => hf.1 k (by omega) (by omega)), by rw [hf.2 14 (by omega)]; exact h.2.1, h.2.2.frame (hf.1 62 (by decide) (by decide))⟩
theorem tz_Q.fl (h : tz_Q μ B L) (hf : tc_FMl μ μ1) : tz_Q μ1 B L := ⟨by rw [hf.2 17 (by omega)]; exact h.1, fun i hi => by rw [hf.1 63 (by omega) (by omega)]; exact h.2 i hi⟩
/-- one clause of the reference, up to what it does -/
theorem tz_rd1 (hN : 300 ≤ N) (hL : L ≤ 60) (hQ : tz_Q μ B L) (hi : i ≤ L) (h2 : μ 50 32 = nI i) {f a : Nat} {q : Nat × List Int32} (hcs : tz_cs B L i = .inr (q, e)) {P : Int32 → tc_Mem → Prop} (h : ∀ μ1, tz_F9 μ μ1 → μ1 50 32 = nI e → (∀ t v, q.2[t]? = some v → μ1 75 t = v) → tc_wp (tc_f7_reads_81 N (tc_f7_reads_7 N f) 1 (nI a) (nI q.1) μ1) P) : tc_wp (tc_f7_reads_7 N (f + 1) 1 (nI a) μ) P := by
  rw [tc_f7_reads_7]; dsimp only
  rw [tc_wp_bd]
  refine tc_wp_mono (tc_w7_next hN hL hQ hi h2) (fun _ μ2 hh => ?_)
  obtain ⟨F2, nx⟩ := hh
  have hw := tz_nxW hi nx
  unfold tz_cs at hcs
  cases hW : tz_W B L i with
  | inl b => rw [hW] at hcs; cases hcs
  | inr p =>
    obtain ⟨w, e1⟩ := p
    rw [hW] at hw hcs
    obtain ⟨m1, m2, m3⟩ := hw
    obtain ⟨w1, w2, w3⟩ := tz_W_le hi hW
    rw [if_pos m1, tc_wp_lt, m2]
    dsimp only at hcs
    refine tz_r35 hN hL w3 hQ (tz_nn w) N 0 e1 [] μ2 (by omega) (by have := (tz_nums w w3).2; omega) w2 F2.nine m3 rfl (fun t v hv => by simp at hv) (fun b μ' hb hF' => ?_) (fun l e' μ3 hl F3 h32 hT => ?_)
    · rw [hb] at hcs; cases hcs
    · rw [hl] at hcs
      cases hcs
      exact h μ3 F3 h32 (fun t v hv => hT t v (by simpa using hv))
theorem tz_ex (hN : 300 ≤ N) (hL : L ≤ 60) : ∀ (l : List (Nat × List Int32)) (c a : Nat) (Y : tc_Y) (lg : List Int32), tc_G6 Y → lg.length ≤ 40 → (∀ q ∈ l, q.1 < 8 ∧ q.2.length = tz_nn q.1) → c + l.length ≤ 15 → a ≤ c → ∃ (r : Int32) (Y' : tc_Y) (lg' : List Int32), tc_G6 Y' ∧ lg'.length ≤ 40 ∧ (l = [] → r = nI a ∧ Y' = Y ∧ lg' = lg) ∧ (∀ μ f, l.length < f → tc_KC μ Y lg → tz_ST μ c l → μ 42 5 = nI (c + l.length) → tc_wp (tc_f6_text_30 N f (nI a) (nI c) μ) (fun r' μ' => r' = r ∧ tc_FCl μ μ' ∧ tc_KC μ' Y' lg')) ∧ (∀ μ f d i, l.length < f → tc_KM μ Y lg → tz_Q μ B L → μ 50 32 = nI i → i ≤ L → tz_al B L d i = .inr l → tc_wp (tc_f7_reads_7 N f 1 (nI a) μ) (fun r' μ' => r' = r ∧ tz_FX μ μ' ∧ tc_KM μ' Y' lg')) := by
  intro l
  induction l with
  | nil =>
    intro c a Y lg g hlg hq hc ha
    refine ⟨nI a, Y, lg, g, hlg, fun _ => ⟨rfl, rfl, rfl⟩, fun μ f hf hK hS h5 => ?_, fun μ f d i hf hK hQ h2 hi hal => ?_⟩
    · obtain ⟨f, rfl⟩ : ∃ f', f = f' + 1 := ⟨f - 1, by omega⟩
      rw [tc_f6_text_30]; dsimp only
      rw [h5, if_pos (by rw [tc_le (by simp; omega) (by omega)]; simp), tc_wp_some]
      exact ⟨rfl, ⟨fun _ _ _ => rfl, fun _ _ => rfl⟩, hK⟩
    · exact absurd rfl (tz_al_ok d i [] hi hal).1
  | cons q l ih =>
    intro c a Y lg g hlg hq hc ha
    rw [List.length_cons] at hc
    obtain ⟨hq1, hq2⟩ := hq q List.mem_cons_self
    obtain ⟨r1, Y1, lg1, G1, hl1, j1, j2⟩ := tz_op (N := N) hN hq1 g hlg
    obtain ⟨r2, Y2, lg2, G2, hl2, nl, k1, k2⟩ := ih (c + 1) (if r1 < 0 then a else a + 1) Y1 lg1 G1 hl1 (fun p hp => hq p (List.mem_cons_of_mem _ hp)) (by omega) (by split <;> omega)
    refine ⟨r2, Y2, lg2, G2, hl2, (fun h => absurd h (by simp)), fun μ f hf hK hS h5 => ?_, fun μ f d i hf hK hQ h2 hi hal => ?_⟩
    · rw [List.length_cons] at hf h5
      obtain ⟨f, rfl⟩ : ∃ f', f = f' + 1 := ⟨f - 1, by omega⟩
      rw [tc_f6_text_30]; dsimp only
      rw [h5, if_neg (by rw [tc_le (by omega) (by omega)]; omega), tc_wp_bd]
      have hs0 := hS 0 q (by simp)
      refine tz_answer (q := q) (by omega) hq1 hq2 hs0.1 hs0.2 ?_
      refine tc_wp_mono (j1 μ hK) (fun r' μ1 hh => ?_)
      obtain ⟨rfl, F1, K1⟩ := hh
      have e42 := F1.1 42 (by decide) (by decide)
      have e44 := F1.1 44 (by decide) (by decide)
      have e45 := F1.1 45 (by decide) (by decide)
      have hS1 : tz_ST μ1 (c + 1) l := fun j p hp => by
        have := hS (j + 1) p (by simpa using hp)
        rw [e44, e45, show c + 1 + j = c + (j + 1) by omega]
        exact this
      have := k1 μ1 f (by omega) K1 hS1 (by rw [e42, h5, show c + (l.length + 1) = c + 1 + l.length by omega])
      rw [tc_ad1, tc_ad1, tc_wp_if]
      by_cases cc : r' < 0
      · rw [if_pos cc] at this ⊢
        exact tc_wp_mono this (fun r3 μ3 h3 => ⟨h3.1, F1.trans h3.2.1, h3.2.2⟩)
      · rw [if_neg cc] at this ⊢
        exact tc_wp_mono this (fun r3 μ3 h3 => ⟨h3.1, F1.trans h3.2.1, h3.2.2⟩)
    · rw [List.length_cons] at hf
      obtain ⟨f, rfl⟩ : ∃ f', f = f' + 1 := ⟨f - 1, by omega⟩
      obtain ⟨d, rfl⟩ : ∃ d', d = d' + 1 := by
        cases d with
        | zero => rw [tz_al] at hal; cases hal
        | succ d => exact ⟨d, rfl⟩
      rw [tz_al] at hal
      cases hcs : tz_cs B L i with
      | inl b => rw [hcs] at hal; cases hal
      | inr p =>
        obtain ⟨q', e⟩ := p
        rw [hcs] at hal
        obtain ⟨l1, l2, l3, l4⟩ := tz_cs_le hi hcs
        have hb := tz_bl_le (B := B) l2
        dsimp only at hal
        have hq' : q' = q := by
          split at hal
          · cases hal; rfl
          · split at hal
            · cases h3 : tz_al B L d (tz_bl B L e + 1) with
              | inl b => rw [h3] at hal; cases hal
              | inr l' => rw [h3] at hal; cases hal; rfl
            · cases hal
        subst hq'
        refine tz_rd1 hN hL hQ hi h2 hcs (fun μ1 F1 h32 hT => ?_)
        -- behind what the clause does
        have rest : ∀ (μ2 : tc_Mem) (a' : Nat), a' = (if r1 < 0 then a else a + 1) → tc_FMl μ1 μ2 → tc_KM μ2 Y1 lg1 → tc_wp (tc_bd (tc_f7_next N μ2) fun _ μ3 => if (μ3 50 33) = 0 then some (nI a', μ3) else if (μ3 50 33) = 3 then tc_f7_reads_7 N f 1 (nI a') μ3 else tc_f7_reads_122 N μ3) (fun r' μ' => r' = r2 ∧ tz_FX μ μ' ∧ tc_KM μ' Y2 lg2) := by
          intro μ2 a' ha' F2 K2
          have Q2 := (hQ.f9 F1).fl F2
          have e32 : μ2 50 32 = nI e := by rw [F2.2 32 (by omega)]; exact h32
          rw [tc_wp_bd]
          refine tc_wp_mono (tc_w7_next hN hL Q2 l2 e32) (fun _ μ3 hh => ?_)
          obtain ⟨F3, nx⟩ := hh
          have hs := tz_nxS l2 nx
          have X3 : tz_FX μ μ3 := F1.x.trans (F2.x.trans F3.nine.x)
          have K3 := K2.f9 F3.nine
          by_cases q1 : L ≤ tz_bl B L e
          · rw [if_pos q1] at hs hal
            cases hal
            obtain ⟨n1, n2, n3⟩ := nl rfl
            rw [if_pos hs, tc_wp_some, n1, n2, n3, ha']
            exact ⟨rfl, X3, K3⟩
          rw [if_neg q1] at hs hal
          by_cases q2 : B (tz_bl B L e) = 59
          · rw [if_pos q2] at hs hal
            rw [if_neg (by rw [hs.1]; decide), if_pos hs.1, ha']
            cases h3 : tz_al B L d (tz_bl B L e + 1) with
            | inl b => rw [h3] at hal; cases hal
            | inr l' =>
              rw [h3] at hal
              cases hal
              refine tc_wp_mono (k2 μ3 f d (tz_bl B L e + 1) (by omega) K3 (Q2.fn F3) hs.2 (by omega) h3) (fun r4 μ4 h4 => ⟨h4.1, X3.trans h4.2.1, h4.2.2⟩)
          · rw [if_neg q2] at hal
            cases hal
        unfold tc_f7_reads_81
        rw [if_neg (by decide), tc_wp_bd]
        refine tz_does hq1 hq2 hT ?_
        refine tc_wp_mono (j2 μ1 (hK.f9 F1)) (fun r' μ2 hh => ?_)
        obtain ⟨rfl, F2, K2⟩ := hh
        have z0 : nI a + 0 = nI a := by show nI a + nI 0 = _; rw [nI_add]; rfl
        by_cases cc : r' < 0
        · rw [if_pos cc, if_pos rfl]
          unfold tc_f7_reads_98 tc_f7_reads_99
          rw [tc_wp_lt, z0]
          exact rest μ2 a (by rw [if_pos cc]) F2 K2
        · rw [if_neg cc, if_neg (by decide)]
          unfold tc_f7_reads_99
          rw [tc_wp_lt, tc_ad1]
          exact rest μ2 (a + 1) (by rw [if_neg cc]) F2 K2
theorem tz_neg100 : ∀ b, b < 61 → (-100 : Int32) - nI b < 0 := by decide
theorem tz_s29 (hN : 300 ≤ N) : tc_S29 N tc_Inv := fun μ h => by
  obtain ⟨Y, g, hY, hO⟩ := h.g
  obtain ⟨⟨lg, g1, g2, g3, g4, g5⟩, ⟨tp, t1, t2, t3, t4, t5, t6⟩, hS, hI⟩ := hO
  have hB1 : ∀ i, i < tp.length → μ 43 i = tp.getD i 0 := fun i hi => t3 i _ (by simp [List.getElem?_eq_getElem hi])
  have hB2 : ∀ i, i < tp.length → μ 63 i = tp.getD i 0 := fun i hi => t5 i _ (by simp [List.getElem?_eq_getElem hi])
  generalize hBB : (fun i => tp.getD i 0) = B at *
  have hB1' : ∀ i, i < tp.length → μ 43 i = B i := fun i hi => by rw [hB1 i hi, ← hBB]
  have hB2' : ∀ i, i < tp.length → μ 63 i = B i := fun i hi => by rw [hB2 i hi, ← hBB]
  have hP0 : tz_P μ B tp.length := ⟨t2, hB1'⟩
  have hQ0 : tz_Q μ B tp.length := ⟨t4, hB2'⟩
  have hKC : tc_KC μ Y lg := ⟨hY.2.2.1, g2, g3⟩
  have hKM : tc_KM μ Y lg := ⟨hY.2.2.2, g4, g5⟩
  have ok0 := @tz_al_ok B tp.length 15 0
  have er0 := @tz_al_err B tp.length 15 0
  -- what holds at the end
  have fin : ∀ (μ1 μ2 : tc_Mem) (Y' : tc_Y) (lg' : List Int32), tc_G6 Y' → lg'.length ≤ 40 → (∀ k, 11 < k → (k < 23 ∨ 26 < k) → k ≠ 42 → k ≠ 44 → k ≠ 45 → μ1 k = μ k) → (∀ j, j ≠ 5 → μ1 0 j = μ 0 j) → μ1 42 1 = 0 → tc_KC μ1 Y' lg' → tz_FX μ1 μ2 → tc_KM μ2 Y' lg' → tc_Inv (tc_wr μ2 50 17 0) := by
    intro μ1 μ2 Y' lg' G hl f1 f10 e42 K1 X K2
    have o : ∀ k, 11 < k → (k < 23 ∨ 26 < k) → k ≠ 42 → k ≠ 44 → k ≠ 45 → (k < 50 ∨ 62 < k) → (k < 67 ∨ 75 < k) → tc_wr μ2 50 17 0 k = μ k := fun k a1 a2 a3 a4 a5 a6 a7 => by rw [tc_wr_k (by omega), X.1 k a6 a7, f1 k a1 a2 a3 a4 a5]
    have o1 : ∀ k, (k < 50 ∨ 62 < k) → (k < 67 ∨ 75 < k) → tc_wr μ2 50 17 0 k = μ1 k := fun k a6 a7 => by rw [tc_wr_k (by omega), X.1 k a6 a7]
    have o0 : tc_wr μ2 50 17 0 0 = μ1 0 := o1 0 (by omega) (by omega)
    refine ⟨⟨Y', G.1, G.2, K1.1.frame (fun k q1 q2 _ => o1 k (by omega) (by omega)), K2.1.frame (fun j hj => by rw [tz_wn (by omega)]) (fun k q1 q2 => tc_wr_k (by omega))⟩, ⟨lg', hl, by rw [o0]; exact K1.2.1, K1.2.2.frame (o1 26 (by omega) (by omega)), by rw [tz_wn (by decide)]; exact K2.2.1, K2.2.2.frame (tc_wr_k (by decide))⟩, ⟨[], by simp, by rw [o1 42 (by omega) (by omega)]; exact e42, fun i v hv => by simp at hv, by rw [tz_we]; rfl, fun i v hv => by simp at hv, fun v hv => by simp at hv⟩, hS.frame (fun k hk => o k (by omega) (by omega) (by omega) (by omega) (by omega) (by omega) (by omega)), hI.frame (by rw [o0]; exact f10 2 (by decide)) (by rw [tz_wn (by decide), X.2 37 (by omega), f1 50 (by omega) (by omega) (by omega) (by omega) (by omega)]) (fun k hk => o k (by omega) (by omega) (by omega) (by omega) (by omega) (by omega) (by omega))⟩
  refine tc_mk ?_
  unfold tc_f6_text tc_f4_placeOfFault
  rw [tc_wp_bd, tc_wp_lt, tc_wp_lt]
  generalize hma : tc_wr (tc_wr μ 42 2 0) 42 5 0 = μa
  have fa : ∀ k, k ≠ 42 → μa k = μ k := fun k hk => by rw [← hma, tc_wr_k hk, tc_wr_k hk]
  have faj : ∀ j, j ≠ 2 → j ≠ 5 → μa 42 j = μ 42 j := fun j h1 h2 => by rw [← hma, tz_wn h2, tz_wn h1]
  have ea2 : μa 42 2 = nI 0 := by rw [← hma, tz_wn (by decide), tz_we]; rfl
  have ea5 : μa 42 5 = nI 0 := by rw [← hma, tz_we]; rfl
  have hPa : tz_P μa B tp.length := ⟨by rw [faj 1 (by decide) (by decide)]; exact hP0.1, fun i hi => by rw [fa 43 (by decide)]; exact hP0.2 i hi⟩
  refine tc_wp_mono (tc_w4_all hN t1 15 N 0 0 μa hPa (by omega) (by omega) (by omega) ea2 ea5) (fun r μb hh => ?_)
  obtain ⟨Fb, hh⟩ := hh
  rw [tc_wp_lt]
  generalize hmc : tc_wr μb 42 1 0 = μc
  have fc : ∀ k, k ≠ 42 → k ≠ 44 → k ≠ 45 → μc k = μ k := fun k a1 a2 a3 => by rw [← hmc, tc_wr_k a1, Fb.1 k a1 a2 a3, fa k a1]
  have fcb : ∀ k, k ≠ 42 → μc k = μb k := fun k a1 => by rw [← hmc, tc_wr_k a1]
  have ec1 : μc 42 1 = 0 := by rw [← hmc, tz_we]
  have ec5 : μc 42 5 = μb 42 5 := by rw [← hmc, tz_wn (by decide)]
  have KCc : tc_KC μc Y lg := ⟨hKC.1.frame (fun k q1 q2 _ => fc k (by omega) (by omega) (by omega)), by rw [fc 0 (by decide) (by decide) (by decide)]; exact hKC.2.1, hKC.2.2.frame (fc 26 (by decide) (by decide) (by decide))⟩
  -- the reference's first reading, from any memory that keeps its own
  have rd : ∀ μd, (∀ k, 26 < k → k ≠ 42 → k ≠ 44 → k ≠ 45 → μd k = μ k) → tc_wp (tc_f7_reads N 0 μd) (fun r' μ' => tz_F9 μd μ' ∧ r' = match tz_al B tp.length 15 0 with
      | .inl b => -100 - nI b
      | .inr _ => 0) := by
    intro μd fd
    unfold tc_f7_reads
    rw [tc_wp_lt]
    have F0 : tz_F9 μd (tc_wr μd 50 32 0) := ⟨fun k a _ => tc_wr_k a, fun j hj => tz_wn (by omega)⟩
    have Qd : tz_Q μd B tp.length := ⟨by rw [fd 50 (by decide) (by decide) (by decide) (by decide)]; exact hQ0.1, fun i hi => by rw [fd 63 (by decide) (by decide) (by decide) (by decide)]; exact hQ0.2 i hi⟩
    exact tz_rd0 hN t1 Qd 15 N 0 _ (by omega) (by omega) (by omega) F0 (by rw [tz_we]; rfl)
  have KMd : ∀ μd, (∀ k, 26 < k → k ≠ 42 → k ≠ 44 → k ≠ 45 → μd k = μ k) → tc_KM μd Y lg := fun μd fd => ⟨hKM.1.frame (fun j _ => by rw [fd 50 (by decide) (by decide) (by decide) (by decide)]) (fun k q1 q2 => fd k (by omega) (by omega) (by omega) (by omega)), by rw [fd 50 (by decide) (by decide) (by decide) (by decide)]; exact hKM.2.1, hKM.2.2.frame (fd 62 (by decide) (by decide) (by decide) (by decide))⟩
  cases hal : tz_al B tp.length 15 0 with
  | inl b =>
    rw [hal] at hh rd
    have hb := er0 b (by omega) t1 hal
    subst hh
    rw [if_neg (tz_nm1 hb.1), tc_wp_some]
    unfold tc_f7_text
    rw [tc_wp_bd]
    refine tc_wp_mono (rd μc (fun k _ a b c => fc k a b c)) (fun r' μd hd => ?_)
    obtain ⟨Fd, rfl⟩ := hd
    dsimp only
    rw [if_pos (tz_neg100 b (by omega))]
    unfold tc_f7_text_16
    rw [tc_wp_lt, tc_wp_some]
    exact ⟨rfl, fin μc μd Y lg g g1 (fun k _ _ a b c => fc k a b c) (fun j _ => by rw [fc 0 (by decide) (by decide) (by decide)]) ec1 KCc Fd.x ((KMd μc (fun k _ a b c => fc k a b c)).f9 Fd)⟩
  | inr l =>
    rw [hal] at hh rd
    obtain ⟨rfl, b5, bS, -, -⟩ := hh
    obtain ⟨o1, o2, o3⟩ := ok0 l (by omega) hal
    rw [Nat.zero_add] at b5
    obtain ⟨r2, Y2, lg2, G2, hl2, -, k1, k2⟩ := tz_ex (B := B) hN t1 l 0 0 Y lg g g1 o3 (by omega) (by omega)
    rw [if_pos rfl]
    have hSc : tz_ST μc 0 l := fun j q hq => by
      rw [fcb 44 (by decide), fcb 45 (by decide)]; exact bS j q hq
    refine tc_wp_mono (k1 μc N (by omega) KCc hSc (by rw [ec5, b5, Nat.zero_add])) (fun r' μd hd => ?_)
    obtain ⟨rfl, Fd, Kd⟩ := hd
    have fd : ∀ k, 26 < k → k ≠ 42 → k ≠ 44 → k ≠ 45 → μd k = μ k := fun k a1 a2 a3 a4 => by rw [Fd.1 k (by omega) (by omega), fc k a2 a3 a4]
    unfold tc_f7_text
    rw [tc_wp_bd]
    refine tc_wp_mono (rd μd fd) (fun r' μe he => ?_)
    obtain ⟨Fe, rfl⟩ := he
    dsimp only
    rw [if_neg (by decide), tc_wp_bd]
    unfold tc_f7_reads
    rw [tc_wp_lt]
    have F0 : tz_F9 μe (tc_wr μe 50 32 0) := ⟨fun k a _ => tc_wr_k a, fun j hj => tz_wn (by omega)⟩
    have Fde := Fe.trans F0
    have Qd : tz_Q μd B tp.length := ⟨by rw [fd 50 (by decide) (by decide) (by decide) (by decide)]; exact hQ0.1, fun i hi => by rw [fd 63 (by decide) (by decide) (by decide) (by decide)]; exact hQ0.2 i hi⟩
    refine tc_wp_mono (k2 _ N 15 0 (by omega) ((KMd μd fd).f9 Fde) (Qd.f9 Fde) (by rw [tz_we]; rfl) (by omega) hal) (fun r3 μg hg => ?_)
    obtain ⟨rfl, Xg, Kg⟩ := hg
    unfold tc_f7_text_16
    rw [tc_wp_lt, tc_wp_some]
    refine ⟨rfl, fin μd μg Y2 lg2 G2 hl2 (fun k a1 a2 a3 a4 a5 => by rw [Fd.1 k a1 a2, fc k a3 a4 a5]) (fun j hj => by rw [Fd.2 j hj, fc 0 (by decide) (by decide) (by decide)]) (by rw [Fd.1 42 (by decide) (by decide)]; exact ec1) Kd (Fde.x.trans Xg) Kg⟩
end X6
