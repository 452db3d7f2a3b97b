section RG
variable {N : Nat} {μ : tc_Mem} {Y : tc_Y} {fl : tc_Fl} {w : Int32}
/-- the state of the reference's asking, between two askings -/
def tc_SG (μ μ1 : tc_Mem) (Y : tc_Y) (fl : tc_Fl) (w : Int32) (q : List Nat) (u : Nat) (ch : List Int32) : Prop := tc_FG μ μ1 ∧ tc_RM μ1 (tc_up Y u) fl w ∧ u < 2 ^ Y.1.1 ∧ tc_RB μ1 q ∧ (∀ s ∈ q, s < Y.1.1) ∧ ch.length ≤ 40 ∧ tc_CH μ1 71 ch ∧ ∀ s, s < Y.1.1 → μ1 70 s = tc_bI (Y.1.2.1.testBit s)
theorem tc_w7_loop (hN : 300 ≤ N) (g : tc_Gd Y) : ∀ (k : Nat) (q : List Nat) (u : Nat) (ch : List Int32) (f : Nat) (μ1 : tc_Mem), tc_me q ch < k → k < f → tc_SG μ μ1 Y fl w q u ch → tc_wp (tc_f7_goes_81 N f (nI ch.length) μ1) (tc_PG μ Y fl w (tc_ml Y.1.1 Y.2.1.1 Y.2.1.2.1 Y.2.2.1.1 Y.2.2.1.2.2.2.2 (tc_cY Y) k q u ch)) := by
  have g1 := g.1
  intro k
  induction k with
  | zero => intro q u ch f μ1 h; exact absurd h (by omega)
  | succ k ih =>
    intro q u ch f μ1 hme hf hS
    obtain ⟨f, rfl⟩ : ∃ f', f = f' + 1 := ⟨f - 1, by omega⟩
    obtain ⟨s1, s2, s3, s4, s5, s6, s7, s8⟩ := hS
    have hw := s4.2.1.w
    rw [tc_f7_goes_81]; dsimp only
    cases q with
    | nil =>
      rw [if_pos (by rw [hw.1]; decide)]
      unfold tc_f7_goes_296
      refine tc_wp_mono (tc_w7_waits hN s2 (g.up s3)) (fun r μ2 hh => ?_)
      obtain ⟨rfl, w1, w2⟩ := hh
      refine ⟨⟨fun k k1 k2 k3 k4 k5 k6 k7 => by rw [w1 k k2]; exact s1.1 k k1 k2 k3 k4 k5 k6 k7, fun j j1 j2 => by rw [w1 50 (by decide)]; exact s1.2 j j1 j2⟩, rfl, ?_, s3, s6, fun i v hi => by rw [w1 71 (by decide)]; exact s7 i v hi⟩
      exact s2.wu (fun j _ => by rw [w1 50 (by decide)]) (fun k _ _ hk => w1 k hk) w2
    | cons s q =>
      have hsn := s5 s List.mem_cons_self
      have hu8 : u < 256 := (g.up s3).u
      obtain ⟨b1, b2, b3⟩ := s4
      obtain ⟨t1, t2, t3⟩ := b1.tail
      obtain ⟨j, hj, e1, e2, hr⟩ := b2.pop
      rw [if_neg (by rw [hw.1, tc_leL (k := 0) (by have := hw.2; omega) (by decide), List.length_cons]; omega)]
      rw [e1] at hr ⊢
      simp only [tc_wp_ck, tc_wp_lt, tc_vin (show j < 2 ^ 31 by omega) (show 8 < 2 ^ 31 by decide), tc_cl (show j < 2 ^ 31 by omega), e2, tc_vin (show s < 2 ^ 31 by omega) (show 8 < 2 ^ 31 by decide), tc_cl (show s < 2 ^ 31 by omega)]
      refine ⟨hj, t2, ?_⟩
      generalize hm2 : tc_wr μ1 50 24 (nI j + 1 - (nI j + 1) / 8 * 8) = μ2
      have a2 : ∀ k, k ≠ 50 → μ2 k = μ1 k := fun k hk => by rw [← hm2, tc_wr_k hk]
      have d2 : ∀ i, i ≠ 24 → μ2 50 i = μ1 50 i := fun i hi => by rw [← hm2, tc_wr_at, if_neg (by omega)]
      have v2 : μ2 50 24 = nI j + 1 - (nI j + 1) / 8 * 8 := by rw [← hm2, tc_wr_at, if_pos ⟨rfl, rfl⟩]
      generalize hm3 : tc_wr μ2 50 25 (μ2 50 25 - 1) = μ3
      have a3 : ∀ k, k ≠ 50 → μ3 k = μ2 k := fun k hk => by rw [← hm3, tc_wr_k hk]
      have d3 : ∀ i, i ≠ 25 → μ3 50 i = μ2 50 i := fun i hi => by rw [← hm3, tc_wr_at, if_neg (by omega)]
      have v3 : μ3 50 25 = μ1 50 25 - 1 := by rw [← hm3, tc_wr_at, if_pos ⟨rfl, rfl⟩, d2 25 (by decide)]
      generalize hm4 : tc_wr μ3 69 s (vp_nar .boolean 0) = μ4
      have a4 : ∀ k, k ≠ 69 → μ4 k = μ3 k := fun k hk => by rw [← hm4, tc_wr_k hk]
      have v4 : ∀ r, μ4 69 r = if r = s then 0 else μ1 69 r := fun r => by
        rw [← hm4, tc_wr_at]
        by_cases cr : r = s
        · rw [if_pos ⟨rfl, cr⟩, if_pos cr]; rfl
        · rw [if_neg (fun z => cr z.2), if_neg cr, a3 69 (by decide), a2 69 (by decide)]
      have A4 : ∀ k, k ≠ 50 → k ≠ 69 → μ4 k = μ1 k := fun k k1 k2 => by rw [a4 k k2, a3 k k1, a2 k k1]
      have D4 : ∀ i, i ≠ 24 → i ≠ 25 → μ4 50 i = μ1 50 i := fun i i1 i2 => by rw [a4 50 (by decide), d3 i i2, d2 i i1]
      have R4 : tc_RM μ4 (tc_up Y u) fl w := s2.frame (fun i hi => D4 i (by omega) (by omega)) (fun k k1 k2 => A4 k (by omega) (by omega))
      have B4 : tc_RB μ4 q := by
        refine ⟨t1, ?_, fun r hr8 => ?_⟩
        · rw [A4 68 (by decide) (by decide), a4 50 (by decide), d3 24 (by decide), v2, v3]; exact hr
        · rw [v4 r]
          by_cases cr : r = s
          · subst cr; rw [if_pos rfl]; simp [t3, tc_bI]
          · rw [if_neg cr, b3 r hr8]; simp [cr]
      have F4 : tc_FG μ μ4 := ⟨fun k k1 k2 k3 k4 k5 k6 k7 => by rw [A4 k k1 k5]; exact s1.1 k k1 k2 k3 k4 k5 k6 k7, fun i i1 i2 => by rw [D4 i i1 i2]; exact s1.2 i i1 i2⟩
      have H4 : tc_CH μ4 71 ch := fun i v hi => by rw [A4 71 (by decide) (by decide)]; exact s7 i v hi
      have G4 : ∀ s, s < Y.1.1 → μ4 70 s = tc_bI (Y.1.2.1.testBit s) := fun s hs => by rw [A4 70 (by decide) (by decide)]; exact s8 s hs
      have hgu : tc_f7_goesUp N (nI s) μ4 = some (tc_bI (tc_gu Y.1.1 u Y.2.1.1 Y.2.1.2.1 (Y.2.2.1.1 s) (Y.2.2.1.2.2.2.2 s) (tc_cY Y s) s), μ4) := tc_v7_goesUp (N := N) hN R4 (g.up s3) (s := s) hsn
      have hus : μ4 56 s = tc_bI (u.testBit s) := (R4.2.1 s hsn).2.1
      simp only [tc_wp_bd, hgu, tc_wp_some, tc_wp_ck, tc_wp_if, tc_vin (show s < 2 ^ 31 by omega) (show 8 < 2 ^ 31 by decide), tc_cl (show s < 2 ^ 31 by omega), hus, tc_bI_inj, tc_bI_eq0, t2, true_and]
      rw [tc_ml]
      by_cases c : tc_gu Y.1.1 u Y.2.1.1 Y.2.1.2.1 (Y.2.2.1.1 s) (Y.2.2.1.2.2.2.2 s) (tc_cY Y s) s = u.testBit s
      · rw [if_pos c, if_pos c]
        exact ih q u ch f μ4 (by unfold tc_me at hme ⊢; rw [List.length_cons] at hme; omega) (by omega) ⟨F4, R4, s3, B4, fun r hr => s5 r (List.mem_cons_of_mem _ hr), s6, H4, G4⟩
      · rw [if_neg c, if_neg c]
        by_cases c2 : 40 ≤ ch.length
        · rw [if_pos (show nI ch.length = 40 by rw [show ch.length = 40 by omega]; rfl), if_pos c2]
          unfold tc_f7_goes_151
          refine tc_wp_mono (tc_w7_back hN) (fun r μ5 hh => ?_)
          obtain ⟨rfl, w1, w2⟩ := hh
          refine ⟨⟨fun k k1 k2 k3 k4 k5 k6 k7 => by rw [w1 k k3]; exact F4.1 k k1 k2 k3 k4 k5 k6 k7, fun i i1 i2 => by rw [w1 50 (by decide)]; exact F4.2 i i1 i2⟩, rfl, ?_⟩
          exact R4.up (u := Y.1.2.1) (fun i _ => by rw [w1 50 (by decide)]) (fun k _ _ hk => w1 k hk) (fun r hr => by rw [w2 r (Nat.lt_of_lt_of_le hr g1), G4 r hr, tc_nar])
        · rw [if_neg (show ¬ nI ch.length = 40 from fun e => by have := (tc_eqL (k := 40) (show ch.length < 2 ^ 31 by omega) (by decide)).mp e; omega), if_neg c2]
          have u3 : u ^^^ 2 ^ s < 2 ^ Y.1.1 := tc_tog_lt _ (by omega) _ s3 _ hsn
          have tail : ∀ b : Bool, b = !u.testBit s → tc_wp (tc_f7_goes_202 N (tc_f7_goes_81 N f) (nI ch.length) (nI s) (nI s) (tc_bI b) μ4) (tc_PG μ Y fl w (tc_ml Y.1.1 Y.2.1.1 Y.2.1.2.1 Y.2.2.1.1 Y.2.2.1.2.2.2.2 (tc_cY Y) k (tc_nbR Y.1.1 Y.2.2.1.1 (tc_nbL Y.2.2.1.1 q s) s) (u ^^^ 2 ^ s) (ch ++ [10 * nI s + tc_bI (!u.testBit s)]))) := by
            intro b hb
            unfold tc_f7_goes_202
            simp only [tc_wp_ck, tc_wp_lt, tc_vin (show s < 2 ^ 31 by omega) (show 8 < 2 ^ 31 by decide), tc_cl (show s < 2 ^ 31 by omega), tc_nar, t2, true_and]
            generalize hm5 : tc_wr μ4 56 s (tc_bI b) = μ5
            have a5 : ∀ k, k ≠ 56 → μ5 k = μ4 k := fun k hk => by rw [← hm5, tc_wr_k hk]
            have v5 : ∀ r, r < Y.1.1 → μ5 56 r = tc_bI ((u ^^^ 2 ^ s).testBit r) := fun r hr => by
              rw [← hm5, tc_wr_at, tc_tog_bit]
              by_cases cr : r = s
              · subst cr; rw [if_pos ⟨rfl, rfl⟩, hb]; simp
              · rw [if_neg (fun z => cr z.2), (R4.2.1 r hr).2.1]; simp [Ne.symm cr]; rfl
            have R5 : tc_RM μ5 (tc_up Y (u ^^^ 2 ^ s)) fl w := R4.up (u := u ^^^ 2 ^ s) (fun i _ => by rw [a5 50 (by decide)]) (fun k _ _ hk => a5 k hk) v5
            have vs : μ5 56 s = tc_bI b := by rw [← hm5, tc_wr_at, if_pos ⟨rfl, rfl⟩]
            rw [vs]
            -- behind the neighbours
            have last : ∀ (q3 : List Nat) (μ8 : tc_Mem), (∀ k, k ≠ 50 → k ≠ 56 → k ≠ 68 → k ≠ 69 → k ≠ 71 → μ8 k = μ4 k) → (∀ i, i ≠ 25 → μ8 50 i = μ4 50 i) → μ8 56 = μ5 56 → tc_RB μ8 q3 → (∀ r ∈ q3, r < Y.1.1) → q3.length ≤ q.length + 2 → (∀ i, μ8 71 i = if i = ch.length then 10 * nI s + tc_bI b else μ4 71 i) → tc_wp (tc_f7_goes_81 N f (nI (ch.length + 1)) μ8) (tc_PG μ Y fl w (tc_ml Y.1.1 Y.2.1.1 Y.2.1.2.1 Y.2.2.1.1 Y.2.2.1.2.2.2.2 (tc_cY Y) k q3 (u ^^^ 2 ^ s) (ch ++ [10 * nI s + tc_bI (!u.testBit s)]))) := by
              intro q3 μ8 x1 x2 x3 x4 x5 x6 x7
              have R8 : tc_RM μ8 (tc_up Y (u ^^^ 2 ^ s)) fl w := R4.up (u := u ^^^ 2 ^ s) (fun i hi => x2 i (by omega)) (fun k k1 k2 hk => x1 k (by omega) hk (by omega) (by omega) (by omega)) (fun r hr => by rw [x3]; exact v5 r hr)
              have hl : (ch ++ [10 * nI s + tc_bI (!u.testBit s)]).length = ch.length + 1 := by rw [List.length_append]; rfl
              have := ih q3 (u ^^^ 2 ^ s) (ch ++ [10 * nI s + tc_bI (!u.testBit s)]) f μ8 (by unfold tc_me at hme ⊢; rw [List.length_cons] at hme; rw [hl]; omega) (by omega) ⟨⟨fun k k1 k2 k3 k4 k5 k6 k7 => by rw [x1 k k1 k3 k4 k5 k7]; exact F4.1 k k1 k2 k3 k4 k5 k6 k7, fun i i1 i2 => by rw [x2 i i2]; exact F4.2 i i1 i2⟩, R8, u3, x4, x5, by rw [hl]; omega, fun i v hi => ?_, fun r hr => by rw [x1 70 (by decide) (by decide) (by decide) (by decide) (by decide)]; exact G4 r hr⟩
              · rw [hl] at this; exact this
              · rw [x7]
                by_cases ci : i < ch.length
                · rw [if_neg (by omega)]
                  rw [List.getElem?_append_left ci] at hi
                  exact H4 i v hi
                · rw [List.getElem?_append_right (by omega)] at hi
                  have hz : i - ch.length < 1 := (List.getElem?_eq_some_iff.mp hi).1
                  rw [show i - ch.length = 0 by omega] at hi
                  cases hi
                  rw [if_pos (by omega), hb]
            -- the right neighbour
            have right : ∀ (q2 : List Nat) (μ7 : tc_Mem), (∀ k, k ≠ 50 → k ≠ 56 → k ≠ 68 → k ≠ 69 → k ≠ 71 → μ7 k = μ4 k) → (∀ i, i ≠ 25 → μ7 50 i = μ4 50 i) → μ7 56 = μ5 56 → tc_RB μ7 q2 → (∀ r ∈ tc_nbR Y.1.1 Y.2.2.1.1 q2 s, r < Y.1.1) → (tc_nbR Y.1.1 Y.2.2.1.1 q2 s).length ≤ q.length + 2 → (∀ i, μ7 71 i = if i = ch.length then 10 * nI s + tc_bI b else μ4 71 i) → tc_wp (tc_f7_goes_259 N (tc_f7_goes_81 N f) (nI (ch.length + 1)) (nI s) μ7) (tc_PG μ Y fl w (tc_ml Y.1.1 Y.2.1.1 Y.2.1.2.1 Y.2.2.1.1 Y.2.2.1.2.2.2.2 (tc_cY Y) k (tc_nbR Y.1.1 Y.2.2.1.1 q2 s) (u ^^^ 2 ^ s) (ch ++ [10 * nI s + tc_bI (!u.testBit s)]))) := by
              intro q2 μ7 x1 x2 x3 x4 x5 x6 x7
              unfold tc_f7_goes_259
              rw [x2 0 (by decide), R4.1, show (tc_up Y u).1.1 = Y.1.1 from rfl, tc_sb1 (by omega), tc_wp_if]
              by_cases cn : s + 1 < Y.1.1
              · rw [if_neg (by rw [tc_le (by omega) (by omega)]; omega), tc_ad1]
                obtain ⟨kk, hkk, hKK⟩ := g.2.2.2.1 (s + 1) cn
                have eK : μ7 51 (s + 1) = nI kk := by rw [x1 51 (by decide) (by decide) (by decide) (by decide) (by decide), ← hKK]; exact (R4.2.1 (s + 1) cn).1.1
                obtain ⟨v, ev, -, eL⟩ := tc_v7_looksOf (N := N) (μ := μ7) hkk
                simp only [tc_wp_ck, tc_wp_bd, tc_vin (show s + 1 < 2 ^ 31 by omega) (show 8 < 2 ^ 31 by decide), tc_cl (show s + 1 < 2 ^ 31 by omega), eK, ev, tc_wp_some, tc_wp_if, eL, show s + 1 < 8 by omega, true_and]
                by_cases cl : tc_kL (nI kk) = true
                · rw [if_pos cl]
                  have en : tc_nbR Y.1.1 Y.2.2.1.1 q2 s = tc_ent q2 (s + 1) := if_pos ⟨cn, by rw [hKK]; exact cl⟩
                  rw [en] at x5 x6 ⊢
                  refine tc_wp_mono (tc_w7_comes x4 (show s + 1 < 8 by omega)) (fun _ μ8 hh => ?_)
                  obtain ⟨y1, y2, y3⟩ := hh
                  exact last _ μ8 (fun k k1 k2 k3 k4 k5 => by rw [y1 k k1 k3 k4]; exact x1 k k1 k2 k3 k4 k5) (fun i hi => by rw [y2 i hi]; exact x2 i hi) (by rw [y1 56 (by decide) (by decide) (by decide)]; exact x3) y3 x5 x6 (fun i => by rw [y1 71 (by decide) (by decide) (by decide)]; exact x7 i)
                · rw [if_neg cl]
                  have en : tc_nbR Y.1.1 Y.2.2.1.1 q2 s = q2 := if_neg (fun z => cl (by rw [← hKK]; exact z.2))
                  rw [en] at x5 x6 ⊢
                  exact last _ μ7 x1 x2 x3 x4 x5 x6 x7
              · rw [if_pos (by rw [tc_le (by omega) (by omega)]; omega)]
                have en : tc_nbR Y.1.1 Y.2.2.1.1 q2 s = q2 := if_neg (fun z => cn z.1)
                rw [en] at x5 x6 ⊢
                exact last _ μ7 x1 x2 x3 x4 x5 x6 x7
            have left : tc_wp (tc_f7_goes_226 N (tc_f7_goes_81 N f) (nI ch.length) (nI s) (nI ch.length) (10 * nI s) (tc_bI b) μ5) (tc_PG μ Y fl w (tc_ml Y.1.1 Y.2.1.1 Y.2.1.2.1 Y.2.2.1.1 Y.2.2.1.2.2.2.2 (tc_cY Y) k (tc_nbR Y.1.1 Y.2.2.1.1 (tc_nbL Y.2.2.1.1 q s) s) (u ^^^ 2 ^ s) (ch ++ [10 * nI s + tc_bI (!u.testBit s)]))) := by
              have nlt := tc_nb_lt (K := Y.2.2.1.1) (q := q) (s := s) (n := Y.1.1) (fun r hr => s5 r (List.mem_cons_of_mem _ hr)) hsn
              have nle := tc_nb_len Y.1.1 Y.2.2.1.1 q s
              unfold tc_f7_goes_226
              simp only [tc_wp_ck, tc_wp_lt, tc_vin (show ch.length < 2 ^ 31 by omega) (show 40 < 2 ^ 31 by decide), tc_cl (show ch.length < 2 ^ 31 by omega), tc_ad1]
              refine ⟨by omega, ?_⟩
              generalize hm6 : tc_wr μ5 71 ch.length (10 * nI s + tc_bI b) = μ6
              have a6 : ∀ k, k ≠ 71 → μ6 k = μ5 k := fun k hk => by rw [← hm6, tc_wr_k hk]
              have v6 : ∀ i, μ6 71 i = if i = ch.length then 10 * nI s + tc_bI b else μ4 71 i := fun i => by
                rw [← hm6, tc_wr_at]
                by_cases ci : i = ch.length
                · rw [if_pos ⟨rfl, ci⟩, if_pos ci]
                · rw [if_neg (fun z => ci z.2), if_neg ci, a5 71 (by decide)]
              have A6 : ∀ k, k ≠ 50 → k ≠ 56 → k ≠ 68 → k ≠ 69 → k ≠ 71 → μ6 k = μ4 k := fun k k1 k2 k3 k4 k5 => by rw [a6 k k5, a5 k k2]
              have D6 : ∀ i, i ≠ 25 → μ6 50 i = μ4 50 i := fun i _ => by rw [a6 50 (by decide), a5 50 (by decide)]
              have B6 : tc_RB μ6 q := by
                refine ⟨B4.1, ?_, fun r hr => ?_⟩
                · rw [a6 68 (by decide), a5 68 (by decide), a6 50 (by decide), a5 50 (by decide)]; exact B4.2.1
                · rw [a6 69 (by decide), a5 69 (by decide)]; exact B4.2.2 r hr
              rw [tc_wp_if]
              by_cases cs : 0 < s
              · rw [if_neg (by rw [tc_leL (k := 0) (by omega) (by decide)]; omega), tc_sb1 cs]
                obtain ⟨kk, hkk, hKK⟩ := g.2.2.2.1 (s - 1) (by omega)
                have eK : μ6 51 (s - 1) = nI kk := by rw [A6 51 (by decide) (by decide) (by decide) (by decide) (by decide), ← hKK]; exact (R4.2.1 (s - 1) (show s - 1 < Y.1.1 by omega)).1.1
                obtain ⟨v, ev, eR, -⟩ := tc_v7_looksOf (N := N) (μ := μ6) hkk
                simp only [tc_wp_ck, tc_wp_bd, tc_vin (show s - 1 < 2 ^ 31 by omega) (show 8 < 2 ^ 31 by decide), tc_cl (show s - 1 < 2 ^ 31 by omega), eK, ev, tc_wp_some, tc_wp_if, eR, show s - 1 < 8 by omega, true_and]
                by_cases cl : tc_kR (nI kk) = true
                · rw [if_pos cl]
                  have en : tc_nbL Y.2.2.1.1 q s = tc_ent q (s - 1) := if_pos ⟨cs, by rw [hKK]; exact cl⟩
                  rw [en] at nlt nle ⊢
                  refine tc_wp_mono (tc_w7_comes B6 (show s - 1 < 8 by omega)) (fun _ μ7 hh => ?_)
                  obtain ⟨y1, y2, y3⟩ := hh
                  exact right _ μ7 (fun k k1 k2 k3 k4 k5 => by rw [y1 k k1 k3 k4]; exact A6 k k1 k2 k3 k4 k5) (fun i hi => by rw [y2 i hi]; exact D6 i hi) (by rw [y1 56 (by decide) (by decide) (by decide)]; exact a6 56 (by decide)) y3 nlt nle (fun i => by rw [y1 71 (by decide) (by decide) (by decide)]; exact v6 i)
                · rw [if_neg cl]
                  have en : tc_nbL Y.2.2.1.1 q s = q := if_neg (fun z => cl (by rw [← hKK]; exact z.2))
                  rw [en] at nlt nle ⊢
                  exact right _ μ6 A6 D6 (a6 56 (by decide)) B6 nlt nle v6
              · rw [if_pos (by rw [tc_leL (k := 0) (by omega) (by decide)]; omega)]
                have en : tc_nbL Y.2.2.1.1 q s = q := if_neg (fun z => cs z.1)
                rw [en] at nlt nle ⊢
                exact right _ μ6 A6 D6 (a6 56 (by decide)) B6 nlt nle v6
            rw [tc_wp_if]
            cases b
            · rw [if_pos (show tc_bI false = 0 from rfl)]; exact left
            · rw [if_neg (show ¬ tc_bI true = 0 by decide)]; exact left
          cases hb : u.testBit s
          · have := tail true (by rw [hb]; rfl)
            rw [hb] at this
            rw [if_pos rfl]
            exact this
          · have := tail false (by rw [hb]; rfl)
            rw [hb] at this
            rw [if_neg (by decide)]
            exact this
end RG
