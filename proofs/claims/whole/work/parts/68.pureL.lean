
section CS2
variable {N a t : Nat} {μ : tc_Mem} {Y : tc_Y} {C : Nat → Int32}
theorem tc_FS.rf : tc_FS μ μ a t := ⟨fun _ _ _ _ _ _ => rfl, fun _ _ => rfl⟩
/-- the state of the asking, between two askings -/
def tc_SS (μ μ1 : tc_Mem) (a t : Nat) (Y : tc_Y) (C : Nat → Int32) (q : List Nat) (u : Nat) (ch : List Int32) : Prop := tc_FS μ μ1 a t ∧ (∀ s, s < Y.1.1 → μ1 (t + 6) s = C s) ∧ tc_RC μ1 t (tc_up Y u) ∧ u < 2 ^ Y.1.1 ∧ tc_RA μ1 a q ∧ (∀ s ∈ q, s < Y.1.1) ∧ μ1 a 1 = nI ch.length ∧ ch.length ≤ 40 ∧ tc_CH μ1 (a + 1) ch
theorem tc_w0_loop (hap : tc_Ap a t) (hR : tc_RC μ t Y) (g : tc_Gd Y) : ∀ (k : Nat) (q : List Nat) (u : Nat) (ch : List Int32) (f j : Nat) (μ1 : tc_Mem), tc_me q ch < k → k < f → j + k < 1000 → tc_SS μ μ1 a t Y C q u ch → tc_wp (tc_f0_settles_26 N a t f (nI Y.1.2.1) (nI j) μ1) (tc_PS μ a t Y C (tc_ml Y.1.1 Y.2.1.1 Y.2.1.2.1 Y.2.2.1.1 Y.2.2.1.2.2.2.2 C k q u ch)) := by
  have g1 := g.1
  have hap' := hap
  unfold tc_Ap at hap'
  intro k
  induction k with
  | zero => intro q u ch f j μ1 h; exact absurd h (by omega)
  | succ k ih =>
    intro q u ch f j μ1 hme hf hj hS
    obtain ⟨f, rfl⟩ : ∃ f', f = f' + 1 := ⟨f - 1, by omega⟩
    obtain ⟨s1, s2, s3, s4, s5, s6, s7, s8, s9⟩ := hS
    have hw := s5.2.1.w
    rw [tc_f0_settles_26]; dsimp only
    rw [if_neg (by rw [tc_Lle (k := 1000) (by omega) (by decide)]; omega)]
    cases q with
    | nil =>
      rw [if_pos (by rw [hw.1]; decide), tc_wp_some]
      exact ⟨s1, s2, rfl, s3, s4, s7, s8, s9⟩
    | cons s q =>
      have hsn := s6 s List.mem_cons_self
      have hu8 : u < 256 := (g.up s4).u
      rw [if_neg (by rw [hw.1, tc_leL (k := 0) (by have := hw.2; omega) (by decide), List.length_cons]; omega)]
      rw [tc_wp_bd]
      refine tc_wp_mono (tc_w0_takeFirst s5) (fun r1 μ2 hh => ?_)
      obtain ⟨rfl, t2, t3, t4⟩ := hh
      have R2 : tc_RC μ2 t (tc_up Y u) := s3.frame (fun k k1 k2 _ => t2 k (by omega))
      have C2 : ∀ s, s < Y.1.1 → μ2 (t + 6) s = C s := fun s hs => by rw [t2 (t + 6) (by omega)]; exact s2 s hs
      have F2 : tc_FS μ μ2 a t := ⟨fun k k1 k2 k3 k4 k5 => by rw [t2 k k1]; exact s1.1 k k1 k2 k3 k4 k5, fun j hj => by rw [t2 t (by omega)]; exact s1.2 j hj⟩
      have H2 : tc_CH μ2 (a + 1) ch := fun i v hi => by rw [t2 (a + 1) (by omega)]; exact s9 i v hi
      have hgu := tc_v5_goesUp (N := N) R2 (g.up s4) (s := s) hsn (C2 s hsn)
      have hrl := tc_v5_relay (N := N) R2 (g.up s4) (s := s) (show s < 2 ^ 31 by omega)
      rw [if_pos (show s < (tc_up Y u).1.1 from hsn)] at hrl
      simp only [tc_wp_bd, hgu, hrl, tc_wp_some, tc_wp_if, tc_bI_eq1]
      -- the rest, by the value that the relay has
      have rest : tc_wp (tc_f0_settles_72 N a t (tc_f0_settles_26 N a t f) (nI Y.1.2.1) (nI j) (nI s) (tc_bI (tc_gu Y.1.1 u Y.2.1.1 Y.2.1.2.1 (Y.2.2.1.1 s) (Y.2.2.1.2.2.2.2 s) (C s) s)) (tc_bI (tc_gu Y.1.1 u Y.2.1.1 Y.2.1.2.1 (Y.2.2.1.1 s) (Y.2.2.1.2.2.2.2 s) (C s) s)) (tc_bI (u.testBit s)) μ2) (tc_PS μ a t Y C (tc_ml Y.1.1 Y.2.1.1 Y.2.1.2.1 Y.2.2.1.1 Y.2.2.1.2.2.2.2 C (k + 1) (s :: q) u ch)) := by
        unfold tc_f0_settles_72
        rw [tc_ml, tc_wp_if]
        simp only [tc_bI_inj]
        by_cases c : tc_gu Y.1.1 u Y.2.1.1 Y.2.1.2.1 (Y.2.2.1.1 s) (Y.2.2.1.2.2.2.2 s) (C s) s = u.testBit s
        · rw [if_pos c, if_pos c, tc_ad1]
          refine ih q u ch f (j + 1) μ2 (by unfold tc_me at hme ⊢; rw [List.length_cons] at hme; omega) (by omega) (by omega) ⟨F2, C2, R2, s4, t4, fun r hr => s6 r (List.mem_cons_of_mem _ hr), t3.trans s7, s8, H2⟩
        · rw [if_neg c, if_neg c, t3, s7]
          by_cases c2 : 40 ≤ ch.length
          · rw [if_neg (by rw [tc_ltL (k := 40) (by omega) (by decide)]; omega), if_pos c2]
            unfold tc_f0_settles_87
            rw [tc_wp_lt, tc_wp_some]
            have R3 : tc_RC (tc_wr μ2 t 8 (nI Y.1.2.1)) t Y := R2.up (u := Y.1.2.1)
            refine ⟨⟨fun k k1 k2 k3 k4 k5 => by rw [tc_wr_k k4]; exact F2.1 k k1 k2 k3 k4 k5, fun j hj => by rw [tc_wr_at, if_neg (by omega)]; exact F2.2 j hj⟩, fun s hs => by rw [tc_wr_k (by omega)]; exact C2 s hs, rfl, R3⟩
          · rw [if_pos (by rw [tc_ltL (k := 40) (by omega) (by decide)]; omega), if_neg c2]
            have hnew : tc_gu Y.1.1 u Y.2.1.1 Y.2.1.2.1 (Y.2.2.1.1 s) (Y.2.2.1.2.2.2.2 s) (C s) s = !u.testBit s := by
              revert c
              cases tc_gu Y.1.1 u Y.2.1.1 Y.2.1.2.1 (Y.2.2.1.1 s) (Y.2.2.1.2.2.2.2 s) (C s) s <;> cases u.testBit s <;> simp
            rw [hnew]
            have hwb : tc_f6_withBit N (μ2 t 8) (nI s) (tc_bI (!u.testBit s)) μ2 = some (nI (u ^^^ 2 ^ s), μ2) := by
              unfold tc_f6_withBit
              rw [show μ2 t 8 = nI u from R2.2.2.1.1]
              cases hb : u.testBit s
              · rw [if_neg (by decide), tc_orb _ hu8 _ (by omega), tc_tog0 _ hu8 _ (by omega) hb]
              · rw [if_pos (by decide), tc_clb _ hu8 _ (by omega), tc_tog1 _ hu8 _ (by omega) hb]
            simp only [tc_wp_bd, hwb, tc_wp_some, tc_wp_lt, tc_wp_if]
            have R3 : tc_RC (tc_wr μ2 t 8 (nI (u ^^^ 2 ^ s))) t (tc_up Y (u ^^^ 2 ^ s)) := R2.up (u := u ^^^ 2 ^ s)
            have u3 : u ^^^ 2 ^ s < 2 ^ Y.1.1 := tc_tog_lt _ (by omega) _ s4 _ hsn
            have e1 : tc_wr μ2 t 8 (nI (u ^^^ 2 ^ s)) a 1 = nI ch.length := by rw [tc_wr_k (by omega)]; exact t3.trans s7
            rw [e1]
            have tail : ∀ b : Bool, tc_bI b = tc_bI (!u.testBit s) → tc_wp (tc_f0_settles_132 N a t (tc_f0_settles_26 N a t f) (nI Y.1.2.1) (nI j) (nI s) (nI ch.length) (10 * nI s) (tc_bI b) (tc_wr μ2 t 8 (nI (u ^^^ 2 ^ s)))) (tc_PS μ a t Y C (tc_ml Y.1.1 Y.2.1.1 Y.2.1.2.1 Y.2.2.1.1 Y.2.2.1.2.2.2.2 C k (tc_nbR Y.1.1 Y.2.2.1.1 (tc_nbL Y.2.2.1.1 q s) s) (u ^^^ 2 ^ s) (ch ++ [10 * nI s + tc_bI (!u.testBit s)]))) := by
              intro b hb
              unfold tc_f0_settles_132
              simp only [tc_wp_ck, tc_wp_lt, tc_wp_bd, tc_vin (show ch.length < 2 ^ 31 by omega) (show 40 < 2 ^ 31 by decide), tc_cl (show ch.length < 2 ^ 31 by omega)]
              refine ⟨by omega, ?_⟩
              generalize hm3 : tc_wr μ2 t 8 (nI (u ^^^ 2 ^ s)) = μ3 at R3 e1 ⊢
              have a3 : ∀ k, k ≠ t → μ3 k = μ2 k := fun k hk => by rw [← hm3, tc_wr_k hk]
              have b3 : ∀ j, j ≠ 8 → μ3 t j = μ2 t j := fun j hj => by rw [← hm3, tc_wr_at, if_neg (by omega)]
              generalize hm4 : tc_wr μ3 (a + 1) ch.length (10 * nI s + tc_bI b) = μ4
              have a4 : ∀ k, k ≠ a + 1 → μ4 k = μ3 k := fun k hk => by rw [← hm4, tc_wr_k hk]
              have e4 : ∀ i, μ4 (a + 1) i = if i = ch.length then 10 * nI s + tc_bI b else μ3 (a + 1) i := fun i => by
                rw [← hm4, tc_wr_at]
                by_cases ci : i = ch.length <;> simp [ci]
              generalize hm5 : tc_wr μ4 a 1 (μ4 a 1 + 1) = μ5
              have a5 : ∀ k, k ≠ a → μ5 k = μ4 k := fun k hk => by rw [← hm5, tc_wr_k hk]
              have b5 : ∀ j, j ≠ 1 → μ5 a j = μ4 a j := fun j hj => by rw [← hm5, tc_wr_at, if_neg (by omega)]
              have e5 : μ5 a 1 = nI (ch.length + 1) := by rw [← hm5, tc_wr_at, if_pos ⟨rfl, rfl⟩, a4 a (by omega), e1, tc_ad1]
              have R5 : tc_RC μ5 t (tc_up Y (u ^^^ 2 ^ s)) := R3.frame (fun k k1 k2 _ => by rw [a5 k (by omega), a4 k (by omega)])
              have A5 : tc_RA μ5 a q := t4.frame (by rw [a5 _ (by omega), a4 _ (by omega), a3 _ (by omega)]) (by rw [b5 3 (by decide), a4 _ (by omega), a3 _ (by omega)]) (by rw [b5 4 (by decide), a4 _ (by omega), a3 _ (by omega)]) (by rw [b5 5 (by decide), a4 _ (by omega), a3 _ (by omega)])
              refine tc_wp_mono (tc_w0_enterBeside hap R5 (g.up u3) A5 (s := s) hsn) (fun _ μ6 hh => ?_)
              obtain ⟨w1, w2, w3⟩ := hh
              rw [tc_ad1]
              refine ih _ _ _ f (j + 1) μ6 ?_ (by omega) (by omega) ⟨⟨fun k k1 k2 k3 k4 k5 => ?_, fun j hj => ?_⟩, fun r hr => ?_, ?_, u3, w3, tc_nb_lt (fun r hr => s6 r (List.mem_cons_of_mem _ hr)) hsn, ?_, ?_, fun i v hi => ?_⟩
              · have := tc_nb_len Y.1.1 Y.2.2.1.1 q s
                unfold tc_me at hme ⊢
                rw [List.length_cons] at hme
                rw [List.length_append]
                simp only [List.length_cons, List.length_nil]
                omega
              · rw [w1 k k1 k3, a5 k k1, a4 k k2, a3 k k4]; exact F2.1 k k1 k2 k3 k4 k5
              · rw [w1 t (by omega) (by omega), a5 t (by omega), a4 t (by omega), b3 j hj]; exact F2.2 j hj
              · rw [w1 (t + 6) (by omega) (by omega), a5 _ (by omega), a4 _ (by omega), a3 _ (by omega)]; exact C2 r hr
              · exact R5.frame (fun k k1 k2 _ => w1 k (by omega) (by omega))
              · rw [w2, e5, List.length_append]; rfl
              · rw [List.length_append]; simp; omega
              · rw [w1 (a + 1) (by omega) (by omega), a5 _ (by omega), e4]
                by_cases ci : i < ch.length
                · rw [if_neg (by omega), a3 _ (by omega)]
                  rw [List.getElem?_append_left ci] at hi
                  exact H2 i v hi
                · rw [List.getElem?_append_right (by omega)] at hi
                  have hz : i - ch.length < 1 := (List.getElem?_eq_some_iff.mp hi).1
                  rw [show i - ch.length = 0 by omega] at hi
                  cases hi
                  rw [if_pos (by omega), hb]
            cases hb : u.testBit s
            · rw [if_neg (by decide)]
              have := tail true (by rw [hb]; rfl)
              rw [hb] at this
              exact this
            · rw [if_pos (by decide)]
              have := tail false (by rw [hb]; rfl)
              rw [hb] at this
              exact this
      cases hb : u.testBit s
      · rw [hb] at rest
        have hb2 : (tc_up Y u).1.2.1.testBit s = false := hb
        rw [if_neg (by rw [hb2]; decide)]
        exact rest
      · rw [hb] at rest
        have hb2 : (tc_up Y u).1.2.1.testBit s = true := hb
        rw [if_pos hb2]
        exact rest
end CS2
