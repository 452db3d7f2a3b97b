section WALK
variable {l : Launch} {G : tc_G} {X : tc_X}
def tc_f4_isSpelt_17 (N : Nat) (x1 : Nat) : Nat → Int32 → Int32 → tc_Mem → Option (Int32 × tc_Mem)
  | 0 => fun _ _ _ => none
  | n + 1 => fun x2 x3 μ => 
    if (tc_slen x1) ≤ x3 then
      some (1, μ)
    else
      tc_ck (x2 + x3) 60 (
      tc_ck x3 (tc_txL.getD x1 0) (
      if (μ 43 (x2 + x3).toNatClampNeg) = (tc_sch x1 x3.toNatClampNeg) then
        tc_f4_isSpelt_17 N x1 n x2 (x3 + 1) μ
      else
        some (0, μ)))
theorem tc_b4_isSpelt_17 (N : Nat) {x1 : Nat} (hx1 : x1 < 8) : ∀ (n : Nat) (x2 : Int32) (x3 : Int32) (μ : tc_Mem) (z : Int32 × tc_Mem), tc_f4_isSpelt_17 N x1 n x2 x3 μ = some z → tc_At l G tc_i4_isSpelt (some (.int z.1)) z.2 X 17 [(0, .ref (tc_ad G 42)), (1, .ref (tc_sK G x1)), (2, .int x2), (3, .int x3)] [] μ := by
  intro n
  induction n with
  | zero => intro x2 x3 μ z h; cases h
  | succ n ih =>
    intro x2 x3 μ z h
    rw [tc_f4_isSpelt_17] at h
    refine tc_iload_n tc_d4_isSpelt_17 3 rfl ?_
    refine tc_aload_n tc_d4_isSpelt_18 1 rfl ?_
    refine tc_callL (rest := [.int x3]) tc_d4_isSpelt_19 tc_w753 (Nat.le_of_ble_eq_true rfl) hx1 rfl ⟨Nat.le_of_ble_eq_true rfl, Nat.le_of_ble_eq_true rfl⟩ ?_
    refine tc_icmp_ge (tgt := 49) tc_d4_isSpelt_22 (by decide) h (fun h => ?_) (fun h => ?_)
    · refine tc_iconst (v := 1) tc_d4_isSpelt_49 (by decide) ?_
      exact tc_zret tc_d4_isSpelt_50 rfl (by decide) (tc_riS h)
    · refine tc_aload_n tc_d4_isSpelt_25 0 rfl ?_
      refine tc_g4_0 tc_d4_isSpelt_26 tc_w227 ?_
      refine tc_iload_n tc_d4_isSpelt_29 2 rfl ?_
      refine tc_iload_n tc_d4_isSpelt_30 3 rfl ?_
      refine tc_iadd tc_d4_isSpelt_31 ?_
      obtain ⟨hi1, h⟩ := tc_ckS h
      refine tc_iald tc_d4_isSpelt_32 tc_aL43 hi1 ?_
      refine tc_aload_n tc_d4_isSpelt_33 1 rfl ?_
      refine tc_iload_n tc_d4_isSpelt_34 3 rfl ?_
      obtain ⟨hi2, h⟩ := tc_ckS h
      refine tc_callC (rest := [.int (μ 43 (x2 + x3).toNatClampNeg)]) tc_d4_isSpelt_35 tc_w763 (Nat.le_of_ble_eq_true rfl) hx1 hi2 rfl ⟨Nat.le_of_ble_eq_true rfl, Nat.le_of_ble_eq_true rfl⟩ ?_
      refine tc_icmp_eq (tgt := 43) tc_d4_isSpelt_38 (by decide) h (fun h => ?_) (fun h => ?_)
      · refine tc_iinc (v := (x3 + 1)) (L' := [(3, .int (x3 + 1)), (0, .ref (tc_ad G 42)), (1, .ref (tc_sK G x1)), (2, .int x2)]) tc_d4_isSpelt_43 3 rfl rfl (by decide) rfl ?_
        refine tc_goto (tgt := 17) tc_d4_isSpelt_46 (by decide) ?_
        refine tc_sub [1, 2, 3, 0] rfl ?_
        exact (ih _ _ _ _) h
      · refine tc_iconst (v := 0) tc_d4_isSpelt_41 (by decide) ?_
        exact tc_zret tc_d4_isSpelt_42 rfl (by decide) (tc_riS h)
def tc_f4_isSpelt (N : Nat) (x1 : Nat) (x2 : Int32) (μ : tc_Mem) : Option (Int32 × tc_Mem) :=
  if ((μ 42 2) - x2) = (tc_slen x1) then
    tc_f4_isSpelt_17 N x1 N x2 0 μ
  else
    some (0, μ)
theorem tc_b4_isSpelt_0 (N : Nat) {x1 : Nat} (hx1 : x1 < 8) (x2 : Int32) (μ : tc_Mem) (z : Int32 × tc_Mem) (h : tc_f4_isSpelt N x1 x2 μ = some z) : tc_At l G tc_i4_isSpelt (some (.int z.1)) z.2 X 0 [(0, .ref (tc_ad G 42)), (1, .ref (tc_sK G x1)), (2, .int x2)] [] μ := by
  unfold tc_f4_isSpelt at h
  refine tc_aload_n tc_d4_isSpelt_0 0 rfl ?_
  refine tc_g4_2 tc_d4_isSpelt_1 tc_w230 ?_
  refine tc_iload_n tc_d4_isSpelt_4 2 rfl ?_
  refine tc_isub tc_d4_isSpelt_5 ?_
  refine tc_aload_n tc_d4_isSpelt_6 1 rfl ?_
  refine tc_callL (rest := [.int ((μ 42 2) - x2)]) tc_d4_isSpelt_7 tc_w753 (Nat.le_of_ble_eq_true rfl) hx1 rfl ⟨Nat.le_of_ble_eq_true rfl, Nat.le_of_ble_eq_true rfl⟩ ?_
  refine tc_icmp_eq (tgt := 15) tc_d4_isSpelt_10 (by decide) h (fun h => ?_) (fun h => ?_)
  · refine tc_iconst (v := 0) tc_d4_isSpelt_15 (by decide) ?_
    refine tc_istore_n (L' := [(3, .int 0), (0, .ref (tc_ad G 42)), (1, .ref (tc_sK G x1)), (2, .int x2)]) tc_d4_isSpelt_16 (by decide) rfl ?_
    refine tc_sub [1, 2, 3, 0] rfl ?_
    exact (tc_b4_isSpelt_17 N hx1 N _ _ _ _) h
  · refine tc_iconst (v := 0) tc_d4_isSpelt_13 (by decide) ?_
    exact tc_zret tc_d4_isSpelt_14 rfl (by decide) (tc_riS h)
theorem tc_c4_isSpelt (N : Nat) {x1 : Nat} {x2 : Int32} {μ : tc_Mem} {z : Int32 × tc_Mem} (hx1 : x1 < 8) (h : tc_f4_isSpelt N x1 x2 μ = some z) : tc_Con l G tc_i4_isSpelt [.ref (tc_ad G 42), .ref (tc_sK G x1), .int x2] μ (some (.int z.1)) z.2 :=
  tc_Con.of (L := [(0, .ref (tc_ad G 42)), (1, .ref (tc_sK G x1)), (2, .int x2)]) (by decide) (Nat.le_of_ble_eq_true rfl) rfl (fun X => tc_b4_isSpelt_0 N hx1 _ _ _ h)
def tc_f4_spelling (N : Nat) (x0 : Int32) (μ : tc_Mem) : Option (Nat × tc_Mem) :=
  if x0 < 0 ∨ 6 < x0 then
    some (7, μ)
  else if x0 = 0 then
    some (0, μ)
  else if x0 = 1 then
    some (1, μ)
  else if x0 = 2 then
    some (2, μ)
  else if x0 = 3 then
    some (3, μ)
  else if x0 = 4 then
    some (4, μ)
  else if x0 = 5 then
    some (5, μ)
  else if x0 = 6 then
    some (6, μ)
  else none
theorem tc_b4_spelling_0 (N : Nat) (x0 : Int32) (μ : tc_Mem) (z : Nat × tc_Mem) (h : tc_f4_spelling N x0 μ = some z) : tc_At l G tc_i4_spelling (some (.ref (tc_sK G z.1))) z.2 X 0 [(0, .int x0)] [] μ := by
  unfold tc_f4_spelling at h
  refine tc_iload_n tc_d4_spelling_0 0 rfl ?_
  by_cases hq : x0 < 0 ∨ 6 < x0
  · rw [if_pos hq] at h
    refine tc_tswD (a := 0) (b := 6) (tgt := 65) tc_d4_spelling_1 ⟨by decide, by decide⟩ hq (by decide) ?_
    refine tc_ldcS (i := 7) (tx := "drop") tc_d4_spelling_65 (fun U h9 => (h9 7 (by decide)).1) ?_
    exact tc_aret tc_d4_spelling_67 rfl (tc_rsS h)
  · rw [if_neg hq] at h
    by_cases hq : x0 = 0
    · rw [if_pos hq] at h
      refine tc_tswK (k := 0) (off := 43) (tgt := 44) tc_d4_spelling_1 hq (by decide) (by decide) rfl (by decide) ?_
      refine tc_ldcS (i := 0) (tx := "section") tc_d4_spelling_44 (fun U h9 => (h9 0 (by decide)).1) ?_
      exact tc_aret tc_d4_spelling_46 rfl (tc_rsS h)
    · rw [if_neg hq] at h
      by_cases hq : x0 = 1
      · rw [if_pos hq] at h
        refine tc_tswK (k := 1) (off := 46) (tgt := 47) tc_d4_spelling_1 hq (by decide) (by decide) rfl (by decide) ?_
        refine tc_ldcS (i := 1) (tx := "train") tc_d4_spelling_47 (fun U h9 => (h9 1 (by decide)).1) ?_
        exact tc_aret tc_d4_spelling_49 rfl (tc_rsS h)
      · rw [if_neg hq] at h
        by_cases hq : x0 = 2
        · rw [if_pos hq] at h
          refine tc_tswK (k := 2) (off := 49) (tgt := 50) tc_d4_spelling_1 hq (by decide) (by decide) rfl (by decide) ?_
          refine tc_ldcS (i := 2) (tx := "gone") tc_d4_spelling_50 (fun U h9 => (h9 2 (by decide)).1) ?_
          exact tc_aret tc_d4_spelling_52 rfl (tc_rsS h)
        · rw [if_neg hq] at h
          by_cases hq : x0 = 3
          · rw [if_pos hq] at h
            refine tc_tswK (k := 3) (off := 52) (tgt := 53) tc_d4_spelling_1 hq (by decide) (by decide) rfl (by decide) ?_
            refine tc_ldcS (i := 3) (tx := "fault") tc_d4_spelling_53 (fun U h9 => (h9 3 (by decide)).1) ?_
            exact tc_aret tc_d4_spelling_55 rfl (tc_rsS h)
          · rw [if_neg hq] at h
            by_cases hq : x0 = 4
            · rw [if_pos hq] at h
              refine tc_tswK (k := 4) (off := 55) (tgt := 56) tc_d4_spelling_1 hq (by decide) (by decide) rfl (by decide) ?_
              refine tc_ldcS (i := 4) (tx := "mend") tc_d4_spelling_56 (fun U h9 => (h9 4 (by decide)).1) ?_
              exact tc_aret tc_d4_spelling_58 rfl (tc_rsS h)
            · rw [if_neg hq] at h
              by_cases hq : x0 = 5
              · rw [if_pos hq] at h
                refine tc_tswK (k := 5) (off := 58) (tgt := 59) tc_d4_spelling_1 hq (by decide) (by decide) rfl (by decide) ?_
                refine tc_ldcS (i := 5) (tx := "weather") tc_d4_spelling_59 (fun U h9 => (h9 5 (by decide)).1) ?_
                exact tc_aret tc_d4_spelling_61 rfl (tc_rsS h)
              · rw [if_neg hq] at h
                by_cases hq : x0 = 6
                · rw [if_pos hq] at h
                  refine tc_tswK (k := 6) (off := 61) (tgt := 62) tc_d4_spelling_1 hq (by decide) (by decide) rfl (by decide) ?_
                  refine tc_ldcS (i := 6) (tx := "moment") tc_d4_spelling_62 (fun U h9 => (h9 6 (by decide)).1) ?_
                  exact tc_aret tc_d4_spelling_64 rfl (tc_rsS h)
                · rw [if_neg hq] at h
                  cases h
theorem tc_c4_spelling (N : Nat) {x0 : Int32} {μ : tc_Mem} {z : Nat × tc_Mem} (h : tc_f4_spelling N x0 μ = some z) : tc_Con l G tc_i4_spelling [.int x0] μ (some (.ref (tc_sK G z.1))) z.2 :=
  tc_Con.of (L := [(0, .int x0)]) (by decide) (Nat.le_of_ble_eq_true rfl) rfl (fun X => tc_b4_spelling_0 N  _ _ _ h)
theorem tc_str4_spelling {N : Nat} {x0 : Int32} {μ μ1 : tc_Mem} {r : Nat} (h : tc_f4_spelling N x0 μ = some (r, μ1)) : r < 8 := by
  unfold tc_f4_spelling at h
  repeat' split at h
  all_goals first | (cases h; decide) | cases h
def tc_f4_wordFrom_2 (N : Nat) : Nat → Int32 → Int32 → tc_Mem → Option (Int32 × tc_Mem)
  | 0 => fun _ _ _ => none
  | n + 1 => fun x1 x2 μ => 
    if (8 : Int32) ≤ x2 then
      some ((-1), μ)
    else
      tc_bd (tc_f4_spelling N x2 μ) fun r1 μ2 =>
      tc_bd (tc_f4_isSpelt N r1 x1 μ2) fun r3 μ4 =>
      if r3 = 0 then
        tc_f4_wordFrom_2 N  n x1 (x2 + 1) μ4
      else
        some (x2, μ4)
theorem tc_b4_wordFrom_2 (N : Nat) : ∀ (n : Nat) (x1 : Int32) (x2 : Int32) (μ : tc_Mem) (z : Int32 × tc_Mem), tc_f4_wordFrom_2 N n x1 x2 μ = some z → tc_At l G tc_i4_wordFrom (some (.int z.1)) z.2 X 2 [(0, .ref (tc_ad G 42)), (1, .int x1), (2, .int x2)] [] μ := by
  intro n
  induction n with
  | zero => intro x1 x2 μ z h; cases h
  | succ n ih =>
    intro x1 x2 μ z h
    rw [tc_f4_wordFrom_2] at h
    refine tc_iload_n tc_d4_wordFrom_2 2 rfl ?_
    refine tc_bipush (v := 8) tc_d4_wordFrom_3 (by decide) ?_
    refine tc_icmp_ge (tgt := 28) tc_d4_wordFrom_5 (by decide) h (fun h => ?_) (fun h => ?_)
    · refine tc_iconst (v := (-1)) tc_d4_wordFrom_28 (by decide) ?_
      exact tc_iret tc_d4_wordFrom_29 rfl (tc_riS h)
    · refine tc_aload_n tc_d4_wordFrom_8 0 rfl ?_
      refine tc_iload_n tc_d4_wordFrom_9 2 rfl ?_
      obtain ⟨r1, μ2, e1, h⟩ := tc_bdS h
      have hr1 : r1 < 8 := tc_str4_spelling e1
      have c1 := tc_c4_spelling (l := l) (G := G) N e1
      refine tc_callSs (As := [.int x2]) (rest := [.ref (tc_ad G 42)]) (r1 := r1) (μ1 := μ2) tc_d4_wordFrom_10 tc_ok4_spelling tc_w738 ⟨Nat.le_of_ble_eq_true rfl, Nat.le_of_ble_eq_true rfl⟩ c1 rfl rfl (Nat.le_of_ble_eq_true rfl) ?_
      refine tc_iload_n tc_d4_wordFrom_13 1 rfl ?_
      obtain ⟨r3, μ4, e3, h⟩ := tc_bdS h
      have c3 := tc_c4_isSpelt (l := l) (G := G) N hr1 e3
      refine tc_callVi (As := [.ref (tc_sK G r1), .int x1]) (rest := []) (r1 := r3) (μ1 := μ4) tc_d4_wordFrom_14 tc_ok4_isSpelt tc_w749 ⟨Nat.le_of_ble_eq_true rfl, Nat.le_of_ble_eq_true rfl⟩ tc_s4 rfl c3 rfl rfl (Nat.le_of_ble_eq_true rfl) ?_
      refine tc_if_eq (tgt := 22) tc_d4_wordFrom_17 (by decide) h (fun h => ?_) (fun h => ?_)
      · refine tc_iinc (v := (x2 + 1)) (L' := [(2, .int (x2 + 1)), (0, .ref (tc_ad G 42)), (1, .int x1)]) tc_d4_wordFrom_22 2 rfl rfl (by decide) rfl ?_
        refine tc_goto (tgt := 2) tc_d4_wordFrom_25 (by decide) ?_
        refine tc_sub [1, 2, 0] rfl ?_
        exact (ih _ _ _ _) h
      · refine tc_iload_n tc_d4_wordFrom_20 2 rfl ?_
        exact tc_iret tc_d4_wordFrom_21 rfl (tc_riS h)
def tc_f4_wordFrom (N : Nat) (x1 : Int32) (μ : tc_Mem) : Option (Int32 × tc_Mem) :=
  tc_f4_wordFrom_2 N N x1 0 μ
theorem tc_b4_wordFrom_0 (N : Nat) (x1 : Int32) (μ : tc_Mem) (z : Int32 × tc_Mem) (h : tc_f4_wordFrom N x1 μ = some z) : tc_At l G tc_i4_wordFrom (some (.int z.1)) z.2 X 0 [(0, .ref (tc_ad G 42)), (1, .int x1)] [] μ := by
  unfold tc_f4_wordFrom at h
  refine tc_iconst (v := 0) tc_d4_wordFrom_0 (by decide) ?_
  refine tc_istore_n (L' := [(2, .int 0), (0, .ref (tc_ad G 42)), (1, .int x1)]) tc_d4_wordFrom_1 (by decide) rfl ?_
  refine tc_sub [1, 2, 0] rfl ?_
  exact (tc_b4_wordFrom_2 N N _ _ _ _) h
theorem tc_c4_wordFrom (N : Nat) {x1 : Int32} {μ : tc_Mem} {z : Int32 × tc_Mem} (h : tc_f4_wordFrom N x1 μ = some z) : tc_Con l G tc_i4_wordFrom [.ref (tc_ad G 42), .int x1] μ (some (.int z.1)) z.2 :=
  tc_Con.of (L := [(0, .ref (tc_ad G 42)), (1, .int x1)]) (by decide) (Nat.le_of_ble_eq_true rfl) rfl (fun X => tc_b4_wordFrom_0 N  _ _ _ h)
def tc_f4_readClause_40 (N : Nat) : Nat → Int32 → Int32 → Int32 → tc_Mem → Option (Int32 × tc_Mem)
  | 0 => fun _ _ _ _ => none
  | n + 1 => fun x1 x3 x4 μ => 
    tc_ck x3 8 (
    if (tc_NUMBERS x3.toNatClampNeg) ≤ x4 then
      some ((-1), μ)
    else
      tc_bd (tc_f4_skipBlanks N μ) fun _ μ3 =>
      tc_lt (μ3 42 2) fun v4 =>
      tc_bd (tc_f4_skipAll N 48 57 μ3) fun _ μ6 =>
      if (μ6 42 2) = v4 then
        some (v4, μ6)
      else
        if (μ6 42 2) ≤ (v4 + 2) then
          tc_bd (tc_f4_numberFrom N v4 μ6) fun r7 μ8 =>
          tc_ck ((x1 * 4) + x4) 60 (
          tc_lt (tc_wr μ8 45 ((x1 * 4) + x4).toNatClampNeg r7) fun μ10 =>
          tc_f4_readClause_40 N  n x1 x3 (x4 + 1) μ10)
        else
          some (v4, μ6))
theorem tc_b4_readClause_40 (N : Nat) : ∀ (n : Nat) (x1 : Int32) (x3 : Int32) (x4 : Int32) (μ : tc_Mem) (z : Int32 × tc_Mem), tc_f4_readClause_40 N n x1 x3 x4 μ = some z → tc_At l G tc_i4_readClause (some (.int z.1)) z.2 X 40 [(0, .ref (tc_ad G 42)), (1, .int x1), (3, .int x3), (4, .int x4)] [] μ := by
  intro n
  induction n with
  | zero => intro x1 x3 x4 μ z h; cases h
  | succ n ih =>
    intro x1 x3 x4 μ z h
    rw [tc_f4_readClause_40] at h
    refine tc_iload tc_d4_readClause_40 3 rfl ?_
    refine tc_getsN (host := "TrackCircuits") tc_d4_readClause_42 (fun U h9 => h9.2.2.2.2.2) tc_tab2 ?_
    refine tc_iload_n tc_d4_readClause_45 2 rfl ?_
    obtain ⟨hi1, h⟩ := tc_ckS h
    refine tc_tld tc_d4_readClause_46 tc_tab2 hi1 ?_
    refine tc_icmp_ge (tgt := 109) tc_d4_readClause_47 (by decide) h (fun h => ?_) (fun h => ?_)
    · refine tc_iconst (v := (-1)) tc_d4_readClause_109 (by decide) ?_
      exact tc_iret tc_d4_readClause_110 rfl (tc_riS h)
    · refine tc_aload_n tc_d4_readClause_50 0 rfl ?_
      obtain ⟨r2, μ3, e2, h⟩ := tc_bdS h
      have c2 := tc_c4_skipBlanks (l := l) (G := G) N e2
      refine tc_callVv (As := []) (rest := []) (μ1 := μ3) tc_d4_readClause_51 tc_ok4_skipBlanks tc_w726 ⟨Nat.le_of_ble_eq_true rfl, Nat.le_of_ble_eq_true rfl⟩ tc_s4 rfl c2 rfl rfl (Nat.le_of_ble_eq_true rfl) ?_
      refine tc_aload_n tc_d4_readClause_54 0 rfl ?_
      refine tc_g4_2 tc_d4_readClause_55 tc_w230 ?_
      refine tc_ltI h (fun v4 h => ?_)
      refine tc_istore_n (L' := [(2, .int v4), (0, .ref (tc_ad G 42)), (1, .int x1), (3, .int x3), (4, .int x4)]) tc_d4_readClause_58 (by decide) rfl ?_
      refine tc_aload_n tc_d4_readClause_59 1 rfl ?_
      refine tc_bipush (v := 48) tc_d4_readClause_60 (by decide) ?_
      refine tc_bipush (v := 57) tc_d4_readClause_62 (by decide) ?_
      obtain ⟨r5, μ6, e5, h⟩ := tc_bdS h
      have c5 := tc_c4_skipAll (l := l) (G := G) N e5
      refine tc_callVv (As := [.int 48, .int 57]) (rest := []) (μ1 := μ6) tc_d4_readClause_64 tc_ok4_skipAll tc_w730 ⟨Nat.le_of_ble_eq_true rfl, Nat.le_of_ble_eq_true rfl⟩ tc_s4 rfl c5 rfl rfl (Nat.le_of_ble_eq_true rfl) ?_
      refine tc_aload_n tc_d4_readClause_67 1 rfl ?_
      refine tc_g4_2 tc_d4_readClause_68 tc_w230 ?_
      refine tc_iload_n tc_d4_readClause_71 0 rfl ?_
      refine tc_icmp_eq (tgt := 85) tc_d4_readClause_72 (by decide) h (fun h => ?_) (fun h => ?_)
      · refine tc_iload_n tc_d4_readClause_85 0 rfl ?_
        exact tc_iret tc_d4_readClause_86 rfl (tc_riS h)
      · refine tc_aload_n tc_d4_readClause_75 1 rfl ?_
        refine tc_g4_2 tc_d4_readClause_76 tc_w230 ?_
        refine tc_iload_n tc_d4_readClause_79 0 rfl ?_
        refine tc_iconst (v := 2) tc_d4_readClause_80 (by decide) ?_
        refine tc_iadd tc_d4_readClause_81 ?_
        refine tc_icmp_le (tgt := 87) tc_d4_readClause_82 (by decide) h (fun h => ?_) (fun h => ?_)
        · refine tc_aload_n tc_d4_readClause_87 1 rfl ?_
          refine tc_g4_4 tc_d4_readClause_88 tc_w233 ?_
          refine tc_iload_n tc_d4_readClause_91 2 rfl ?_
          refine tc_iconst (v := 4) tc_d4_readClause_92 (by decide) ?_
          refine tc_imul tc_d4_readClause_93 ?_
          refine tc_iload tc_d4_readClause_94 4 rfl ?_
          refine tc_iadd tc_d4_readClause_96 ?_
          refine tc_aload_n tc_d4_readClause_97 1 rfl ?_
          refine tc_iload_n tc_d4_readClause_98 0 rfl ?_
          obtain ⟨r7, μ8, e7, h⟩ := tc_bdS h
          have c7 := tc_c4_numberFrom (l := l) (G := G) N e7
          refine tc_callVi (As := [.int v4]) (rest := [.int ((x1 * 4) + x4), .ref (tc_ad G 45)]) (r1 := r7) (μ1 := μ8) tc_d4_readClause_99 tc_ok4_numberFrom tc_w803 ⟨Nat.le_of_ble_eq_true rfl, Nat.le_of_ble_eq_true rfl⟩ tc_s4 rfl c7 rfl rfl (Nat.le_of_ble_eq_true rfl) ?_
          obtain ⟨hi9, h⟩ := tc_ckS h
          refine tc_iastL tc_d4_readClause_102 tc_aL45 hi9 h (fun μ10 h => ?_)
          refine tc_iinc (v := (x4 + 1)) (L' := [(4, .int (x4 + 1)), (2, .int v4), (0, .ref (tc_ad G 42)), (1, .int x1), (3, .int x3)]) tc_d4_readClause_103 4 rfl rfl (by decide) rfl ?_
          refine tc_goto (tgt := 40) tc_d4_readClause_106 (by decide) ?_
          refine tc_sub [2, 3, 4, 0] rfl ?_
          exact (ih _ _ _ _ _) h
        · refine tc_iload_n tc_d4_readClause_85 0 rfl ?_
          exact tc_iret tc_d4_readClause_86 rfl (tc_riS h)
def tc_f4_readClause (N : Nat) (x1 : Int32) (μ : tc_Mem) : Option (Int32 × tc_Mem) :=
  tc_bd (tc_f4_skipBlanks N μ) fun _ μ2 =>
  tc_lt (μ2 42 2) fun v3 =>
  tc_bd (tc_f4_skipAll N 97 122 μ2) fun _ μ5 =>
  tc_bd (tc_f4_wordFrom N v3 μ5) fun r6 μ7 =>
  if r6 = (-1) then
    some (v3, μ7)
  else
    tc_ck x1 15 (
    tc_lt (tc_wr μ7 44 x1.toNatClampNeg r6) fun μ9 =>
    tc_f4_readClause_40 N N x1 r6 0 μ9)
theorem tc_b4_readClause_0 (N : Nat) (x1 : Int32) (μ : tc_Mem) (z : Int32 × tc_Mem) (h : tc_f4_readClause N x1 μ = some z) : tc_At l G tc_i4_readClause (some (.int z.1)) z.2 X 0 [(0, .ref (tc_ad G 42)), (1, .int x1)] [] μ := by
  unfold tc_f4_readClause at h
  refine tc_aload_n tc_d4_readClause_0 0 rfl ?_
  obtain ⟨r1, μ2, e1, h⟩ := tc_bdS h
  have c1 := tc_c4_skipBlanks (l := l) (G := G) N e1
  refine tc_callVv (As := []) (rest := []) (μ1 := μ2) tc_d4_readClause_1 tc_ok4_skipBlanks tc_w726 ⟨Nat.le_of_ble_eq_true rfl, Nat.le_of_ble_eq_true rfl⟩ tc_s4 rfl c1 rfl rfl (Nat.le_of_ble_eq_true rfl) ?_
  refine tc_aload_n tc_d4_readClause_4 0 rfl ?_
  refine tc_g4_2 tc_d4_readClause_5 tc_w230 ?_
  refine tc_ltI h (fun v3 h => ?_)
  refine tc_istore_n (L' := [(2, .int v3), (0, .ref (tc_ad G 42)), (1, .int x1)]) tc_d4_readClause_8 (by decide) rfl ?_
  refine tc_aload_n tc_d4_readClause_9 1 rfl ?_
  refine tc_bipush (v := 97) tc_d4_readClause_10 (by decide) ?_
  refine tc_bipush (v := 122) tc_d4_readClause_12 (by decide) ?_
  obtain ⟨r4, μ5, e4, h⟩ := tc_bdS h
  have c4 := tc_c4_skipAll (l := l) (G := G) N e4
  refine tc_callVv (As := [.int 97, .int 122]) (rest := []) (μ1 := μ5) tc_d4_readClause_14 tc_ok4_skipAll tc_w730 ⟨Nat.le_of_ble_eq_true rfl, Nat.le_of_ble_eq_true rfl⟩ tc_s4 rfl c4 rfl rfl (Nat.le_of_ble_eq_true rfl) ?_
  refine tc_aload_n tc_d4_readClause_17 1 rfl ?_
  refine tc_iload_n tc_d4_readClause_18 0 rfl ?_
  obtain ⟨r6, μ7, e6, h⟩ := tc_bdS h
  have c6 := tc_c4_wordFrom (l := l) (G := G) N e6
  refine tc_callVi (As := [.int v3]) (rest := []) (r1 := r6) (μ1 := μ7) tc_d4_readClause_19 tc_ok4_wordFrom tc_w734 ⟨Nat.le_of_ble_eq_true rfl, Nat.le_of_ble_eq_true rfl⟩ tc_s4 rfl c6 rfl rfl (Nat.le_of_ble_eq_true rfl) ?_
  refine tc_istore_n (L' := [(3, .int r6), (2, .int v3), (0, .ref (tc_ad G 42)), (1, .int x1)]) tc_d4_readClause_22 (by decide) rfl ?_
  refine tc_iload_n tc_d4_readClause_23 0 rfl ?_
  refine tc_iconst (v := (-1)) tc_d4_readClause_24 (by decide) ?_
  refine tc_icmp_ne (tgt := 30) tc_d4_readClause_25 (by decide) h (fun h => ?_) (fun h => ?_)
  · refine tc_aload_n tc_d4_readClause_30 2 rfl ?_
    refine tc_g4_3 tc_d4_readClause_31 tc_w231 ?_
    refine tc_iload_n tc_d4_readClause_34 3 rfl ?_
    refine tc_iload_n tc_d4_readClause_35 0 rfl ?_
    obtain ⟨hi8, h⟩ := tc_ckS h
    refine tc_iastL tc_d4_readClause_36 tc_aL44 hi8 h (fun μ9 h => ?_)
    refine tc_iconst (v := 0) tc_d4_readClause_37 (by decide) ?_
    refine tc_istore (L' := [(4, .int 0), (3, .int r6), (2, .int v3), (0, .ref (tc_ad G 42)), (1, .int x1)]) tc_d4_readClause_38 (by decide) rfl ?_
    refine tc_sub [3, 4, 1, 0] rfl ?_
    exact (tc_b4_readClause_40 N N _ _ _ _ _) h
  · refine tc_iload_n tc_d4_readClause_28 1 rfl ?_
    exact tc_iret tc_d4_readClause_29 rfl (tc_riS h)
theorem tc_c4_readClause (N : Nat) {x1 : Int32} {μ : tc_Mem} {z : Int32 × tc_Mem} (h : tc_f4_readClause N x1 μ = some z) : tc_Con l G tc_i4_readClause [.ref (tc_ad G 42), .int x1] μ (some (.int z.1)) z.2 :=
  tc_Con.of (L := [(0, .ref (tc_ad G 42)), (1, .int x1)]) (by decide) (Nat.le_of_ble_eq_true rfl) rfl (fun X => tc_b4_readClause_0 N  _ _ _ h)
def tc_f4_placeOfFault_72 (N : Nat) (μ : tc_Mem) : Option (Int32 × tc_Mem) :=
  some ((μ 42 2), μ)
theorem tc_b4_placeOfFault_72 (N : Nat) (μ : tc_Mem) (z : Int32 × tc_Mem) (h : tc_f4_placeOfFault_72 N μ = some z) : tc_At l G tc_i4_placeOfFault (some (.int z.1)) z.2 X 72 [(0, .ref (tc_ad G 42))] [] μ := by
  unfold tc_f4_placeOfFault_72 at h
  refine tc_aload_n tc_d4_placeOfFault_72 0 rfl ?_
  refine tc_g4_2 tc_d4_placeOfFault_73 tc_w230 ?_
  exact tc_iret tc_d4_placeOfFault_76 rfl (tc_riS h)
def tc_f4_placeOfFault_93 (N : Nat) (μ : tc_Mem) : Option (Int32 × tc_Mem) :=
  some ((μ 42 2), μ)
theorem tc_b4_placeOfFault_93 (N : Nat) (μ : tc_Mem) (z : Int32 × tc_Mem) (h : tc_f4_placeOfFault_93 N μ = some z) : tc_At l G tc_i4_placeOfFault (some (.int z.1)) z.2 X 93 [(0, .ref (tc_ad G 42))] [] μ := by
  unfold tc_f4_placeOfFault_93 at h
  refine tc_aload_n tc_d4_placeOfFault_93 0 rfl ?_
  refine tc_g4_2 tc_d4_placeOfFault_94 tc_w230 ?_
  exact tc_iret tc_d4_placeOfFault_97 rfl (tc_riS h)
def tc_f4_placeOfFault_12 (N : Nat) : Nat → Int32 → tc_Mem → Option (Int32 × tc_Mem)
  | 0 => fun _ _ => none
  | n + 1 => fun x1 μ => 
    if (15 : Int32) ≤ x1 then
      tc_f4_placeOfFault_93 N μ
    else
      tc_bd (tc_f4_readClause N x1 μ) fun r1 μ2 =>
      if r1 = (-1) then
        tc_lt (tc_wr μ2 42 5 ((μ2 42 5) + 1)) fun μ3 =>
        tc_bd (tc_f4_skipBlanks N μ3) fun _ μ5 =>
        if (μ5 42 2) < (μ5 42 1) then
          tc_ck (μ5 42 2) 60 (
          if (μ5 43 (μ5 42 2).toNatClampNeg) = 59 then
            tc_lt (tc_wr μ5 42 2 ((μ5 42 2) + 1)) fun μ7 =>
            tc_f4_placeOfFault_12 N  n (x1 + 1) μ7
          else
            tc_f4_placeOfFault_72 N μ5)
        else
          some ((-1), μ5)
      else
        some (r1, μ2)
theorem tc_b4_placeOfFault_12 (N : Nat) : ∀ (n : Nat) (x1 : Int32) (μ : tc_Mem) (z : Int32 × tc_Mem), tc_f4_placeOfFault_12 N n x1 μ = some z → tc_At l G tc_i4_placeOfFault (some (.int z.1)) z.2 X 12 [(0, .ref (tc_ad G 42)), (1, .int x1)] [] μ := by
  intro n
  induction n with
  | zero => intro x1 μ z h; cases h
  | succ n ih =>
    intro x1 μ z h
    rw [tc_f4_placeOfFault_12] at h
    refine tc_iload_n tc_d4_placeOfFault_12 1 rfl ?_
    refine tc_bipush (v := 15) tc_d4_placeOfFault_13 (by decide) ?_
    refine tc_icmp_ge (tgt := 93) tc_d4_placeOfFault_15 (by decide) h (fun h => ?_) (fun h => ?_)
    · refine tc_sub [0] rfl ?_
      exact (tc_b4_placeOfFault_93 N _ _) h
    · refine tc_aload_n tc_d4_placeOfFault_18 0 rfl ?_
      refine tc_iload_n tc_d4_placeOfFault_19 1 rfl ?_
      obtain ⟨r1, μ2, e1, h⟩ := tc_bdS h
      have c1 := tc_c4_readClause (l := l) (G := G) N e1
      refine tc_callVi (As := [.int x1]) (rest := []) (r1 := r1) (μ1 := μ2) tc_d4_placeOfFault_20 tc_ok4_readClause tc_w722 ⟨Nat.le_of_ble_eq_true rfl, Nat.le_of_ble_eq_true rfl⟩ tc_s4 rfl c1 rfl rfl (Nat.le_of_ble_eq_true rfl) ?_
      refine tc_istore_n (L' := [(2, .int r1), (0, .ref (tc_ad G 42)), (1, .int x1)]) tc_d4_placeOfFault_23 (by decide) rfl ?_
      refine tc_iload_n tc_d4_placeOfFault_24 0 rfl ?_
      refine tc_iconst (v := (-1)) tc_d4_placeOfFault_25 (by decide) ?_
      refine tc_icmp_eq (tgt := 31) tc_d4_placeOfFault_26 (by decide) h (fun h => ?_) (fun h => ?_)
      · refine tc_aload_n tc_d4_placeOfFault_31 1 rfl ?_
        refine tc_dup tc_d4_placeOfFault_32 rfl ?_
        refine tc_g4_5 tc_d4_placeOfFault_33 tc_w234 ?_
        refine tc_iconst (v := 1) tc_d4_placeOfFault_36 (by decide) ?_
        refine tc_iadd tc_d4_placeOfFault_37 ?_
        refine tc_p4_5 tc_d4_placeOfFault_38 tc_w234 h (fun μ3 h => ?_)
        refine tc_aload_n tc_d4_placeOfFault_41 1 rfl ?_
        obtain ⟨r4, μ5, e4, h⟩ := tc_bdS h
        have c4 := tc_c4_skipBlanks (l := l) (G := G) N e4
        refine tc_callVv (As := []) (rest := []) (μ1 := μ5) tc_d4_placeOfFault_42 tc_ok4_skipBlanks tc_w726 ⟨Nat.le_of_ble_eq_true rfl, Nat.le_of_ble_eq_true rfl⟩ tc_s4 rfl c4 rfl rfl (Nat.le_of_ble_eq_true rfl) ?_
        refine tc_aload_n tc_d4_placeOfFault_45 1 rfl ?_
        refine tc_g4_2 tc_d4_placeOfFault_46 tc_w230 ?_
        refine tc_aload_n tc_d4_placeOfFault_49 1 rfl ?_
        refine tc_g4_1 tc_d4_placeOfFault_50 tc_w228 ?_
        refine tc_icmp_lt (tgt := 58) tc_d4_placeOfFault_53 (by decide) h (fun h => ?_) (fun h => ?_)
        · refine tc_aload_n tc_d4_placeOfFault_58 1 rfl ?_
          refine tc_g4_0 tc_d4_placeOfFault_59 tc_w227 ?_
          refine tc_aload_n tc_d4_placeOfFault_62 1 rfl ?_
          refine tc_g4_2 tc_d4_placeOfFault_63 tc_w230 ?_
          obtain ⟨hi6, h⟩ := tc_ckS h
          refine tc_iald tc_d4_placeOfFault_66 tc_aL43 hi6 ?_
          refine tc_bipush (v := 59) tc_d4_placeOfFault_67 (by decide) ?_
          refine tc_icmp_eq (tgt := 77) tc_d4_placeOfFault_69 (by decide) h (fun h => ?_) (fun h => ?_)
          · refine tc_aload_n tc_d4_placeOfFault_77 1 rfl ?_
            refine tc_dup tc_d4_placeOfFault_78 rfl ?_
            refine tc_g4_2 tc_d4_placeOfFault_79 tc_w230 ?_
            refine tc_iconst (v := 1) tc_d4_placeOfFault_82 (by decide) ?_
            refine tc_iadd tc_d4_placeOfFault_83 ?_
            refine tc_p4_2 tc_d4_placeOfFault_84 tc_w230 h (fun μ7 h => ?_)
            refine tc_iinc (v := (x1 + 1)) (L' := [(1, .int (x1 + 1)), (2, .int r1), (0, .ref (tc_ad G 42))]) tc_d4_placeOfFault_87 2 rfl rfl (by decide) rfl ?_
            refine tc_goto (tgt := 12) tc_d4_placeOfFault_90 (by decide) ?_
            refine tc_sub [2, 0] rfl ?_
            exact (ih _ _ _) h
          · refine tc_sub [1] rfl ?_
            exact (tc_b4_placeOfFault_72 N _ _) h
        · refine tc_iconst (v := (-1)) tc_d4_placeOfFault_56 (by decide) ?_
          exact tc_iret tc_d4_placeOfFault_57 rfl (tc_riS h)
      · refine tc_iload_n tc_d4_placeOfFault_29 0 rfl ?_
        exact tc_iret tc_d4_placeOfFault_30 rfl (tc_riS h)
def tc_f4_placeOfFault (N : Nat) (μ : tc_Mem) : Option (Int32 × tc_Mem) :=
  tc_lt (tc_wr μ 42 2 0) fun μ1 =>
  tc_lt (tc_wr μ1 42 5 0) fun μ2 =>
  tc_f4_placeOfFault_12 N N 0 μ2
theorem tc_b4_placeOfFault_0 (N : Nat) (μ : tc_Mem) (z : Int32 × tc_Mem) (h : tc_f4_placeOfFault N μ = some z) : tc_At l G tc_i4_placeOfFault (some (.int z.1)) z.2 X 0 [(0, .ref (tc_ad G 42))] [] μ := by
  unfold tc_f4_placeOfFault at h
  refine tc_aload_n tc_d4_placeOfFault_0 0 rfl ?_
  refine tc_iconst (v := 0) tc_d4_placeOfFault_1 (by decide) ?_
  refine tc_p4_2 tc_d4_placeOfFault_2 tc_w230 h (fun μ1 h => ?_)
  refine tc_aload_n tc_d4_placeOfFault_5 0 rfl ?_
  refine tc_iconst (v := 0) tc_d4_placeOfFault_6 (by decide) ?_
  refine tc_p4_5 tc_d4_placeOfFault_7 tc_w234 h (fun μ2 h => ?_)
  refine tc_iconst (v := 0) tc_d4_placeOfFault_10 (by decide) ?_
  refine tc_istore_n (L' := [(1, .int 0), (0, .ref (tc_ad G 42))]) tc_d4_placeOfFault_11 (by decide) rfl ?_
  refine tc_sub [1, 0] rfl ?_
  exact (tc_b4_placeOfFault_12 N N _ _ _) h
theorem tc_c4_placeOfFault (N : Nat) {μ : tc_Mem} {z : Int32 × tc_Mem} (h : tc_f4_placeOfFault N μ = some z) : tc_Con l G tc_i4_placeOfFault [.ref (tc_ad G 42)] μ (some (.int z.1)) z.2 :=
  tc_Con.of (L := [(0, .ref (tc_ad G 42))]) (by decide) (Nat.le_of_ble_eq_true rfl) rfl (fun X => tc_b4_placeOfFault_0 N  _ _ h)
def tc_f6_text_30 (N : Nat) : Nat → Int32 → Int32 → tc_Mem → Option (Int32 × tc_Mem)
  | 0 => fun _ _ _ => none
  | n + 1 => fun x2 x3 μ => 
    if (μ 42 5) ≤ x3 then
      some (x2, μ)
    else
      tc_bd (tc_f6_answerOfClause N x3 μ) fun r1 μ2 =>
      if r1 < 0 then
        tc_f6_text_30 N  n x2 (x3 + 1) μ2
      else
        tc_f6_text_30 N  n (x2 + 1) (x3 + 1) μ2
theorem tc_b6_text_30 (N : Nat) : ∀ (n : Nat) (x2 : Int32) (x3 : Int32) (μ : tc_Mem) (z : Int32 × tc_Mem), tc_f6_text_30 N n x2 x3 μ = some z → tc_At l G tc_i6_text (some (.int z.1)) z.2 X 30 [(0, .ref (tc_ad G 0)), (2, .int x2), (3, .int x3)] [] μ := by
  intro n
  induction n with
  | zero => intro x2 x3 μ z h; cases h
  | succ n ih =>
    intro x2 x3 μ z h
    rw [tc_f6_text_30] at h
    refine tc_iload_n tc_d6_text_30 2 rfl ?_
    refine tc_aload_n tc_d6_text_31 0 rfl ?_
    refine tc_g6_7 tc_d6_text_32 tc_w275 ?_
    refine tc_g4_5 tc_d6_text_35 tc_w235 ?_
    refine tc_icmp_ge (tgt := 58) tc_d6_text_38 (by decide) h (fun h => ?_) (fun h => ?_)
    · refine tc_iload_n tc_d6_text_58 1 rfl ?_
      exact tc_iret tc_d6_text_59 rfl (tc_riS h)
    · refine tc_aload_n tc_d6_text_41 0 rfl ?_
      refine tc_iload_n tc_d6_text_42 2 rfl ?_
      obtain ⟨r1, μ2, e1, h⟩ := tc_bdS h
      have c1 := tc_c6_answerOfClause (l := l) (G := G) N e1
      refine tc_callVi (As := [.int x3]) (rest := []) (r1 := r1) (μ1 := μ2) tc_d6_text_43 tc_ok6_answerOfClause tc_w807 ⟨Nat.le_of_ble_eq_true rfl, Nat.le_of_ble_eq_true rfl⟩ tc_s6 rfl c1 rfl rfl (Nat.le_of_ble_eq_true rfl) ?_
      refine tc_if_lt (tgt := 52) tc_d6_text_46 (by decide) h (fun h => ?_) (fun h => ?_)
      · refine tc_iinc (v := (x3 + 1)) (L' := [(3, .int (x3 + 1)), (0, .ref (tc_ad G 0)), (2, .int x2)]) tc_d6_text_52 2 rfl rfl (by decide) rfl ?_
        refine tc_goto (tgt := 30) tc_d6_text_55 (by decide) ?_
        refine tc_sub [1, 2, 0] rfl ?_
        exact (ih _ _ _ _) h
      · refine tc_iinc (v := (x2 + 1)) (L' := [(2, .int (x2 + 1)), (0, .ref (tc_ad G 0)), (3, .int x3)]) tc_d6_text_49 1 rfl rfl (by decide) rfl ?_
        refine tc_iinc (v := (x3 + 1)) (L' := [(3, .int (x3 + 1)), (2, .int (x2 + 1)), (0, .ref (tc_ad G 0))]) tc_d6_text_52 2 rfl rfl (by decide) rfl ?_
        refine tc_goto (tgt := 30) tc_d6_text_55 (by decide) ?_
        refine tc_sub [2, 1, 0] rfl ?_
        exact (ih _ _ _ _) h
def tc_f6_text (N : Nat) (μ : tc_Mem) : Option (Int32 × tc_Mem) :=
  tc_bd (tc_f4_placeOfFault N μ) fun r1 μ2 =>
  tc_lt (tc_wr μ2 42 1 0) fun μ3 =>
  if r1 = (-1) then
    tc_f6_text_30 N N 0 0 μ3
  else
    some (((-100) - r1), μ3)
theorem tc_b6_text_0 (N : Nat) (μ : tc_Mem) (z : Int32 × tc_Mem) (h : tc_f6_text N μ = some z) : tc_At l G tc_i6_text (some (.int z.1)) z.2 X 0 [(0, .ref (tc_ad G 0))] [] μ := by
  unfold tc_f6_text at h
  refine tc_aload_n tc_d6_text_0 0 rfl ?_
  refine tc_g6_7 tc_d6_text_1 tc_w275 ?_
  obtain ⟨r1, μ2, e1, h⟩ := tc_bdS h
  have c1 := tc_c4_placeOfFault (l := l) (G := G) N e1
  refine tc_callVi (As := []) (rest := []) (r1 := r1) (μ1 := μ2) tc_d6_text_4 tc_ok4_placeOfFault tc_w718 ⟨Nat.le_of_ble_eq_true rfl, Nat.le_of_ble_eq_true rfl⟩ tc_s4 rfl c1 rfl rfl (Nat.le_of_ble_eq_true rfl) ?_
  refine tc_istore_n (L' := [(1, .int r1), (0, .ref (tc_ad G 0))]) tc_d6_text_7 (by decide) rfl ?_
  refine tc_aload_n tc_d6_text_8 1 rfl ?_
  refine tc_g6_7 tc_d6_text_9 tc_w275 ?_
  refine tc_iconst (v := 0) tc_d6_text_12 (by decide) ?_
  refine tc_p4_1 tc_d6_text_13 tc_w229 h (fun μ3 h => ?_)
  refine tc_iload_n tc_d6_text_16 0 rfl ?_
  refine tc_iconst (v := (-1)) tc_d6_text_17 (by decide) ?_
  refine tc_icmp_eq (tgt := 26) tc_d6_text_18 (by decide) h (fun h => ?_) (fun h => ?_)
  · refine tc_iconst (v := 0) tc_d6_text_26 (by decide) ?_
    refine tc_istore_n (L' := [(2, .int 0), (1, .int r1), (0, .ref (tc_ad G 0))]) tc_d6_text_27 (by decide) rfl ?_
    refine tc_iconst (v := 0) tc_d6_text_28 (by decide) ?_
    refine tc_istore_n (L' := [(3, .int 0), (2, .int 0), (1, .int r1), (0, .ref (tc_ad G 0))]) tc_d6_text_29 (by decide) rfl ?_
    refine tc_sub [3, 1, 0] rfl ?_
    exact (tc_b6_text_30 N N _ _ _ _) h
  · refine tc_bipush (v := (-100)) tc_d6_text_21 (by decide) ?_
    refine tc_iload_n tc_d6_text_23 0 rfl ?_
    refine tc_isub tc_d6_text_24 ?_
    exact tc_iret tc_d6_text_25 rfl (tc_riS h)
theorem tc_c6_text (N : Nat) {μ : tc_Mem} {z : Int32 × tc_Mem} (h : tc_f6_text N μ = some z) : tc_Con l G tc_i6_text [.ref (tc_ad G 0)] μ (some (.int z.1)) z.2 :=
  tc_Con.of (L := [(0, .ref (tc_ad G 0))]) (by decide) (Nat.le_of_ble_eq_true rfl) rfl (fun X => tc_b6_text_0 N  _ _ h)
def tc_f7_isWord_20 (N : Nat) (x1 : Nat) : Nat → Int32 → tc_Mem → Option (Int32 × tc_Mem)
  | 0 => fun _ _ => none
  | n + 1 => fun x2 μ => 
    if (tc_slen x1) ≤ x2 then
      some (1, μ)
    else
      tc_ck ((μ 50 34) + x2) 60 (
      tc_ck x2 (tc_txL.getD x1 0) (
      if (μ 63 ((μ 50 34) + x2).toNatClampNeg) = (tc_sch x1 x2.toNatClampNeg) then
        tc_f7_isWord_20 N x1 n (x2 + 1) μ
      else
        some (0, μ)))
theorem tc_b7_isWord_20 (N : Nat) {x1 : Nat} (hx1 : x1 < 8) : ∀ (n : Nat) (x2 : Int32) (μ : tc_Mem) (z : Int32 × tc_Mem), tc_f7_isWord_20 N x1 n x2 μ = some z → tc_At l G tc_i7_isWord (some (.int z.1)) z.2 X 20 [(0, .ref (tc_ad G 50)), (1, .ref (tc_sK G x1)), (2, .int x2)] [] μ := by
  intro n
  induction n with
  | zero => intro x2 μ z h; cases h
  | succ n ih =>
    intro x2 μ z h
    rw [tc_f7_isWord_20] at h
    refine tc_iload_n tc_d7_isWord_20 2 rfl ?_
    refine tc_aload_n tc_d7_isWord_21 1 rfl ?_
    refine tc_callL (rest := [.int x2]) tc_d7_isWord_22 tc_w1276 (Nat.le_of_ble_eq_true rfl) hx1 rfl ⟨Nat.le_of_ble_eq_true rfl, Nat.le_of_ble_eq_true rfl⟩ ?_
    refine tc_icmp_ge (tgt := 55) tc_d7_isWord_25 (by decide) h (fun h => ?_) (fun h => ?_)
    · refine tc_iconst (v := 1) tc_d7_isWord_55 (by decide) ?_
      exact tc_zret tc_d7_isWord_56 rfl (by decide) (tc_riS h)
    · refine tc_aload_n tc_d7_isWord_28 0 rfl ?_
      refine tc_g7_16 tc_d7_isWord_29 tc_w894 ?_
      refine tc_aload_n tc_d7_isWord_32 0 rfl ?_
      refine tc_g7_34 tc_d7_isWord_33 tc_w912 ?_
      refine tc_iload_n tc_d7_isWord_36 2 rfl ?_
      refine tc_iadd tc_d7_isWord_37 ?_
      obtain ⟨hi1, h⟩ := tc_ckS h
      refine tc_iald tc_d7_isWord_38 tc_aL63 hi1 ?_
      refine tc_aload_n tc_d7_isWord_39 1 rfl ?_
      refine tc_iload_n tc_d7_isWord_40 2 rfl ?_
      obtain ⟨hi2, h⟩ := tc_ckS h
      refine tc_callC (rest := [.int (μ 63 ((μ 50 34) + x2).toNatClampNeg)]) tc_d7_isWord_41 tc_w1277 (Nat.le_of_ble_eq_true rfl) hx1 hi2 rfl ⟨Nat.le_of_ble_eq_true rfl, Nat.le_of_ble_eq_true rfl⟩ ?_
      refine tc_icmp_eq (tgt := 49) tc_d7_isWord_44 (by decide) h (fun h => ?_) (fun h => ?_)
      · refine tc_iinc (v := (x2 + 1)) (L' := [(2, .int (x2 + 1)), (0, .ref (tc_ad G 50)), (1, .ref (tc_sK G x1))]) tc_d7_isWord_49 2 rfl rfl (by decide) rfl ?_
        refine tc_goto (tgt := 20) tc_d7_isWord_52 (by decide) ?_
        refine tc_sub [1, 2, 0] rfl ?_
        exact (ih _ _ _) h
      · refine tc_iconst (v := 0) tc_d7_isWord_47 (by decide) ?_
        exact tc_zret tc_d7_isWord_48 rfl (by decide) (tc_riS h)
def tc_f7_isWord (N : Nat) (x1 : Nat) (μ : tc_Mem) : Option (Int32 × tc_Mem) :=
  if ((μ 50 32) - (μ 50 34)) = (tc_slen x1) then
    tc_f7_isWord_20 N x1 N 0 μ
  else
    some (0, μ)
theorem tc_b7_isWord_0 (N : Nat) {x1 : Nat} (hx1 : x1 < 8) (μ : tc_Mem) (z : Int32 × tc_Mem) (h : tc_f7_isWord N x1 μ = some z) : tc_At l G tc_i7_isWord (some (.int z.1)) z.2 X 0 [(0, .ref (tc_ad G 50)), (1, .ref (tc_sK G x1))] [] μ := by
  unfold tc_f7_isWord at h
  refine tc_aload_n tc_d7_isWord_0 0 rfl ?_
  refine tc_g7_32 tc_d7_isWord_1 tc_w910 ?_
  refine tc_aload_n tc_d7_isWord_4 0 rfl ?_
  refine tc_g7_34 tc_d7_isWord_5 tc_w912 ?_
  refine tc_isub tc_d7_isWord_8 ?_
  refine tc_aload_n tc_d7_isWord_9 1 rfl ?_
  refine tc_callL (rest := [.int ((μ 50 32) - (μ 50 34))]) tc_d7_isWord_10 tc_w1276 (Nat.le_of_ble_eq_true rfl) hx1 rfl ⟨Nat.le_of_ble_eq_true rfl, Nat.le_of_ble_eq_true rfl⟩ ?_
  refine tc_icmp_eq (tgt := 18) tc_d7_isWord_13 (by decide) h (fun h => ?_) (fun h => ?_)
  · refine tc_iconst (v := 0) tc_d7_isWord_18 (by decide) ?_
    refine tc_istore_n (L' := [(2, .int 0), (0, .ref (tc_ad G 50)), (1, .ref (tc_sK G x1))]) tc_d7_isWord_19 (by decide) rfl ?_
    refine tc_sub [1, 2, 0] rfl ?_
    exact (tc_b7_isWord_20 N hx1 N _ _ _) h
  · refine tc_iconst (v := 0) tc_d7_isWord_16 (by decide) ?_
    exact tc_zret tc_d7_isWord_17 rfl (by decide) (tc_riS h)
theorem tc_c7_isWord (N : Nat) {x1 : Nat} {μ : tc_Mem} {z : Int32 × tc_Mem} (hx1 : x1 < 8) (h : tc_f7_isWord N x1 μ = some z) : tc_Con l G tc_i7_isWord [.ref (tc_ad G 50), .ref (tc_sK G x1)] μ (some (.int z.1)) z.2 :=
  tc_Con.of (L := [(0, .ref (tc_ad G 50)), (1, .ref (tc_sK G x1))]) (by decide) (Nat.le_of_ble_eq_true rfl) rfl (fun X => tc_b7_isWord_0 N hx1 _ _ h)
def tc_f7_word (N : Nat) (x0 : Int32) (μ : tc_Mem) : Option (Nat × tc_Mem) :=
  if x0 < 0 ∨ 6 < x0 then
    some (7, μ)
  else if x0 = 0 then
    some (0, μ)
  else if x0 = 1 then
    some (1, μ)
  else if x0 = 2 then
    some (2, μ)
  else if x0 = 3 then
    some (3, μ)
  else if x0 = 4 then
    some (4, μ)
  else if x0 = 5 then
    some (5, μ)
  else if x0 = 6 then
    some (6, μ)
  else none
theorem tc_b7_word_0 (N : Nat) (x0 : Int32) (μ : tc_Mem) (z : Nat × tc_Mem) (h : tc_f7_word N x0 μ = some z) : tc_At l G tc_i7_word (some (.ref (tc_sK G z.1))) z.2 X 0 [(0, .int x0)] [] μ := by
  unfold tc_f7_word at h
  refine tc_iload_n tc_d7_word_0 0 rfl ?_
  by_cases hq : x0 < 0 ∨ 6 < x0
  · rw [if_pos hq] at h
    refine tc_tswD (a := 0) (b := 6) (tgt := 65) tc_d7_word_1 ⟨by decide, by decide⟩ hq (by decide) ?_
    refine tc_ldcS (i := 7) (tx := "drop") tc_d7_word_65 (fun U h9 => (h9 7 (by decide)).2) ?_
    exact tc_aret tc_d7_word_67 rfl (tc_rsS h)
  · rw [if_neg hq] at h
    by_cases hq : x0 = 0
    · rw [if_pos hq] at h
      refine tc_tswK (k := 0) (off := 43) (tgt := 44) tc_d7_word_1 hq (by decide) (by decide) rfl (by decide) ?_
      refine tc_ldcS (i := 0) (tx := "section") tc_d7_word_44 (fun U h9 => (h9 0 (by decide)).2) ?_
      exact tc_aret tc_d7_word_46 rfl (tc_rsS h)
    · rw [if_neg hq] at h
      by_cases hq : x0 = 1
      · rw [if_pos hq] at h
        refine tc_tswK (k := 1) (off := 46) (tgt := 47) tc_d7_word_1 hq (by decide) (by decide) rfl (by decide) ?_
        refine tc_ldcS (i := 1) (tx := "train") tc_d7_word_47 (fun U h9 => (h9 1 (by decide)).2) ?_
        exact tc_aret tc_d7_word_49 rfl (tc_rsS h)
      · rw [if_neg hq] at h
        by_cases hq : x0 = 2
        · rw [if_pos hq] at h
          refine tc_tswK (k := 2) (off := 49) (tgt := 50) tc_d7_word_1 hq (by decide) (by decide) rfl (by decide) ?_
          refine tc_ldcS (i := 2) (tx := "gone") tc_d7_word_50 (fun U h9 => (h9 2 (by decide)).2) ?_
          exact tc_aret tc_d7_word_52 rfl (tc_rsS h)
        · rw [if_neg hq] at h
          by_cases hq : x0 = 3
          · rw [if_pos hq] at h
            refine tc_tswK (k := 3) (off := 52) (tgt := 53) tc_d7_word_1 hq (by decide) (by decide) rfl (by decide) ?_
            refine tc_ldcS (i := 3) (tx := "fault") tc_d7_word_53 (fun U h9 => (h9 3 (by decide)).2) ?_
            exact tc_aret tc_d7_word_55 rfl (tc_rsS h)
          · rw [if_neg hq] at h
            by_cases hq : x0 = 4
            · rw [if_pos hq] at h
              refine tc_tswK (k := 4) (off := 55) (tgt := 56) tc_d7_word_1 hq (by decide) (by decide) rfl (by decide) ?_
              refine tc_ldcS (i := 4) (tx := "mend") tc_d7_word_56 (fun U h9 => (h9 4 (by decide)).2) ?_
              exact tc_aret tc_d7_word_58 rfl (tc_rsS h)
            · rw [if_neg hq] at h
              by_cases hq : x0 = 5
              · rw [if_pos hq] at h
                refine tc_tswK (k := 5) (off := 58) (tgt := 59) tc_d7_word_1 hq (by decide) (by decide) rfl (by decide) ?_
                refine tc_ldcS (i := 5) (tx := "weather") tc_d7_word_59 (fun U h9 => (h9 5 (by decide)).2) ?_
                exact tc_aret tc_d7_word_61 rfl (tc_rsS h)
              · rw [if_neg hq] at h
                by_cases hq : x0 = 6
                · rw [if_pos hq] at h
                  refine tc_tswK (k := 6) (off := 61) (tgt := 62) tc_d7_word_1 hq (by decide) (by decide) rfl (by decide) ?_
                  refine tc_ldcS (i := 6) (tx := "moment") tc_d7_word_62 (fun U h9 => (h9 6 (by decide)).2) ?_
                  exact tc_aret tc_d7_word_64 rfl (tc_rsS h)
                · rw [if_neg hq] at h
                  cases h
theorem tc_c7_word (N : Nat) {x0 : Int32} {μ : tc_Mem} {z : Nat × tc_Mem} (h : tc_f7_word N x0 μ = some z) : tc_Con l G tc_i7_word [.int x0] μ (some (.ref (tc_sK G z.1))) z.2 :=
  tc_Con.of (L := [(0, .int x0)]) (by decide) (Nat.le_of_ble_eq_true rfl) rfl (fun X => tc_b7_word_0 N  _ _ _ h)
theorem tc_str7_word {N : Nat} {x0 : Int32} {μ μ1 : tc_Mem} {r : Nat} (h : tc_f7_word N x0 μ = some (r, μ1)) : r < 8 := by
  unfold tc_f7_word at h
  repeat' split at h
  all_goals first | (cases h; decide) | cases h
def tc_f7_next_244 (N : Nat) (s1 : Int32) (μ : tc_Mem) : Option (Int32 × tc_Mem) :=
  tc_lt (tc_wr μ 50 33 s1) fun μ1 =>
  some (0, μ1)
theorem tc_b7_next_244 (N : Nat) (s1 : Int32) (μ : tc_Mem) (z : Int32 × tc_Mem) (h : tc_f7_next_244 N s1 μ = some z) : tc_At l G tc_i7_next none z.2 X 244 [] [.int s1, .ref (tc_ad G 50)] μ := by
  unfold tc_f7_next_244 at h
  refine tc_p7_33 tc_d7_next_244 tc_w911 h (fun μ1 h => ?_)
  refine tc_goto (tgt := 283) tc_d7_next_247 (by decide) ?_
  exact tc_vret tc_d7_next_283 rfl (tc_rvS h)
def tc_f7_next_225 (N : Nat) (μ : tc_Mem) : Option (Int32 × tc_Mem) :=
  if ((μ 50 32) - (μ 50 34)) ≤ 2 then
    tc_f7_next_244 N 2 μ
  else
    tc_f7_next_244 N 4 μ
theorem tc_b7_next_225 (N : Nat) (μ : tc_Mem) (z : Int32 × tc_Mem) (h : tc_f7_next_225 N μ = some z) : tc_At l G tc_i7_next none z.2 X 225 [(0, .ref (tc_ad G 50))] [] μ := by
  unfold tc_f7_next_225 at h
  refine tc_aload_n tc_d7_next_225 0 rfl ?_
  refine tc_aload_n tc_d7_next_226 0 rfl ?_
  refine tc_g7_32 tc_d7_next_227 tc_w910 ?_
  refine tc_aload_n tc_d7_next_230 0 rfl ?_
  refine tc_g7_34 tc_d7_next_231 tc_w912 ?_
  refine tc_isub tc_d7_next_234 ?_
  refine tc_iconst (v := 2) tc_d7_next_235 (by decide) ?_
  refine tc_icmp_le (tgt := 243) tc_d7_next_236 (by decide) h (fun h => ?_) (fun h => ?_)
  · refine tc_iconst (v := 2) tc_d7_next_243 (by decide) ?_
    refine tc_sub [] rfl ?_
    exact (tc_b7_next_244 N _ _ _) h
  · refine tc_iconst (v := 4) tc_d7_next_239 (by decide) ?_
    refine tc_goto (tgt := 244) tc_d7_next_240 (by decide) ?_
    refine tc_sub [] rfl ?_
    exact (tc_b7_next_244 N _ _ _) h
def tc_f7_next_209 (N : Nat) (k161 : tc_Mem → Option (Int32 × tc_Mem)) (s1 : Int32) (μ : tc_Mem) : Option (Int32 × tc_Mem) :=
  tc_lt (tc_wr μ 50 35 s1) fun μ1 =>
  tc_lt (tc_wr μ1 50 32 ((μ1 50 32) + 1)) fun μ2 =>
  k161 μ2
theorem tc_b7_next_209 (N : Nat) {k161 : tc_Mem → Option (Int32 × tc_Mem)} (H161 : ∀ (μ : tc_Mem) (z : Int32 × tc_Mem), k161 μ = some z → tc_At l G tc_i7_next none z.2 X 161 [(0, .ref (tc_ad G 50))] [] μ) (s1 : Int32) (μ : tc_Mem) (z : Int32 × tc_Mem) (h : tc_f7_next_209 N k161 s1 μ = some z) : tc_At l G tc_i7_next none z.2 X 209 [(0, .ref (tc_ad G 50))] [.int s1, .ref (tc_ad G 50)] μ := by
  unfold tc_f7_next_209 at h
  refine tc_p7_35 tc_d7_next_209 tc_w913 h (fun μ1 h => ?_)
  refine tc_aload_n tc_d7_next_212 0 rfl ?_
  refine tc_dup tc_d7_next_213 rfl ?_
  refine tc_g7_32 tc_d7_next_214 tc_w910 ?_
  refine tc_iconst (v := 1) tc_d7_next_217 (by decide) ?_
  refine tc_iadd tc_d7_next_218 ?_
  refine tc_p7_32 tc_d7_next_219 tc_w910 h (fun μ2 h => ?_)
  refine tc_goto (tgt := 161) tc_d7_next_222 (by decide) ?_
  exact (H161 _ _) h
def tc_f7_next_161 (N : Nat) : Nat → tc_Mem → Option (Int32 × tc_Mem)
  | 0 => fun _ => none
  | n + 1 => fun μ => 
    tc_bd (tc_f7_isDigitHere N μ) fun r1 μ2 =>
    if r1 = 0 then
      tc_f7_next_225 N μ2
    else
      if (2 : Int32) ≤ ((μ2 50 32) - (μ2 50 34)) then
        tc_f7_next_209 N (tc_f7_next_161 N n) (μ2 50 35) μ2
      else
        tc_ck (μ2 50 32) 60 (
        tc_f7_next_209 N (tc_f7_next_161 N n) (((10 * (μ2 50 35)) + (μ2 63 (μ2 50 32).toNatClampNeg)) - 48) μ2)
theorem tc_b7_next_161 (N : Nat) : ∀ (n : Nat) (μ : tc_Mem) (z : Int32 × tc_Mem), tc_f7_next_161 N n μ = some z → tc_At l G tc_i7_next none z.2 X 161 [(0, .ref (tc_ad G 50))] [] μ := by
  intro n
  induction n with
  | zero => intro  μ z h; cases h
  | succ n ih =>
    intro  μ z h
    rw [tc_f7_next_161] at h
    refine tc_aload_n tc_d7_next_161 0 rfl ?_
    obtain ⟨r1, μ2, e1, h⟩ := tc_bdS h
    have c1 := tc_c7_isDigitHere (l := l) (G := G) N e1
    refine tc_callVi (As := []) (rest := []) (r1 := r1) (μ1 := μ2) tc_d7_next_162 tc_ok7_isDigitHere tc_w1278 ⟨Nat.le_of_ble_eq_true rfl, Nat.le_of_ble_eq_true rfl⟩ tc_s7 rfl c1 rfl rfl (Nat.le_of_ble_eq_true rfl) ?_
    refine tc_if_eq (tgt := 225) tc_d7_next_165 (by decide) h (fun h => ?_) (fun h => ?_)
    · exact (tc_b7_next_225 N _ _) h
    · refine tc_aload_n tc_d7_next_168 0 rfl ?_
      refine tc_aload_n tc_d7_next_169 0 rfl ?_
      refine tc_g7_32 tc_d7_next_170 tc_w910 ?_
      refine tc_aload_n tc_d7_next_173 0 rfl ?_
      refine tc_g7_34 tc_d7_next_174 tc_w912 ?_
      refine tc_isub tc_d7_next_177 ?_
      refine tc_iconst (v := 2) tc_d7_next_178 (by decide) ?_
      refine tc_icmp_ge (tgt := 205) tc_d7_next_179 (by decide) h (fun h => ?_) (fun h => ?_)
      · refine tc_aload_n tc_d7_next_205 0 rfl ?_
        refine tc_g7_35 tc_d7_next_206 tc_w913 ?_
        exact (tc_b7_next_209 N ih _ _ _) h
      · refine tc_bipush (v := 10) tc_d7_next_182 (by decide) ?_
        refine tc_aload_n tc_d7_next_184 0 rfl ?_
        refine tc_g7_35 tc_d7_next_185 tc_w913 ?_
        refine tc_imul tc_d7_next_188 ?_
        refine tc_aload_n tc_d7_next_189 0 rfl ?_
        refine tc_g7_16 tc_d7_next_190 tc_w894 ?_
        refine tc_aload_n tc_d7_next_193 0 rfl ?_
        refine tc_g7_32 tc_d7_next_194 tc_w910 ?_
        obtain ⟨hi3, h⟩ := tc_ckS h
        refine tc_iald tc_d7_next_197 tc_aL63 hi3 ?_
        refine tc_iadd tc_d7_next_198 ?_
        refine tc_bipush (v := 48) tc_d7_next_199 (by decide) ?_
        refine tc_isub tc_d7_next_201 ?_
        refine tc_goto (tgt := 209) tc_d7_next_202 (by decide) ?_
        exact (tc_b7_next_209 N ih _ _ _) h
def tc_f7_next_270 (N : Nat) (s1 : Int32) (μ : tc_Mem) : Option (Int32 × tc_Mem) :=
  tc_lt (tc_wr μ 50 33 s1) fun μ1 =>
  tc_lt (tc_wr μ1 50 32 ((μ1 50 32) + 1)) fun μ2 =>
  some (0, μ2)
theorem tc_b7_next_270 (N : Nat) (s1 : Int32) (μ : tc_Mem) (z : Int32 × tc_Mem) (h : tc_f7_next_270 N s1 μ = some z) : tc_At l G tc_i7_next none z.2 X 270 [(0, .ref (tc_ad G 50))] [.int s1, .ref (tc_ad G 50)] μ := by
  unfold tc_f7_next_270 at h
  refine tc_p7_33 tc_d7_next_270 tc_w911 h (fun μ1 h => ?_)
  refine tc_aload_n tc_d7_next_273 0 rfl ?_
  refine tc_dup tc_d7_next_274 rfl ?_
  refine tc_g7_32 tc_d7_next_275 tc_w910 ?_
  refine tc_iconst (v := 1) tc_d7_next_278 (by decide) ?_
  refine tc_iadd tc_d7_next_279 ?_
  refine tc_p7_32 tc_d7_next_280 tc_w910 h (fun μ2 h => ?_)
  exact tc_vret tc_d7_next_283 rfl (tc_rvS h)
def tc_f7_next_146 (N : Nat) (μ : tc_Mem) : Option (Int32 × tc_Mem) :=
  some (0, μ)
theorem tc_b7_next_146 (N : Nat) (μ : tc_Mem) (z : Int32 × tc_Mem) (h : tc_f7_next_146 N μ = some z) : tc_At l G tc_i7_next none z.2 X 146 [] [] μ := by
  unfold tc_f7_next_146 at h
  refine tc_goto (tgt := 283) tc_d7_next_146 (by decide) ?_
  exact tc_vret tc_d7_next_283 rfl (tc_rvS h)
def tc_f7_next_113 (N : Nat) : Nat → Int32 → tc_Mem → Option (Int32 × tc_Mem)
  | 0 => fun _ _ => none
  | n + 1 => fun x1 μ => 
    if (8 : Int32) ≤ x1 then
      tc_f7_next_146 N μ
    else
      tc_bd (tc_f7_word N x1 μ) fun r1 μ2 =>
      tc_bd (tc_f7_isWord N r1 μ2) fun r3 μ4 =>
      if r3 = 0 then
        tc_f7_next_113 N  n (x1 + 1) μ4
      else
        tc_lt (tc_wr μ4 50 33 1) fun μ5 =>
        tc_lt (tc_wr μ5 50 35 x1) fun μ6 =>
        tc_f7_next_113 N  n (x1 + 1) μ6
theorem tc_b7_next_113 (N : Nat) : ∀ (n : Nat) (x1 : Int32) (μ : tc_Mem) (z : Int32 × tc_Mem), tc_f7_next_113 N n x1 μ = some z → tc_At l G tc_i7_next none z.2 X 113 [(0, .ref (tc_ad G 50)), (1, .int x1)] [] μ := by
  intro n
  induction n with
  | zero => intro x1 μ z h; cases h
  | succ n ih =>
    intro x1 μ z h
    rw [tc_f7_next_113] at h
    refine tc_iload_n tc_d7_next_113 1 rfl ?_
    refine tc_bipush (v := 8) tc_d7_next_114 (by decide) ?_
    refine tc_icmp_ge (tgt := 146) tc_d7_next_116 (by decide) h (fun h => ?_) (fun h => ?_)
    · refine tc_sub [] rfl ?_
      exact (tc_b7_next_146 N _ _) h
    · refine tc_aload_n tc_d7_next_119 0 rfl ?_
      refine tc_iload_n tc_d7_next_120 1 rfl ?_
      obtain ⟨r1, μ2, e1, h⟩ := tc_bdS h
      have hr1 : r1 < 8 := tc_str7_word e1
      have c1 := tc_c7_word (l := l) (G := G) N e1
      refine tc_callSs (As := [.int x1]) (rest := [.ref (tc_ad G 50)]) (r1 := r1) (μ1 := μ2) tc_d7_next_121 tc_ok7_word tc_w1261 ⟨Nat.le_of_ble_eq_true rfl, Nat.le_of_ble_eq_true rfl⟩ c1 rfl rfl (Nat.le_of_ble_eq_true rfl) ?_
      obtain ⟨r3, μ4, e3, h⟩ := tc_bdS h
      have c3 := tc_c7_isWord (l := l) (G := G) N hr1 e3
      refine tc_callVi (As := [.ref (tc_sK G r1)]) (rest := []) (r1 := r3) (μ1 := μ4) tc_d7_next_124 tc_ok7_isWord tc_w1272 ⟨Nat.le_of_ble_eq_true rfl, Nat.le_of_ble_eq_true rfl⟩ tc_s7 rfl c3 rfl rfl (Nat.le_of_ble_eq_true rfl) ?_
      refine tc_if_eq (tgt := 140) tc_d7_next_127 (by decide) h (fun h => ?_) (fun h => ?_)
      · refine tc_iinc (v := (x1 + 1)) (L' := [(1, .int (x1 + 1)), (0, .ref (tc_ad G 50))]) tc_d7_next_140 1 rfl rfl (by decide) rfl ?_
        refine tc_goto (tgt := 113) tc_d7_next_143 (by decide) ?_
        refine tc_sub [1, 0] rfl ?_
        exact (ih _ _ _) h
      · refine tc_aload_n tc_d7_next_130 0 rfl ?_
        refine tc_iconst (v := 1) tc_d7_next_131 (by decide) ?_
        refine tc_p7_33 tc_d7_next_132 tc_w911 h (fun μ5 h => ?_)
        refine tc_aload_n tc_d7_next_135 0 rfl ?_
        refine tc_iload_n tc_d7_next_136 1 rfl ?_
        refine tc_p7_35 tc_d7_next_137 tc_w913 h (fun μ6 h => ?_)
        refine tc_iinc (v := (x1 + 1)) (L' := [(1, .int (x1 + 1)), (0, .ref (tc_ad G 50))]) tc_d7_next_140 1 rfl rfl (by decide) rfl ?_
        refine tc_goto (tgt := 113) tc_d7_next_143 (by decide) ?_
        refine tc_sub [1, 0] rfl ?_
        exact (ih _ _ _) h
def tc_f7_next_106 (N : Nat) (μ : tc_Mem) : Option (Int32 × tc_Mem) :=
  tc_lt (tc_wr μ 50 33 4) fun μ1 =>
  tc_f7_next_113 N N 0 μ1
theorem tc_b7_next_106 (N : Nat) (μ : tc_Mem) (z : Int32 × tc_Mem) (h : tc_f7_next_106 N μ = some z) : tc_At l G tc_i7_next none z.2 X 106 [(0, .ref (tc_ad G 50))] [] μ := by
  unfold tc_f7_next_106 at h
  refine tc_aload_n tc_d7_next_106 0 rfl ?_
  refine tc_iconst (v := 4) tc_d7_next_107 (by decide) ?_
  refine tc_p7_33 tc_d7_next_108 tc_w911 h (fun μ1 h => ?_)
  refine tc_iconst (v := 0) tc_d7_next_111 (by decide) ?_
  refine tc_istore_n (L' := [(1, .int 0), (0, .ref (tc_ad G 50))]) tc_d7_next_112 (by decide) rfl ?_
  refine tc_sub [1, 0] rfl ?_
  exact (tc_b7_next_113 N N _ _ _) h
def tc_f7_next_86 (N : Nat) : Nat → tc_Mem → Option (Int32 × tc_Mem)
  | 0 => fun _ => none
  | n + 1 => fun μ => 
    tc_bd (tc_f7_isLetterHere N μ) fun r1 μ2 =>
    if r1 = 0 then
      tc_f7_next_106 N μ2
    else
      tc_lt (tc_wr μ2 50 32 ((μ2 50 32) + 1)) fun μ3 =>
      tc_f7_next_86 N  n μ3
theorem tc_b7_next_86 (N : Nat) : ∀ (n : Nat) (μ : tc_Mem) (z : Int32 × tc_Mem), tc_f7_next_86 N n μ = some z → tc_At l G tc_i7_next none z.2 X 86 [(0, .ref (tc_ad G 50))] [] μ := by
  intro n
  induction n with
  | zero => intro  μ z h; cases h
  | succ n ih =>
    intro  μ z h
    rw [tc_f7_next_86] at h
    refine tc_aload_n tc_d7_next_86 0 rfl ?_
    obtain ⟨r1, μ2, e1, h⟩ := tc_bdS h
    have c1 := tc_c7_isLetterHere (l := l) (G := G) N e1
    refine tc_callVi (As := []) (rest := []) (r1 := r1) (μ1 := μ2) tc_d7_next_87 tc_ok7_isLetterHere tc_w1257 ⟨Nat.le_of_ble_eq_true rfl, Nat.le_of_ble_eq_true rfl⟩ tc_s7 rfl c1 rfl rfl (Nat.le_of_ble_eq_true rfl) ?_
    refine tc_if_eq (tgt := 106) tc_d7_next_90 (by decide) h (fun h => ?_) (fun h => ?_)
    · exact (tc_b7_next_106 N _ _) h
    · refine tc_aload_n tc_d7_next_93 0 rfl ?_
      refine tc_dup tc_d7_next_94 rfl ?_
      refine tc_g7_32 tc_d7_next_95 tc_w910 ?_
      refine tc_iconst (v := 1) tc_d7_next_98 (by decide) ?_
      refine tc_iadd tc_d7_next_99 ?_
      refine tc_p7_32 tc_d7_next_100 tc_w910 h (fun μ3 h => ?_)
      refine tc_goto (tgt := 86) tc_d7_next_103 (by decide) ?_
      exact (ih _ _) h
def tc_f7_next_52 (N : Nat) (μ : tc_Mem) : Option (Int32 × tc_Mem) :=
  tc_lt (tc_wr μ 50 34 (μ 50 32)) fun μ1 =>
  if (μ1 50 32) = (μ1 50 17) then
    tc_lt (tc_wr μ1 50 33 0) fun μ8 =>
    some (0, μ8)
  else
    tc_bd (tc_f7_isLetterHere N μ1) fun r2 μ3 =>
    if r2 = 0 then
      tc_bd (tc_f7_isDigitHere N μ3) fun r4 μ5 =>
      if r4 = 0 then
        tc_ck (μ5 50 32) 60 (
        if (μ5 63 (μ5 50 32).toNatClampNeg) = 59 then
          tc_f7_next_270 N 3 μ5
        else
          tc_f7_next_270 N 4 μ5)
      else
        tc_lt (tc_wr μ5 50 35 0) fun μ7 =>
        tc_f7_next_161 N N μ7
    else
      tc_f7_next_86 N N μ3
theorem tc_b7_next_52 (N : Nat) (μ : tc_Mem) (z : Int32 × tc_Mem) (h : tc_f7_next_52 N μ = some z) : tc_At l G tc_i7_next none z.2 X 52 [(0, .ref (tc_ad G 50))] [] μ := by
  unfold tc_f7_next_52 at h
  refine tc_aload_n tc_d7_next_52 0 rfl ?_
  refine tc_aload_n tc_d7_next_53 0 rfl ?_
  refine tc_g7_32 tc_d7_next_54 tc_w910 ?_
  refine tc_p7_34 tc_d7_next_57 tc_w912 h (fun μ1 h => ?_)
  refine tc_aload_n tc_d7_next_60 0 rfl ?_
  refine tc_g7_32 tc_d7_next_61 tc_w910 ?_
  refine tc_aload_n tc_d7_next_64 0 rfl ?_
  refine tc_g7_17 tc_d7_next_65 tc_w895 ?_
  refine tc_icmp_ne (tgt := 79) tc_d7_next_68 (by decide) h (fun h => ?_) (fun h => ?_)
  · refine tc_aload_n tc_d7_next_79 0 rfl ?_
    obtain ⟨r2, μ3, e2, h⟩ := tc_bdS h
    have c2 := tc_c7_isLetterHere (l := l) (G := G) N e2
    refine tc_callVi (As := []) (rest := []) (r1 := r2) (μ1 := μ3) tc_d7_next_80 tc_ok7_isLetterHere tc_w1257 ⟨Nat.le_of_ble_eq_true rfl, Nat.le_of_ble_eq_true rfl⟩ tc_s7 rfl c2 rfl rfl (Nat.le_of_ble_eq_true rfl) ?_
    refine tc_if_eq (tgt := 149) tc_d7_next_83 (by decide) h (fun h => ?_) (fun h => ?_)
    · refine tc_aload_n tc_d7_next_149 0 rfl ?_
      obtain ⟨r4, μ5, e4, h⟩ := tc_bdS h
      have c4 := tc_c7_isDigitHere (l := l) (G := G) N e4
      refine tc_callVi (As := []) (rest := []) (r1 := r4) (μ1 := μ5) tc_d7_next_150 tc_ok7_isDigitHere tc_w1278 ⟨Nat.le_of_ble_eq_true rfl, Nat.le_of_ble_eq_true rfl⟩ tc_s7 rfl c4 rfl rfl (Nat.le_of_ble_eq_true rfl) ?_
      refine tc_if_eq (tgt := 250) tc_d7_next_153 (by decide) h (fun h => ?_) (fun h => ?_)
      · refine tc_aload_n tc_d7_next_250 0 rfl ?_
        refine tc_aload_n tc_d7_next_251 0 rfl ?_
        refine tc_g7_16 tc_d7_next_252 tc_w894 ?_
        refine tc_aload_n tc_d7_next_255 0 rfl ?_
        refine tc_g7_32 tc_d7_next_256 tc_w910 ?_
        obtain ⟨hi6, h⟩ := tc_ckS h
        refine tc_iald tc_d7_next_259 tc_aL63 hi6 ?_
        refine tc_bipush (v := 59) tc_d7_next_260 (by decide) ?_
        refine tc_icmp_ne (tgt := 269) tc_d7_next_262 (by decide) h (fun h => ?_) (fun h => ?_)
        · refine tc_iconst (v := 4) tc_d7_next_269 (by decide) ?_
          exact (tc_b7_next_270 N _ _ _) h
        · refine tc_iconst (v := 3) tc_d7_next_265 (by decide) ?_
          refine tc_goto (tgt := 270) tc_d7_next_266 (by decide) ?_
          exact (tc_b7_next_270 N _ _ _) h
      · refine tc_aload_n tc_d7_next_156 0 rfl ?_
        refine tc_iconst (v := 0) tc_d7_next_157 (by decide) ?_
        refine tc_p7_35 tc_d7_next_158 tc_w913 h (fun μ7 h => ?_)
        exact (tc_b7_next_161 N N _ _) h
    · exact (tc_b7_next_86 N N _ _) h
  · refine tc_aload_n tc_d7_next_71 0 rfl ?_
    refine tc_iconst (v := 0) tc_d7_next_72 (by decide) ?_
    refine tc_p7_33 tc_d7_next_73 tc_w911 h (fun μ8 h => ?_)
    refine tc_goto (tgt := 283) tc_d7_next_76 (by decide) ?_
    exact tc_vret tc_d7_next_283 rfl (tc_rvS h)
def tc_f7_next_39 (N : Nat) (k0 : tc_Mem → Option (Int32 × tc_Mem)) (μ : tc_Mem) : Option (Int32 × tc_Mem) :=
  tc_lt (tc_wr μ 50 32 ((μ 50 32) + 1)) fun μ1 =>
  k0 μ1
theorem tc_b7_next_39 (N : Nat) {k0 : tc_Mem → Option (Int32 × tc_Mem)} (H0 : ∀ (μ : tc_Mem) (z : Int32 × tc_Mem), k0 μ = some z → tc_At l G tc_i7_next none z.2 X 0 [(0, .ref (tc_ad G 50))] [] μ) (μ : tc_Mem) (z : Int32 × tc_Mem) (h : tc_f7_next_39 N k0 μ = some z) : tc_At l G tc_i7_next none z.2 X 39 [(0, .ref (tc_ad G 50))] [] μ := by
  unfold tc_f7_next_39 at h
  refine tc_aload_n tc_d7_next_39 0 rfl ?_
  refine tc_dup tc_d7_next_40 rfl ?_
  refine tc_g7_32 tc_d7_next_41 tc_w910 ?_
  refine tc_iconst (v := 1) tc_d7_next_44 (by decide) ?_
  refine tc_iadd tc_d7_next_45 ?_
  refine tc_p7_32 tc_d7_next_46 tc_w910 h (fun μ1 h => ?_)
  refine tc_goto (tgt := 0) tc_d7_next_49 (by decide) ?_
  exact (H0 _ _) h
def tc_f7_next_0 (N : Nat) : Nat → tc_Mem → Option (Int32 × tc_Mem)
  | 0 => fun _ => none
  | n + 1 => fun μ => 
    if (μ 50 17) ≤ (μ 50 32) then
      tc_f7_next_52 N μ
    else
      tc_ck (μ 50 32) 60 (
      if (μ 63 (μ 50 32).toNatClampNeg) = 32 then
        tc_f7_next_39 N (tc_f7_next_0 N n) μ
      else
        tc_ck (μ 50 32) 60 (
        if (μ 63 (μ 50 32).toNatClampNeg) = 10 then
          tc_f7_next_39 N (tc_f7_next_0 N n) μ
        else
          tc_f7_next_52 N μ))
theorem tc_b7_next_0 (N : Nat) : ∀ (n : Nat) (μ : tc_Mem) (z : Int32 × tc_Mem), tc_f7_next_0 N n μ = some z → tc_At l G tc_i7_next none z.2 X 0 [(0, .ref (tc_ad G 50))] [] μ := by
  intro n
  induction n with
  | zero => intro  μ z h; cases h
  | succ n ih =>
    intro  μ z h
    rw [tc_f7_next_0] at h
    refine tc_aload_n tc_d7_next_0 0 rfl ?_
    refine tc_g7_32 tc_d7_next_1 tc_w910 ?_
    refine tc_aload_n tc_d7_next_4 0 rfl ?_
    refine tc_g7_17 tc_d7_next_5 tc_w895 ?_
    refine tc_icmp_ge (tgt := 52) tc_d7_next_8 (by decide) h (fun h => ?_) (fun h => ?_)
    · exact (tc_b7_next_52 N _ _) h
    · refine tc_aload_n tc_d7_next_11 0 rfl ?_
      refine tc_g7_16 tc_d7_next_12 tc_w894 ?_
      refine tc_aload_n tc_d7_next_15 0 rfl ?_
      refine tc_g7_32 tc_d7_next_16 tc_w910 ?_
      obtain ⟨hi1, h⟩ := tc_ckS h
      refine tc_iald tc_d7_next_19 tc_aL63 hi1 ?_
      refine tc_bipush (v := 32) tc_d7_next_20 (by decide) ?_
      refine tc_icmp_eq (tgt := 39) tc_d7_next_22 (by decide) h (fun h => ?_) (fun h => ?_)
      · exact (tc_b7_next_39 N ih _ _) h
      · refine tc_aload_n tc_d7_next_25 0 rfl ?_
        refine tc_g7_16 tc_d7_next_26 tc_w894 ?_
        refine tc_aload_n tc_d7_next_29 0 rfl ?_
        refine tc_g7_32 tc_d7_next_30 tc_w910 ?_
        obtain ⟨hi2, h⟩ := tc_ckS h
        refine tc_iald tc_d7_next_33 tc_aL63 hi2 ?_
        refine tc_bipush (v := 10) tc_d7_next_34 (by decide) ?_
        refine tc_icmp_ne (tgt := 52) tc_d7_next_36 (by decide) h (fun h => ?_) (fun h => ?_)
        · exact (tc_b7_next_52 N _ _) h
        · exact (tc_b7_next_39 N ih _ _) h
def tc_f7_next (N : Nat) (μ : tc_Mem) : Option (Int32 × tc_Mem) :=
  tc_f7_next_0 N N μ
theorem tc_b7_next_E (N : Nat) (μ : tc_Mem) (z : Int32 × tc_Mem) (h : tc_f7_next N μ = some z) : tc_At l G tc_i7_next none z.2 X 0 [(0, .ref (tc_ad G 50))] [] μ := by
  unfold tc_f7_next at h
  exact (tc_b7_next_0 N N _ _) h
theorem tc_c7_next (N : Nat) {μ : tc_Mem} {z : Int32 × tc_Mem} (h : tc_f7_next N μ = some z) : tc_Con l G tc_i7_next [.ref (tc_ad G 50)] μ none z.2 :=
  tc_Con.of (L := [(0, .ref (tc_ad G 50))]) (by decide) (Nat.le_of_ble_eq_true rfl) rfl (fun X => tc_b7_next_E N  _ _ h)
def tc_f7_reads_19 (N : Nat) (μ : tc_Mem) : Option (Int32 × tc_Mem) :=
  some (((-100) - (μ 50 34)), μ)
theorem tc_b7_reads_19 (N : Nat) (μ : tc_Mem) (z : Int32 × tc_Mem) (h : tc_f7_reads_19 N μ = some z) : tc_At l G tc_i7_reads (some (.int z.1)) z.2 X 19 [(0, .ref (tc_ad G 50))] [] μ := by
  unfold tc_f7_reads_19 at h
  refine tc_bipush (v := (-100)) tc_d7_reads_19 (by decide) ?_
  refine tc_aload_n tc_d7_reads_21 0 rfl ?_
  refine tc_g7_34 tc_d7_reads_22 tc_w912 ?_
  refine tc_isub tc_d7_reads_25 ?_
  exact tc_iret tc_d7_reads_26 rfl (tc_riS h)
def tc_f7_reads_56 (N : Nat) (μ : tc_Mem) : Option (Int32 × tc_Mem) :=
  some (((-100) - (μ 50 34)), μ)
theorem tc_b7_reads_56 (N : Nat) (μ : tc_Mem) (z : Int32 × tc_Mem) (h : tc_f7_reads_56 N μ = some z) : tc_At l G tc_i7_reads (some (.int z.1)) z.2 X 56 [(0, .ref (tc_ad G 50))] [] μ := by
  unfold tc_f7_reads_56 at h
  refine tc_bipush (v := (-100)) tc_d7_reads_56 (by decide) ?_
  refine tc_aload_n tc_d7_reads_58 0 rfl ?_
  refine tc_g7_34 tc_d7_reads_59 tc_w912 ?_
  refine tc_isub tc_d7_reads_62 ?_
  exact tc_iret tc_d7_reads_63 rfl (tc_riS h)
def tc_f7_reads_122 (N : Nat) (μ : tc_Mem) : Option (Int32 × tc_Mem) :=
  some (((-100) - (μ 50 34)), μ)
theorem tc_b7_reads_122 (N : Nat) (μ : tc_Mem) (z : Int32 × tc_Mem) (h : tc_f7_reads_122 N μ = some z) : tc_At l G tc_i7_reads (some (.int z.1)) z.2 X 122 [(0, .ref (tc_ad G 50))] [] μ := by
  unfold tc_f7_reads_122 at h
  refine tc_bipush (v := (-100)) tc_d7_reads_122 (by decide) ?_
  refine tc_aload_n tc_d7_reads_124 0 rfl ?_
  refine tc_g7_34 tc_d7_reads_125 tc_w912 ?_
  refine tc_isub tc_d7_reads_128 ?_
  exact tc_iret tc_d7_reads_129 rfl (tc_riS h)
def tc_f7_reads_99 (N : Nat) (k7 : Int32 → Int32 → tc_Mem → Option (Int32 × tc_Mem)) (x1 : Int32) (s0 : Int32) (s1 : Int32) (μ : tc_Mem) : Option (Int32 × tc_Mem) :=
  tc_lt (s0 + s1) fun v1 =>
  tc_bd (tc_f7_next N μ) fun _ μ3 =>
  if (μ3 50 33) = 0 then
    some (v1, μ3)
  else
    if (μ3 50 33) = 3 then
      k7 x1 v1 μ3
    else
      tc_f7_reads_122 N μ3
theorem tc_b7_reads_99 (N : Nat) {k7 : Int32 → Int32 → tc_Mem → Option (Int32 × tc_Mem)} (H7 : ∀ (x1 : Int32) (x2 : Int32) (μ : tc_Mem) (z : Int32 × tc_Mem), k7 x1 x2 μ = some z → tc_At l G tc_i7_reads (some (.int z.1)) z.2 X 7 [(0, .ref (tc_ad G 50)), (1, .int x1), (2, .int x2)] [] μ) (x1 : Int32) (s0 : Int32) (s1 : Int32) (μ : tc_Mem) (z : Int32 × tc_Mem) (h : tc_f7_reads_99 N k7 x1 s0 s1 μ = some z) : tc_At l G tc_i7_reads (some (.int z.1)) z.2 X 99 [(0, .ref (tc_ad G 50)), (1, .int x1)] [.int s1, .int s0] μ := by
  unfold tc_f7_reads_99 at h
  refine tc_iadd tc_d7_reads_99 ?_
  refine tc_ltI h (fun v1 h => ?_)
  refine tc_istore_n (L' := [(2, .int v1), (0, .ref (tc_ad G 50)), (1, .int x1)]) tc_d7_reads_100 (by decide) rfl ?_
  refine tc_aload_n tc_d7_reads_101 1 rfl ?_
  obtain ⟨r2, μ3, e2, h⟩ := tc_bdS h
  have c2 := tc_c7_next (l := l) (G := G) N e2
  refine tc_callVv (As := []) (rest := []) (μ1 := μ3) tc_d7_reads_102 tc_ok7_next tc_w1253 ⟨Nat.le_of_ble_eq_true rfl, Nat.le_of_ble_eq_true rfl⟩ tc_s7 rfl c2 rfl rfl (Nat.le_of_ble_eq_true rfl) ?_
  refine tc_aload_n tc_d7_reads_105 1 rfl ?_
  refine tc_g7_33 tc_d7_reads_106 tc_w911 ?_
  refine tc_if_ne (tgt := 114) tc_d7_reads_109 (by decide) h (fun h => ?_) (fun h => ?_)
  · refine tc_aload_n tc_d7_reads_114 1 rfl ?_
    refine tc_g7_33 tc_d7_reads_115 tc_w911 ?_
    refine tc_iconst (v := 3) tc_d7_reads_118 (by decide) ?_
    refine tc_icmp_eq (tgt := 130) tc_d7_reads_119 (by decide) h (fun h => ?_) (fun h => ?_)
    · refine tc_goto (tgt := 7) tc_d7_reads_130 (by decide) ?_
      refine tc_sub [1, 2, 0] rfl ?_
      exact (H7 _ _ _ _) h
    · refine tc_sub [1] rfl ?_
      exact (tc_b7_reads_122 N _ _) h
  · refine tc_iload_n tc_d7_reads_112 0 rfl ?_
    exact tc_iret tc_d7_reads_113 rfl (tc_riS h)
def tc_f7_reads_98 (N : Nat) (k7 : Int32 → Int32 → tc_Mem → Option (Int32 × tc_Mem)) (x1 : Int32) (s0 : Int32) (μ : tc_Mem) : Option (Int32 × tc_Mem) :=
  tc_f7_reads_99 N k7 x1 s0 0 μ
theorem tc_b7_reads_98 (N : Nat) {k7 : Int32 → Int32 → tc_Mem → Option (Int32 × tc_Mem)} (H7 : ∀ (x1 : Int32) (x2 : Int32) (μ : tc_Mem) (z : Int32 × tc_Mem), k7 x1 x2 μ = some z → tc_At l G tc_i7_reads (some (.int z.1)) z.2 X 7 [(0, .ref (tc_ad G 50)), (1, .int x1), (2, .int x2)] [] μ) (x1 : Int32) (s0 : Int32) (μ : tc_Mem) (z : Int32 × tc_Mem) (h : tc_f7_reads_98 N k7 x1 s0 μ = some z) : tc_At l G tc_i7_reads (some (.int z.1)) z.2 X 98 [(0, .ref (tc_ad G 50)), (1, .int x1)] [.int s0] μ := by
  unfold tc_f7_reads_98 at h
  refine tc_iconst (v := 0) tc_d7_reads_98 (by decide) ?_
  exact (tc_b7_reads_99 N H7 _ _ _ _ _) h
def tc_f7_reads_81 (N : Nat) (k7 : Int32 → Int32 → tc_Mem → Option (Int32 × tc_Mem)) (x1 : Int32) (x2 : Int32) (x3 : Int32) (μ : tc_Mem) : Option (Int32 × tc_Mem) :=
  if x1 = 0 then
    tc_f7_reads_98 N k7 x1 x2 μ
  else
    tc_bd (tc_f7_does N x3 μ) fun r1 μ2 =>
    if r1 = 0 then
      tc_f7_reads_98 N k7 x1 x2 μ2
    else
      tc_f7_reads_99 N k7 x1 x2 1 μ2
theorem tc_b7_reads_81 (N : Nat) {k7 : Int32 → Int32 → tc_Mem → Option (Int32 × tc_Mem)} (H7 : ∀ (x1 : Int32) (x2 : Int32) (μ : tc_Mem) (z : Int32 × tc_Mem), k7 x1 x2 μ = some z → tc_At l G tc_i7_reads (some (.int z.1)) z.2 X 7 [(0, .ref (tc_ad G 50)), (1, .int x1), (2, .int x2)] [] μ) (x1 : Int32) (x2 : Int32) (x3 : Int32) (μ : tc_Mem) (z : Int32 × tc_Mem) (h : tc_f7_reads_81 N k7 x1 x2 x3 μ = some z) : tc_At l G tc_i7_reads (some (.int z.1)) z.2 X 81 [(0, .ref (tc_ad G 50)), (1, .int x1), (2, .int x2), (3, .int x3)] [] μ := by
  unfold tc_f7_reads_81 at h
  refine tc_iload_n tc_d7_reads_81 2 rfl ?_
  refine tc_iload_n tc_d7_reads_82 1 rfl ?_
  refine tc_if_eq (tgt := 98) tc_d7_reads_83 (by decide) h (fun h => ?_) (fun h => ?_)
  · refine tc_sub [0, 1] rfl ?_
    exact (tc_b7_reads_98 N H7 _ _ _ _) h
  · refine tc_aload_n tc_d7_reads_86 0 rfl ?_
    refine tc_iload_n tc_d7_reads_87 3 rfl ?_
    obtain ⟨r1, μ2, e1, h⟩ := tc_bdS h
    have c1 := tc_c7_does (l := l) (G := G) N e1
    refine tc_callVi (As := [.int x3]) (rest := [.int x2]) (r1 := r1) (μ1 := μ2) tc_d7_reads_88 tc_ok7_does tc_w1285 ⟨Nat.le_of_ble_eq_true rfl, Nat.le_of_ble_eq_true rfl⟩ tc_s7 rfl c1 rfl rfl (Nat.le_of_ble_eq_true rfl) ?_
    refine tc_if_eq (tgt := 98) tc_d7_reads_91 (by decide) h (fun h => ?_) (fun h => ?_)
    · refine tc_sub [0, 1] rfl ?_
      exact (tc_b7_reads_98 N H7 _ _ _ _) h
    · refine tc_iconst (v := 1) tc_d7_reads_94 (by decide) ?_
      refine tc_goto (tgt := 99) tc_d7_reads_95 (by decide) ?_
      refine tc_sub [0, 1] rfl ?_
      exact (tc_b7_reads_99 N H7 _ _ _ _ _) h
def tc_f7_reads_35 (N : Nat) (k7 : Int32 → Int32 → tc_Mem → Option (Int32 × tc_Mem)) : Nat → Int32 → Int32 → Int32 → Int32 → tc_Mem → Option (Int32 × tc_Mem)
  | 0 => fun _ _ _ _ _ => none
  | n + 1 => fun x1 x2 x3 x4 μ => 
    tc_bd (tc_f7_numbersOf N x3 μ) fun r1 μ2 =>
    if r1 ≤ x4 then
      tc_f7_reads_81 N k7 x1 x2 x3 μ2
    else
      tc_bd (tc_f7_next N μ2) fun _ μ4 =>
      if (μ4 50 33) = 2 then
        tc_ck x4 4 (
        tc_lt (tc_wr μ4 75 x4.toNatClampNeg (μ4 50 35)) fun μ6 =>
        tc_f7_reads_35 N k7 n x1 x2 x3 (x4 + 1) μ6)
      else
        tc_f7_reads_56 N μ4
theorem tc_b7_reads_35 (N : Nat) {k7 : Int32 → Int32 → tc_Mem → Option (Int32 × tc_Mem)} (H7 : ∀ (x1 : Int32) (x2 : Int32) (μ : tc_Mem) (z : Int32 × tc_Mem), k7 x1 x2 μ = some z → tc_At l G tc_i7_reads (some (.int z.1)) z.2 X 7 [(0, .ref (tc_ad G 50)), (1, .int x1), (2, .int x2)] [] μ) : ∀ (n : Nat) (x1 : Int32) (x2 : Int32) (x3 : Int32) (x4 : Int32) (μ : tc_Mem) (z : Int32 × tc_Mem), tc_f7_reads_35 N k7 n x1 x2 x3 x4 μ = some z → tc_At l G tc_i7_reads (some (.int z.1)) z.2 X 35 [(0, .ref (tc_ad G 50)), (1, .int x1), (2, .int x2), (3, .int x3), (4, .int x4)] [] μ := by
  intro n
  induction n with
  | zero => intro x1 x2 x3 x4 μ z h; cases h
  | succ n ih =>
    intro x1 x2 x3 x4 μ z h
    rw [tc_f7_reads_35] at h
    refine tc_iload tc_d7_reads_35 4 rfl ?_
    refine tc_iload_n tc_d7_reads_37 3 rfl ?_
    obtain ⟨r1, μ2, e1, h⟩ := tc_bdS h
    have c1 := tc_c7_numbersOf (l := l) (G := G) N e1
    refine tc_callSi (As := [.int x3]) (rest := [.int x4]) (r1 := r1) (μ1 := μ2) tc_d7_reads_38 tc_ok7_numbersOf tc_w1282 ⟨Nat.le_of_ble_eq_true rfl, Nat.le_of_ble_eq_true rfl⟩ c1 rfl rfl (Nat.le_of_ble_eq_true rfl) ?_
    refine tc_icmp_ge (tgt := 81) tc_d7_reads_41 (by decide) h (fun h => ?_) (fun h => ?_)
    · refine tc_sub [0, 1, 2, 3] rfl ?_
      exact (tc_b7_reads_81 N H7 _ _ _ _ _) h
    · refine tc_aload_n tc_d7_reads_44 0 rfl ?_
      obtain ⟨r3, μ4, e3, h⟩ := tc_bdS h
      have c3 := tc_c7_next (l := l) (G := G) N e3
      refine tc_callVv (As := []) (rest := []) (μ1 := μ4) tc_d7_reads_45 tc_ok7_next tc_w1253 ⟨Nat.le_of_ble_eq_true rfl, Nat.le_of_ble_eq_true rfl⟩ tc_s7 rfl c3 rfl rfl (Nat.le_of_ble_eq_true rfl) ?_
      refine tc_aload_n tc_d7_reads_48 0 rfl ?_
      refine tc_g7_33 tc_d7_reads_49 tc_w911 ?_
      refine tc_iconst (v := 2) tc_d7_reads_52 (by decide) ?_
      refine tc_icmp_eq (tgt := 64) tc_d7_reads_53 (by decide) h (fun h => ?_) (fun h => ?_)
      · refine tc_aload_n tc_d7_reads_64 0 rfl ?_
        refine tc_g7_36 tc_d7_reads_65 tc_w914 ?_
        refine tc_iload tc_d7_reads_68 4 rfl ?_
        refine tc_aload_n tc_d7_reads_70 0 rfl ?_
        refine tc_g7_35 tc_d7_reads_71 tc_w913 ?_
        obtain ⟨hi5, h⟩ := tc_ckS h
        refine tc_iastL tc_d7_reads_74 tc_aL75 hi5 h (fun μ6 h => ?_)
        refine tc_iinc (v := (x4 + 1)) (L' := [(4, .int (x4 + 1)), (0, .ref (tc_ad G 50)), (1, .int x1), (2, .int x2), (3, .int x3)]) tc_d7_reads_75 4 rfl rfl (by decide) rfl ?_
        refine tc_goto (tgt := 35) tc_d7_reads_78 (by decide) ?_
        refine tc_sub [1, 2, 3, 4, 0] rfl ?_
        exact (ih _ _ _ _ _ _) h
      · refine tc_sub [0] rfl ?_
        exact (tc_b7_reads_56 N _ _) h
def tc_f7_reads_7 (N : Nat) : Nat → Int32 → Int32 → tc_Mem → Option (Int32 × tc_Mem)
  | 0 => fun _ _ _ => none
  | n + 1 => fun x1 x2 μ => 
    tc_bd (tc_f7_next N μ) fun _ μ2 =>
    if (μ2 50 33) = 1 then
      tc_lt (μ2 50 35) fun v3 =>
      tc_f7_reads_35 N (tc_f7_reads_7 N n) N x1 x2 v3 0 μ2
    else
      tc_f7_reads_19 N μ2
theorem tc_b7_reads_7 (N : Nat) : ∀ (n : Nat) (x1 : Int32) (x2 : Int32) (μ : tc_Mem) (z : Int32 × tc_Mem), tc_f7_reads_7 N n x1 x2 μ = some z → tc_At l G tc_i7_reads (some (.int z.1)) z.2 X 7 [(0, .ref (tc_ad G 50)), (1, .int x1), (2, .int x2)] [] μ := by
  intro n
  induction n with
  | zero => intro x1 x2 μ z h; cases h
  | succ n ih =>
    intro x1 x2 μ z h
    rw [tc_f7_reads_7] at h
    refine tc_aload_n tc_d7_reads_7 0 rfl ?_
    obtain ⟨r1, μ2, e1, h⟩ := tc_bdS h
    have c1 := tc_c7_next (l := l) (G := G) N e1
    refine tc_callVv (As := []) (rest := []) (μ1 := μ2) tc_d7_reads_8 tc_ok7_next tc_w1253 ⟨Nat.le_of_ble_eq_true rfl, Nat.le_of_ble_eq_true rfl⟩ tc_s7 rfl c1 rfl rfl (Nat.le_of_ble_eq_true rfl) ?_
    refine tc_aload_n tc_d7_reads_11 0 rfl ?_
    refine tc_g7_33 tc_d7_reads_12 tc_w911 ?_
    refine tc_iconst (v := 1) tc_d7_reads_15 (by decide) ?_
    refine tc_icmp_eq (tgt := 27) tc_d7_reads_16 (by decide) h (fun h => ?_) (fun h => ?_)
    · refine tc_aload_n tc_d7_reads_27 0 rfl ?_
      refine tc_g7_35 tc_d7_reads_28 tc_w913 ?_
      refine tc_ltI h (fun v3 h => ?_)
      refine tc_istore_n (L' := [(3, .int v3), (0, .ref (tc_ad G 50)), (1, .int x1), (2, .int x2)]) tc_d7_reads_31 (by decide) rfl ?_
      refine tc_iconst (v := 0) tc_d7_reads_32 (by decide) ?_
      refine tc_istore (L' := [(4, .int 0), (3, .int v3), (0, .ref (tc_ad G 50)), (1, .int x1), (2, .int x2)]) tc_d7_reads_33 (by decide) rfl ?_
      refine tc_sub [2, 3, 4, 1, 0] rfl ?_
      exact (tc_b7_reads_35 N ih N _ _ _ _ _ _) h
    · refine tc_sub [0] rfl ?_
      exact (tc_b7_reads_19 N _ _) h
def tc_f7_reads (N : Nat) (x1 : Int32) (μ : tc_Mem) : Option (Int32 × tc_Mem) :=
  tc_lt (tc_wr μ 50 32 0) fun μ1 =>
  tc_f7_reads_7 N N x1 0 μ1
theorem tc_b7_reads_0 (N : Nat) (x1 : Int32) (μ : tc_Mem) (z : Int32 × tc_Mem) (h : tc_f7_reads N x1 μ = some z) : tc_At l G tc_i7_reads (some (.int z.1)) z.2 X 0 [(0, .ref (tc_ad G 50)), (1, .int x1)] [] μ := by
  unfold tc_f7_reads at h
  refine tc_aload_n tc_d7_reads_0 0 rfl ?_
  refine tc_iconst (v := 0) tc_d7_reads_1 (by decide) ?_
  refine tc_p7_32 tc_d7_reads_2 tc_w910 h (fun μ1 h => ?_)
  refine tc_iconst (v := 0) tc_d7_reads_5 (by decide) ?_
  refine tc_istore_n (L' := [(2, .int 0), (0, .ref (tc_ad G 50)), (1, .int x1)]) tc_d7_reads_6 (by decide) rfl ?_
  refine tc_sub [1, 2, 0] rfl ?_
  exact (tc_b7_reads_7 N N _ _ _ _) h
theorem tc_c7_reads (N : Nat) {x1 : Int32} {μ : tc_Mem} {z : Int32 × tc_Mem} (h : tc_f7_reads N x1 μ = some z) : tc_Con l G tc_i7_reads [.ref (tc_ad G 50), .int x1] μ (some (.int z.1)) z.2 :=
  tc_Con.of (L := [(0, .ref (tc_ad G 50)), (1, .int x1)]) (by decide) (Nat.le_of_ble_eq_true rfl) rfl (fun X => tc_b7_reads_0 N  _ _ _ h)
def tc_f7_text_16 (N : Nat) (x1 : Int32) (μ : tc_Mem) : Option (Int32 × tc_Mem) :=
  tc_lt (tc_wr μ 50 17 0) fun μ1 =>
  some (x1, μ1)
theorem tc_b7_text_16 (N : Nat) (x1 : Int32) (μ : tc_Mem) (z : Int32 × tc_Mem) (h : tc_f7_text_16 N x1 μ = some z) : tc_At l G tc_i7_text (some (.int z.1)) z.2 X 16 [(0, .ref (tc_ad G 50)), (1, .int x1)] [] μ := by
  unfold tc_f7_text_16 at h
  refine tc_aload_n tc_d7_text_16 0 rfl ?_
  refine tc_iconst (v := 0) tc_d7_text_17 (by decide) ?_
  refine tc_p7_17 tc_d7_text_18 tc_w895 h (fun μ1 h => ?_)
  refine tc_iload_n tc_d7_text_21 1 rfl ?_
  exact tc_iret tc_d7_text_22 rfl (tc_riS h)
def tc_f7_text (N : Nat) (μ : tc_Mem) : Option (Int32 × tc_Mem) :=
  tc_bd (tc_f7_reads N 0 μ) fun r1 μ2 =>
  if r1 < 0 then
    tc_f7_text_16 N r1 μ2
  else
    tc_bd (tc_f7_reads N 1 μ2) fun r3 μ4 =>
    tc_f7_text_16 N r3 μ4
theorem tc_b7_text_0 (N : Nat) (μ : tc_Mem) (z : Int32 × tc_Mem) (h : tc_f7_text N μ = some z) : tc_At l G tc_i7_text (some (.int z.1)) z.2 X 0 [(0, .ref (tc_ad G 50))] [] μ := by
  unfold tc_f7_text at h
  refine tc_aload_n tc_d7_text_0 0 rfl ?_
  refine tc_iconst (v := 0) tc_d7_text_1 (by decide) ?_
  obtain ⟨r1, μ2, e1, h⟩ := tc_bdS h
  have c1 := tc_c7_reads (l := l) (G := G) N e1
  refine tc_callVi (As := [.int 0]) (rest := []) (r1 := r1) (μ1 := μ2) tc_d7_text_2 tc_ok7_reads tc_w1249 ⟨Nat.le_of_ble_eq_true rfl, Nat.le_of_ble_eq_true rfl⟩ tc_s7 rfl c1 rfl rfl (Nat.le_of_ble_eq_true rfl) ?_
  refine tc_istore_n (L' := [(1, .int r1), (0, .ref (tc_ad G 50))]) tc_d7_text_5 (by decide) rfl ?_
  refine tc_iload_n tc_d7_text_6 0 rfl ?_
  refine tc_if_lt (tgt := 16) tc_d7_text_7 (by decide) h (fun h => ?_) (fun h => ?_)
  · refine tc_sub [1, 0] rfl ?_
    exact (tc_b7_text_16 N _ _ _) h
  · refine tc_aload_n tc_d7_text_10 1 rfl ?_
    refine tc_iconst (v := 1) tc_d7_text_11 (by decide) ?_
    obtain ⟨r3, μ4, e3, h⟩ := tc_bdS h
    have c3 := tc_c7_reads (l := l) (G := G) N e3
    refine tc_callVi (As := [.int 1]) (rest := []) (r1 := r3) (μ1 := μ4) tc_d7_text_12 tc_ok7_reads tc_w1249 ⟨Nat.le_of_ble_eq_true rfl, Nat.le_of_ble_eq_true rfl⟩ tc_s7 rfl c3 rfl rfl (Nat.le_of_ble_eq_true rfl) ?_
    refine tc_istore_n (L' := [(1, .int r3), (0, .ref (tc_ad G 50))]) tc_d7_text_15 (by decide) rfl ?_
    refine tc_sub [1, 0] rfl ?_
    exact (tc_b7_text_16 N _ _ _) h
theorem tc_c7_text (N : Nat) {μ : tc_Mem} {z : Int32 × tc_Mem} (h : tc_f7_text N μ = some z) : tc_Con l G tc_i7_text [.ref (tc_ad G 50)] μ (some (.int z.1)) z.2 :=
  tc_Con.of (L := [(0, .ref (tc_ad G 50))]) (by decide) (Nat.le_of_ble_eq_true rfl) rfl (fun X => tc_b7_text_0 N  _ _ h)
end WALK
