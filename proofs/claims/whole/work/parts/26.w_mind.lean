section WALK
variable {l : Launch} {G : tc_G} {X : tc_X}
def tc_f2_clearing_13 (N : Nat) : Nat → Int32 → Int32 → tc_Mem → Option (Int32 × tc_Mem)
  | 0 => fun _ _ _ => none
  | n + 1 => fun x1 x2 μ => 
    if (20 : Int32) < x2 then
      some ((-1), μ)
    else
      tc_bd (tc_f0_passes N 39 28 μ) fun r1 μ2 =>
      if r1 = 0 then
        some ((-1), μ2)
      else
        tc_bd (tc_f5_relay N 28 x1 μ2) fun r3 μ4 =>
        if r3 = 1 then
          some (x2, μ4)
        else
          tc_f2_clearing_13 N  n x1 (x2 + 1) μ4
theorem tc_b2_clearing_13 (N : Nat) : ∀ (n : Nat) (x1 : Int32) (x2 : Int32) (μ : tc_Mem) (z : Int32 × tc_Mem), tc_f2_clearing_13 N n x1 x2 μ = some z → tc_At l G tc_i2_clearing (some (.int z.1)) z.2 X 13 [(0, .ref (tc_ad G 27)), (1, .int x1), (2, .int x2)] [] μ := by
  intro n
  induction n with
  | zero => intro x1 x2 μ z h; cases h
  | succ n ih =>
    intro x1 x2 μ z h
    rw [tc_f2_clearing_13] at h
    refine tc_iload_n tc_d2_clearing_13 2 rfl ?_
    refine tc_bipush (v := 20) tc_d2_clearing_14 (by decide) ?_
    refine tc_icmp_gt (tgt := 55) tc_d2_clearing_16 (by decide) h (fun h => ?_) (fun h => ?_)
    · refine tc_iconst (v := (-1)) tc_d2_clearing_55 (by decide) ?_
      exact tc_iret tc_d2_clearing_56 rfl (tc_riS h)
    · refine tc_aload_n tc_d2_clearing_19 0 rfl ?_
      refine tc_g2_2 tc_d2_clearing_20 tc_w213 ?_
      refine tc_aload_n tc_d2_clearing_23 0 rfl ?_
      refine tc_g2_1 tc_d2_clearing_24 tc_w212 ?_
      obtain ⟨r1, μ2, e1, h⟩ := tc_bdS h
      have c1 := tc_c0_passes (l := l) (G := G) N tc_A39 tc_Y28 e1
      refine tc_callVi (As := [.ref (tc_ad G 28)]) (rest := []) (r1 := r1) (μ1 := μ2) tc_d2_clearing_27 tc_ok0_passes tc_w537 ⟨Nat.le_of_ble_eq_true rfl, Nat.le_of_ble_eq_true rfl⟩ tc_s0_39 rfl c1 rfl rfl (Nat.le_of_ble_eq_true rfl) ?_
      refine tc_if_ne (tgt := 35) tc_d2_clearing_30 (by decide) h (fun h => ?_) (fun h => ?_)
      · refine tc_aload_n tc_d2_clearing_35 0 rfl ?_
        refine tc_g2_1 tc_d2_clearing_36 tc_w212 ?_
        refine tc_iload_n tc_d2_clearing_39 1 rfl ?_
        obtain ⟨r3, μ4, e3, h⟩ := tc_bdS h
        have c3 := tc_c5_relay (l := l) (G := G) N tc_Y28 e3
        refine tc_callVi (As := [.int x1]) (rest := []) (r1 := r3) (μ1 := μ4) tc_d2_clearing_40 tc_ok5_relay tc_w554 ⟨Nat.le_of_ble_eq_true rfl, Nat.le_of_ble_eq_true rfl⟩ tc_s5_28 rfl c3 rfl rfl (Nat.le_of_ble_eq_true rfl) ?_
        refine tc_iconst (v := 1) tc_d2_clearing_43 (by decide) ?_
        refine tc_icmp_ne (tgt := 49) tc_d2_clearing_44 (by decide) h (fun h => ?_) (fun h => ?_)
        · refine tc_iinc (v := (x2 + 1)) (L' := [(2, .int (x2 + 1)), (0, .ref (tc_ad G 27)), (1, .int x1)]) tc_d2_clearing_49 2 rfl rfl (by decide) rfl ?_
          refine tc_goto (tgt := 13) tc_d2_clearing_52 (by decide) ?_
          refine tc_sub [1, 2, 0] rfl ?_
          exact (ih _ _ _ _) h
        · refine tc_iload_n tc_d2_clearing_47 2 rfl ?_
          exact tc_iret tc_d2_clearing_48 rfl (tc_riS h)
      · refine tc_iconst (v := (-1)) tc_d2_clearing_33 (by decide) ?_
        exact tc_iret tc_d2_clearing_34 rfl (tc_riS h)
def tc_f2_clearing (N : Nat) (x1 : Int32) (μ : tc_Mem) : Option (Int32 × tc_Mem) :=
  tc_bd (tc_f5_become N 28 1 μ) fun _ μ2 =>
  tc_f2_clearing_13 N N x1 1 μ2
theorem tc_b2_clearing_0 (N : Nat) (x1 : Int32) (μ : tc_Mem) (z : Int32 × tc_Mem) (h : tc_f2_clearing N x1 μ = some z) : tc_At l G tc_i2_clearing (some (.int z.1)) z.2 X 0 [(0, .ref (tc_ad G 27)), (1, .int x1)] [] μ := by
  unfold tc_f2_clearing at h
  refine tc_aload_n tc_d2_clearing_0 0 rfl ?_
  refine tc_g2_1 tc_d2_clearing_1 tc_w212 ?_
  refine tc_aload_n tc_d2_clearing_4 0 rfl ?_
  refine tc_g2_0 tc_d2_clearing_5 tc_w211 ?_
  obtain ⟨r1, μ2, e1, h⟩ := tc_bdS h
  have c1 := tc_c5_become (l := l) (G := G) N tc_Y28 tc_Y1 e1
  refine tc_callVv (As := [.ref (tc_ad G 1)]) (rest := []) (μ1 := μ2) tc_d2_clearing_8 tc_ok5_become tc_w528 ⟨Nat.le_of_ble_eq_true rfl, Nat.le_of_ble_eq_true rfl⟩ tc_s5_28 rfl c1 rfl rfl (Nat.le_of_ble_eq_true rfl) ?_
  refine tc_iconst (v := 1) tc_d2_clearing_11 (by decide) ?_
  refine tc_istore_n (L' := [(2, .int 1), (0, .ref (tc_ad G 27)), (1, .int x1)]) tc_d2_clearing_12 (by decide) rfl ?_
  refine tc_sub [1, 2, 0] rfl ?_
  exact (tc_b2_clearing_13 N N _ _ _ _) h
theorem tc_c2_clearing (N : Nat) {x1 : Int32} {μ : tc_Mem} {z : Int32 × tc_Mem} (h : tc_f2_clearing N x1 μ = some z) : tc_Con l G tc_i2_clearing [.ref (tc_ad G 27), .int x1] μ (some (.int z.1)) z.2 :=
  tc_Con.of (L := [(0, .ref (tc_ad G 27)), (1, .int x1)]) (by decide) (Nat.le_of_ble_eq_true rfl) rfl (fun X => tc_b2_clearing_0 N  _ _ _ h)
def tc_f2_layCaseFault (N : Nat) (x1 : Int32) (x2 : Int32) (μ : tc_Mem) : Option (Int32 × tc_Mem) :=
  tc_bd (tc_f5_become N 28 1 μ) fun _ μ2 =>
  tc_lt (tc_wr μ2 28 10 x2) fun μ3 =>
  if x1 ≤ 0 then
    some (0, μ3)
  else
    tc_bd (tc_f5_addFault N 28 ((x1 - 1) - (x1 - 1) / 4 * 4) ((x1 - 1) / 4) μ3) fun _ μ5 =>
    some (0, μ5)
theorem tc_b2_layCaseFault_0 (N : Nat) (x1 : Int32) (x2 : Int32) (μ : tc_Mem) (z : Int32 × tc_Mem) (h : tc_f2_layCaseFault N x1 x2 μ = some z) : tc_At l G tc_i2_layCaseFault none z.2 X 0 [(0, .ref (tc_ad G 27)), (1, .int x1), (2, .int x2)] [] μ := by
  unfold tc_f2_layCaseFault at h
  refine tc_aload_n tc_d2_layCaseFault_0 0 rfl ?_
  refine tc_g2_1 tc_d2_layCaseFault_1 tc_w212 ?_
  refine tc_aload_n tc_d2_layCaseFault_4 0 rfl ?_
  refine tc_g2_0 tc_d2_layCaseFault_5 tc_w211 ?_
  obtain ⟨r1, μ2, e1, h⟩ := tc_bdS h
  have c1 := tc_c5_become (l := l) (G := G) N tc_Y28 tc_Y1 e1
  refine tc_callVv (As := [.ref (tc_ad G 1)]) (rest := []) (μ1 := μ2) tc_d2_layCaseFault_8 tc_ok5_become tc_w528 ⟨Nat.le_of_ble_eq_true rfl, Nat.le_of_ble_eq_true rfl⟩ tc_s5_28 rfl c1 rfl rfl (Nat.le_of_ble_eq_true rfl) ?_
  refine tc_aload_n tc_d2_layCaseFault_11 0 rfl ?_
  refine tc_g2_1 tc_d2_layCaseFault_12 tc_w212 ?_
  refine tc_iload_n tc_d2_layCaseFault_15 2 rfl ?_
  refine tc_p5_10_28 tc_d2_layCaseFault_16 tc_w141 h (fun μ3 h => ?_)
  refine tc_iload_n tc_d2_layCaseFault_19 1 rfl ?_
  refine tc_if_le (tgt := 40) tc_d2_layCaseFault_20 (by decide) h (fun h => ?_) (fun h => ?_)
  · exact tc_vret tc_d2_layCaseFault_40 rfl (tc_rvS h)
  · refine tc_aload_n tc_d2_layCaseFault_23 0 rfl ?_
    refine tc_g2_1 tc_d2_layCaseFault_24 tc_w212 ?_
    refine tc_iload_n tc_d2_layCaseFault_27 1 rfl ?_
    refine tc_iconst (v := 1) tc_d2_layCaseFault_28 (by decide) ?_
    refine tc_isub tc_d2_layCaseFault_29 ?_
    refine tc_iconst (v := 4) tc_d2_layCaseFault_30 (by decide) ?_
    refine tc_irem tc_d2_layCaseFault_31 (by decide) ?_
    refine tc_iload_n tc_d2_layCaseFault_32 1 rfl ?_
    refine tc_iconst (v := 1) tc_d2_layCaseFault_33 (by decide) ?_
    refine tc_isub tc_d2_layCaseFault_34 ?_
    refine tc_iconst (v := 4) tc_d2_layCaseFault_35 (by decide) ?_
    refine tc_idiv tc_d2_layCaseFault_36 (by decide) ?_
    obtain ⟨r4, μ5, e4, h⟩ := tc_bdS h
    have c4 := tc_c5_addFault (l := l) (G := G) N tc_Y28 e4
    refine tc_callVv (As := [.int ((x1 - 1) - (x1 - 1) / 4 * 4), .int ((x1 - 1) / 4)]) (rest := []) (μ1 := μ5) tc_d2_layCaseFault_37 tc_ok5_addFault tc_w576 ⟨Nat.le_of_ble_eq_true rfl, Nat.le_of_ble_eq_true rfl⟩ tc_s5_28 rfl c4 rfl rfl (Nat.le_of_ble_eq_true rfl) ?_
    exact tc_vret tc_d2_layCaseFault_40 rfl (tc_rvS h)
theorem tc_c2_layCaseFault (N : Nat) {x1 : Int32} {x2 : Int32} {μ : tc_Mem} {z : Int32 × tc_Mem} (h : tc_f2_layCaseFault N x1 x2 μ = some z) : tc_Con l G tc_i2_layCaseFault [.ref (tc_ad G 27), .int x1, .int x2] μ none z.2 :=
  tc_Con.of (L := [(0, .ref (tc_ad G 27)), (1, .int x1), (2, .int x2)]) (by decide) (Nat.le_of_ble_eq_true rfl) rfl (fun X => tc_b2_layCaseFault_0 N  _ _ _ _ h)
def tc_f2_failsWithTrain_74 (N : Nat) (μ : tc_Mem) : Option (Int32 × tc_Mem) :=
  some (1, μ)
theorem tc_b2_failsWithTrain_74 (N : Nat) (μ : tc_Mem) (z : Int32 × tc_Mem) (h : tc_f2_failsWithTrain_74 N μ = some z) : tc_At l G tc_i2_failsWithTrain (some (.int z.1)) z.2 X 74 [] [] μ := by
  unfold tc_f2_failsWithTrain_74 at h
  refine tc_iconst (v := 1) tc_d2_failsWithTrain_74 (by decide) ?_
  refine tc_goto (tgt := 79) tc_d2_failsWithTrain_75 (by decide) ?_
  exact tc_zret tc_d2_failsWithTrain_79 rfl (by decide) (tc_riS h)
def tc_f2_failsWithTrain_46 (N : Nat) (s1 : Int32) (μ : tc_Mem) : Option (Int32 × tc_Mem) :=
  tc_lt (tc_wr μ 28 9 s1) fun μ1 =>
  tc_bd (tc_f0_settles N 39 28 0 μ1) fun r2 μ3 =>
  if r2 = 0 then
    tc_f2_failsWithTrain_74 N μ3
  else
    tc_bd (tc_f5_unsafe N 28 μ3) fun r4 μ5 =>
    if r4 = 0 then
      some (0, μ5)
    else
      tc_f2_failsWithTrain_74 N μ5
theorem tc_b2_failsWithTrain_46 (N : Nat) (s1 : Int32) (μ : tc_Mem) (z : Int32 × tc_Mem) (h : tc_f2_failsWithTrain_46 N s1 μ = some z) : tc_At l G tc_i2_failsWithTrain (some (.int z.1)) z.2 X 46 [(0, .ref (tc_ad G 27))] [.int s1, .ref (tc_ad G 28)] μ := by
  unfold tc_f2_failsWithTrain_46 at h
  refine tc_p5_9_28 tc_d2_failsWithTrain_46 tc_w138 h (fun μ1 h => ?_)
  refine tc_aload_n tc_d2_failsWithTrain_49 0 rfl ?_
  refine tc_g2_2 tc_d2_failsWithTrain_50 tc_w213 ?_
  refine tc_aload_n tc_d2_failsWithTrain_53 0 rfl ?_
  refine tc_g2_1 tc_d2_failsWithTrain_54 tc_w212 ?_
  refine tc_iconst (v := 0) tc_d2_failsWithTrain_57 (by decide) ?_
  obtain ⟨r2, μ3, e2, h⟩ := tc_bdS h
  have c2 := tc_c0_settles (l := l) (G := G) N tc_A39 tc_Y28 e2
  refine tc_callVi (As := [.ref (tc_ad G 28), .int 0]) (rest := []) (r1 := r2) (μ1 := μ3) tc_d2_failsWithTrain_58 tc_ok0_settles tc_w563 ⟨Nat.le_of_ble_eq_true rfl, Nat.le_of_ble_eq_true rfl⟩ tc_s0_39 rfl c2 rfl rfl (Nat.le_of_ble_eq_true rfl) ?_
  refine tc_if_eq (tgt := 74) tc_d2_failsWithTrain_61 (by decide) h (fun h => ?_) (fun h => ?_)
  · refine tc_sub [] rfl ?_
    exact (tc_b2_failsWithTrain_74 N _ _) h
  · refine tc_aload_n tc_d2_failsWithTrain_64 0 rfl ?_
    refine tc_g2_1 tc_d2_failsWithTrain_65 tc_w212 ?_
    obtain ⟨r4, μ5, e4, h⟩ := tc_bdS h
    have c4 := tc_c5_unsafe (l := l) (G := G) N tc_Y28 e4
    refine tc_callVi (As := []) (rest := []) (r1 := r4) (μ1 := μ5) tc_d2_failsWithTrain_68 tc_ok5_unsafe tc_w538 ⟨Nat.le_of_ble_eq_true rfl, Nat.le_of_ble_eq_true rfl⟩ tc_s5_28 rfl c4 rfl rfl (Nat.le_of_ble_eq_true rfl) ?_
    refine tc_if_eq (tgt := 78) tc_d2_failsWithTrain_71 (by decide) h (fun h => ?_) (fun h => ?_)
    · refine tc_iconst (v := 0) tc_d2_failsWithTrain_78 (by decide) ?_
      exact tc_zret tc_d2_failsWithTrain_79 rfl (by decide) (tc_riS h)
    · refine tc_sub [] rfl ?_
      exact (tc_b2_failsWithTrain_74 N _ _) h
def tc_f2_failsWithTrain (N : Nat) (x1 : Int32) (μ : tc_Mem) : Option (Int32 × tc_Mem) :=
  tc_lt (tc_wr μ 28 8 (μ 1 8)) fun μ1 =>
  if x1 ≤ 0 then
    tc_f2_failsWithTrain_46 N (μ1 1 9) μ1
  else
    tc_bd (tc_f6_withBit N (μ1 1 9) (x1 - 1) 1 μ1) fun r2 μ3 =>
    tc_f2_failsWithTrain_46 N r2 μ3
theorem tc_b2_failsWithTrain_0 (N : Nat) (x1 : Int32) (μ : tc_Mem) (z : Int32 × tc_Mem) (h : tc_f2_failsWithTrain N x1 μ = some z) : tc_At l G tc_i2_failsWithTrain (some (.int z.1)) z.2 X 0 [(0, .ref (tc_ad G 27)), (1, .int x1)] [] μ := by
  unfold tc_f2_failsWithTrain at h
  refine tc_aload_n tc_d2_failsWithTrain_0 0 rfl ?_
  refine tc_g2_1 tc_d2_failsWithTrain_1 tc_w212 ?_
  refine tc_aload_n tc_d2_failsWithTrain_4 0 rfl ?_
  refine tc_g2_0 tc_d2_failsWithTrain_5 tc_w211 ?_
  refine tc_g5_8_1 tc_d2_failsWithTrain_8 tc_w134 ?_
  refine tc_p5_8_28 tc_d2_failsWithTrain_11 tc_w134 h (fun μ1 h => ?_)
  refine tc_aload_n tc_d2_failsWithTrain_14 0 rfl ?_
  refine tc_g2_1 tc_d2_failsWithTrain_15 tc_w212 ?_
  refine tc_iload_n tc_d2_failsWithTrain_18 1 rfl ?_
  refine tc_if_le (tgt := 39) tc_d2_failsWithTrain_19 (by decide) h (fun h => ?_) (fun h => ?_)
  · refine tc_aload_n tc_d2_failsWithTrain_39 0 rfl ?_
    refine tc_g2_0 tc_d2_failsWithTrain_40 tc_w211 ?_
    refine tc_g5_9_1 tc_d2_failsWithTrain_43 tc_w138 ?_
    refine tc_sub [0] rfl ?_
    exact (tc_b2_failsWithTrain_46 N _ _ _) h
  · refine tc_aload_n tc_d2_failsWithTrain_22 0 rfl ?_
    refine tc_g2_0 tc_d2_failsWithTrain_23 tc_w211 ?_
    refine tc_g5_9_1 tc_d2_failsWithTrain_26 tc_w138 ?_
    refine tc_iload_n tc_d2_failsWithTrain_29 1 rfl ?_
    refine tc_iconst (v := 1) tc_d2_failsWithTrain_30 (by decide) ?_
    refine tc_isub tc_d2_failsWithTrain_31 ?_
    refine tc_iconst (v := 1) tc_d2_failsWithTrain_32 (by decide) ?_
    obtain ⟨r2, μ3, e2, h⟩ := tc_bdS h
    have c2 := tc_c6_withBit (l := l) (G := G) N e2
    refine tc_callNi (host := "TrackCircuits") (As := [.int (μ1 1 9), .int (x1 - 1), .int 1]) (rest := [.ref (tc_ad G 28)]) (r1 := r2) (μ1 := μ3) tc_d2_failsWithTrain_33 tc_ok6_withBit (fun U h9 => h9.2.2.1) ⟨Nat.le_of_ble_eq_true rfl, Nat.le_of_ble_eq_true rfl⟩ c2 rfl rfl (Nat.le_of_ble_eq_true rfl) ?_
    refine tc_goto (tgt := 46) tc_d2_failsWithTrain_36 (by decide) ?_
    refine tc_sub [0] rfl ?_
    exact (tc_b2_failsWithTrain_46 N _ _ _) h
theorem tc_c2_failsWithTrain (N : Nat) {x1 : Int32} {μ : tc_Mem} {z : Int32 × tc_Mem} (h : tc_f2_failsWithTrain N x1 μ = some z) : tc_Con l G tc_i2_failsWithTrain [.ref (tc_ad G 27), .int x1] μ (some (.int z.1)) z.2 :=
  tc_Con.of (L := [(0, .ref (tc_ad G 27)), (1, .int x1)]) (by decide) (Nat.le_of_ble_eq_true rfl) rfl (fun X => tc_b2_failsWithTrain_0 N  _ _ _ h)
def tc_f2_failingCases_31 (N : Nat) (k4 : Int32 → Int32 → tc_Mem → Option (Int32 × tc_Mem)) : Nat → Int32 → Int32 → Int32 → tc_Mem → Option (Int32 × tc_Mem)
  | 0 => fun _ _ _ _ => none
  | n + 1 => fun x1 x2 x3 μ => 
    if (μ 1 0) < x3 then
      k4 x1 (x2 + 1) μ
    else
      tc_bd (tc_f2_failsWithTrain N x3 μ) fun r1 μ2 =>
      if r1 = 0 then
        tc_f2_failingCases_31 N k4 n x1 x2 (x3 + 1) μ2
      else
        tc_f2_failingCases_31 N k4 n (x1 + 1) x2 (x3 + 1) μ2
theorem tc_b2_failingCases_31 (N : Nat) {k4 : Int32 → Int32 → tc_Mem → Option (Int32 × tc_Mem)} (H4 : ∀ (x1 : Int32) (x2 : Int32) (μ : tc_Mem) (z : Int32 × tc_Mem), k4 x1 x2 μ = some z → tc_At l G tc_i2_failingCases (some (.int z.1)) z.2 X 4 [(0, .ref (tc_ad G 27)), (1, .int x1), (2, .int x2)] [] μ) : ∀ (n : Nat) (x1 : Int32) (x2 : Int32) (x3 : Int32) (μ : tc_Mem) (z : Int32 × tc_Mem), tc_f2_failingCases_31 N k4 n x1 x2 x3 μ = some z → tc_At l G tc_i2_failingCases (some (.int z.1)) z.2 X 31 [(0, .ref (tc_ad G 27)), (1, .int x1), (2, .int x2), (3, .int x3)] [] μ := by
  intro n
  induction n with
  | zero => intro x1 x2 x3 μ z h; cases h
  | succ n ih =>
    intro x1 x2 x3 μ z h
    rw [tc_f2_failingCases_31] at h
    refine tc_iload_n tc_d2_failingCases_31 3 rfl ?_
    refine tc_aload_n tc_d2_failingCases_32 0 rfl ?_
    refine tc_g2_0 tc_d2_failingCases_33 tc_w211 ?_
    refine tc_g5_0_1 tc_d2_failingCases_36 tc_w116 ?_
    refine tc_icmp_gt (tgt := 59) tc_d2_failingCases_39 (by decide) h (fun h => ?_) (fun h => ?_)
    · refine tc_iinc (v := (x2 + 1)) (L' := [(2, .int (x2 + 1)), (0, .ref (tc_ad G 27)), (1, .int x1), (3, .int x3)]) tc_d2_failingCases_59 2 rfl rfl (by decide) rfl ?_
      refine tc_goto (tgt := 4) tc_d2_failingCases_62 (by decide) ?_
      refine tc_sub [1, 2, 0] rfl ?_
      exact (H4 _ _ _ _) h
    · refine tc_aload_n tc_d2_failingCases_42 0 rfl ?_
      refine tc_iload_n tc_d2_failingCases_43 3 rfl ?_
      obtain ⟨r1, μ2, e1, h⟩ := tc_bdS h
      have c1 := tc_c2_failsWithTrain (l := l) (G := G) N e1
      refine tc_callVi (As := [.int x3]) (rest := []) (r1 := r1) (μ1 := μ2) tc_d2_failingCases_44 tc_ok2_failsWithTrain tc_w606 ⟨Nat.le_of_ble_eq_true rfl, Nat.le_of_ble_eq_true rfl⟩ tc_s2 rfl c1 rfl rfl (Nat.le_of_ble_eq_true rfl) ?_
      refine tc_if_eq (tgt := 53) tc_d2_failingCases_47 (by decide) h (fun h => ?_) (fun h => ?_)
      · refine tc_iinc (v := (x3 + 1)) (L' := [(3, .int (x3 + 1)), (0, .ref (tc_ad G 27)), (1, .int x1), (2, .int x2)]) tc_d2_failingCases_53 3 rfl rfl (by decide) rfl ?_
        refine tc_goto (tgt := 31) tc_d2_failingCases_56 (by decide) ?_
        refine tc_sub [1, 2, 3, 0] rfl ?_
        exact (ih _ _ _ _ _) h
      · refine tc_iinc (v := (x1 + 1)) (L' := [(1, .int (x1 + 1)), (0, .ref (tc_ad G 27)), (2, .int x2), (3, .int x3)]) tc_d2_failingCases_50 1 rfl rfl (by decide) rfl ?_
        refine tc_iinc (v := (x3 + 1)) (L' := [(3, .int (x3 + 1)), (1, .int (x1 + 1)), (0, .ref (tc_ad G 27)), (2, .int x2)]) tc_d2_failingCases_53 3 rfl rfl (by decide) rfl ?_
        refine tc_goto (tgt := 31) tc_d2_failingCases_56 (by decide) ?_
        refine tc_sub [2, 1, 3, 0] rfl ?_
        exact (ih _ _ _ _ _) h
def tc_f2_failingCases_4 (N : Nat) : Nat → Int32 → Int32 → tc_Mem → Option (Int32 × tc_Mem)
  | 0 => fun _ _ _ => none
  | n + 1 => fun x1 x2 μ => 
    if (4 * (μ 1 0)) < x2 then
      some (x1, μ)
    else
      tc_bd (tc_f2_layCaseFault N x2 (μ 1 10) μ) fun _ μ2 =>
      tc_f2_failingCases_31 N (tc_f2_failingCases_4 N n) N x1 x2 0 μ2
theorem tc_b2_failingCases_4 (N : Nat) : ∀ (n : Nat) (x1 : Int32) (x2 : Int32) (μ : tc_Mem) (z : Int32 × tc_Mem), tc_f2_failingCases_4 N n x1 x2 μ = some z → tc_At l G tc_i2_failingCases (some (.int z.1)) z.2 X 4 [(0, .ref (tc_ad G 27)), (1, .int x1), (2, .int x2)] [] μ := by
  intro n
  induction n with
  | zero => intro x1 x2 μ z h; cases h
  | succ n ih =>
    intro x1 x2 μ z h
    rw [tc_f2_failingCases_4] at h
    refine tc_iload_n tc_d2_failingCases_4 2 rfl ?_
    refine tc_iconst (v := 4) tc_d2_failingCases_5 (by decide) ?_
    refine tc_aload_n tc_d2_failingCases_6 0 rfl ?_
    refine tc_g2_0 tc_d2_failingCases_7 tc_w211 ?_
    refine tc_g5_0_1 tc_d2_failingCases_10 tc_w116 ?_
    refine tc_imul tc_d2_failingCases_13 ?_
    refine tc_icmp_gt (tgt := 65) tc_d2_failingCases_14 (by decide) h (fun h => ?_) (fun h => ?_)
    · refine tc_iload_n tc_d2_failingCases_65 1 rfl ?_
      exact tc_iret tc_d2_failingCases_66 rfl (tc_riS h)
    · refine tc_aload_n tc_d2_failingCases_17 0 rfl ?_
      refine tc_iload_n tc_d2_failingCases_18 2 rfl ?_
      refine tc_aload_n tc_d2_failingCases_19 0 rfl ?_
      refine tc_g2_0 tc_d2_failingCases_20 tc_w211 ?_
      refine tc_g5_10_1 tc_d2_failingCases_23 tc_w141 ?_
      obtain ⟨r1, μ2, e1, h⟩ := tc_bdS h
      have c1 := tc_c2_layCaseFault (l := l) (G := G) N e1
      refine tc_callVv (As := [.int x2, .int (μ 1 10)]) (rest := []) (μ1 := μ2) tc_d2_failingCases_26 tc_ok2_layCaseFault tc_w602 ⟨Nat.le_of_ble_eq_true rfl, Nat.le_of_ble_eq_true rfl⟩ tc_s2 rfl c1 rfl rfl (Nat.le_of_ble_eq_true rfl) ?_
      refine tc_iconst (v := 0) tc_d2_failingCases_29 (by decide) ?_
      refine tc_istore_n (L' := [(3, .int 0), (0, .ref (tc_ad G 27)), (1, .int x1), (2, .int x2)]) tc_d2_failingCases_30 (by decide) rfl ?_
      refine tc_sub [1, 2, 3, 0] rfl ?_
      exact (tc_b2_failingCases_31 N ih N _ _ _ _ _) h
def tc_f2_failingCases (N : Nat) (μ : tc_Mem) : Option (Int32 × tc_Mem) :=
  tc_f2_failingCases_4 N N 0 0 μ
theorem tc_b2_failingCases_0 (N : Nat) (μ : tc_Mem) (z : Int32 × tc_Mem) (h : tc_f2_failingCases N μ = some z) : tc_At l G tc_i2_failingCases (some (.int z.1)) z.2 X 0 [(0, .ref (tc_ad G 27))] [] μ := by
  unfold tc_f2_failingCases at h
  refine tc_iconst (v := 0) tc_d2_failingCases_0 (by decide) ?_
  refine tc_istore_n (L' := [(1, .int 0), (0, .ref (tc_ad G 27))]) tc_d2_failingCases_1 (by decide) rfl ?_
  refine tc_iconst (v := 0) tc_d2_failingCases_2 (by decide) ?_
  refine tc_istore_n (L' := [(2, .int 0), (1, .int 0), (0, .ref (tc_ad G 27))]) tc_d2_failingCases_3 (by decide) rfl ?_
  refine tc_sub [2, 1, 0] rfl ?_
  exact (tc_b2_failingCases_4 N N _ _ _ _) h
theorem tc_c2_failingCases (N : Nat) {μ : tc_Mem} {z : Int32 × tc_Mem} (h : tc_f2_failingCases N μ = some z) : tc_Con l G tc_i2_failingCases [.ref (tc_ad G 27)] μ (some (.int z.1)) z.2 :=
  tc_Con.of (L := [(0, .ref (tc_ad G 27))]) (by decide) (Nat.le_of_ble_eq_true rfl) rfl (fun X => tc_b2_failingCases_0 N  _ _ h)
def tc_f2_troubleWithout_27 (N : Nat) (μ : tc_Mem) : Option (Int32 × tc_Mem) :=
  tc_bd (tc_f0_settles N 39 28 0 μ) fun r1 μ2 =>
  if r1 = 0 then
    some (16, μ2)
  else
    tc_bd (tc_f5_unsafe N 28 μ2) fun r3 μ4 =>
    tc_bd (tc_f8_bitCount N r3 μ4) fun r5 μ6 =>
    tc_bd (tc_f5_wrong N 28 μ6) fun r7 μ8 =>
    tc_bd (tc_f8_bitCount N r7 μ8) fun r9 μ10 =>
    some ((r5 + r9), μ10)
theorem tc_b2_troubleWithout_27 (N : Nat) (μ : tc_Mem) (z : Int32 × tc_Mem) (h : tc_f2_troubleWithout_27 N μ = some z) : tc_At l G tc_i2_troubleWithout (some (.int z.1)) z.2 X 27 [(0, .ref (tc_ad G 27))] [] μ := by
  unfold tc_f2_troubleWithout_27 at h
  refine tc_aload_n tc_d2_troubleWithout_27 0 rfl ?_
  refine tc_g2_2 tc_d2_troubleWithout_28 tc_w213 ?_
  refine tc_aload_n tc_d2_troubleWithout_31 0 rfl ?_
  refine tc_g2_1 tc_d2_troubleWithout_32 tc_w212 ?_
  refine tc_iconst (v := 0) tc_d2_troubleWithout_35 (by decide) ?_
  obtain ⟨r1, μ2, e1, h⟩ := tc_bdS h
  have c1 := tc_c0_settles (l := l) (G := G) N tc_A39 tc_Y28 e1
  refine tc_callVi (As := [.ref (tc_ad G 28), .int 0]) (rest := []) (r1 := r1) (μ1 := μ2) tc_d2_troubleWithout_36 tc_ok0_settles tc_w563 ⟨Nat.le_of_ble_eq_true rfl, Nat.le_of_ble_eq_true rfl⟩ tc_s0_39 rfl c1 rfl rfl (Nat.le_of_ble_eq_true rfl) ?_
  refine tc_if_ne (tgt := 45) tc_d2_troubleWithout_39 (by decide) h (fun h => ?_) (fun h => ?_)
  · refine tc_aload_n tc_d2_troubleWithout_45 0 rfl ?_
    refine tc_g2_1 tc_d2_troubleWithout_46 tc_w212 ?_
    obtain ⟨r3, μ4, e3, h⟩ := tc_bdS h
    have c3 := tc_c5_unsafe (l := l) (G := G) N tc_Y28 e3
    refine tc_callVi (As := []) (rest := []) (r1 := r3) (μ1 := μ4) tc_d2_troubleWithout_49 tc_ok5_unsafe tc_w538 ⟨Nat.le_of_ble_eq_true rfl, Nat.le_of_ble_eq_true rfl⟩ tc_s5_28 rfl c3 rfl rfl (Nat.le_of_ble_eq_true rfl) ?_
    obtain ⟨r5, μ6, e5, h⟩ := tc_bdS h
    have c5 := tc_c8_bitCount (l := l) (G := G) N e5
    refine tc_callSi (As := [.int r3]) (rest := []) (r1 := r5) (μ1 := μ6) tc_d2_troubleWithout_52 tc_ok8_bitCount tc_w539 ⟨Nat.le_of_ble_eq_true rfl, Nat.le_of_ble_eq_true rfl⟩ c5 rfl rfl (Nat.le_of_ble_eq_true rfl) ?_
    refine tc_aload_n tc_d2_troubleWithout_55 0 rfl ?_
    refine tc_g2_1 tc_d2_troubleWithout_56 tc_w212 ?_
    obtain ⟨r7, μ8, e7, h⟩ := tc_bdS h
    have c7 := tc_c5_wrong (l := l) (G := G) N tc_Y28 e7
    refine tc_callVi (As := []) (rest := [.int r5]) (r1 := r7) (μ1 := μ8) tc_d2_troubleWithout_59 tc_ok5_wrong tc_w589 ⟨Nat.le_of_ble_eq_true rfl, Nat.le_of_ble_eq_true rfl⟩ tc_s5_28 rfl c7 rfl rfl (Nat.le_of_ble_eq_true rfl) ?_
    obtain ⟨r9, μ10, e9, h⟩ := tc_bdS h
    have c9 := tc_c8_bitCount (l := l) (G := G) N e9
    refine tc_callSi (As := [.int r7]) (rest := [.int r5]) (r1 := r9) (μ1 := μ10) tc_d2_troubleWithout_62 tc_ok8_bitCount tc_w539 ⟨Nat.le_of_ble_eq_true rfl, Nat.le_of_ble_eq_true rfl⟩ c9 rfl rfl (Nat.le_of_ble_eq_true rfl) ?_
    refine tc_iadd tc_d2_troubleWithout_65 ?_
    exact tc_iret tc_d2_troubleWithout_66 rfl (tc_riS h)
  · refine tc_bipush (v := 16) tc_d2_troubleWithout_42 (by decide) ?_
    exact tc_iret tc_d2_troubleWithout_44 rfl (tc_riS h)
def tc_f2_troubleWithout (N : Nat) (x1 : Int32) (μ : tc_Mem) : Option (Int32 × tc_Mem) :=
  tc_bd (tc_f5_become N 28 1 μ) fun _ μ2 =>
  if x1 = (-1) then
    tc_f2_troubleWithout_27 N μ2
  else
    tc_bd (tc_f1_remove N 28 x1 μ2) fun _ μ4 =>
    tc_f2_troubleWithout_27 N μ4
theorem tc_b2_troubleWithout_0 (N : Nat) (x1 : Int32) (μ : tc_Mem) (z : Int32 × tc_Mem) (h : tc_f2_troubleWithout N x1 μ = some z) : tc_At l G tc_i2_troubleWithout (some (.int z.1)) z.2 X 0 [(0, .ref (tc_ad G 27)), (1, .int x1)] [] μ := by
  unfold tc_f2_troubleWithout at h
  refine tc_aload_n tc_d2_troubleWithout_0 0 rfl ?_
  refine tc_g2_1 tc_d2_troubleWithout_1 tc_w212 ?_
  refine tc_aload_n tc_d2_troubleWithout_4 0 rfl ?_
  refine tc_g2_0 tc_d2_troubleWithout_5 tc_w211 ?_
  obtain ⟨r1, μ2, e1, h⟩ := tc_bdS h
  have c1 := tc_c5_become (l := l) (G := G) N tc_Y28 tc_Y1 e1
  refine tc_callVv (As := [.ref (tc_ad G 1)]) (rest := []) (μ1 := μ2) tc_d2_troubleWithout_8 tc_ok5_become tc_w528 ⟨Nat.le_of_ble_eq_true rfl, Nat.le_of_ble_eq_true rfl⟩ tc_s5_28 rfl c1 rfl rfl (Nat.le_of_ble_eq_true rfl) ?_
  refine tc_iload_n tc_d2_troubleWithout_11 1 rfl ?_
  refine tc_iconst (v := (-1)) tc_d2_troubleWithout_12 (by decide) ?_
  refine tc_icmp_eq (tgt := 27) tc_d2_troubleWithout_13 (by decide) h (fun h => ?_) (fun h => ?_)
  · refine tc_sub [0] rfl ?_
    exact (tc_b2_troubleWithout_27 N _ _) h
  · refine tc_aload_n tc_d2_troubleWithout_16 0 rfl ?_
    refine tc_g2_1 tc_d2_troubleWithout_17 tc_w212 ?_
    refine tc_g5_7_28 tc_d2_troubleWithout_20 tc_w132 ?_
    refine tc_iload_n tc_d2_troubleWithout_23 1 rfl ?_
    obtain ⟨r3, μ4, e3, h⟩ := tc_bdS h
    have c3 := tc_c1_remove (l := l) (G := G) N tc_Y28 e3
    refine tc_callVv (As := [.int x1]) (rest := []) (μ1 := μ4) tc_d2_troubleWithout_24 tc_ok1_remove tc_w640 ⟨Nat.le_of_ble_eq_true rfl, Nat.le_of_ble_eq_true rfl⟩ tc_s1_28 rfl c3 rfl rfl (Nat.le_of_ble_eq_true rfl) ?_
    refine tc_sub [0] rfl ?_
    exact (tc_b2_troubleWithout_27 N _ _) h
theorem tc_c2_troubleWithout (N : Nat) {x1 : Int32} {μ : tc_Mem} {z : Int32 × tc_Mem} (h : tc_f2_troubleWithout N x1 μ = some z) : tc_Con l G tc_i2_troubleWithout [.ref (tc_ad G 27), .int x1] μ (some (.int z.1)) z.2 :=
  tc_Con.of (L := [(0, .ref (tc_ad G 27)), (1, .int x1)]) (by decide) (Nat.le_of_ble_eq_true rfl) rfl (fun X => tc_b2_troubleWithout_0 N  _ _ _ h)
def tc_f2_faultToMend_10 (N : Nat) : Nat → Int32 → Int32 → Int32 → tc_Mem → Option (Int32 × tc_Mem)
  | 0 => fun _ _ _ _ => none
  | n + 1 => fun x1 x2 x3 μ => 
    if (μ 8 0) ≤ x3 then
      some (x1, μ)
    else
      tc_bd (tc_f2_troubleWithout N x3 μ) fun r1 μ2 =>
      if x2 ≤ r1 then
        tc_f2_faultToMend_10 N  n x1 x2 (x3 + 1) μ2
      else
        tc_f2_faultToMend_10 N  n x3 r1 (x3 + 1) μ2
theorem tc_b2_faultToMend_10 (N : Nat) : ∀ (n : Nat) (x1 : Int32) (x2 : Int32) (x3 : Int32) (μ : tc_Mem) (z : Int32 × tc_Mem), tc_f2_faultToMend_10 N n x1 x2 x3 μ = some z → tc_At l G tc_i2_faultToMend (some (.int z.1)) z.2 X 10 [(0, .ref (tc_ad G 27)), (1, .int x1), (2, .int x2), (3, .int x3)] [] μ := by
  intro n
  induction n with
  | zero => intro x1 x2 x3 μ z h; cases h
  | succ n ih =>
    intro x1 x2 x3 μ z h
    rw [tc_f2_faultToMend_10] at h
    refine tc_iload_n tc_d2_faultToMend_10 3 rfl ?_
    refine tc_aload_n tc_d2_faultToMend_11 0 rfl ?_
    refine tc_g2_0 tc_d2_faultToMend_12 tc_w211 ?_
    refine tc_g5_7_1 tc_d2_faultToMend_15 tc_w132 ?_
    refine tc_g1_0_1 tc_d2_faultToMend_18 tc_w95 ?_
    refine tc_icmp_ge (tgt := 48) tc_d2_faultToMend_21 (by decide) h (fun h => ?_) (fun h => ?_)
    · refine tc_iload_n tc_d2_faultToMend_48 1 rfl ?_
      exact tc_iret tc_d2_faultToMend_49 rfl (tc_riS h)
    · refine tc_aload_n tc_d2_faultToMend_24 0 rfl ?_
      refine tc_iload_n tc_d2_faultToMend_25 3 rfl ?_
      obtain ⟨r1, μ2, e1, h⟩ := tc_bdS h
      have c1 := tc_c2_troubleWithout (l := l) (G := G) N e1
      refine tc_callVi (As := [.int x3]) (rest := []) (r1 := r1) (μ1 := μ2) tc_d2_faultToMend_26 tc_ok2_troubleWithout tc_w636 ⟨Nat.le_of_ble_eq_true rfl, Nat.le_of_ble_eq_true rfl⟩ tc_s2 rfl c1 rfl rfl (Nat.le_of_ble_eq_true rfl) ?_
      refine tc_istore (L' := [(4, .int r1), (0, .ref (tc_ad G 27)), (1, .int x1), (2, .int x2), (3, .int x3)]) tc_d2_faultToMend_29 (by decide) rfl ?_
      refine tc_iload tc_d2_faultToMend_31 0 rfl ?_
      refine tc_iload_n tc_d2_faultToMend_33 3 rfl ?_
      refine tc_icmp_ge (tgt := 42) tc_d2_faultToMend_34 (by decide) h (fun h => ?_) (fun h => ?_)
      · refine tc_iinc (v := (x3 + 1)) (L' := [(3, .int (x3 + 1)), (4, .int r1), (0, .ref (tc_ad G 27)), (1, .int x1), (2, .int x2)]) tc_d2_faultToMend_42 4 rfl rfl (by decide) rfl ?_
        refine tc_goto (tgt := 10) tc_d2_faultToMend_45 (by decide) ?_
        refine tc_sub [2, 3, 4, 0] rfl ?_
        exact (ih _ _ _ _ _) h
      · refine tc_iload tc_d2_faultToMend_37 0 rfl ?_
        refine tc_istore_n (L' := [(2, .int r1), (4, .int r1), (0, .ref (tc_ad G 27)), (1, .int x1), (3, .int x3)]) tc_d2_faultToMend_39 (by decide) rfl ?_
        refine tc_iload_n tc_d2_faultToMend_40 4 rfl ?_
        refine tc_istore_n (L' := [(1, .int x3), (2, .int r1), (4, .int r1), (0, .ref (tc_ad G 27)), (3, .int x3)]) tc_d2_faultToMend_41 (by decide) rfl ?_
        refine tc_iinc (v := (x3 + 1)) (L' := [(3, .int (x3 + 1)), (1, .int x3), (2, .int r1), (4, .int r1), (0, .ref (tc_ad G 27))]) tc_d2_faultToMend_42 4 rfl rfl (by decide) rfl ?_
        refine tc_goto (tgt := 10) tc_d2_faultToMend_45 (by decide) ?_
        refine tc_sub [4, 1, 2, 0] rfl ?_
        exact (ih _ _ _ _ _) h
def tc_f2_faultToMend (N : Nat) (μ : tc_Mem) : Option (Int32 × tc_Mem) :=
  tc_bd (tc_f2_troubleWithout N (-1) μ) fun r1 μ2 =>
  tc_f2_faultToMend_10 N N (-1) r1 0 μ2
theorem tc_b2_faultToMend_0 (N : Nat) (μ : tc_Mem) (z : Int32 × tc_Mem) (h : tc_f2_faultToMend N μ = some z) : tc_At l G tc_i2_faultToMend (some (.int z.1)) z.2 X 0 [(0, .ref (tc_ad G 27))] [] μ := by
  unfold tc_f2_faultToMend at h
  refine tc_iconst (v := (-1)) tc_d2_faultToMend_0 (by decide) ?_
  refine tc_istore_n (L' := [(1, .int (-1)), (0, .ref (tc_ad G 27))]) tc_d2_faultToMend_1 (by decide) rfl ?_
  refine tc_aload_n tc_d2_faultToMend_2 1 rfl ?_
  refine tc_iconst (v := (-1)) tc_d2_faultToMend_3 (by decide) ?_
  obtain ⟨r1, μ2, e1, h⟩ := tc_bdS h
  have c1 := tc_c2_troubleWithout (l := l) (G := G) N e1
  refine tc_callVi (As := [.int (-1)]) (rest := []) (r1 := r1) (μ1 := μ2) tc_d2_faultToMend_4 tc_ok2_troubleWithout tc_w636 ⟨Nat.le_of_ble_eq_true rfl, Nat.le_of_ble_eq_true rfl⟩ tc_s2 rfl c1 rfl rfl (Nat.le_of_ble_eq_true rfl) ?_
  refine tc_istore_n (L' := [(2, .int r1), (1, .int (-1)), (0, .ref (tc_ad G 27))]) tc_d2_faultToMend_7 (by decide) rfl ?_
  refine tc_iconst (v := 0) tc_d2_faultToMend_8 (by decide) ?_
  refine tc_istore_n (L' := [(3, .int 0), (2, .int r1), (1, .int (-1)), (0, .ref (tc_ad G 27))]) tc_d2_faultToMend_9 (by decide) rfl ?_
  refine tc_sub [3, 2, 1, 0] rfl ?_
  exact (tc_b2_faultToMend_10 N N _ _ _ _ _) h
theorem tc_c2_faultToMend (N : Nat) {μ : tc_Mem} {z : Int32 × tc_Mem} (h : tc_f2_faultToMend N μ = some z) : tc_Con l G tc_i2_faultToMend [.ref (tc_ad G 27)] μ (some (.int z.1)) z.2 :=
  tc_Con.of (L := [(0, .ref (tc_ad G 27))]) (by decide) (Nat.le_of_ble_eq_true rfl) rfl (fun X => tc_b2_faultToMend_0 N  _ _ h)
def tc_f2_firstFailingCase_42 (N : Nat) (x2 : Int32) (x3 : Int32) (μ : tc_Mem) : Option (Int32 × tc_Mem) :=
  some (((100 * x2) + x3), μ)
theorem tc_b2_firstFailingCase_42 (N : Nat) (x2 : Int32) (x3 : Int32) (μ : tc_Mem) (z : Int32 × tc_Mem) (h : tc_f2_firstFailingCase_42 N x2 x3 μ = some z) : tc_At l G tc_i2_firstFailingCase (some (.int z.1)) z.2 X 42 [(2, .int x2), (3, .int x3)] [] μ := by
  unfold tc_f2_firstFailingCase_42 at h
  refine tc_bipush (v := 100) tc_d2_firstFailingCase_42 (by decide) ?_
  refine tc_iload_n tc_d2_firstFailingCase_44 0 rfl ?_
  refine tc_imul tc_d2_firstFailingCase_45 ?_
  refine tc_iload_n tc_d2_firstFailingCase_46 1 rfl ?_
  refine tc_iadd tc_d2_firstFailingCase_47 ?_
  exact tc_iret tc_d2_firstFailingCase_48 rfl (tc_riS h)
def tc_f2_firstFailingCase_23 (N : Nat) (k2 : Int32 → Int32 → tc_Mem → Option (Int32 × tc_Mem)) : Nat → Int32 → Int32 → Int32 → tc_Mem → Option (Int32 × tc_Mem)
  | 0 => fun _ _ _ _ => none
  | n + 1 => fun x1 x2 x3 μ => 
    if (μ 1 0) < x3 then
      k2 x1 (x2 + 1) μ
    else
      tc_bd (tc_f2_failsWithTrain N x3 μ) fun r1 μ2 =>
      if r1 = 0 then
        tc_f2_firstFailingCase_23 N k2 n x1 x2 (x3 + 1) μ2
      else
        tc_f2_firstFailingCase_42 N x2 x3 μ2
theorem tc_b2_firstFailingCase_23 (N : Nat) {k2 : Int32 → Int32 → tc_Mem → Option (Int32 × tc_Mem)} (H2 : ∀ (x1 : Int32) (x2 : Int32) (μ : tc_Mem) (z : Int32 × tc_Mem), k2 x1 x2 μ = some z → tc_At l G tc_i2_firstFailingCase (some (.int z.1)) z.2 X 2 [(0, .ref (tc_ad G 27)), (1, .int x1), (2, .int x2)] [] μ) : ∀ (n : Nat) (x1 : Int32) (x2 : Int32) (x3 : Int32) (μ : tc_Mem) (z : Int32 × tc_Mem), tc_f2_firstFailingCase_23 N k2 n x1 x2 x3 μ = some z → tc_At l G tc_i2_firstFailingCase (some (.int z.1)) z.2 X 23 [(0, .ref (tc_ad G 27)), (1, .int x1), (2, .int x2), (3, .int x3)] [] μ := by
  intro n
  induction n with
  | zero => intro x1 x2 x3 μ z h; cases h
  | succ n ih =>
    intro x1 x2 x3 μ z h
    rw [tc_f2_firstFailingCase_23] at h
    refine tc_iload_n tc_d2_firstFailingCase_23 3 rfl ?_
    refine tc_aload_n tc_d2_firstFailingCase_24 0 rfl ?_
    refine tc_g2_0 tc_d2_firstFailingCase_25 tc_w211 ?_
    refine tc_g5_0_1 tc_d2_firstFailingCase_28 tc_w116 ?_
    refine tc_icmp_gt (tgt := 55) tc_d2_firstFailingCase_31 (by decide) h (fun h => ?_) (fun h => ?_)
    · refine tc_iinc (v := (x2 + 1)) (L' := [(2, .int (x2 + 1)), (0, .ref (tc_ad G 27)), (1, .int x1), (3, .int x3)]) tc_d2_firstFailingCase_55 2 rfl rfl (by decide) rfl ?_
      refine tc_goto (tgt := 2) tc_d2_firstFailingCase_58 (by decide) ?_
      refine tc_sub [1, 2, 0] rfl ?_
      exact (H2 _ _ _ _) h
    · refine tc_aload_n tc_d2_firstFailingCase_34 0 rfl ?_
      refine tc_iload_n tc_d2_firstFailingCase_35 3 rfl ?_
      obtain ⟨r1, μ2, e1, h⟩ := tc_bdS h
      have c1 := tc_c2_failsWithTrain (l := l) (G := G) N e1
      refine tc_callVi (As := [.int x3]) (rest := []) (r1 := r1) (μ1 := μ2) tc_d2_firstFailingCase_36 tc_ok2_failsWithTrain tc_w606 ⟨Nat.le_of_ble_eq_true rfl, Nat.le_of_ble_eq_true rfl⟩ tc_s2 rfl c1 rfl rfl (Nat.le_of_ble_eq_true rfl) ?_
      refine tc_if_eq (tgt := 49) tc_d2_firstFailingCase_39 (by decide) h (fun h => ?_) (fun h => ?_)
      · refine tc_iinc (v := (x3 + 1)) (L' := [(3, .int (x3 + 1)), (0, .ref (tc_ad G 27)), (1, .int x1), (2, .int x2)]) tc_d2_firstFailingCase_49 3 rfl rfl (by decide) rfl ?_
        refine tc_goto (tgt := 23) tc_d2_firstFailingCase_52 (by decide) ?_
        refine tc_sub [1, 2, 3, 0] rfl ?_
        exact (ih _ _ _ _ _) h
      · refine tc_sub [2, 3] rfl ?_
        exact (tc_b2_firstFailingCase_42 N _ _ _ _) h
def tc_f2_firstFailingCase_2 (N : Nat) : Nat → Int32 → Int32 → tc_Mem → Option (Int32 × tc_Mem)
  | 0 => fun _ _ _ => none
  | n + 1 => fun x1 x2 μ => 
    if (4 * (μ 1 0)) < x2 then
      some ((-1), μ)
    else
      tc_bd (tc_f2_layCaseFault N x2 x1 μ) fun _ μ2 =>
      tc_f2_firstFailingCase_23 N (tc_f2_firstFailingCase_2 N n) N x1 x2 0 μ2
theorem tc_b2_firstFailingCase_2 (N : Nat) : ∀ (n : Nat) (x1 : Int32) (x2 : Int32) (μ : tc_Mem) (z : Int32 × tc_Mem), tc_f2_firstFailingCase_2 N n x1 x2 μ = some z → tc_At l G tc_i2_firstFailingCase (some (.int z.1)) z.2 X 2 [(0, .ref (tc_ad G 27)), (1, .int x1), (2, .int x2)] [] μ := by
  intro n
  induction n with
  | zero => intro x1 x2 μ z h; cases h
  | succ n ih =>
    intro x1 x2 μ z h
    rw [tc_f2_firstFailingCase_2] at h
    refine tc_iload_n tc_d2_firstFailingCase_2 2 rfl ?_
    refine tc_iconst (v := 4) tc_d2_firstFailingCase_3 (by decide) ?_
    refine tc_aload_n tc_d2_firstFailingCase_4 0 rfl ?_
    refine tc_g2_0 tc_d2_firstFailingCase_5 tc_w211 ?_
    refine tc_g5_0_1 tc_d2_firstFailingCase_8 tc_w116 ?_
    refine tc_imul tc_d2_firstFailingCase_11 ?_
    refine tc_icmp_gt (tgt := 61) tc_d2_firstFailingCase_12 (by decide) h (fun h => ?_) (fun h => ?_)
    · refine tc_iconst (v := (-1)) tc_d2_firstFailingCase_61 (by decide) ?_
      exact tc_iret tc_d2_firstFailingCase_62 rfl (tc_riS h)
    · refine tc_aload_n tc_d2_firstFailingCase_15 0 rfl ?_
      refine tc_iload_n tc_d2_firstFailingCase_16 2 rfl ?_
      refine tc_iload_n tc_d2_firstFailingCase_17 1 rfl ?_
      obtain ⟨r1, μ2, e1, h⟩ := tc_bdS h
      have c1 := tc_c2_layCaseFault (l := l) (G := G) N e1
      refine tc_callVv (As := [.int x2, .int x1]) (rest := []) (μ1 := μ2) tc_d2_firstFailingCase_18 tc_ok2_layCaseFault tc_w602 ⟨Nat.le_of_ble_eq_true rfl, Nat.le_of_ble_eq_true rfl⟩ tc_s2 rfl c1 rfl rfl (Nat.le_of_ble_eq_true rfl) ?_
      refine tc_iconst (v := 0) tc_d2_firstFailingCase_21 (by decide) ?_
      refine tc_istore_n (L' := [(3, .int 0), (0, .ref (tc_ad G 27)), (1, .int x1), (2, .int x2)]) tc_d2_firstFailingCase_22 (by decide) rfl ?_
      refine tc_sub [1, 2, 3, 0] rfl ?_
      exact (tc_b2_firstFailingCase_23 N ih N _ _ _ _ _) h
def tc_f2_firstFailingCase (N : Nat) (x1 : Int32) (μ : tc_Mem) : Option (Int32 × tc_Mem) :=
  tc_f2_firstFailingCase_2 N N x1 0 μ
theorem tc_b2_firstFailingCase_0 (N : Nat) (x1 : Int32) (μ : tc_Mem) (z : Int32 × tc_Mem) (h : tc_f2_firstFailingCase N x1 μ = some z) : tc_At l G tc_i2_firstFailingCase (some (.int z.1)) z.2 X 0 [(0, .ref (tc_ad G 27)), (1, .int x1)] [] μ := by
  unfold tc_f2_firstFailingCase at h
  refine tc_iconst (v := 0) tc_d2_firstFailingCase_0 (by decide) ?_
  refine tc_istore_n (L' := [(2, .int 0), (0, .ref (tc_ad G 27)), (1, .int x1)]) tc_d2_firstFailingCase_1 (by decide) rfl ?_
  refine tc_sub [1, 2, 0] rfl ?_
  exact (tc_b2_firstFailingCase_2 N N _ _ _ _) h
theorem tc_c2_firstFailingCase (N : Nat) {x1 : Int32} {μ : tc_Mem} {z : Int32 × tc_Mem} (h : tc_f2_firstFailingCase N x1 μ = some z) : tc_Con l G tc_i2_firstFailingCase [.ref (tc_ad G 27), .int x1] μ (some (.int z.1)) z.2 :=
  tc_Con.of (L := [(0, .ref (tc_ad G 27)), (1, .int x1)]) (by decide) (Nat.le_of_ble_eq_true rfl) rfl (fun X => tc_b2_firstFailingCase_0 N  _ _ _ h)
def tc_f2_firstOtherwise_33 (N : Nat) : Nat → Int32 → Int32 → Int32 → Int32 → tc_Mem → Option (Int32 × tc_Mem)
  | 0 => fun _ _ _ _ _ => none
  | n + 1 => fun x2 x3 x5 x6 μ => 
    if x5 ≤ x6 then
      some ((-1), μ)
    else
      tc_bd (tc_f0_passes N 39 28 μ) fun r1 μ2 =>
      if r1 = 0 then
        some (x6, μ2)
      else
        tc_bd (tc_f5_relay N 28 x3 μ2) fun r3 μ4 =>
        tc_bd (tc_f3_item N x2 x6 μ4) fun r5 μ6 =>
        if r3 = r5 then
          tc_bd (tc_f5_moveTrains N 28 μ6) fun _ μ8 =>
          tc_f2_firstOtherwise_33 N  n x2 x3 x5 (x6 + 1) μ8
        else
          some (x6, μ6)
theorem tc_b2_firstOtherwise_33 (N : Nat) : ∀ (n : Nat) (x2 : Int32) (x3 : Int32) (x5 : Int32) (x6 : Int32) (μ : tc_Mem) (z : Int32 × tc_Mem), tc_f2_firstOtherwise_33 N n x2 x3 x5 x6 μ = some z → tc_At l G tc_i2_firstOtherwise (some (.int z.1)) z.2 X 33 [(0, .ref (tc_ad G 27)), (1, .ref (tc_ad G 46)), (2, .int x2), (3, .int x3), (5, .int x5), (6, .int x6)] [] μ := by
  intro n
  induction n with
  | zero => intro x2 x3 x5 x6 μ z h; cases h
  | succ n ih =>
    intro x2 x3 x5 x6 μ z h
    rw [tc_f2_firstOtherwise_33] at h
    refine tc_iload tc_d2_firstOtherwise_33 5 rfl ?_
    refine tc_iload tc_d2_firstOtherwise_35 4 rfl ?_
    refine tc_icmp_ge (tgt := 91) tc_d2_firstOtherwise_37 (by decide) h (fun h => ?_) (fun h => ?_)
    · refine tc_iconst (v := (-1)) tc_d2_firstOtherwise_91 (by decide) ?_
      exact tc_iret tc_d2_firstOtherwise_92 rfl (tc_riS h)
    · refine tc_aload_n tc_d2_firstOtherwise_40 0 rfl ?_
      refine tc_g2_2 tc_d2_firstOtherwise_41 tc_w213 ?_
      refine tc_aload_n tc_d2_firstOtherwise_44 0 rfl ?_
      refine tc_g2_1 tc_d2_firstOtherwise_45 tc_w212 ?_
      obtain ⟨r1, μ2, e1, h⟩ := tc_bdS h
      have c1 := tc_c0_passes (l := l) (G := G) N tc_A39 tc_Y28 e1
      refine tc_callVi (As := [.ref (tc_ad G 28)]) (rest := []) (r1 := r1) (μ1 := μ2) tc_d2_firstOtherwise_48 tc_ok0_passes tc_w537 ⟨Nat.le_of_ble_eq_true rfl, Nat.le_of_ble_eq_true rfl⟩ tc_s0_39 rfl c1 rfl rfl (Nat.le_of_ble_eq_true rfl) ?_
      refine tc_if_ne (tgt := 57) tc_d2_firstOtherwise_51 (by decide) h (fun h => ?_) (fun h => ?_)
      · refine tc_aload_n tc_d2_firstOtherwise_57 0 rfl ?_
        refine tc_g2_1 tc_d2_firstOtherwise_58 tc_w212 ?_
        refine tc_iload_n tc_d2_firstOtherwise_61 3 rfl ?_
        obtain ⟨r3, μ4, e3, h⟩ := tc_bdS h
        have c3 := tc_c5_relay (l := l) (G := G) N tc_Y28 e3
        refine tc_callVi (As := [.int x3]) (rest := []) (r1 := r3) (μ1 := μ4) tc_d2_firstOtherwise_62 tc_ok5_relay tc_w554 ⟨Nat.le_of_ble_eq_true rfl, Nat.le_of_ble_eq_true rfl⟩ tc_s5_28 rfl c3 rfl rfl (Nat.le_of_ble_eq_true rfl) ?_
        refine tc_aload_n tc_d2_firstOtherwise_65 1 rfl ?_
        refine tc_iload_n tc_d2_firstOtherwise_66 2 rfl ?_
        refine tc_iload tc_d2_firstOtherwise_67 5 rfl ?_
        obtain ⟨r5, μ6, e5, h⟩ := tc_bdS h
        have c5 := tc_c3_item (l := l) (G := G) N e5
        refine tc_callVi (As := [.int x2, .int x6]) (rest := [.int r3]) (r1 := r5) (μ1 := μ6) tc_d2_firstOtherwise_69 tc_ok3_item tc_w683 ⟨Nat.le_of_ble_eq_true rfl, Nat.le_of_ble_eq_true rfl⟩ tc_s3 rfl c5 rfl rfl (Nat.le_of_ble_eq_true rfl) ?_
        refine tc_icmp_eq (tgt := 78) tc_d2_firstOtherwise_72 (by decide) h (fun h => ?_) (fun h => ?_)
        · refine tc_aload_n tc_d2_firstOtherwise_78 0 rfl ?_
          refine tc_g2_1 tc_d2_firstOtherwise_79 tc_w212 ?_
          obtain ⟨r7, μ8, e7, h⟩ := tc_bdS h
          have c7 := tc_c5_moveTrains (l := l) (G := G) N tc_Y28 e7
          refine tc_callVv (As := []) (rest := []) (μ1 := μ8) tc_d2_firstOtherwise_82 tc_ok5_moveTrains tc_w545 ⟨Nat.le_of_ble_eq_true rfl, Nat.le_of_ble_eq_true rfl⟩ tc_s5_28 rfl c7 rfl rfl (Nat.le_of_ble_eq_true rfl) ?_
          refine tc_iinc (v := (x6 + 1)) (L' := [(6, .int (x6 + 1)), (0, .ref (tc_ad G 27)), (1, .ref (tc_ad G 46)), (2, .int x2), (3, .int x3), (5, .int x5)]) tc_d2_firstOtherwise_85 5 rfl rfl (by decide) rfl ?_
          refine tc_goto (tgt := 33) tc_d2_firstOtherwise_88 (by decide) ?_
          refine tc_sub [1, 2, 3, 4, 5, 0] rfl ?_
          exact (ih _ _ _ _ _ _) h
        · refine tc_iload tc_d2_firstOtherwise_75 5 rfl ?_
          exact tc_iret tc_d2_firstOtherwise_77 rfl (tc_riS h)
      · refine tc_iload tc_d2_firstOtherwise_54 5 rfl ?_
        exact tc_iret tc_d2_firstOtherwise_56 rfl (tc_riS h)
def tc_f2_firstOtherwise (N : Nat) (x2 : Int32) (x3 : Int32) (x4 : Int32) (μ : tc_Mem) : Option (Int32 × tc_Mem) :=
  tc_bd (tc_f5_become N 28 1 μ) fun _ μ2 =>
  tc_ck x3 8 (
  tc_lt (tc_wr μ2 29 x3.toNatClampNeg x4) fun μ4 =>
  tc_ck x2 4 (
  tc_lt (μ4 48 x2.toNatClampNeg) fun v6 =>
  tc_f2_firstOtherwise_33 N N x2 x3 v6 0 μ4))
theorem tc_b2_firstOtherwise_0 (N : Nat) (x2 : Int32) (x3 : Int32) (x4 : Int32) (μ : tc_Mem) (z : Int32 × tc_Mem) (h : tc_f2_firstOtherwise N x2 x3 x4 μ = some z) : tc_At l G tc_i2_firstOtherwise (some (.int z.1)) z.2 X 0 [(0, .ref (tc_ad G 27)), (1, .ref (tc_ad G 46)), (2, .int x2), (3, .int x3), (4, .int x4)] [] μ := by
  unfold tc_f2_firstOtherwise at h
  refine tc_aload_n tc_d2_firstOtherwise_0 0 rfl ?_
  refine tc_g2_1 tc_d2_firstOtherwise_1 tc_w212 ?_
  refine tc_aload_n tc_d2_firstOtherwise_4 0 rfl ?_
  refine tc_g2_0 tc_d2_firstOtherwise_5 tc_w211 ?_
  obtain ⟨r1, μ2, e1, h⟩ := tc_bdS h
  have c1 := tc_c5_become (l := l) (G := G) N tc_Y28 tc_Y1 e1
  refine tc_callVv (As := [.ref (tc_ad G 1)]) (rest := []) (μ1 := μ2) tc_d2_firstOtherwise_8 tc_ok5_become tc_w528 ⟨Nat.le_of_ble_eq_true rfl, Nat.le_of_ble_eq_true rfl⟩ tc_s5_28 rfl c1 rfl rfl (Nat.le_of_ble_eq_true rfl) ?_
  refine tc_aload_n tc_d2_firstOtherwise_11 0 rfl ?_
  refine tc_g2_1 tc_d2_firstOtherwise_12 tc_w212 ?_
  refine tc_g5_1_28 tc_d2_firstOtherwise_15 tc_w119 ?_
  refine tc_iload_n tc_d2_firstOtherwise_18 3 rfl ?_
  refine tc_iload tc_d2_firstOtherwise_19 4 rfl ?_
  obtain ⟨hi3, h⟩ := tc_ckS h
  refine tc_iastL tc_d2_firstOtherwise_21 tc_aL29 hi3 h (fun μ4 h => ?_)
  refine tc_aload_n tc_d2_firstOtherwise_22 1 rfl ?_
  refine tc_g3_1 tc_d2_firstOtherwise_23 tc_w258 ?_
  refine tc_iload_n tc_d2_firstOtherwise_26 2 rfl ?_
  obtain ⟨hi5, h⟩ := tc_ckS h
  refine tc_iald tc_d2_firstOtherwise_27 tc_aL48 hi5 ?_
  refine tc_ltI h (fun v6 h => ?_)
  refine tc_istore (L' := [(5, .int v6), (0, .ref (tc_ad G 27)), (1, .ref (tc_ad G 46)), (2, .int x2), (3, .int x3), (4, .int x4)]) tc_d2_firstOtherwise_28 (by decide) rfl ?_
  refine tc_iconst (v := 0) tc_d2_firstOtherwise_30 (by decide) ?_
  refine tc_istore (L' := [(6, .int 0), (5, .int v6), (0, .ref (tc_ad G 27)), (1, .ref (tc_ad G 46)), (2, .int x2), (3, .int x3), (4, .int x4)]) tc_d2_firstOtherwise_31 (by decide) rfl ?_
  refine tc_sub [2, 3, 4, 5, 1, 0] rfl ?_
  exact (tc_b2_firstOtherwise_33 N N _ _ _ _ _ _) h
theorem tc_c2_firstOtherwise (N : Nat) {x2 : Int32} {x3 : Int32} {x4 : Int32} {μ : tc_Mem} {z : Int32 × tc_Mem} (h : tc_f2_firstOtherwise N x2 x3 x4 μ = some z) : tc_Con l G tc_i2_firstOtherwise [.ref (tc_ad G 27), .ref (tc_ad G 46), .int x2, .int x3, .int x4] μ (some (.int z.1)) z.2 :=
  tc_Con.of (L := [(0, .ref (tc_ad G 27)), (1, .ref (tc_ad G 46)), (2, .int x2), (3, .int x3), (4, .int x4)]) (by decide) (Nat.le_of_ble_eq_true rfl) rfl (fun X => tc_b2_firstOtherwise_0 N  _ _ _ _ _ h)
def tc_f2_fromLast (N : Nat) (x1 : Int32) (μ : tc_Mem) : Option (Int32 × tc_Mem) :=
  tc_bd (tc_f5_become N 28 1 μ) fun _ μ2 =>
  tc_bd (tc_f0_settles N 39 28 0 μ2) fun r3 μ4 =>
  if r3 = 0 then
    some ((-3), μ4)
  else
    tc_lt (μ4 28 8) fun v5 =>
    tc_lt (tc_wr μ4 28 8 (μ4 1 8)) fun μ6 =>
    tc_bd (tc_f0_settles N 39 28 1 μ6) fun r7 μ8 =>
    if r7 = 0 then
      some ((-3), μ8)
    else
      if x1 = 1 then
        some ((μ8 39 1), μ8)
      else
        if (μ8 28 8) = v5 then
          some (1, μ8)
        else
          some (0, μ8)
theorem tc_b2_fromLast_0 (N : Nat) (x1 : Int32) (μ : tc_Mem) (z : Int32 × tc_Mem) (h : tc_f2_fromLast N x1 μ = some z) : tc_At l G tc_i2_fromLast (some (.int z.1)) z.2 X 0 [(0, .ref (tc_ad G 27)), (1, .int x1)] [] μ := by
  unfold tc_f2_fromLast at h
  refine tc_aload_n tc_d2_fromLast_0 0 rfl ?_
  refine tc_g2_1 tc_d2_fromLast_1 tc_w212 ?_
  refine tc_aload_n tc_d2_fromLast_4 0 rfl ?_
  refine tc_g2_0 tc_d2_fromLast_5 tc_w211 ?_
  obtain ⟨r1, μ2, e1, h⟩ := tc_bdS h
  have c1 := tc_c5_become (l := l) (G := G) N tc_Y28 tc_Y1 e1
  refine tc_callVv (As := [.ref (tc_ad G 1)]) (rest := []) (μ1 := μ2) tc_d2_fromLast_8 tc_ok5_become tc_w528 ⟨Nat.le_of_ble_eq_true rfl, Nat.le_of_ble_eq_true rfl⟩ tc_s5_28 rfl c1 rfl rfl (Nat.le_of_ble_eq_true rfl) ?_
  refine tc_aload_n tc_d2_fromLast_11 0 rfl ?_
  refine tc_g2_2 tc_d2_fromLast_12 tc_w213 ?_
  refine tc_aload_n tc_d2_fromLast_15 0 rfl ?_
  refine tc_g2_1 tc_d2_fromLast_16 tc_w212 ?_
  refine tc_iconst (v := 0) tc_d2_fromLast_19 (by decide) ?_
  obtain ⟨r3, μ4, e3, h⟩ := tc_bdS h
  have c3 := tc_c0_settles (l := l) (G := G) N tc_A39 tc_Y28 e3
  refine tc_callVi (As := [.ref (tc_ad G 28), .int 0]) (rest := []) (r1 := r3) (μ1 := μ4) tc_d2_fromLast_20 tc_ok0_settles tc_w563 ⟨Nat.le_of_ble_eq_true rfl, Nat.le_of_ble_eq_true rfl⟩ tc_s0_39 rfl c3 rfl rfl (Nat.le_of_ble_eq_true rfl) ?_
  refine tc_if_ne (tgt := 29) tc_d2_fromLast_23 (by decide) h (fun h => ?_) (fun h => ?_)
  · refine tc_aload_n tc_d2_fromLast_29 0 rfl ?_
    refine tc_g2_1 tc_d2_fromLast_30 tc_w212 ?_
    refine tc_g5_8_28 tc_d2_fromLast_33 tc_w134 ?_
    refine tc_ltI h (fun v5 h => ?_)
    refine tc_istore_n (L' := [(2, .int v5), (0, .ref (tc_ad G 27)), (1, .int x1)]) tc_d2_fromLast_36 (by decide) rfl ?_
    refine tc_aload_n tc_d2_fromLast_37 1 rfl ?_
    refine tc_g2_1 tc_d2_fromLast_38 tc_w212 ?_
    refine tc_aload_n tc_d2_fromLast_41 1 rfl ?_
    refine tc_g2_0 tc_d2_fromLast_42 tc_w211 ?_
    refine tc_g5_8_1 tc_d2_fromLast_45 tc_w134 ?_
    refine tc_p5_8_28 tc_d2_fromLast_48 tc_w134 h (fun μ6 h => ?_)
    refine tc_aload_n tc_d2_fromLast_51 1 rfl ?_
    refine tc_g2_2 tc_d2_fromLast_52 tc_w213 ?_
    refine tc_aload_n tc_d2_fromLast_55 1 rfl ?_
    refine tc_g2_1 tc_d2_fromLast_56 tc_w212 ?_
    refine tc_iconst (v := 1) tc_d2_fromLast_59 (by decide) ?_
    obtain ⟨r7, μ8, e7, h⟩ := tc_bdS h
    have c7 := tc_c0_settles (l := l) (G := G) N tc_A39 tc_Y28 e7
    refine tc_callVi (As := [.ref (tc_ad G 28), .int 1]) (rest := []) (r1 := r7) (μ1 := μ8) tc_d2_fromLast_60 tc_ok0_settles tc_w563 ⟨Nat.le_of_ble_eq_true rfl, Nat.le_of_ble_eq_true rfl⟩ tc_s0_39 rfl c7 rfl rfl (Nat.le_of_ble_eq_true rfl) ?_
    refine tc_if_ne (tgt := 69) tc_d2_fromLast_63 (by decide) h (fun h => ?_) (fun h => ?_)
    · refine tc_iload_n tc_d2_fromLast_69 2 rfl ?_
      refine tc_iconst (v := 1) tc_d2_fromLast_70 (by decide) ?_
      refine tc_icmp_ne (tgt := 82) tc_d2_fromLast_71 (by decide) h (fun h => ?_) (fun h => ?_)
      · refine tc_aload_n tc_d2_fromLast_82 1 rfl ?_
        refine tc_g2_1 tc_d2_fromLast_83 tc_w212 ?_
        refine tc_g5_8_28 tc_d2_fromLast_86 tc_w134 ?_
        refine tc_iload_n tc_d2_fromLast_89 0 rfl ?_
        refine tc_icmp_ne (tgt := 97) tc_d2_fromLast_90 (by decide) h (fun h => ?_) (fun h => ?_)
        · refine tc_iconst (v := 0) tc_d2_fromLast_97 (by decide) ?_
          exact tc_iret tc_d2_fromLast_98 rfl (tc_riS h)
        · refine tc_iconst (v := 1) tc_d2_fromLast_93 (by decide) ?_
          refine tc_goto (tgt := 98) tc_d2_fromLast_94 (by decide) ?_
          exact tc_iret tc_d2_fromLast_98 rfl (tc_riS h)
      · refine tc_aload_n tc_d2_fromLast_74 1 rfl ?_
        refine tc_g2_2 tc_d2_fromLast_75 tc_w213 ?_
        refine tc_g0_1_39 tc_d2_fromLast_78 tc_w181 ?_
        exact tc_iret tc_d2_fromLast_81 rfl (tc_riS h)
    · refine tc_bipush (v := (-3)) tc_d2_fromLast_66 (by decide) ?_
      exact tc_iret tc_d2_fromLast_68 rfl (tc_riS h)
  · refine tc_bipush (v := (-3)) tc_d2_fromLast_26 (by decide) ?_
    exact tc_iret tc_d2_fromLast_28 rfl (tc_riS h)
theorem tc_c2_fromLast (N : Nat) {x1 : Int32} {μ : tc_Mem} {z : Int32 × tc_Mem} (h : tc_f2_fromLast N x1 μ = some z) : tc_Con l G tc_i2_fromLast [.ref (tc_ad G 27), .int x1] μ (some (.int z.1)) z.2 :=
  tc_Con.of (L := [(0, .ref (tc_ad G 27)), (1, .int x1)]) (by decide) (Nat.le_of_ble_eq_true rfl) rfl (fun X => tc_b2_fromLast_0 N  _ _ _ h)
def tc_f2_isFair (N : Nat) (x1 : Int32) (x2 : Int32) (μ : tc_Mem) : Option (Int32 × tc_Mem) :=
  tc_bd (tc_f5_become N 28 1 μ) fun _ μ2 =>
  tc_lt (tc_wr μ2 28 10 x1) fun μ3 =>
  tc_lt (tc_wr μ3 28 12 x2) fun μ4 =>
  tc_bd (tc_f0_settles N 39 28 0 μ4) fun r5 μ6 =>
  if r5 = 0 then
    some (0, μ6)
  else
    tc_bd (tc_f5_wrong N 28 μ6) fun r7 μ8 =>
    if r7 = 0 then
      some (1, μ8)
    else
      some (0, μ8)
theorem tc_b2_isFair_0 (N : Nat) (x1 : Int32) (x2 : Int32) (μ : tc_Mem) (z : Int32 × tc_Mem) (h : tc_f2_isFair N x1 x2 μ = some z) : tc_At l G tc_i2_isFair (some (.int z.1)) z.2 X 0 [(0, .ref (tc_ad G 27)), (1, .int x1), (2, .int x2)] [] μ := by
  unfold tc_f2_isFair at h
  refine tc_aload_n tc_d2_isFair_0 0 rfl ?_
  refine tc_g2_1 tc_d2_isFair_1 tc_w212 ?_
  refine tc_aload_n tc_d2_isFair_4 0 rfl ?_
  refine tc_g2_0 tc_d2_isFair_5 tc_w211 ?_
  obtain ⟨r1, μ2, e1, h⟩ := tc_bdS h
  have c1 := tc_c5_become (l := l) (G := G) N tc_Y28 tc_Y1 e1
  refine tc_callVv (As := [.ref (tc_ad G 1)]) (rest := []) (μ1 := μ2) tc_d2_isFair_8 tc_ok5_become tc_w528 ⟨Nat.le_of_ble_eq_true rfl, Nat.le_of_ble_eq_true rfl⟩ tc_s5_28 rfl c1 rfl rfl (Nat.le_of_ble_eq_true rfl) ?_
  refine tc_aload_n tc_d2_isFair_11 0 rfl ?_
  refine tc_g2_1 tc_d2_isFair_12 tc_w212 ?_
  refine tc_iload_n tc_d2_isFair_15 1 rfl ?_
  refine tc_p5_10_28 tc_d2_isFair_16 tc_w141 h (fun μ3 h => ?_)
  refine tc_aload_n tc_d2_isFair_19 0 rfl ?_
  refine tc_g2_1 tc_d2_isFair_20 tc_w212 ?_
  refine tc_iload_n tc_d2_isFair_23 2 rfl ?_
  refine tc_p5_12_28 tc_d2_isFair_24 tc_w145 h (fun μ4 h => ?_)
  refine tc_aload_n tc_d2_isFair_27 0 rfl ?_
  refine tc_g2_2 tc_d2_isFair_28 tc_w213 ?_
  refine tc_aload_n tc_d2_isFair_31 0 rfl ?_
  refine tc_g2_1 tc_d2_isFair_32 tc_w212 ?_
  refine tc_iconst (v := 0) tc_d2_isFair_35 (by decide) ?_
  obtain ⟨r5, μ6, e5, h⟩ := tc_bdS h
  have c5 := tc_c0_settles (l := l) (G := G) N tc_A39 tc_Y28 e5
  refine tc_callVi (As := [.ref (tc_ad G 28), .int 0]) (rest := []) (r1 := r5) (μ1 := μ6) tc_d2_isFair_36 tc_ok0_settles tc_w563 ⟨Nat.le_of_ble_eq_true rfl, Nat.le_of_ble_eq_true rfl⟩ tc_s0_39 rfl c5 rfl rfl (Nat.le_of_ble_eq_true rfl) ?_
  refine tc_if_eq (tgt := 56) tc_d2_isFair_39 (by decide) h (fun h => ?_) (fun h => ?_)
  · refine tc_iconst (v := 0) tc_d2_isFair_56 (by decide) ?_
    exact tc_zret tc_d2_isFair_57 rfl (by decide) (tc_riS h)
  · refine tc_aload_n tc_d2_isFair_42 0 rfl ?_
    refine tc_g2_1 tc_d2_isFair_43 tc_w212 ?_
    obtain ⟨r7, μ8, e7, h⟩ := tc_bdS h
    have c7 := tc_c5_wrong (l := l) (G := G) N tc_Y28 e7
    refine tc_callVi (As := []) (rest := []) (r1 := r7) (μ1 := μ8) tc_d2_isFair_46 tc_ok5_wrong tc_w589 ⟨Nat.le_of_ble_eq_true rfl, Nat.le_of_ble_eq_true rfl⟩ tc_s5_28 rfl c7 rfl rfl (Nat.le_of_ble_eq_true rfl) ?_
    refine tc_if_ne (tgt := 56) tc_d2_isFair_49 (by decide) h (fun h => ?_) (fun h => ?_)
    · refine tc_iconst (v := 0) tc_d2_isFair_56 (by decide) ?_
      exact tc_zret tc_d2_isFair_57 rfl (by decide) (tc_riS h)
    · refine tc_iconst (v := 1) tc_d2_isFair_52 (by decide) ?_
      refine tc_goto (tgt := 57) tc_d2_isFair_53 (by decide) ?_
      exact tc_zret tc_d2_isFair_57 rfl (by decide) (tc_riS h)
theorem tc_c2_isFair (N : Nat) {x1 : Int32} {x2 : Int32} {μ : tc_Mem} {z : Int32 × tc_Mem} (h : tc_f2_isFair N x1 x2 μ = some z) : tc_Con l G tc_i2_isFair [.ref (tc_ad G 27), .int x1, .int x2] μ (some (.int z.1)) z.2 :=
  tc_Con.of (L := [(0, .ref (tc_ad G 27)), (1, .int x1), (2, .int x2)]) (by decide) (Nat.le_of_ble_eq_true rfl) rfl (fun X => tc_b2_isFair_0 N  _ _ _ _ h)
def tc_f2_greatestFairPick_3 (N : Nat) : Nat → Int32 → tc_Mem → Option (Int32 × tc_Mem)
  | 0 => fun _ _ => none
  | n + 1 => fun x1 μ => 
    if x1 < 0 then
      some ((-1), μ)
    else
      tc_bd (tc_f2_isFair N x1 (μ 1 12) μ) fun r1 μ2 =>
      if r1 = 0 then
        tc_f2_greatestFairPick_3 N  n (x1 + (-1)) μ2
      else
        some (x1, μ2)
theorem tc_b2_greatestFairPick_3 (N : Nat) : ∀ (n : Nat) (x1 : Int32) (μ : tc_Mem) (z : Int32 × tc_Mem), tc_f2_greatestFairPick_3 N n x1 μ = some z → tc_At l G tc_i2_greatestFairPick (some (.int z.1)) z.2 X 3 [(0, .ref (tc_ad G 27)), (1, .int x1)] [] μ := by
  intro n
  induction n with
  | zero => intro x1 μ z h; cases h
  | succ n ih =>
    intro x1 μ z h
    rw [tc_f2_greatestFairPick_3] at h
    refine tc_iload_n tc_d2_greatestFairPick_3 1 rfl ?_
    refine tc_if_lt (tgt := 30) tc_d2_greatestFairPick_4 (by decide) h (fun h => ?_) (fun h => ?_)
    · refine tc_iconst (v := (-1)) tc_d2_greatestFairPick_30 (by decide) ?_
      exact tc_iret tc_d2_greatestFairPick_31 rfl (tc_riS h)
    · refine tc_aload_n tc_d2_greatestFairPick_7 0 rfl ?_
      refine tc_iload_n tc_d2_greatestFairPick_8 1 rfl ?_
      refine tc_aload_n tc_d2_greatestFairPick_9 0 rfl ?_
      refine tc_g2_0 tc_d2_greatestFairPick_10 tc_w211 ?_
      refine tc_g5_12_1 tc_d2_greatestFairPick_13 tc_w145 ?_
      obtain ⟨r1, μ2, e1, h⟩ := tc_bdS h
      have c1 := tc_c2_isFair (l := l) (G := G) N e1
      refine tc_callVi (As := [.int x1, .int (μ 1 12)]) (rest := []) (r1 := r1) (μ1 := μ2) tc_d2_greatestFairPick_16 tc_ok2_isFair tc_w585 ⟨Nat.le_of_ble_eq_true rfl, Nat.le_of_ble_eq_true rfl⟩ tc_s2 rfl c1 rfl rfl (Nat.le_of_ble_eq_true rfl) ?_
      refine tc_if_eq (tgt := 24) tc_d2_greatestFairPick_19 (by decide) h (fun h => ?_) (fun h => ?_)
      · refine tc_iinc (v := (x1 + (-1))) (L' := [(1, .int (x1 + (-1))), (0, .ref (tc_ad G 27))]) tc_d2_greatestFairPick_24 1 rfl rfl (by decide) rfl ?_
        refine tc_goto (tgt := 3) tc_d2_greatestFairPick_27 (by decide) ?_
        refine tc_sub [1, 0] rfl ?_
        exact (ih _ _ _) h
      · refine tc_iload_n tc_d2_greatestFairPick_22 1 rfl ?_
        exact tc_iret tc_d2_greatestFairPick_23 rfl (tc_riS h)
def tc_f2_greatestFairPick (N : Nat) (μ : tc_Mem) : Option (Int32 × tc_Mem) :=
  tc_f2_greatestFairPick_3 N N 99 μ
theorem tc_b2_greatestFairPick_0 (N : Nat) (μ : tc_Mem) (z : Int32 × tc_Mem) (h : tc_f2_greatestFairPick N μ = some z) : tc_At l G tc_i2_greatestFairPick (some (.int z.1)) z.2 X 0 [(0, .ref (tc_ad G 27))] [] μ := by
  unfold tc_f2_greatestFairPick at h
  refine tc_bipush (v := 99) tc_d2_greatestFairPick_0 (by decide) ?_
  refine tc_istore_n (L' := [(1, .int 99), (0, .ref (tc_ad G 27))]) tc_d2_greatestFairPick_2 (by decide) rfl ?_
  refine tc_sub [1, 0] rfl ?_
  exact (tc_b2_greatestFairPick_3 N N _ _ _) h
theorem tc_c2_greatestFairPick (N : Nat) {μ : tc_Mem} {z : Int32 × tc_Mem} (h : tc_f2_greatestFairPick N μ = some z) : tc_Con l G tc_i2_greatestFairPick [.ref (tc_ad G 27)] μ (some (.int z.1)) z.2 :=
  tc_Con.of (L := [(0, .ref (tc_ad G 27))]) (by decide) (Nat.le_of_ble_eq_true rfl) rfl (fun X => tc_b2_greatestFairPick_0 N  _ _ h)
def tc_f2_greatestFairWeather_3 (N : Nat) : Nat → Int32 → tc_Mem → Option (Int32 × tc_Mem)
  | 0 => fun _ _ => none
  | n + 1 => fun x1 μ => 
    if x1 < 0 then
      some ((-1), μ)
    else
      tc_bd (tc_f2_isFair N (μ 1 10) x1 μ) fun r1 μ2 =>
      if r1 = 0 then
        tc_f2_greatestFairWeather_3 N  n (x1 + (-1)) μ2
      else
        some (x1, μ2)
theorem tc_b2_greatestFairWeather_3 (N : Nat) : ∀ (n : Nat) (x1 : Int32) (μ : tc_Mem) (z : Int32 × tc_Mem), tc_f2_greatestFairWeather_3 N n x1 μ = some z → tc_At l G tc_i2_greatestFairWeather (some (.int z.1)) z.2 X 3 [(0, .ref (tc_ad G 27)), (1, .int x1)] [] μ := by
  intro n
  induction n with
  | zero => intro x1 μ z h; cases h
  | succ n ih =>
    intro x1 μ z h
    rw [tc_f2_greatestFairWeather_3] at h
    refine tc_iload_n tc_d2_greatestFairWeather_3 1 rfl ?_
    refine tc_if_lt (tgt := 30) tc_d2_greatestFairWeather_4 (by decide) h (fun h => ?_) (fun h => ?_)
    · refine tc_iconst (v := (-1)) tc_d2_greatestFairWeather_30 (by decide) ?_
      exact tc_iret tc_d2_greatestFairWeather_31 rfl (tc_riS h)
    · refine tc_aload_n tc_d2_greatestFairWeather_7 0 rfl ?_
      refine tc_aload_n tc_d2_greatestFairWeather_8 0 rfl ?_
      refine tc_g2_0 tc_d2_greatestFairWeather_9 tc_w211 ?_
      refine tc_g5_10_1 tc_d2_greatestFairWeather_12 tc_w141 ?_
      refine tc_iload_n tc_d2_greatestFairWeather_15 1 rfl ?_
      obtain ⟨r1, μ2, e1, h⟩ := tc_bdS h
      have c1 := tc_c2_isFair (l := l) (G := G) N e1
      refine tc_callVi (As := [.int (μ 1 10), .int x1]) (rest := []) (r1 := r1) (μ1 := μ2) tc_d2_greatestFairWeather_16 tc_ok2_isFair tc_w585 ⟨Nat.le_of_ble_eq_true rfl, Nat.le_of_ble_eq_true rfl⟩ tc_s2 rfl c1 rfl rfl (Nat.le_of_ble_eq_true rfl) ?_
      refine tc_if_eq (tgt := 24) tc_d2_greatestFairWeather_19 (by decide) h (fun h => ?_) (fun h => ?_)
      · refine tc_iinc (v := (x1 + (-1))) (L' := [(1, .int (x1 + (-1))), (0, .ref (tc_ad G 27))]) tc_d2_greatestFairWeather_24 1 rfl rfl (by decide) rfl ?_
        refine tc_goto (tgt := 3) tc_d2_greatestFairWeather_27 (by decide) ?_
        refine tc_sub [1, 0] rfl ?_
        exact (ih _ _ _) h
      · refine tc_iload_n tc_d2_greatestFairWeather_22 1 rfl ?_
        exact tc_iret tc_d2_greatestFairWeather_23 rfl (tc_riS h)
def tc_f2_greatestFairWeather (N : Nat) (μ : tc_Mem) : Option (Int32 × tc_Mem) :=
  tc_f2_greatestFairWeather_3 N N 9 μ
theorem tc_b2_greatestFairWeather_0 (N : Nat) (μ : tc_Mem) (z : Int32 × tc_Mem) (h : tc_f2_greatestFairWeather N μ = some z) : tc_At l G tc_i2_greatestFairWeather (some (.int z.1)) z.2 X 0 [(0, .ref (tc_ad G 27))] [] μ := by
  unfold tc_f2_greatestFairWeather at h
  refine tc_bipush (v := 9) tc_d2_greatestFairWeather_0 (by decide) ?_
  refine tc_istore_n (L' := [(1, .int 9), (0, .ref (tc_ad G 27))]) tc_d2_greatestFairWeather_2 (by decide) rfl ?_
  refine tc_sub [1, 0] rfl ?_
  exact (tc_b2_greatestFairWeather_3 N N _ _ _) h
theorem tc_c2_greatestFairWeather (N : Nat) {μ : tc_Mem} {z : Int32 × tc_Mem} (h : tc_f2_greatestFairWeather N μ = some z) : tc_Con l G tc_i2_greatestFairWeather [.ref (tc_ad G 27)] μ (some (.int z.1)) z.2 :=
  tc_Con.of (L := [(0, .ref (tc_ad G 27))]) (by decide) (Nat.le_of_ble_eq_true rfl) rfl (fun X => tc_b2_greatestFairWeather_0 N  _ _ h)
def tc_f2_settlesWithBreak (N : Nat) (x1 : Int32) (x2 : Int32) (μ : tc_Mem) : Option (Int32 × tc_Mem) :=
  tc_bd (tc_f5_become N 28 1 μ) fun _ μ2 =>
  tc_lt (tc_wr μ2 28 12 x2) fun μ3 =>
  tc_bd (tc_f5_addFault N 28 0 x1 μ3) fun _ μ5 =>
  tc_bd (tc_f0_settles N 39 28 0 μ5) fun r6 μ7 =>
  tc_zr r6 μ7
theorem tc_b2_settlesWithBreak_0 (N : Nat) (x1 : Int32) (x2 : Int32) (μ : tc_Mem) (z : Int32 × tc_Mem) (h : tc_f2_settlesWithBreak N x1 x2 μ = some z) : tc_At l G tc_i2_settlesWithBreak (some (.int z.1)) z.2 X 0 [(0, .ref (tc_ad G 27)), (1, .int x1), (2, .int x2)] [] μ := by
  unfold tc_f2_settlesWithBreak at h
  refine tc_aload_n tc_d2_settlesWithBreak_0 0 rfl ?_
  refine tc_g2_1 tc_d2_settlesWithBreak_1 tc_w212 ?_
  refine tc_aload_n tc_d2_settlesWithBreak_4 0 rfl ?_
  refine tc_g2_0 tc_d2_settlesWithBreak_5 tc_w211 ?_
  obtain ⟨r1, μ2, e1, h⟩ := tc_bdS h
  have c1 := tc_c5_become (l := l) (G := G) N tc_Y28 tc_Y1 e1
  refine tc_callVv (As := [.ref (tc_ad G 1)]) (rest := []) (μ1 := μ2) tc_d2_settlesWithBreak_8 tc_ok5_become tc_w528 ⟨Nat.le_of_ble_eq_true rfl, Nat.le_of_ble_eq_true rfl⟩ tc_s5_28 rfl c1 rfl rfl (Nat.le_of_ble_eq_true rfl) ?_
  refine tc_aload_n tc_d2_settlesWithBreak_11 0 rfl ?_
  refine tc_g2_1 tc_d2_settlesWithBreak_12 tc_w212 ?_
  refine tc_iload_n tc_d2_settlesWithBreak_15 2 rfl ?_
  refine tc_p5_12_28 tc_d2_settlesWithBreak_16 tc_w145 h (fun μ3 h => ?_)
  refine tc_aload_n tc_d2_settlesWithBreak_19 0 rfl ?_
  refine tc_g2_1 tc_d2_settlesWithBreak_20 tc_w212 ?_
  refine tc_iconst (v := 0) tc_d2_settlesWithBreak_23 (by decide) ?_
  refine tc_iload_n tc_d2_settlesWithBreak_24 1 rfl ?_
  obtain ⟨r4, μ5, e4, h⟩ := tc_bdS h
  have c4 := tc_c5_addFault (l := l) (G := G) N tc_Y28 e4
  refine tc_callVv (As := [.int 0, .int x1]) (rest := []) (μ1 := μ5) tc_d2_settlesWithBreak_25 tc_ok5_addFault tc_w576 ⟨Nat.le_of_ble_eq_true rfl, Nat.le_of_ble_eq_true rfl⟩ tc_s5_28 rfl c4 rfl rfl (Nat.le_of_ble_eq_true rfl) ?_
  refine tc_aload_n tc_d2_settlesWithBreak_28 0 rfl ?_
  refine tc_g2_2 tc_d2_settlesWithBreak_29 tc_w213 ?_
  refine tc_aload_n tc_d2_settlesWithBreak_32 0 rfl ?_
  refine tc_g2_1 tc_d2_settlesWithBreak_33 tc_w212 ?_
  refine tc_iconst (v := 0) tc_d2_settlesWithBreak_36 (by decide) ?_
  obtain ⟨r6, μ7, e6, h⟩ := tc_bdS h
  have c6 := tc_c0_settles (l := l) (G := G) N tc_A39 tc_Y28 e6
  refine tc_callVi (As := [.ref (tc_ad G 28), .int 0]) (rest := []) (r1 := r6) (μ1 := μ7) tc_d2_settlesWithBreak_37 tc_ok0_settles tc_w563 ⟨Nat.le_of_ble_eq_true rfl, Nat.le_of_ble_eq_true rfl⟩ tc_s0_39 rfl c6 rfl rfl (Nat.le_of_ble_eq_true rfl) ?_
  exact tc_zret tc_d2_settlesWithBreak_40 rfl (tc_zrS h).1 (tc_zrS h).2
theorem tc_c2_settlesWithBreak (N : Nat) {x1 : Int32} {x2 : Int32} {μ : tc_Mem} {z : Int32 × tc_Mem} (h : tc_f2_settlesWithBreak N x1 x2 μ = some z) : tc_Con l G tc_i2_settlesWithBreak [.ref (tc_ad G 27), .int x1, .int x2] μ (some (.int z.1)) z.2 :=
  tc_Con.of (L := [(0, .ref (tc_ad G 27)), (1, .int x1), (2, .int x2)]) (by decide) (Nat.le_of_ble_eq_true rfl) rfl (fun X => tc_b2_settlesWithBreak_0 N  _ _ _ _ h)
def tc_f2_leastBlindWeather_10 (N : Nat) (k2 : Int32 → tc_Mem → Option (Int32 × tc_Mem)) : Nat → Int32 → Int32 → tc_Mem → Option (Int32 × tc_Mem)
  | 0 => fun _ _ _ => none
  | n + 1 => fun x1 x2 μ => 
    if (μ 1 0) ≤ x2 then
      k2 (x1 + 1) μ
    else
      tc_bd (tc_f2_settlesWithBreak N x2 x1 μ) fun r1 μ2 =>
      if r1 = 0 then
        tc_f2_leastBlindWeather_10 N k2 n x1 (x2 + 1) μ2
      else
        tc_bd (tc_f5_relay N 28 x2 μ2) fun r3 μ4 =>
        if r3 = 1 then
          some (x1, μ4)
        else
          tc_f2_leastBlindWeather_10 N k2 n x1 (x2 + 1) μ4
theorem tc_b2_leastBlindWeather_10 (N : Nat) {k2 : Int32 → tc_Mem → Option (Int32 × tc_Mem)} (H2 : ∀ (x1 : Int32) (μ : tc_Mem) (z : Int32 × tc_Mem), k2 x1 μ = some z → tc_At l G tc_i2_leastBlindWeather (some (.int z.1)) z.2 X 2 [(0, .ref (tc_ad G 27)), (1, .int x1)] [] μ) : ∀ (n : Nat) (x1 : Int32) (x2 : Int32) (μ : tc_Mem) (z : Int32 × tc_Mem), tc_f2_leastBlindWeather_10 N k2 n x1 x2 μ = some z → tc_At l G tc_i2_leastBlindWeather (some (.int z.1)) z.2 X 10 [(0, .ref (tc_ad G 27)), (1, .int x1), (2, .int x2)] [] μ := by
  intro n
  induction n with
  | zero => intro x1 x2 μ z h; cases h
  | succ n ih =>
    intro x1 x2 μ z h
    rw [tc_f2_leastBlindWeather_10] at h
    refine tc_iload_n tc_d2_leastBlindWeather_10 2 rfl ?_
    refine tc_aload_n tc_d2_leastBlindWeather_11 0 rfl ?_
    refine tc_g2_0 tc_d2_leastBlindWeather_12 tc_w211 ?_
    refine tc_g5_0_1 tc_d2_leastBlindWeather_15 tc_w116 ?_
    refine tc_icmp_ge (tgt := 50) tc_d2_leastBlindWeather_18 (by decide) h (fun h => ?_) (fun h => ?_)
    · refine tc_iinc (v := (x1 + 1)) (L' := [(1, .int (x1 + 1)), (0, .ref (tc_ad G 27)), (2, .int x2)]) tc_d2_leastBlindWeather_50 1 rfl rfl (by decide) rfl ?_
      refine tc_goto (tgt := 2) tc_d2_leastBlindWeather_53 (by decide) ?_
      refine tc_sub [1, 0] rfl ?_
      exact (H2 _ _ _) h
    · refine tc_aload_n tc_d2_leastBlindWeather_21 0 rfl ?_
      refine tc_iload_n tc_d2_leastBlindWeather_22 2 rfl ?_
      refine tc_iload_n tc_d2_leastBlindWeather_23 1 rfl ?_
      obtain ⟨r1, μ2, e1, h⟩ := tc_bdS h
      have c1 := tc_c2_settlesWithBreak (l := l) (G := G) N e1
      refine tc_callVi (As := [.int x2, .int x1]) (rest := []) (r1 := r1) (μ1 := μ2) tc_d2_leastBlindWeather_24 tc_ok2_settlesWithBreak tc_w572 ⟨Nat.le_of_ble_eq_true rfl, Nat.le_of_ble_eq_true rfl⟩ tc_s2 rfl c1 rfl rfl (Nat.le_of_ble_eq_true rfl) ?_
      refine tc_if_eq (tgt := 44) tc_d2_leastBlindWeather_27 (by decide) h (fun h => ?_) (fun h => ?_)
      · refine tc_iinc (v := (x2 + 1)) (L' := [(2, .int (x2 + 1)), (0, .ref (tc_ad G 27)), (1, .int x1)]) tc_d2_leastBlindWeather_44 2 rfl rfl (by decide) rfl ?_
        refine tc_goto (tgt := 10) tc_d2_leastBlindWeather_47 (by decide) ?_
        refine tc_sub [1, 2, 0] rfl ?_
        exact (ih _ _ _ _) h
      · refine tc_aload_n tc_d2_leastBlindWeather_30 0 rfl ?_
        refine tc_g2_1 tc_d2_leastBlindWeather_31 tc_w212 ?_
        refine tc_iload_n tc_d2_leastBlindWeather_34 2 rfl ?_
        obtain ⟨r3, μ4, e3, h⟩ := tc_bdS h
        have c3 := tc_c5_relay (l := l) (G := G) N tc_Y28 e3
        refine tc_callVi (As := [.int x2]) (rest := []) (r1 := r3) (μ1 := μ4) tc_d2_leastBlindWeather_35 tc_ok5_relay tc_w554 ⟨Nat.le_of_ble_eq_true rfl, Nat.le_of_ble_eq_true rfl⟩ tc_s5_28 rfl c3 rfl rfl (Nat.le_of_ble_eq_true rfl) ?_
        refine tc_iconst (v := 1) tc_d2_leastBlindWeather_38 (by decide) ?_
        refine tc_icmp_ne (tgt := 44) tc_d2_leastBlindWeather_39 (by decide) h (fun h => ?_) (fun h => ?_)
        · refine tc_iinc (v := (x2 + 1)) (L' := [(2, .int (x2 + 1)), (0, .ref (tc_ad G 27)), (1, .int x1)]) tc_d2_leastBlindWeather_44 2 rfl rfl (by decide) rfl ?_
          refine tc_goto (tgt := 10) tc_d2_leastBlindWeather_47 (by decide) ?_
          refine tc_sub [1, 2, 0] rfl ?_
          exact (ih _ _ _ _) h
        · refine tc_iload_n tc_d2_leastBlindWeather_42 1 rfl ?_
          exact tc_iret tc_d2_leastBlindWeather_43 rfl (tc_riS h)
def tc_f2_leastBlindWeather_2 (N : Nat) : Nat → Int32 → tc_Mem → Option (Int32 × tc_Mem)
  | 0 => fun _ _ => none
  | n + 1 => fun x1 μ => 
    if (9 : Int32) < x1 then
      some ((-1), μ)
    else
      tc_f2_leastBlindWeather_10 N (tc_f2_leastBlindWeather_2 N n) N x1 0 μ
theorem tc_b2_leastBlindWeather_2 (N : Nat) : ∀ (n : Nat) (x1 : Int32) (μ : tc_Mem) (z : Int32 × tc_Mem), tc_f2_leastBlindWeather_2 N n x1 μ = some z → tc_At l G tc_i2_leastBlindWeather (some (.int z.1)) z.2 X 2 [(0, .ref (tc_ad G 27)), (1, .int x1)] [] μ := by
  intro n
  induction n with
  | zero => intro x1 μ z h; cases h
  | succ n ih =>
    intro x1 μ z h
    rw [tc_f2_leastBlindWeather_2] at h
    refine tc_iload_n tc_d2_leastBlindWeather_2 1 rfl ?_
    refine tc_bipush (v := 9) tc_d2_leastBlindWeather_3 (by decide) ?_
    refine tc_icmp_gt (tgt := 56) tc_d2_leastBlindWeather_5 (by decide) h (fun h => ?_) (fun h => ?_)
    · refine tc_iconst (v := (-1)) tc_d2_leastBlindWeather_56 (by decide) ?_
      exact tc_iret tc_d2_leastBlindWeather_57 rfl (tc_riS h)
    · refine tc_iconst (v := 0) tc_d2_leastBlindWeather_8 (by decide) ?_
      refine tc_istore_n (L' := [(2, .int 0), (0, .ref (tc_ad G 27)), (1, .int x1)]) tc_d2_leastBlindWeather_9 (by decide) rfl ?_
      refine tc_sub [1, 2, 0] rfl ?_
      exact (tc_b2_leastBlindWeather_10 N ih N _ _ _ _) h
def tc_f2_leastBlindWeather (N : Nat) (μ : tc_Mem) : Option (Int32 × tc_Mem) :=
  tc_f2_leastBlindWeather_2 N N 0 μ
theorem tc_b2_leastBlindWeather_0 (N : Nat) (μ : tc_Mem) (z : Int32 × tc_Mem) (h : tc_f2_leastBlindWeather N μ = some z) : tc_At l G tc_i2_leastBlindWeather (some (.int z.1)) z.2 X 0 [(0, .ref (tc_ad G 27))] [] μ := by
  unfold tc_f2_leastBlindWeather at h
  refine tc_iconst (v := 0) tc_d2_leastBlindWeather_0 (by decide) ?_
  refine tc_istore_n (L' := [(1, .int 0), (0, .ref (tc_ad G 27))]) tc_d2_leastBlindWeather_1 (by decide) rfl ?_
  refine tc_sub [1, 0] rfl ?_
  exact (tc_b2_leastBlindWeather_2 N N _ _ _) h
theorem tc_c2_leastBlindWeather (N : Nat) {μ : tc_Mem} {z : Int32 × tc_Mem} (h : tc_f2_leastBlindWeather N μ = some z) : tc_Con l G tc_i2_leastBlindWeather [.ref (tc_ad G 27)] μ (some (.int z.1)) z.2 :=
  tc_Con.of (L := [(0, .ref (tc_ad G 27))]) (by decide) (Nat.le_of_ble_eq_true rfl) rfl (fun X => tc_b2_leastBlindWeather_0 N  _ _ h)
def tc_f2_leastSafePick_2 (N : Nat) : Nat → Int32 → tc_Mem → Option (Int32 × tc_Mem)
  | 0 => fun _ _ => none
  | n + 1 => fun x1 μ => 
    if (99 : Int32) < x1 then
      some ((-1), μ)
    else
      tc_bd (tc_f2_firstFailingCase N x1 μ) fun r1 μ2 =>
      if r1 = (-1) then
        some (x1, μ2)
      else
        tc_f2_leastSafePick_2 N  n (x1 + 1) μ2
theorem tc_b2_leastSafePick_2 (N : Nat) : ∀ (n : Nat) (x1 : Int32) (μ : tc_Mem) (z : Int32 × tc_Mem), tc_f2_leastSafePick_2 N n x1 μ = some z → tc_At l G tc_i2_leastSafePick (some (.int z.1)) z.2 X 2 [(0, .ref (tc_ad G 27)), (1, .int x1)] [] μ := by
  intro n
  induction n with
  | zero => intro x1 μ z h; cases h
  | succ n ih =>
    intro x1 μ z h
    rw [tc_f2_leastSafePick_2] at h
    refine tc_iload_n tc_d2_leastSafePick_2 1 rfl ?_
    refine tc_bipush (v := 99) tc_d2_leastSafePick_3 (by decide) ?_
    refine tc_icmp_gt (tgt := 25) tc_d2_leastSafePick_5 (by decide) h (fun h => ?_) (fun h => ?_)
    · refine tc_iconst (v := (-1)) tc_d2_leastSafePick_25 (by decide) ?_
      exact tc_iret tc_d2_leastSafePick_26 rfl (tc_riS h)
    · refine tc_aload_n tc_d2_leastSafePick_8 0 rfl ?_
      refine tc_iload_n tc_d2_leastSafePick_9 1 rfl ?_
      obtain ⟨r1, μ2, e1, h⟩ := tc_bdS h
      have c1 := tc_c2_firstFailingCase (l := l) (G := G) N e1
      refine tc_callVi (As := [.int x1]) (rest := []) (r1 := r1) (μ1 := μ2) tc_d2_leastSafePick_10 tc_ok2_firstFailingCase tc_w623 ⟨Nat.le_of_ble_eq_true rfl, Nat.le_of_ble_eq_true rfl⟩ tc_s2 rfl c1 rfl rfl (Nat.le_of_ble_eq_true rfl) ?_
      refine tc_iconst (v := (-1)) tc_d2_leastSafePick_13 (by decide) ?_
      refine tc_icmp_ne (tgt := 19) tc_d2_leastSafePick_14 (by decide) h (fun h => ?_) (fun h => ?_)
      · refine tc_iinc (v := (x1 + 1)) (L' := [(1, .int (x1 + 1)), (0, .ref (tc_ad G 27))]) tc_d2_leastSafePick_19 1 rfl rfl (by decide) rfl ?_
        refine tc_goto (tgt := 2) tc_d2_leastSafePick_22 (by decide) ?_
        refine tc_sub [1, 0] rfl ?_
        exact (ih _ _ _) h
      · refine tc_iload_n tc_d2_leastSafePick_17 1 rfl ?_
        exact tc_iret tc_d2_leastSafePick_18 rfl (tc_riS h)
def tc_f2_leastSafePick (N : Nat) (μ : tc_Mem) : Option (Int32 × tc_Mem) :=
  tc_f2_leastSafePick_2 N N 0 μ
theorem tc_b2_leastSafePick_0 (N : Nat) (μ : tc_Mem) (z : Int32 × tc_Mem) (h : tc_f2_leastSafePick N μ = some z) : tc_At l G tc_i2_leastSafePick (some (.int z.1)) z.2 X 0 [(0, .ref (tc_ad G 27))] [] μ := by
  unfold tc_f2_leastSafePick at h
  refine tc_iconst (v := 0) tc_d2_leastSafePick_0 (by decide) ?_
  refine tc_istore_n (L' := [(1, .int 0), (0, .ref (tc_ad G 27))]) tc_d2_leastSafePick_1 (by decide) rfl ?_
  refine tc_sub [1, 0] rfl ?_
  exact (tc_b2_leastSafePick_2 N N _ _ _) h
theorem tc_c2_leastSafePick (N : Nat) {μ : tc_Mem} {z : Int32 × tc_Mem} (h : tc_f2_leastSafePick N μ = some z) : tc_Con l G tc_i2_leastSafePick [.ref (tc_ad G 27)] μ (some (.int z.1)) z.2 :=
  tc_Con.of (L := [(0, .ref (tc_ad G 27))]) (by decide) (Nat.le_of_ble_eq_true rfl) rfl (fun X => tc_b2_leastSafePick_0 N  _ _ h)
def tc_f2_unsafeByLot_72 (N : Nat) (μ : tc_Mem) : Option (Int32 × tc_Mem) :=
  tc_bd (tc_f0_settles N 39 28 0 μ) fun r1 μ2 =>
  if r1 = 0 then
    some (9, μ2)
  else
    tc_bd (tc_f5_unsafe N 28 μ2) fun r3 μ4 =>
    tc_bd (tc_f8_bitCount N r3 μ4) fun r5 μ6 =>
    some (r5, μ6)
theorem tc_b2_unsafeByLot_72 (N : Nat) (μ : tc_Mem) (z : Int32 × tc_Mem) (h : tc_f2_unsafeByLot_72 N μ = some z) : tc_At l G tc_i2_unsafeByLot (some (.int z.1)) z.2 X 72 [(0, .ref (tc_ad G 27))] [] μ := by
  unfold tc_f2_unsafeByLot_72 at h
  refine tc_aload_n tc_d2_unsafeByLot_72 0 rfl ?_
  refine tc_g2_2 tc_d2_unsafeByLot_73 tc_w213 ?_
  refine tc_aload_n tc_d2_unsafeByLot_76 0 rfl ?_
  refine tc_g2_1 tc_d2_unsafeByLot_77 tc_w212 ?_
  refine tc_iconst (v := 0) tc_d2_unsafeByLot_80 (by decide) ?_
  obtain ⟨r1, μ2, e1, h⟩ := tc_bdS h
  have c1 := tc_c0_settles (l := l) (G := G) N tc_A39 tc_Y28 e1
  refine tc_callVi (As := [.ref (tc_ad G 28), .int 0]) (rest := []) (r1 := r1) (μ1 := μ2) tc_d2_unsafeByLot_81 tc_ok0_settles tc_w563 ⟨Nat.le_of_ble_eq_true rfl, Nat.le_of_ble_eq_true rfl⟩ tc_s0_39 rfl c1 rfl rfl (Nat.le_of_ble_eq_true rfl) ?_
  refine tc_if_eq (tgt := 100) tc_d2_unsafeByLot_84 (by decide) h (fun h => ?_) (fun h => ?_)
  · refine tc_bipush (v := 9) tc_d2_unsafeByLot_100 (by decide) ?_
    exact tc_iret tc_d2_unsafeByLot_102 rfl (tc_riS h)
  · refine tc_aload_n tc_d2_unsafeByLot_87 0 rfl ?_
    refine tc_g2_1 tc_d2_unsafeByLot_88 tc_w212 ?_
    obtain ⟨r3, μ4, e3, h⟩ := tc_bdS h
    have c3 := tc_c5_unsafe (l := l) (G := G) N tc_Y28 e3
    refine tc_callVi (As := []) (rest := []) (r1 := r3) (μ1 := μ4) tc_d2_unsafeByLot_91 tc_ok5_unsafe tc_w538 ⟨Nat.le_of_ble_eq_true rfl, Nat.le_of_ble_eq_true rfl⟩ tc_s5_28 rfl c3 rfl rfl (Nat.le_of_ble_eq_true rfl) ?_
    obtain ⟨r5, μ6, e5, h⟩ := tc_bdS h
    have c5 := tc_c8_bitCount (l := l) (G := G) N e5
    refine tc_callSi (As := [.int r3]) (rest := []) (r1 := r5) (μ1 := μ6) tc_d2_unsafeByLot_94 tc_ok8_bitCount tc_w539 ⟨Nat.le_of_ble_eq_true rfl, Nat.le_of_ble_eq_true rfl⟩ c5 rfl rfl (Nat.le_of_ble_eq_true rfl) ?_
    refine tc_goto (tgt := 102) tc_d2_unsafeByLot_97 (by decide) ?_
    exact tc_iret tc_d2_unsafeByLot_102 rfl (tc_riS h)
def tc_f2_unsafeByLot_16 (N : Nat) : Nat → Int32 → Int32 → Int32 → tc_Mem → Option (Int32 × tc_Mem)
  | 0 => fun _ _ _ _ => none
  | n + 1 => fun x2 x3 x4 μ => 
    if x2 ≤ x4 then
      tc_f2_unsafeByLot_72 N μ
    else
      if (μ 28 0) ≤ 0 then
        tc_f2_unsafeByLot_72 N μ
      else
        tc_lt ((x3 * 1103515245) + 12345) fun v1 =>
        tc_nz (μ 28 0) (
        tc_bd (tc_f5_addFault N 28 (((v1 : Int32).toUInt32 >>> ((9 : Int32).toUInt32 &&& Int32.toUInt32 31)).toInt32 - ((v1 : Int32).toUInt32 >>> ((9 : Int32).toUInt32 &&& Int32.toUInt32 31)).toInt32 / 4 * 4) (((v1 : Int32).toUInt32 >>> ((16 : Int32).toUInt32 &&& Int32.toUInt32 31)).toInt32 - ((v1 : Int32).toUInt32 >>> ((16 : Int32).toUInt32 &&& Int32.toUInt32 31)).toInt32 / (μ 28 0) * (μ 28 0)) μ) fun _ μ4 =>
        tc_f2_unsafeByLot_16 N  n x2 v1 (x4 + 1) μ4)
theorem tc_b2_unsafeByLot_16 (N : Nat) : ∀ (n : Nat) (x2 : Int32) (x3 : Int32) (x4 : Int32) (μ : tc_Mem) (z : Int32 × tc_Mem), tc_f2_unsafeByLot_16 N n x2 x3 x4 μ = some z → tc_At l G tc_i2_unsafeByLot (some (.int z.1)) z.2 X 16 [(0, .ref (tc_ad G 27)), (2, .int x2), (3, .int x3), (4, .int x4)] [] μ := by
  intro n
  induction n with
  | zero => intro x2 x3 x4 μ z h; cases h
  | succ n ih =>
    intro x2 x3 x4 μ z h
    rw [tc_f2_unsafeByLot_16] at h
    refine tc_iload tc_d2_unsafeByLot_16 3 rfl ?_
    refine tc_iload_n tc_d2_unsafeByLot_18 1 rfl ?_
    refine tc_icmp_ge (tgt := 72) tc_d2_unsafeByLot_19 (by decide) h (fun h => ?_) (fun h => ?_)
    · refine tc_sub [0] rfl ?_
      exact (tc_b2_unsafeByLot_72 N _ _) h
    · refine tc_aload_n tc_d2_unsafeByLot_22 0 rfl ?_
      refine tc_g2_1 tc_d2_unsafeByLot_23 tc_w212 ?_
      refine tc_g5_0_28 tc_d2_unsafeByLot_26 tc_w116 ?_
      refine tc_if_le (tgt := 72) tc_d2_unsafeByLot_29 (by decide) h (fun h => ?_) (fun h => ?_)
      · refine tc_sub [0] rfl ?_
        exact (tc_b2_unsafeByLot_72 N _ _) h
      · refine tc_iload_n tc_d2_unsafeByLot_32 2 rfl ?_
        refine tc_ldc (v := 1103515245) tc_d2_unsafeByLot_33 tc_w652 ?_
        refine tc_imul tc_d2_unsafeByLot_35 ?_
        refine tc_sipush (v := 12345) tc_d2_unsafeByLot_36 (by decide) ?_
        refine tc_iadd tc_d2_unsafeByLot_39 ?_
        refine tc_ltI h (fun v1 h => ?_)
        refine tc_istore_n (L' := [(3, .int v1), (0, .ref (tc_ad G 27)), (2, .int x2), (4, .int x4)]) tc_d2_unsafeByLot_40 (by decide) rfl ?_
        refine tc_aload_n tc_d2_unsafeByLot_41 1 rfl ?_
        refine tc_g2_1 tc_d2_unsafeByLot_42 tc_w212 ?_
        refine tc_iload_n tc_d2_unsafeByLot_45 0 rfl ?_
        refine tc_bipush (v := 9) tc_d2_unsafeByLot_46 (by decide) ?_
        refine tc_iushr tc_d2_unsafeByLot_48 ?_
        refine tc_iconst (v := 4) tc_d2_unsafeByLot_49 (by decide) ?_
        refine tc_irem tc_d2_unsafeByLot_50 (by decide) ?_
        refine tc_iload_n tc_d2_unsafeByLot_51 0 rfl ?_
        refine tc_bipush (v := 16) tc_d2_unsafeByLot_52 (by decide) ?_
        refine tc_iushr tc_d2_unsafeByLot_54 ?_
        refine tc_aload_n tc_d2_unsafeByLot_55 1 rfl ?_
        refine tc_g2_1 tc_d2_unsafeByLot_56 tc_w212 ?_
        refine tc_g5_0_28 tc_d2_unsafeByLot_59 tc_w116 ?_
        obtain ⟨hn2, h⟩ := tc_nzS h
        refine tc_irem tc_d2_unsafeByLot_62 hn2 ?_
        obtain ⟨r3, μ4, e3, h⟩ := tc_bdS h
        have c3 := tc_c5_addFault (l := l) (G := G) N tc_Y28 e3
        refine tc_callVv (As := [.int (((v1 : Int32).toUInt32 >>> ((9 : Int32).toUInt32 &&& Int32.toUInt32 31)).toInt32 - ((v1 : Int32).toUInt32 >>> ((9 : Int32).toUInt32 &&& Int32.toUInt32 31)).toInt32 / 4 * 4), .int (((v1 : Int32).toUInt32 >>> ((16 : Int32).toUInt32 &&& Int32.toUInt32 31)).toInt32 - ((v1 : Int32).toUInt32 >>> ((16 : Int32).toUInt32 &&& Int32.toUInt32 31)).toInt32 / (μ 28 0) * (μ 28 0))]) (rest := []) (μ1 := μ4) tc_d2_unsafeByLot_63 tc_ok5_addFault tc_w576 ⟨Nat.le_of_ble_eq_true rfl, Nat.le_of_ble_eq_true rfl⟩ tc_s5_28 rfl c3 rfl rfl (Nat.le_of_ble_eq_true rfl) ?_
        refine tc_iinc (v := (x4 + 1)) (L' := [(4, .int (x4 + 1)), (3, .int v1), (0, .ref (tc_ad G 27)), (2, .int x2)]) tc_d2_unsafeByLot_66 3 rfl rfl (by decide) rfl ?_
        refine tc_goto (tgt := 16) tc_d2_unsafeByLot_69 (by decide) ?_
        refine tc_sub [2, 3, 1, 0] rfl ?_
        exact (ih _ _ _ _ _) h
def tc_f2_unsafeByLot (N : Nat) (x1 : Int32) (x2 : Int32) (μ : tc_Mem) : Option (Int32 × tc_Mem) :=
  tc_bd (tc_f5_become N 28 1 μ) fun _ μ2 =>
  tc_f2_unsafeByLot_16 N N x2 x1 0 μ2
theorem tc_b2_unsafeByLot_0 (N : Nat) (x1 : Int32) (x2 : Int32) (μ : tc_Mem) (z : Int32 × tc_Mem) (h : tc_f2_unsafeByLot N x1 x2 μ = some z) : tc_At l G tc_i2_unsafeByLot (some (.int z.1)) z.2 X 0 [(0, .ref (tc_ad G 27)), (1, .int x1), (2, .int x2)] [] μ := by
  unfold tc_f2_unsafeByLot at h
  refine tc_aload_n tc_d2_unsafeByLot_0 0 rfl ?_
  refine tc_g2_1 tc_d2_unsafeByLot_1 tc_w212 ?_
  refine tc_aload_n tc_d2_unsafeByLot_4 0 rfl ?_
  refine tc_g2_0 tc_d2_unsafeByLot_5 tc_w211 ?_
  obtain ⟨r1, μ2, e1, h⟩ := tc_bdS h
  have c1 := tc_c5_become (l := l) (G := G) N tc_Y28 tc_Y1 e1
  refine tc_callVv (As := [.ref (tc_ad G 1)]) (rest := []) (μ1 := μ2) tc_d2_unsafeByLot_8 tc_ok5_become tc_w528 ⟨Nat.le_of_ble_eq_true rfl, Nat.le_of_ble_eq_true rfl⟩ tc_s5_28 rfl c1 rfl rfl (Nat.le_of_ble_eq_true rfl) ?_
  refine tc_iload_n tc_d2_unsafeByLot_11 1 rfl ?_
  refine tc_istore_n (L' := [(3, .int x1), (0, .ref (tc_ad G 27)), (1, .int x1), (2, .int x2)]) tc_d2_unsafeByLot_12 (by decide) rfl ?_
  refine tc_iconst (v := 0) tc_d2_unsafeByLot_13 (by decide) ?_
  refine tc_istore (L' := [(4, .int 0), (3, .int x1), (0, .ref (tc_ad G 27)), (1, .int x1), (2, .int x2)]) tc_d2_unsafeByLot_14 (by decide) rfl ?_
  refine tc_sub [2, 4, 1, 0] rfl ?_
  exact (tc_b2_unsafeByLot_16 N N _ _ _ _ _) h
theorem tc_c2_unsafeByLot (N : Nat) {x1 : Int32} {x2 : Int32} {μ : tc_Mem} {z : Int32 × tc_Mem} (h : tc_f2_unsafeByLot N x1 x2 μ = some z) : tc_Con l G tc_i2_unsafeByLot [.ref (tc_ad G 27), .int x1, .int x2] μ (some (.int z.1)) z.2 :=
  tc_Con.of (L := [(0, .ref (tc_ad G 27)), (1, .int x1), (2, .int x2)]) (by decide) (Nat.le_of_ble_eq_true rfl) rfl (fun X => tc_b2_unsafeByLot_0 N  _ _ _ _ h)
def tc_f2_lotsWith_6 (N : Nat) : Nat → Int32 → Int32 → Int32 → Int32 → Int32 → Int32 → tc_Mem → Option (Int32 × tc_Mem)
  | 0 => fun _ _ _ _ _ _ _ => none
  | n + 1 => fun x1 x2 x3 x4 x5 x6 μ => 
    if x2 ≤ x6 then
      some (x5, μ)
    else
      tc_bd (tc_f2_unsafeByLot N (x1 + x6) x3 μ) fun r1 μ2 =>
      if r1 < x4 then
        tc_f2_lotsWith_6 N  n x1 x2 x3 x4 x5 (x6 + 1) μ2
      else
        tc_f2_lotsWith_6 N  n x1 x2 x3 x4 (x5 + 1) (x6 + 1) μ2
theorem tc_b2_lotsWith_6 (N : Nat) : ∀ (n : Nat) (x1 : Int32) (x2 : Int32) (x3 : Int32) (x4 : Int32) (x5 : Int32) (x6 : Int32) (μ : tc_Mem) (z : Int32 × tc_Mem), tc_f2_lotsWith_6 N n x1 x2 x3 x4 x5 x6 μ = some z → tc_At l G tc_i2_lotsWith (some (.int z.1)) z.2 X 6 [(0, .ref (tc_ad G 27)), (1, .int x1), (2, .int x2), (3, .int x3), (4, .int x4), (5, .int x5), (6, .int x6)] [] μ := by
  intro n
  induction n with
  | zero => intro x1 x2 x3 x4 x5 x6 μ z h; cases h
  | succ n ih =>
    intro x1 x2 x3 x4 x5 x6 μ z h
    rw [tc_f2_lotsWith_6] at h
    refine tc_iload tc_d2_lotsWith_6 6 rfl ?_
    refine tc_iload_n tc_d2_lotsWith_8 2 rfl ?_
    refine tc_icmp_ge (tgt := 35) tc_d2_lotsWith_9 (by decide) h (fun h => ?_) (fun h => ?_)
    · refine tc_iload tc_d2_lotsWith_35 5 rfl ?_
      exact tc_iret tc_d2_lotsWith_37 rfl (tc_riS h)
    · refine tc_aload_n tc_d2_lotsWith_12 0 rfl ?_
      refine tc_iload_n tc_d2_lotsWith_13 1 rfl ?_
      refine tc_iload tc_d2_lotsWith_14 6 rfl ?_
      refine tc_iadd tc_d2_lotsWith_16 ?_
      refine tc_iload_n tc_d2_lotsWith_17 3 rfl ?_
      obtain ⟨r1, μ2, e1, h⟩ := tc_bdS h
      have c1 := tc_c2_unsafeByLot (l := l) (G := G) N e1
      refine tc_callVi (As := [.int (x1 + x6), .int x3]) (rest := []) (r1 := r1) (μ1 := μ2) tc_d2_lotsWith_18 tc_ok2_unsafeByLot tc_w661 ⟨Nat.le_of_ble_eq_true rfl, Nat.le_of_ble_eq_true rfl⟩ tc_s2 rfl c1 rfl rfl (Nat.le_of_ble_eq_true rfl) ?_
      refine tc_iload tc_d2_lotsWith_21 4 rfl ?_
      refine tc_icmp_lt (tgt := 29) tc_d2_lotsWith_23 (by decide) h (fun h => ?_) (fun h => ?_)
      · refine tc_iinc (v := (x6 + 1)) (L' := [(6, .int (x6 + 1)), (0, .ref (tc_ad G 27)), (1, .int x1), (2, .int x2), (3, .int x3), (4, .int x4), (5, .int x5)]) tc_d2_lotsWith_29 6 rfl rfl (by decide) rfl ?_
        refine tc_goto (tgt := 6) tc_d2_lotsWith_32 (by decide) ?_
        refine tc_sub [1, 2, 3, 4, 5, 6, 0] rfl ?_
        exact (ih _ _ _ _ _ _ _ _) h
      · refine tc_iinc (v := (x5 + 1)) (L' := [(5, .int (x5 + 1)), (0, .ref (tc_ad G 27)), (1, .int x1), (2, .int x2), (3, .int x3), (4, .int x4), (6, .int x6)]) tc_d2_lotsWith_26 5 rfl rfl (by decide) rfl ?_
        refine tc_iinc (v := (x6 + 1)) (L' := [(6, .int (x6 + 1)), (5, .int (x5 + 1)), (0, .ref (tc_ad G 27)), (1, .int x1), (2, .int x2), (3, .int x3), (4, .int x4)]) tc_d2_lotsWith_29 6 rfl rfl (by decide) rfl ?_
        refine tc_goto (tgt := 6) tc_d2_lotsWith_32 (by decide) ?_
        refine tc_sub [2, 3, 4, 5, 6, 1, 0] rfl ?_
        exact (ih _ _ _ _ _ _ _ _) h
def tc_f2_lotsWith (N : Nat) (x1 : Int32) (x2 : Int32) (x3 : Int32) (x4 : Int32) (μ : tc_Mem) : Option (Int32 × tc_Mem) :=
  tc_f2_lotsWith_6 N N x1 x2 x3 x4 0 0 μ
theorem tc_b2_lotsWith_0 (N : Nat) (x1 : Int32) (x2 : Int32) (x3 : Int32) (x4 : Int32) (μ : tc_Mem) (z : Int32 × tc_Mem) (h : tc_f2_lotsWith N x1 x2 x3 x4 μ = some z) : tc_At l G tc_i2_lotsWith (some (.int z.1)) z.2 X 0 [(0, .ref (tc_ad G 27)), (1, .int x1), (2, .int x2), (3, .int x3), (4, .int x4)] [] μ := by
  unfold tc_f2_lotsWith at h
  refine tc_iconst (v := 0) tc_d2_lotsWith_0 (by decide) ?_
  refine tc_istore (L' := [(5, .int 0), (0, .ref (tc_ad G 27)), (1, .int x1), (2, .int x2), (3, .int x3), (4, .int x4)]) tc_d2_lotsWith_1 (by decide) rfl ?_
  refine tc_iconst (v := 0) tc_d2_lotsWith_3 (by decide) ?_
  refine tc_istore (L' := [(6, .int 0), (5, .int 0), (0, .ref (tc_ad G 27)), (1, .int x1), (2, .int x2), (3, .int x3), (4, .int x4)]) tc_d2_lotsWith_4 (by decide) rfl ?_
  refine tc_sub [2, 3, 4, 5, 6, 1, 0] rfl ?_
  exact (tc_b2_lotsWith_6 N N _ _ _ _ _ _ _ _) h
theorem tc_c2_lotsWith (N : Nat) {x1 : Int32} {x2 : Int32} {x3 : Int32} {x4 : Int32} {μ : tc_Mem} {z : Int32 × tc_Mem} (h : tc_f2_lotsWith N x1 x2 x3 x4 μ = some z) : tc_Con l G tc_i2_lotsWith [.ref (tc_ad G 27), .int x1, .int x2, .int x3, .int x4] μ (some (.int z.1)) z.2 :=
  tc_Con.of (L := [(0, .ref (tc_ad G 27)), (1, .int x1), (2, .int x2), (3, .int x3), (4, .int x4)]) (by decide) (Nat.le_of_ble_eq_true rfl) rfl (fun X => tc_b2_lotsWith_0 N  _ _ _ _ _ _ h)
def tc_f2_pictures_58 (N : Nat) (k16 : Int32 → Int32 → Int32 → Int32 → tc_Mem → Option (Int32 × tc_Mem)) (x1 : Int32) (x2 : Int32) (x4 : Int32) (s0 : Int32) (s1 : Int32) (s2 : Int32) (μ : tc_Mem) : Option (Int32 × tc_Mem) :=
  tc_bd (tc_f6_withBit N s0 s1 s2 μ) fun r1 μ2 =>
  tc_bd (tc_f5_moveTrains N 28 μ2) fun _ μ4 =>
  k16 x1 x2 r1 (x4 + 1) μ4
theorem tc_b2_pictures_58 (N : Nat) {k16 : Int32 → Int32 → Int32 → Int32 → tc_Mem → Option (Int32 × tc_Mem)} (H16 : ∀ (x1 : Int32) (x2 : Int32) (x3 : Int32) (x4 : Int32) (μ : tc_Mem) (z : Int32 × tc_Mem), k16 x1 x2 x3 x4 μ = some z → tc_At l G tc_i2_pictures (some (.int z.1)) z.2 X 16 [(0, .ref (tc_ad G 27)), (1, .int x1), (2, .int x2), (3, .int x3), (4, .int x4)] [] μ) (x1 : Int32) (x2 : Int32) (x4 : Int32) (s0 : Int32) (s1 : Int32) (s2 : Int32) (μ : tc_Mem) (z : Int32 × tc_Mem) (h : tc_f2_pictures_58 N k16 x1 x2 x4 s0 s1 s2 μ = some z) : tc_At l G tc_i2_pictures (some (.int z.1)) z.2 X 58 [(0, .ref (tc_ad G 27)), (1, .int x1), (2, .int x2), (4, .int x4)] [.int s2, .int s1, .int s0] μ := by
  unfold tc_f2_pictures_58 at h
  obtain ⟨r1, μ2, e1, h⟩ := tc_bdS h
  have c1 := tc_c6_withBit (l := l) (G := G) N e1
  refine tc_callNi (host := "TrackCircuits") (As := [.int s0, .int s1, .int s2]) (rest := []) (r1 := r1) (μ1 := μ2) tc_d2_pictures_58 tc_ok6_withBit (fun U h9 => h9.2.2.1) ⟨Nat.le_of_ble_eq_true rfl, Nat.le_of_ble_eq_true rfl⟩ c1 rfl rfl (Nat.le_of_ble_eq_true rfl) ?_
  refine tc_istore_n (L' := [(3, .int r1), (0, .ref (tc_ad G 27)), (1, .int x1), (2, .int x2), (4, .int x4)]) tc_d2_pictures_61 (by decide) rfl ?_
  refine tc_aload_n tc_d2_pictures_62 1 rfl ?_
  refine tc_g2_1 tc_d2_pictures_63 tc_w212 ?_
  obtain ⟨r3, μ4, e3, h⟩ := tc_bdS h
  have c3 := tc_c5_moveTrains (l := l) (G := G) N tc_Y28 e3
  refine tc_callVv (As := []) (rest := []) (μ1 := μ4) tc_d2_pictures_66 tc_ok5_moveTrains tc_w545 ⟨Nat.le_of_ble_eq_true rfl, Nat.le_of_ble_eq_true rfl⟩ tc_s5_28 rfl c3 rfl rfl (Nat.le_of_ble_eq_true rfl) ?_
  refine tc_iinc (v := (x4 + 1)) (L' := [(4, .int (x4 + 1)), (3, .int r1), (0, .ref (tc_ad G 27)), (1, .int x1), (2, .int x2)]) tc_d2_pictures_69 4 rfl rfl (by decide) rfl ?_
  refine tc_goto (tgt := 16) tc_d2_pictures_72 (by decide) ?_
  refine tc_sub [2, 3, 4, 1, 0] rfl ?_
  exact (H16 _ _ _ _ _ _) h
def tc_f2_pictures_16 (N : Nat) : Nat → Int32 → Int32 → Int32 → Int32 → tc_Mem → Option (Int32 × tc_Mem)
  | 0 => fun _ _ _ _ _ => none
  | n + 1 => fun x1 x2 x3 x4 μ => 
    if x2 ≤ x4 then
      some (x3, μ)
    else
      tc_bd (tc_f0_passes N 39 28 μ) fun r1 μ2 =>
      if r1 = 0 then
        some ((-1), μ2)
      else
        tc_bd (tc_f5_relay N 28 x1 μ2) fun r3 μ4 =>
        if r3 = 1 then
          tc_f2_pictures_58 N (tc_f2_pictures_16 N n) x1 x2 x4 x3 x4 1 μ4
        else
          tc_f2_pictures_58 N (tc_f2_pictures_16 N n) x1 x2 x4 x3 x4 0 μ4
theorem tc_b2_pictures_16 (N : Nat) : ∀ (n : Nat) (x1 : Int32) (x2 : Int32) (x3 : Int32) (x4 : Int32) (μ : tc_Mem) (z : Int32 × tc_Mem), tc_f2_pictures_16 N n x1 x2 x3 x4 μ = some z → tc_At l G tc_i2_pictures (some (.int z.1)) z.2 X 16 [(0, .ref (tc_ad G 27)), (1, .int x1), (2, .int x2), (3, .int x3), (4, .int x4)] [] μ := by
  intro n
  induction n with
  | zero => intro x1 x2 x3 x4 μ z h; cases h
  | succ n ih =>
    intro x1 x2 x3 x4 μ z h
    rw [tc_f2_pictures_16] at h
    refine tc_iload tc_d2_pictures_16 4 rfl ?_
    refine tc_iload_n tc_d2_pictures_18 2 rfl ?_
    refine tc_icmp_ge (tgt := 75) tc_d2_pictures_19 (by decide) h (fun h => ?_) (fun h => ?_)
    · refine tc_iload_n tc_d2_pictures_75 3 rfl ?_
      exact tc_iret tc_d2_pictures_76 rfl (tc_riS h)
    · refine tc_aload_n tc_d2_pictures_22 0 rfl ?_
      refine tc_g2_2 tc_d2_pictures_23 tc_w213 ?_
      refine tc_aload_n tc_d2_pictures_26 0 rfl ?_
      refine tc_g2_1 tc_d2_pictures_27 tc_w212 ?_
      obtain ⟨r1, μ2, e1, h⟩ := tc_bdS h
      have c1 := tc_c0_passes (l := l) (G := G) N tc_A39 tc_Y28 e1
      refine tc_callVi (As := [.ref (tc_ad G 28)]) (rest := []) (r1 := r1) (μ1 := μ2) tc_d2_pictures_30 tc_ok0_passes tc_w537 ⟨Nat.le_of_ble_eq_true rfl, Nat.le_of_ble_eq_true rfl⟩ tc_s0_39 rfl c1 rfl rfl (Nat.le_of_ble_eq_true rfl) ?_
      refine tc_if_ne (tgt := 38) tc_d2_pictures_33 (by decide) h (fun h => ?_) (fun h => ?_)
      · refine tc_iload_n tc_d2_pictures_38 3 rfl ?_
        refine tc_iload tc_d2_pictures_39 4 rfl ?_
        refine tc_aload_n tc_d2_pictures_41 0 rfl ?_
        refine tc_g2_1 tc_d2_pictures_42 tc_w212 ?_
        refine tc_iload_n tc_d2_pictures_45 1 rfl ?_
        obtain ⟨r3, μ4, e3, h⟩ := tc_bdS h
        have c3 := tc_c5_relay (l := l) (G := G) N tc_Y28 e3
        refine tc_callVi (As := [.int x1]) (rest := [.int x4, .int x3]) (r1 := r3) (μ1 := μ4) tc_d2_pictures_46 tc_ok5_relay tc_w554 ⟨Nat.le_of_ble_eq_true rfl, Nat.le_of_ble_eq_true rfl⟩ tc_s5_28 rfl c3 rfl rfl (Nat.le_of_ble_eq_true rfl) ?_
        refine tc_iconst (v := 1) tc_d2_pictures_49 (by decide) ?_
        refine tc_icmp_ne (tgt := 57) tc_d2_pictures_50 (by decide) h (fun h => ?_) (fun h => ?_)
        · refine tc_iconst (v := 0) tc_d2_pictures_57 (by decide) ?_
          refine tc_sub [0, 1, 2, 4] rfl ?_
          exact (tc_b2_pictures_58 N ih _ _ _ _ _ _ _ _) h
        · refine tc_iconst (v := 1) tc_d2_pictures_53 (by decide) ?_
          refine tc_goto (tgt := 58) tc_d2_pictures_54 (by decide) ?_
          refine tc_sub [0, 1, 2, 4] rfl ?_
          exact (tc_b2_pictures_58 N ih _ _ _ _ _ _ _ _) h
      · refine tc_iconst (v := (-1)) tc_d2_pictures_36 (by decide) ?_
        exact tc_iret tc_d2_pictures_37 rfl (tc_riS h)
def tc_f2_pictures (N : Nat) (x1 : Int32) (x2 : Int32) (μ : tc_Mem) : Option (Int32 × tc_Mem) :=
  tc_bd (tc_f5_become N 28 1 μ) fun _ μ2 =>
  tc_f2_pictures_16 N N x1 x2 0 0 μ2
theorem tc_b2_pictures_0 (N : Nat) (x1 : Int32) (x2 : Int32) (μ : tc_Mem) (z : Int32 × tc_Mem) (h : tc_f2_pictures N x1 x2 μ = some z) : tc_At l G tc_i2_pictures (some (.int z.1)) z.2 X 0 [(0, .ref (tc_ad G 27)), (1, .int x1), (2, .int x2)] [] μ := by
  unfold tc_f2_pictures at h
  refine tc_aload_n tc_d2_pictures_0 0 rfl ?_
  refine tc_g2_1 tc_d2_pictures_1 tc_w212 ?_
  refine tc_aload_n tc_d2_pictures_4 0 rfl ?_
  refine tc_g2_0 tc_d2_pictures_5 tc_w211 ?_
  obtain ⟨r1, μ2, e1, h⟩ := tc_bdS h
  have c1 := tc_c5_become (l := l) (G := G) N tc_Y28 tc_Y1 e1
  refine tc_callVv (As := [.ref (tc_ad G 1)]) (rest := []) (μ1 := μ2) tc_d2_pictures_8 tc_ok5_become tc_w528 ⟨Nat.le_of_ble_eq_true rfl, Nat.le_of_ble_eq_true rfl⟩ tc_s5_28 rfl c1 rfl rfl (Nat.le_of_ble_eq_true rfl) ?_
  refine tc_iconst (v := 0) tc_d2_pictures_11 (by decide) ?_
  refine tc_istore_n (L' := [(3, .int 0), (0, .ref (tc_ad G 27)), (1, .int x1), (2, .int x2)]) tc_d2_pictures_12 (by decide) rfl ?_
  refine tc_iconst (v := 0) tc_d2_pictures_13 (by decide) ?_
  refine tc_istore (L' := [(4, .int 0), (3, .int 0), (0, .ref (tc_ad G 27)), (1, .int x1), (2, .int x2)]) tc_d2_pictures_14 (by decide) rfl ?_
  refine tc_sub [2, 3, 4, 1, 0] rfl ?_
  exact (tc_b2_pictures_16 N N _ _ _ _ _ _) h
theorem tc_c2_pictures (N : Nat) {x1 : Int32} {x2 : Int32} {μ : tc_Mem} {z : Int32 × tc_Mem} (h : tc_f2_pictures N x1 x2 μ = some z) : tc_Con l G tc_i2_pictures [.ref (tc_ad G 27), .int x1, .int x2] μ (some (.int z.1)) z.2 :=
  tc_Con.of (L := [(0, .ref (tc_ad G 27)), (1, .int x1), (2, .int x2)]) (by decide) (Nat.le_of_ble_eq_true rfl) rfl (fun X => tc_b2_pictures_0 N  _ _ _ _ h)
def tc_f2_ran_80 (N : Nat) (x2 : Int32) (x3 : Int32) (x4 : Int32) (μ : tc_Mem) : Option (Int32 × tc_Mem) :=
  if x2 < 0 ∨ 2 < x2 then
    some ((μ 28 9), μ)
  else if x2 = 0 then
    some ((μ 28 8), μ)
  else if x2 = 1 then
    some (x3, μ)
  else if x2 = 2 then
    some (x4, μ)
  else none
theorem tc_b2_ran_80 (N : Nat) (x2 : Int32) (x3 : Int32) (x4 : Int32) (μ : tc_Mem) (z : Int32 × tc_Mem) (h : tc_f2_ran_80 N x2 x3 x4 μ = some z) : tc_At l G tc_i2_ran (some (.int z.1)) z.2 X 80 [(0, .ref (tc_ad G 27)), (2, .int x2), (3, .int x3), (4, .int x4)] [] μ := by
  unfold tc_f2_ran_80 at h
  refine tc_iload_n tc_d2_ran_80 1 rfl ?_
  by_cases hq : x2 < 0 ∨ 2 < x2
  · rw [if_pos hq] at h
    refine tc_tswD (a := 0) (b := 2) (tgt := 121) tc_d2_ran_81 ⟨by decide, by decide⟩ hq (by decide) ?_
    refine tc_aload_n tc_d2_ran_121 0 rfl ?_
    refine tc_g2_1 tc_d2_ran_122 tc_w212 ?_
    refine tc_g5_9_28 tc_d2_ran_125 tc_w138 ?_
    exact tc_iret tc_d2_ran_128 rfl (tc_riS h)
  · rw [if_neg hq] at h
    by_cases hq : x2 = 0
    · rw [if_pos hq] at h
      refine tc_tswK (k := 0) (off := 27) (tgt := 108) tc_d2_ran_81 hq (by decide) (by decide) rfl (by decide) ?_
      refine tc_aload_n tc_d2_ran_108 0 rfl ?_
      refine tc_g2_1 tc_d2_ran_109 tc_w212 ?_
      refine tc_g5_8_28 tc_d2_ran_112 tc_w134 ?_
      exact tc_iret tc_d2_ran_115 rfl (tc_riS h)
    · rw [if_neg hq] at h
      by_cases hq : x2 = 1
      · rw [if_pos hq] at h
        refine tc_tswK (k := 1) (off := 35) (tgt := 116) tc_d2_ran_81 hq (by decide) (by decide) rfl (by decide) ?_
        refine tc_iload_n tc_d2_ran_116 2 rfl ?_
        exact tc_iret tc_d2_ran_117 rfl (tc_riS h)
      · rw [if_neg hq] at h
        by_cases hq : x2 = 2
        · rw [if_pos hq] at h
          refine tc_tswK (k := 2) (off := 37) (tgt := 118) tc_d2_ran_81 hq (by decide) (by decide) rfl (by decide) ?_
          refine tc_iload tc_d2_ran_118 3 rfl ?_
          exact tc_iret tc_d2_ran_120 rfl (tc_riS h)
        · rw [if_neg hq] at h
          cases h
def tc_f2_ran_19 (N : Nat) : Nat → Int32 → Int32 → Int32 → Int32 → Int32 → tc_Mem → Option (Int32 × tc_Mem)
  | 0 => fun _ _ _ _ _ _ => none
  | n + 1 => fun x1 x2 x3 x4 x5 μ => 
    if x1 ≤ x5 then
      tc_f2_ran_80 N x2 x3 x4 μ
    else
      tc_bd (tc_f0_passes N 39 28 μ) fun r1 μ2 =>
      if r1 = 0 then
        some ((-3), μ2)
      else
        tc_bd (tc_f5_unsafe N 28 μ2) fun r3 μ4 =>
        tc_bd (tc_f8_bitCount N r3 μ4) fun r5 μ6 =>
        tc_lt (x3 + r5) fun v7 =>
        tc_lt (x4 + (μ6 39 1)) fun v8 =>
        tc_bd (tc_f5_moveTrains N 28 μ6) fun _ μ10 =>
        tc_f2_ran_19 N  n x1 x2 v7 v8 (x5 + 1) μ10
theorem tc_b2_ran_19 (N : Nat) : ∀ (n : Nat) (x1 : Int32) (x2 : Int32) (x3 : Int32) (x4 : Int32) (x5 : Int32) (μ : tc_Mem) (z : Int32 × tc_Mem), tc_f2_ran_19 N n x1 x2 x3 x4 x5 μ = some z → tc_At l G tc_i2_ran (some (.int z.1)) z.2 X 19 [(0, .ref (tc_ad G 27)), (1, .int x1), (2, .int x2), (3, .int x3), (4, .int x4), (5, .int x5)] [] μ := by
  intro n
  induction n with
  | zero => intro x1 x2 x3 x4 x5 μ z h; cases h
  | succ n ih =>
    intro x1 x2 x3 x4 x5 μ z h
    rw [tc_f2_ran_19] at h
    refine tc_iload tc_d2_ran_19 5 rfl ?_
    refine tc_iload_n tc_d2_ran_21 1 rfl ?_
    refine tc_icmp_ge (tgt := 80) tc_d2_ran_22 (by decide) h (fun h => ?_) (fun h => ?_)
    · refine tc_sub [0, 2, 3, 4] rfl ?_
      exact (tc_b2_ran_80 N _ _ _ _ _) h
    · refine tc_aload_n tc_d2_ran_25 0 rfl ?_
      refine tc_g2_2 tc_d2_ran_26 tc_w213 ?_
      refine tc_aload_n tc_d2_ran_29 0 rfl ?_
      refine tc_g2_1 tc_d2_ran_30 tc_w212 ?_
      obtain ⟨r1, μ2, e1, h⟩ := tc_bdS h
      have c1 := tc_c0_passes (l := l) (G := G) N tc_A39 tc_Y28 e1
      refine tc_callVi (As := [.ref (tc_ad G 28)]) (rest := []) (r1 := r1) (μ1 := μ2) tc_d2_ran_33 tc_ok0_passes tc_w537 ⟨Nat.le_of_ble_eq_true rfl, Nat.le_of_ble_eq_true rfl⟩ tc_s0_39 rfl c1 rfl rfl (Nat.le_of_ble_eq_true rfl) ?_
      refine tc_if_ne (tgt := 42) tc_d2_ran_36 (by decide) h (fun h => ?_) (fun h => ?_)
      · refine tc_iload_n tc_d2_ran_42 3 rfl ?_
        refine tc_aload_n tc_d2_ran_43 0 rfl ?_
        refine tc_g2_1 tc_d2_ran_44 tc_w212 ?_
        obtain ⟨r3, μ4, e3, h⟩ := tc_bdS h
        have c3 := tc_c5_unsafe (l := l) (G := G) N tc_Y28 e3
        refine tc_callVi (As := []) (rest := [.int x3]) (r1 := r3) (μ1 := μ4) tc_d2_ran_47 tc_ok5_unsafe tc_w538 ⟨Nat.le_of_ble_eq_true rfl, Nat.le_of_ble_eq_true rfl⟩ tc_s5_28 rfl c3 rfl rfl (Nat.le_of_ble_eq_true rfl) ?_
        obtain ⟨r5, μ6, e5, h⟩ := tc_bdS h
        have c5 := tc_c8_bitCount (l := l) (G := G) N e5
        refine tc_callSi (As := [.int r3]) (rest := [.int x3]) (r1 := r5) (μ1 := μ6) tc_d2_ran_50 tc_ok8_bitCount tc_w539 ⟨Nat.le_of_ble_eq_true rfl, Nat.le_of_ble_eq_true rfl⟩ c5 rfl rfl (Nat.le_of_ble_eq_true rfl) ?_
        refine tc_iadd tc_d2_ran_53 ?_
        refine tc_ltI h (fun v7 h => ?_)
        refine tc_istore_n (L' := [(3, .int v7), (0, .ref (tc_ad G 27)), (1, .int x1), (2, .int x2), (4, .int x4), (5, .int x5)]) tc_d2_ran_54 (by decide) rfl ?_
        refine tc_iload tc_d2_ran_55 4 rfl ?_
        refine tc_aload_n tc_d2_ran_57 1 rfl ?_
        refine tc_g2_2 tc_d2_ran_58 tc_w213 ?_
        refine tc_g0_1_39 tc_d2_ran_61 tc_w181 ?_
        refine tc_iadd tc_d2_ran_64 ?_
        refine tc_ltI h (fun v8 h => ?_)
        refine tc_istore (L' := [(4, .int v8), (3, .int v7), (0, .ref (tc_ad G 27)), (1, .int x1), (2, .int x2), (5, .int x5)]) tc_d2_ran_65 (by decide) rfl ?_
        refine tc_aload_n tc_d2_ran_67 2 rfl ?_
        refine tc_g2_1 tc_d2_ran_68 tc_w212 ?_
        obtain ⟨r9, μ10, e9, h⟩ := tc_bdS h
        have c9 := tc_c5_moveTrains (l := l) (G := G) N tc_Y28 e9
        refine tc_callVv (As := []) (rest := []) (μ1 := μ10) tc_d2_ran_71 tc_ok5_moveTrains tc_w545 ⟨Nat.le_of_ble_eq_true rfl, Nat.le_of_ble_eq_true rfl⟩ tc_s5_28 rfl c9 rfl rfl (Nat.le_of_ble_eq_true rfl) ?_
        refine tc_iinc (v := (x5 + 1)) (L' := [(5, .int (x5 + 1)), (4, .int v8), (3, .int v7), (0, .ref (tc_ad G 27)), (1, .int x1), (2, .int x2)]) tc_d2_ran_74 5 rfl rfl (by decide) rfl ?_
        refine tc_goto (tgt := 19) tc_d2_ran_77 (by decide) ?_
        refine tc_sub [3, 4, 5, 2, 1, 0] rfl ?_
        exact (ih _ _ _ _ _ _ _) h
      · refine tc_bipush (v := (-3)) tc_d2_ran_39 (by decide) ?_
        exact tc_iret tc_d2_ran_41 rfl (tc_riS h)
def tc_f2_ran (N : Nat) (x1 : Int32) (x2 : Int32) (μ : tc_Mem) : Option (Int32 × tc_Mem) :=
  tc_bd (tc_f5_become N 28 1 μ) fun _ μ2 =>
  tc_f2_ran_19 N N x1 x2 0 0 0 μ2
theorem tc_b2_ran_0 (N : Nat) (x1 : Int32) (x2 : Int32) (μ : tc_Mem) (z : Int32 × tc_Mem) (h : tc_f2_ran N x1 x2 μ = some z) : tc_At l G tc_i2_ran (some (.int z.1)) z.2 X 0 [(0, .ref (tc_ad G 27)), (1, .int x1), (2, .int x2)] [] μ := by
  unfold tc_f2_ran at h
  refine tc_aload_n tc_d2_ran_0 0 rfl ?_
  refine tc_g2_1 tc_d2_ran_1 tc_w212 ?_
  refine tc_aload_n tc_d2_ran_4 0 rfl ?_
  refine tc_g2_0 tc_d2_ran_5 tc_w211 ?_
  obtain ⟨r1, μ2, e1, h⟩ := tc_bdS h
  have c1 := tc_c5_become (l := l) (G := G) N tc_Y28 tc_Y1 e1
  refine tc_callVv (As := [.ref (tc_ad G 1)]) (rest := []) (μ1 := μ2) tc_d2_ran_8 tc_ok5_become tc_w528 ⟨Nat.le_of_ble_eq_true rfl, Nat.le_of_ble_eq_true rfl⟩ tc_s5_28 rfl c1 rfl rfl (Nat.le_of_ble_eq_true rfl) ?_
  refine tc_iconst (v := 0) tc_d2_ran_11 (by decide) ?_
  refine tc_istore_n (L' := [(3, .int 0), (0, .ref (tc_ad G 27)), (1, .int x1), (2, .int x2)]) tc_d2_ran_12 (by decide) rfl ?_
  refine tc_iconst (v := 0) tc_d2_ran_13 (by decide) ?_
  refine tc_istore (L' := [(4, .int 0), (3, .int 0), (0, .ref (tc_ad G 27)), (1, .int x1), (2, .int x2)]) tc_d2_ran_14 (by decide) rfl ?_
  refine tc_iconst (v := 0) tc_d2_ran_16 (by decide) ?_
  refine tc_istore (L' := [(5, .int 0), (4, .int 0), (3, .int 0), (0, .ref (tc_ad G 27)), (1, .int x1), (2, .int x2)]) tc_d2_ran_17 (by decide) rfl ?_
  refine tc_sub [3, 4, 5, 2, 1, 0] rfl ?_
  exact (tc_b2_ran_19 N N _ _ _ _ _ _ _) h
theorem tc_c2_ran (N : Nat) {x1 : Int32} {x2 : Int32} {μ : tc_Mem} {z : Int32 × tc_Mem} (h : tc_f2_ran N x1 x2 μ = some z) : tc_Con l G tc_i2_ran [.ref (tc_ad G 27), .int x1, .int x2] μ (some (.int z.1)) z.2 :=
  tc_Con.of (L := [(0, .ref (tc_ad G 27)), (1, .int x1), (2, .int x2)]) (by decide) (Nat.le_of_ble_eq_true rfl) rfl (fun X => tc_b2_ran_0 N  _ _ _ _ h)
def tc_f2_seesBreak (N : Nat) (x1 : Int32) (μ : tc_Mem) : Option (Int32 × tc_Mem) :=
  tc_bd (tc_f2_settlesWithBreak N x1 (μ 1 12) μ) fun r1 μ2 =>
  if r1 = 0 then
    some (0, μ2)
  else
    tc_bd (tc_f5_relay N 28 x1 μ2) fun r3 μ4 =>
    if r3 = 0 then
      some (1, μ4)
    else
      some (0, μ4)
theorem tc_b2_seesBreak_0 (N : Nat) (x1 : Int32) (μ : tc_Mem) (z : Int32 × tc_Mem) (h : tc_f2_seesBreak N x1 μ = some z) : tc_At l G tc_i2_seesBreak (some (.int z.1)) z.2 X 0 [(0, .ref (tc_ad G 27)), (1, .int x1)] [] μ := by
  unfold tc_f2_seesBreak at h
  refine tc_aload_n tc_d2_seesBreak_0 0 rfl ?_
  refine tc_iload_n tc_d2_seesBreak_1 1 rfl ?_
  refine tc_aload_n tc_d2_seesBreak_2 0 rfl ?_
  refine tc_g2_0 tc_d2_seesBreak_3 tc_w211 ?_
  refine tc_g5_12_1 tc_d2_seesBreak_6 tc_w145 ?_
  obtain ⟨r1, μ2, e1, h⟩ := tc_bdS h
  have c1 := tc_c2_settlesWithBreak (l := l) (G := G) N e1
  refine tc_callVi (As := [.int x1, .int (μ 1 12)]) (rest := []) (r1 := r1) (μ1 := μ2) tc_d2_seesBreak_9 tc_ok2_settlesWithBreak tc_w572 ⟨Nat.le_of_ble_eq_true rfl, Nat.le_of_ble_eq_true rfl⟩ tc_s2 rfl c1 rfl rfl (Nat.le_of_ble_eq_true rfl) ?_
  refine tc_if_eq (tgt := 30) tc_d2_seesBreak_12 (by decide) h (fun h => ?_) (fun h => ?_)
  · refine tc_iconst (v := 0) tc_d2_seesBreak_30 (by decide) ?_
    exact tc_zret tc_d2_seesBreak_31 rfl (by decide) (tc_riS h)
  · refine tc_aload_n tc_d2_seesBreak_15 0 rfl ?_
    refine tc_g2_1 tc_d2_seesBreak_16 tc_w212 ?_
    refine tc_iload_n tc_d2_seesBreak_19 1 rfl ?_
    obtain ⟨r3, μ4, e3, h⟩ := tc_bdS h
    have c3 := tc_c5_relay (l := l) (G := G) N tc_Y28 e3
    refine tc_callVi (As := [.int x1]) (rest := []) (r1 := r3) (μ1 := μ4) tc_d2_seesBreak_20 tc_ok5_relay tc_w554 ⟨Nat.le_of_ble_eq_true rfl, Nat.le_of_ble_eq_true rfl⟩ tc_s5_28 rfl c3 rfl rfl (Nat.le_of_ble_eq_true rfl) ?_
    refine tc_if_ne (tgt := 30) tc_d2_seesBreak_23 (by decide) h (fun h => ?_) (fun h => ?_)
    · refine tc_iconst (v := 0) tc_d2_seesBreak_30 (by decide) ?_
      exact tc_zret tc_d2_seesBreak_31 rfl (by decide) (tc_riS h)
    · refine tc_iconst (v := 1) tc_d2_seesBreak_26 (by decide) ?_
      refine tc_goto (tgt := 31) tc_d2_seesBreak_27 (by decide) ?_
      exact tc_zret tc_d2_seesBreak_31 rfl (by decide) (tc_riS h)
theorem tc_c2_seesBreak (N : Nat) {x1 : Int32} {μ : tc_Mem} {z : Int32 × tc_Mem} (h : tc_f2_seesBreak N x1 μ = some z) : tc_Con l G tc_i2_seesBreak [.ref (tc_ad G 27), .int x1] μ (some (.int z.1)) z.2 :=
  tc_Con.of (L := [(0, .ref (tc_ad G 27)), (1, .int x1)]) (by decide) (Nat.le_of_ble_eq_true rfl) rfl (fun X => tc_b2_seesBreak_0 N  _ _ _ h)
end WALK
