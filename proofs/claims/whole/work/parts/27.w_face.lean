section WALK
variable {l : Launch} {G : tc_G} {X : tc_X}
def tc_f6_section (N : Nat) (x1 : Int32) (x2 : Int32) (x3 : Int32) (x4 : Int32) (μ : tc_Mem) : Option (Int32 × tc_Mem) :=
  tc_bd (tc_f6_isTrait N 3 x1 μ) fun r1 μ2 =>
  if r1 = 0 then
    some ((-2), μ2)
  else
    tc_bd (tc_f6_isTrait N 0 x2 μ2) fun r3 μ4 =>
    if r3 = 0 then
      some ((-2), μ4)
    else
      tc_bd (tc_f6_isTrait N 1 x3 μ4) fun r5 μ6 =>
      if r5 = 0 then
        some ((-2), μ6)
      else
        tc_bd (tc_f6_isTrait N 2 x4 μ6) fun r7 μ8 =>
        if r7 = 0 then
          some ((-2), μ8)
        else
          if (μ8 1 0) < 8 then
            tc_bd (tc_f5_addSection N 1 x1 x2 x3 x4 μ8) fun _ μ10 =>
            some (((μ10 1 0) - 1), μ10)
          else
            some ((-4), μ8)
theorem tc_b6_section_0 (N : Nat) (x1 : Int32) (x2 : Int32) (x3 : Int32) (x4 : Int32) (μ : tc_Mem) (z : Int32 × tc_Mem) (h : tc_f6_section N x1 x2 x3 x4 μ = some z) : tc_At l G tc_i6_section (some (.int z.1)) z.2 X 0 [(0, .ref (tc_ad G 0)), (1, .int x1), (2, .int x2), (3, .int x3), (4, .int x4)] [] μ := by
  unfold tc_f6_section at h
  refine tc_iconst (v := 3) tc_d6_section_0 (by decide) ?_
  refine tc_iload_n tc_d6_section_1 1 rfl ?_
  obtain ⟨r1, μ2, e1, h⟩ := tc_bdS h
  have c1 := tc_c6_isTrait (l := l) (G := G) N e1
  refine tc_callSi (As := [.int 3, .int x1]) (rest := []) (r1 := r1) (μ1 := μ2) tc_d6_section_2 tc_ok6_isTrait tc_w300 ⟨Nat.le_of_ble_eq_true rfl, Nat.le_of_ble_eq_true rfl⟩ c1 rfl rfl (Nat.le_of_ble_eq_true rfl) ?_
  refine tc_if_eq (tgt := 16) tc_d6_section_5 (by decide) h (fun h => ?_) (fun h => ?_)
  · refine tc_bipush (v := (-2)) tc_d6_section_16 (by decide) ?_
    exact tc_iret tc_d6_section_18 rfl (tc_riS h)
  · refine tc_iconst (v := 0) tc_d6_section_8 (by decide) ?_
    refine tc_iload_n tc_d6_section_9 2 rfl ?_
    obtain ⟨r3, μ4, e3, h⟩ := tc_bdS h
    have c3 := tc_c6_isTrait (l := l) (G := G) N e3
    refine tc_callSi (As := [.int 0, .int x2]) (rest := []) (r1 := r3) (μ1 := μ4) tc_d6_section_10 tc_ok6_isTrait tc_w300 ⟨Nat.le_of_ble_eq_true rfl, Nat.le_of_ble_eq_true rfl⟩ c3 rfl rfl (Nat.le_of_ble_eq_true rfl) ?_
    refine tc_if_ne (tgt := 19) tc_d6_section_13 (by decide) h (fun h => ?_) (fun h => ?_)
    · refine tc_iconst (v := 1) tc_d6_section_19 (by decide) ?_
      refine tc_iload_n tc_d6_section_20 3 rfl ?_
      obtain ⟨r5, μ6, e5, h⟩ := tc_bdS h
      have c5 := tc_c6_isTrait (l := l) (G := G) N e5
      refine tc_callSi (As := [.int 1, .int x3]) (rest := []) (r1 := r5) (μ1 := μ6) tc_d6_section_21 tc_ok6_isTrait tc_w300 ⟨Nat.le_of_ble_eq_true rfl, Nat.le_of_ble_eq_true rfl⟩ c5 rfl rfl (Nat.le_of_ble_eq_true rfl) ?_
      refine tc_if_eq (tgt := 36) tc_d6_section_24 (by decide) h (fun h => ?_) (fun h => ?_)
      · refine tc_bipush (v := (-2)) tc_d6_section_36 (by decide) ?_
        exact tc_iret tc_d6_section_38 rfl (tc_riS h)
      · refine tc_iconst (v := 2) tc_d6_section_27 (by decide) ?_
        refine tc_iload tc_d6_section_28 4 rfl ?_
        obtain ⟨r7, μ8, e7, h⟩ := tc_bdS h
        have c7 := tc_c6_isTrait (l := l) (G := G) N e7
        refine tc_callSi (As := [.int 2, .int x4]) (rest := []) (r1 := r7) (μ1 := μ8) tc_d6_section_30 tc_ok6_isTrait tc_w300 ⟨Nat.le_of_ble_eq_true rfl, Nat.le_of_ble_eq_true rfl⟩ c7 rfl rfl (Nat.le_of_ble_eq_true rfl) ?_
        refine tc_if_ne (tgt := 39) tc_d6_section_33 (by decide) h (fun h => ?_) (fun h => ?_)
        · refine tc_aload_n tc_d6_section_39 0 rfl ?_
          refine tc_g6_0 tc_d6_section_40 tc_w268 ?_
          refine tc_g5_0_1 tc_d6_section_43 tc_w114 ?_
          refine tc_bipush (v := 8) tc_d6_section_46 (by decide) ?_
          refine tc_icmp_lt (tgt := 54) tc_d6_section_48 (by decide) h (fun h => ?_) (fun h => ?_)
          · refine tc_aload_n tc_d6_section_54 0 rfl ?_
            refine tc_g6_0 tc_d6_section_55 tc_w268 ?_
            refine tc_iload_n tc_d6_section_58 1 rfl ?_
            refine tc_iload_n tc_d6_section_59 2 rfl ?_
            refine tc_iload_n tc_d6_section_60 3 rfl ?_
            refine tc_iload tc_d6_section_61 4 rfl ?_
            obtain ⟨r9, μ10, e9, h⟩ := tc_bdS h
            have c9 := tc_c5_addSection (l := l) (G := G) N tc_Y1 e9
            refine tc_callVv (As := [.int x1, .int x2, .int x3, .int x4]) (rest := []) (μ1 := μ10) tc_d6_section_63 tc_ok5_addSection tc_w306 ⟨Nat.le_of_ble_eq_true rfl, Nat.le_of_ble_eq_true rfl⟩ tc_s5_1 rfl c9 rfl rfl (Nat.le_of_ble_eq_true rfl) ?_
            refine tc_aload_n tc_d6_section_66 0 rfl ?_
            refine tc_g6_0 tc_d6_section_67 tc_w268 ?_
            refine tc_g5_0_1 tc_d6_section_70 tc_w114 ?_
            refine tc_iconst (v := 1) tc_d6_section_73 (by decide) ?_
            refine tc_isub tc_d6_section_74 ?_
            exact tc_iret tc_d6_section_75 rfl (tc_riS h)
          · refine tc_bipush (v := (-4)) tc_d6_section_51 (by decide) ?_
            exact tc_iret tc_d6_section_53 rfl (tc_riS h)
        · refine tc_bipush (v := (-2)) tc_d6_section_36 (by decide) ?_
          exact tc_iret tc_d6_section_38 rfl (tc_riS h)
    · refine tc_bipush (v := (-2)) tc_d6_section_16 (by decide) ?_
      exact tc_iret tc_d6_section_18 rfl (tc_riS h)
theorem tc_c6_section (N : Nat) {x1 : Int32} {x2 : Int32} {x3 : Int32} {x4 : Int32} {μ : tc_Mem} {z : Int32 × tc_Mem} (h : tc_f6_section N x1 x2 x3 x4 μ = some z) : tc_Con l G tc_i6_section [.ref (tc_ad G 0), .int x1, .int x2, .int x3, .int x4] μ (some (.int z.1)) z.2 :=
  tc_Con.of (L := [(0, .ref (tc_ad G 0)), (1, .int x1), (2, .int x2), (3, .int x3), (4, .int x4)]) (by decide) (Nat.le_of_ble_eq_true rfl) rfl (fun X => tc_b6_section_0 N  _ _ _ _ _ _ h)
def tc_f6_train_57 (N : Nat) (x3 : Int32) (s1 : Int32) (s2 : Int32) (s3 : Int32) (μ : tc_Mem) : Option (Int32 × tc_Mem) :=
  tc_bd (tc_f6_withBit N s1 s2 s3 μ) fun r1 μ2 =>
  tc_lt (tc_wr μ2 1 9 r1) fun μ3 =>
  some (x3, μ3)
theorem tc_b6_train_57 (N : Nat) (x3 : Int32) (s1 : Int32) (s2 : Int32) (s3 : Int32) (μ : tc_Mem) (z : Int32 × tc_Mem) (h : tc_f6_train_57 N x3 s1 s2 s3 μ = some z) : tc_At l G tc_i6_train (some (.int z.1)) z.2 X 57 [(3, .int x3)] [.int s3, .int s2, .int s1, .ref (tc_ad G 1)] μ := by
  unfold tc_f6_train_57 at h
  obtain ⟨r1, μ2, e1, h⟩ := tc_bdS h
  have c1 := tc_c6_withBit (l := l) (G := G) N e1
  refine tc_callSi (As := [.int s1, .int s2, .int s3]) (rest := [.ref (tc_ad G 1)]) (r1 := r1) (μ1 := μ2) tc_d6_train_57 tc_ok6_withBit tc_w400 ⟨Nat.le_of_ble_eq_true rfl, Nat.le_of_ble_eq_true rfl⟩ c1 rfl rfl (Nat.le_of_ble_eq_true rfl) ?_
  refine tc_p5_9_1 tc_d6_train_60 tc_w139 h (fun μ3 h => ?_)
  refine tc_iload_n tc_d6_train_63 0 rfl ?_
  exact tc_iret tc_d6_train_64 rfl (tc_riS h)
def tc_f6_train (N : Nat) (x1 : Int32) (x2 : Int32) (μ : tc_Mem) : Option (Int32 × tc_Mem) :=
  tc_bd (tc_f5_has N 1 x1 μ) fun r1 μ2 =>
  if r1 = 0 then
    some ((-2), μ2)
  else
    tc_bd (tc_f6_isWithin N x2 0 1 μ2) fun r3 μ4 =>
    if r3 = 0 then
      some ((-2), μ4)
    else
      tc_bd (tc_f6_bit N (μ4 1 9) x1 μ4) fun r5 μ6 =>
      if x2 = 1 then
        tc_f6_train_57 N r5 (μ6 1 9) x1 1 μ6
      else
        tc_f6_train_57 N r5 (μ6 1 9) x1 0 μ6
theorem tc_b6_train_0 (N : Nat) (x1 : Int32) (x2 : Int32) (μ : tc_Mem) (z : Int32 × tc_Mem) (h : tc_f6_train N x1 x2 μ = some z) : tc_At l G tc_i6_train (some (.int z.1)) z.2 X 0 [(0, .ref (tc_ad G 0)), (1, .int x1), (2, .int x2)] [] μ := by
  unfold tc_f6_train at h
  refine tc_aload_n tc_d6_train_0 0 rfl ?_
  refine tc_g6_0 tc_d6_train_1 tc_w268 ?_
  refine tc_iload_n tc_d6_train_4 1 rfl ?_
  obtain ⟨r1, μ2, e1, h⟩ := tc_bdS h
  have c1 := tc_c5_has (l := l) (G := G) N tc_Y1 e1
  refine tc_callVi (As := [.int x1]) (rest := []) (r1 := r1) (μ1 := μ2) tc_d6_train_5 tc_ok5_has tc_w333 ⟨Nat.le_of_ble_eq_true rfl, Nat.le_of_ble_eq_true rfl⟩ tc_s5_1 rfl c1 rfl rfl (Nat.le_of_ble_eq_true rfl) ?_
  refine tc_if_eq (tgt := 20) tc_d6_train_8 (by decide) h (fun h => ?_) (fun h => ?_)
  · refine tc_bipush (v := (-2)) tc_d6_train_20 (by decide) ?_
    exact tc_iret tc_d6_train_22 rfl (tc_riS h)
  · refine tc_iload_n tc_d6_train_11 2 rfl ?_
    refine tc_iconst (v := 0) tc_d6_train_12 (by decide) ?_
    refine tc_iconst (v := 1) tc_d6_train_13 (by decide) ?_
    obtain ⟨r3, μ4, e3, h⟩ := tc_bdS h
    have c3 := tc_c6_isWithin (l := l) (G := G) N e3
    refine tc_callSi (As := [.int x2, .int 0, .int 1]) (rest := []) (r1 := r3) (μ1 := μ4) tc_d6_train_14 tc_ok6_isWithin tc_w303 ⟨Nat.le_of_ble_eq_true rfl, Nat.le_of_ble_eq_true rfl⟩ c3 rfl rfl (Nat.le_of_ble_eq_true rfl) ?_
    refine tc_if_ne (tgt := 23) tc_d6_train_17 (by decide) h (fun h => ?_) (fun h => ?_)
    · refine tc_aload_n tc_d6_train_23 0 rfl ?_
      refine tc_g6_0 tc_d6_train_24 tc_w268 ?_
      refine tc_g5_9_1 tc_d6_train_27 tc_w139 ?_
      refine tc_iload_n tc_d6_train_30 1 rfl ?_
      obtain ⟨r5, μ6, e5, h⟩ := tc_bdS h
      have c5 := tc_c6_bit (l := l) (G := G) N e5
      refine tc_callSi (As := [.int (μ4 1 9), .int x1]) (rest := []) (r1 := r5) (μ1 := μ6) tc_d6_train_31 tc_ok6_bit tc_w369 ⟨Nat.le_of_ble_eq_true rfl, Nat.le_of_ble_eq_true rfl⟩ c5 rfl rfl (Nat.le_of_ble_eq_true rfl) ?_
      refine tc_istore_n (L' := [(3, .int r5), (0, .ref (tc_ad G 0)), (1, .int x1), (2, .int x2)]) tc_d6_train_34 (by decide) rfl ?_
      refine tc_aload_n tc_d6_train_35 1 rfl ?_
      refine tc_g6_0 tc_d6_train_36 tc_w268 ?_
      refine tc_aload_n tc_d6_train_39 1 rfl ?_
      refine tc_g6_0 tc_d6_train_40 tc_w268 ?_
      refine tc_g5_9_1 tc_d6_train_43 tc_w139 ?_
      refine tc_iload_n tc_d6_train_46 2 rfl ?_
      refine tc_iload_n tc_d6_train_47 3 rfl ?_
      refine tc_iconst (v := 1) tc_d6_train_48 (by decide) ?_
      refine tc_icmp_ne (tgt := 56) tc_d6_train_49 (by decide) h (fun h => ?_) (fun h => ?_)
      · refine tc_iconst (v := 0) tc_d6_train_56 (by decide) ?_
        refine tc_sub [0] rfl ?_
        exact (tc_b6_train_57 N _ _ _ _ _ _) h
      · refine tc_iconst (v := 1) tc_d6_train_52 (by decide) ?_
        refine tc_goto (tgt := 57) tc_d6_train_53 (by decide) ?_
        refine tc_sub [0] rfl ?_
        exact (tc_b6_train_57 N _ _ _ _ _ _) h
    · refine tc_bipush (v := (-2)) tc_d6_train_20 (by decide) ?_
      exact tc_iret tc_d6_train_22 rfl (tc_riS h)
theorem tc_c6_train (N : Nat) {x1 : Int32} {x2 : Int32} {μ : tc_Mem} {z : Int32 × tc_Mem} (h : tc_f6_train N x1 x2 μ = some z) : tc_Con l G tc_i6_train [.ref (tc_ad G 0), .int x1, .int x2] μ (some (.int z.1)) z.2 :=
  tc_Con.of (L := [(0, .ref (tc_ad G 0)), (1, .int x1), (2, .int x2)]) (by decide) (Nat.le_of_ble_eq_true rfl) rfl (fun X => tc_b6_train_0 N  _ _ _ _ h)
def tc_f6_fault (N : Nat) (x1 : Int32) (x2 : Int32) (μ : tc_Mem) : Option (Int32 × tc_Mem) :=
  tc_bd (tc_f6_isWithin N x1 0 3 μ) fun r1 μ2 =>
  if r1 = 0 then
    some ((-2), μ2)
  else
    tc_bd (tc_f5_has N 1 x2 μ2) fun r3 μ4 =>
    if r3 = 0 then
      some ((-2), μ4)
    else
      if (μ4 8 0) < 6 then
        tc_bd (tc_f5_addFault N 1 x1 x2 μ4) fun _ μ6 =>
        some ((μ6 8 0), μ6)
      else
        some ((-4), μ4)
theorem tc_b6_fault_0 (N : Nat) (x1 : Int32) (x2 : Int32) (μ : tc_Mem) (z : Int32 × tc_Mem) (h : tc_f6_fault N x1 x2 μ = some z) : tc_At l G tc_i6_fault (some (.int z.1)) z.2 X 0 [(0, .ref (tc_ad G 0)), (1, .int x1), (2, .int x2)] [] μ := by
  unfold tc_f6_fault at h
  refine tc_iload_n tc_d6_fault_0 1 rfl ?_
  refine tc_iconst (v := 0) tc_d6_fault_1 (by decide) ?_
  refine tc_iconst (v := 3) tc_d6_fault_2 (by decide) ?_
  obtain ⟨r1, μ2, e1, h⟩ := tc_bdS h
  have c1 := tc_c6_isWithin (l := l) (G := G) N e1
  refine tc_callSi (As := [.int x1, .int 0, .int 3]) (rest := []) (r1 := r1) (μ1 := μ2) tc_d6_fault_3 tc_ok6_isWithin tc_w303 ⟨Nat.le_of_ble_eq_true rfl, Nat.le_of_ble_eq_true rfl⟩ c1 rfl rfl (Nat.le_of_ble_eq_true rfl) ?_
  refine tc_if_eq (tgt := 20) tc_d6_fault_6 (by decide) h (fun h => ?_) (fun h => ?_)
  · refine tc_bipush (v := (-2)) tc_d6_fault_20 (by decide) ?_
    exact tc_iret tc_d6_fault_22 rfl (tc_riS h)
  · refine tc_aload_n tc_d6_fault_9 0 rfl ?_
    refine tc_g6_0 tc_d6_fault_10 tc_w268 ?_
    refine tc_iload_n tc_d6_fault_13 2 rfl ?_
    obtain ⟨r3, μ4, e3, h⟩ := tc_bdS h
    have c3 := tc_c5_has (l := l) (G := G) N tc_Y1 e3
    refine tc_callVi (As := [.int x2]) (rest := []) (r1 := r3) (μ1 := μ4) tc_d6_fault_14 tc_ok5_has tc_w333 ⟨Nat.le_of_ble_eq_true rfl, Nat.le_of_ble_eq_true rfl⟩ tc_s5_1 rfl c3 rfl rfl (Nat.le_of_ble_eq_true rfl) ?_
    refine tc_if_ne (tgt := 23) tc_d6_fault_17 (by decide) h (fun h => ?_) (fun h => ?_)
    · refine tc_aload_n tc_d6_fault_23 0 rfl ?_
      refine tc_g6_0 tc_d6_fault_24 tc_w268 ?_
      refine tc_g5_7_1 tc_d6_fault_27 tc_w131 ?_
      refine tc_g1_0_1 tc_d6_fault_30 tc_w93 ?_
      refine tc_bipush (v := 6) tc_d6_fault_33 (by decide) ?_
      refine tc_icmp_lt (tgt := 41) tc_d6_fault_35 (by decide) h (fun h => ?_) (fun h => ?_)
      · refine tc_aload_n tc_d6_fault_41 0 rfl ?_
        refine tc_g6_0 tc_d6_fault_42 tc_w268 ?_
        refine tc_iload_n tc_d6_fault_45 1 rfl ?_
        refine tc_iload_n tc_d6_fault_46 2 rfl ?_
        obtain ⟨r5, μ6, e5, h⟩ := tc_bdS h
        have c5 := tc_c5_addFault (l := l) (G := G) N tc_Y1 e5
        refine tc_callVv (As := [.int x1, .int x2]) (rest := []) (μ1 := μ6) tc_d6_fault_47 tc_ok5_addFault tc_w421 ⟨Nat.le_of_ble_eq_true rfl, Nat.le_of_ble_eq_true rfl⟩ tc_s5_1 rfl c5 rfl rfl (Nat.le_of_ble_eq_true rfl) ?_
        refine tc_aload_n tc_d6_fault_50 0 rfl ?_
        refine tc_g6_0 tc_d6_fault_51 tc_w268 ?_
        refine tc_g5_7_1 tc_d6_fault_54 tc_w131 ?_
        refine tc_g1_0_1 tc_d6_fault_57 tc_w93 ?_
        exact tc_iret tc_d6_fault_60 rfl (tc_riS h)
      · refine tc_bipush (v := (-4)) tc_d6_fault_38 (by decide) ?_
        exact tc_iret tc_d6_fault_40 rfl (tc_riS h)
    · refine tc_bipush (v := (-2)) tc_d6_fault_20 (by decide) ?_
      exact tc_iret tc_d6_fault_22 rfl (tc_riS h)
theorem tc_c6_fault (N : Nat) {x1 : Int32} {x2 : Int32} {μ : tc_Mem} {z : Int32 × tc_Mem} (h : tc_f6_fault N x1 x2 μ = some z) : tc_Con l G tc_i6_fault [.ref (tc_ad G 0), .int x1, .int x2] μ (some (.int z.1)) z.2 :=
  tc_Con.of (L := [(0, .ref (tc_ad G 0)), (1, .int x1), (2, .int x2)]) (by decide) (Nat.le_of_ble_eq_true rfl) rfl (fun X => tc_b6_fault_0 N  _ _ _ _ h)
def tc_f6_mend (N : Nat) (x1 : Int32) (μ : tc_Mem) : Option (Int32 × tc_Mem) :=
  tc_bd (tc_f5_has N 1 x1 μ) fun r1 μ2 =>
  if r1 = 0 then
    some ((-2), μ2)
  else
    tc_bd (tc_f1_removeAt N 1 x1 μ2) fun r3 μ4 =>
    some (r3, μ4)
theorem tc_b6_mend_0 (N : Nat) (x1 : Int32) (μ : tc_Mem) (z : Int32 × tc_Mem) (h : tc_f6_mend N x1 μ = some z) : tc_At l G tc_i6_mend (some (.int z.1)) z.2 X 0 [(0, .ref (tc_ad G 0)), (1, .int x1)] [] μ := by
  unfold tc_f6_mend at h
  refine tc_aload_n tc_d6_mend_0 0 rfl ?_
  refine tc_g6_0 tc_d6_mend_1 tc_w268 ?_
  refine tc_iload_n tc_d6_mend_4 1 rfl ?_
  obtain ⟨r1, μ2, e1, h⟩ := tc_bdS h
  have c1 := tc_c5_has (l := l) (G := G) N tc_Y1 e1
  refine tc_callVi (As := [.int x1]) (rest := []) (r1 := r1) (μ1 := μ2) tc_d6_mend_5 tc_ok5_has tc_w333 ⟨Nat.le_of_ble_eq_true rfl, Nat.le_of_ble_eq_true rfl⟩ tc_s5_1 rfl c1 rfl rfl (Nat.le_of_ble_eq_true rfl) ?_
  refine tc_if_eq (tgt := 25) tc_d6_mend_8 (by decide) h (fun h => ?_) (fun h => ?_)
  · refine tc_bipush (v := (-2)) tc_d6_mend_25 (by decide) ?_
    exact tc_iret tc_d6_mend_27 rfl (tc_riS h)
  · refine tc_aload_n tc_d6_mend_11 0 rfl ?_
    refine tc_g6_0 tc_d6_mend_12 tc_w268 ?_
    refine tc_g5_7_1 tc_d6_mend_15 tc_w131 ?_
    refine tc_iload_n tc_d6_mend_18 1 rfl ?_
    obtain ⟨r3, μ4, e3, h⟩ := tc_bdS h
    have c3 := tc_c1_removeAt (l := l) (G := G) N tc_Y1 e3
    refine tc_callVi (As := [.int x1]) (rest := []) (r1 := r3) (μ1 := μ4) tc_d6_mend_19 tc_ok1_removeAt tc_w437 ⟨Nat.le_of_ble_eq_true rfl, Nat.le_of_ble_eq_true rfl⟩ tc_s1_1 rfl c3 rfl rfl (Nat.le_of_ble_eq_true rfl) ?_
    refine tc_goto (tgt := 27) tc_d6_mend_22 (by decide) ?_
    exact tc_iret tc_d6_mend_27 rfl (tc_riS h)
theorem tc_c6_mend (N : Nat) {x1 : Int32} {μ : tc_Mem} {z : Int32 × tc_Mem} (h : tc_f6_mend N x1 μ = some z) : tc_Con l G tc_i6_mend [.ref (tc_ad G 0), .int x1] μ (some (.int z.1)) z.2 :=
  tc_Con.of (L := [(0, .ref (tc_ad G 0)), (1, .int x1)]) (by decide) (Nat.le_of_ble_eq_true rfl) rfl (fun X => tc_b6_mend_0 N  _ _ _ h)
def tc_f6_rule_26 (N : Nat) (x1 : Int32) (x2 : Int32) (s0 : Int32) (s1 : Int32) (s2 : Int32) (μ : tc_Mem) : Option (Int32 × tc_Mem) :=
  tc_bd (tc_f6_isWithin N s0 s1 s2 μ) fun r1 μ2 =>
  if r1 = 0 then
    some ((-2), μ2)
  else
    tc_bd (tc_f5_layRule N 1 x1 x2 μ2) fun r3 μ4 =>
    some (r3, μ4)
theorem tc_b6_rule_26 (N : Nat) (x1 : Int32) (x2 : Int32) (s0 : Int32) (s1 : Int32) (s2 : Int32) (μ : tc_Mem) (z : Int32 × tc_Mem) (h : tc_f6_rule_26 N x1 x2 s0 s1 s2 μ = some z) : tc_At l G tc_i6_rule (some (.int z.1)) z.2 X 26 [(0, .ref (tc_ad G 0)), (1, .int x1), (2, .int x2)] [.int s2, .int s1, .int s0] μ := by
  unfold tc_f6_rule_26 at h
  obtain ⟨r1, μ2, e1, h⟩ := tc_bdS h
  have c1 := tc_c6_isWithin (l := l) (G := G) N e1
  refine tc_callSi (As := [.int s0, .int s1, .int s2]) (rest := []) (r1 := r1) (μ1 := μ2) tc_d6_rule_26 tc_ok6_isWithin tc_w303 ⟨Nat.le_of_ble_eq_true rfl, Nat.le_of_ble_eq_true rfl⟩ c1 rfl rfl (Nat.le_of_ble_eq_true rfl) ?_
  refine tc_if_ne (tgt := 35) tc_d6_rule_29 (by decide) h (fun h => ?_) (fun h => ?_)
  · refine tc_aload_n tc_d6_rule_35 0 rfl ?_
    refine tc_g6_0 tc_d6_rule_36 tc_w268 ?_
    refine tc_iload_n tc_d6_rule_39 1 rfl ?_
    refine tc_iload_n tc_d6_rule_40 2 rfl ?_
    obtain ⟨r3, μ4, e3, h⟩ := tc_bdS h
    have c3 := tc_c5_layRule (l := l) (G := G) N tc_Y1 e3
    refine tc_callVi (As := [.int x1, .int x2]) (rest := []) (r1 := r3) (μ1 := μ4) tc_d6_rule_41 tc_ok5_layRule tc_w392 ⟨Nat.le_of_ble_eq_true rfl, Nat.le_of_ble_eq_true rfl⟩ tc_s5_1 rfl c3 rfl rfl (Nat.le_of_ble_eq_true rfl) ?_
    exact tc_iret tc_d6_rule_44 rfl (tc_riS h)
  · refine tc_bipush (v := (-2)) tc_d6_rule_32 (by decide) ?_
    exact tc_iret tc_d6_rule_34 rfl (tc_riS h)
def tc_f6_rule (N : Nat) (x1 : Int32) (x2 : Int32) (μ : tc_Mem) : Option (Int32 × tc_Mem) :=
  tc_bd (tc_f6_isWithin N x1 0 2 μ) fun r1 μ2 =>
  if r1 = 0 then
    some ((-2), μ2)
  else
    if x1 = 2 then
      tc_f6_rule_26 N x1 x2 x2 0 9 μ2
    else
      tc_f6_rule_26 N x1 x2 x2 0 99 μ2
theorem tc_b6_rule_0 (N : Nat) (x1 : Int32) (x2 : Int32) (μ : tc_Mem) (z : Int32 × tc_Mem) (h : tc_f6_rule N x1 x2 μ = some z) : tc_At l G tc_i6_rule (some (.int z.1)) z.2 X 0 [(0, .ref (tc_ad G 0)), (1, .int x1), (2, .int x2)] [] μ := by
  unfold tc_f6_rule at h
  refine tc_iload_n tc_d6_rule_0 1 rfl ?_
  refine tc_iconst (v := 0) tc_d6_rule_1 (by decide) ?_
  refine tc_iconst (v := 2) tc_d6_rule_2 (by decide) ?_
  obtain ⟨r1, μ2, e1, h⟩ := tc_bdS h
  have c1 := tc_c6_isWithin (l := l) (G := G) N e1
  refine tc_callSi (As := [.int x1, .int 0, .int 2]) (rest := []) (r1 := r1) (μ1 := μ2) tc_d6_rule_3 tc_ok6_isWithin tc_w303 ⟨Nat.le_of_ble_eq_true rfl, Nat.le_of_ble_eq_true rfl⟩ c1 rfl rfl (Nat.le_of_ble_eq_true rfl) ?_
  refine tc_if_ne (tgt := 12) tc_d6_rule_6 (by decide) h (fun h => ?_) (fun h => ?_)
  · refine tc_iload_n tc_d6_rule_12 2 rfl ?_
    refine tc_iconst (v := 0) tc_d6_rule_13 (by decide) ?_
    refine tc_iload_n tc_d6_rule_14 1 rfl ?_
    refine tc_iconst (v := 2) tc_d6_rule_15 (by decide) ?_
    refine tc_icmp_ne (tgt := 24) tc_d6_rule_16 (by decide) h (fun h => ?_) (fun h => ?_)
    · refine tc_bipush (v := 99) tc_d6_rule_24 (by decide) ?_
      exact (tc_b6_rule_26 N _ _ _ _ _ _ _) h
    · refine tc_bipush (v := 9) tc_d6_rule_19 (by decide) ?_
      refine tc_goto (tgt := 26) tc_d6_rule_21 (by decide) ?_
      exact (tc_b6_rule_26 N _ _ _ _ _ _ _) h
  · refine tc_bipush (v := (-2)) tc_d6_rule_9 (by decide) ?_
    exact tc_iret tc_d6_rule_11 rfl (tc_riS h)
theorem tc_c6_rule (N : Nat) {x1 : Int32} {x2 : Int32} {μ : tc_Mem} {z : Int32 × tc_Mem} (h : tc_f6_rule N x1 x2 μ = some z) : tc_Con l G tc_i6_rule [.ref (tc_ad G 0), .int x1, .int x2] μ (some (.int z.1)) z.2 :=
  tc_Con.of (L := [(0, .ref (tc_ad G 0)), (1, .int x1), (2, .int x2)]) (by decide) (Nat.le_of_ble_eq_true rfl) rfl (fun X => tc_b6_rule_0 N  _ _ _ _ h)
def tc_f6_moment (N : Nat) (μ : tc_Mem) : Option (Int32 × tc_Mem) :=
  tc_bd (tc_f0_passes N 23 1 μ) fun r1 μ2 =>
  if r1 = 0 then
    some ((-3), μ2)
  else
    tc_lt (tc_wr μ2 0 5 (μ2 23 1)) fun μ3 =>
    tc_cp μ3 24 40 26 40 0 0 (μ3 0 5) fun μ4 =>
    some ((μ4 0 5), μ4)
theorem tc_b6_moment_0 (N : Nat) (μ : tc_Mem) (z : Int32 × tc_Mem) (h : tc_f6_moment N μ = some z) : tc_At l G tc_i6_moment (some (.int z.1)) z.2 X 0 [(0, .ref (tc_ad G 0))] [] μ := by
  unfold tc_f6_moment at h
  refine tc_aload_n tc_d6_moment_0 0 rfl ?_
  refine tc_g6_3 tc_d6_moment_1 tc_w271 ?_
  refine tc_aload_n tc_d6_moment_4 0 rfl ?_
  refine tc_g6_0 tc_d6_moment_5 tc_w268 ?_
  obtain ⟨r1, μ2, e1, h⟩ := tc_bdS h
  have c1 := tc_c0_passes (l := l) (G := G) N tc_A23 tc_Y1 e1
  refine tc_callVi (As := [.ref (tc_ad G 1)]) (rest := []) (r1 := r1) (μ1 := μ2) tc_d6_moment_8 tc_ok0_passes tc_w442 ⟨Nat.le_of_ble_eq_true rfl, Nat.le_of_ble_eq_true rfl⟩ tc_s0_23 rfl c1 rfl rfl (Nat.le_of_ble_eq_true rfl) ?_
  refine tc_if_ne (tgt := 17) tc_d6_moment_11 (by decide) h (fun h => ?_) (fun h => ?_)
  · refine tc_aload_n tc_d6_moment_17 0 rfl ?_
    refine tc_aload_n tc_d6_moment_18 0 rfl ?_
    refine tc_g6_3 tc_d6_moment_19 tc_w271 ?_
    refine tc_g0_1_23 tc_d6_moment_22 tc_w183 ?_
    refine tc_p6_5 tc_d6_moment_25 tc_w273 h (fun μ3 h => ?_)
    refine tc_aload_n tc_d6_moment_28 0 rfl ?_
    refine tc_g6_3 tc_d6_moment_29 tc_w271 ?_
    refine tc_g0_0_23 tc_d6_moment_32 tc_w180 ?_
    refine tc_iconst (v := 0) tc_d6_moment_35 (by decide) ?_
    refine tc_aload_n tc_d6_moment_36 0 rfl ?_
    refine tc_g6_4 tc_d6_moment_37 tc_w272 ?_
    refine tc_iconst (v := 0) tc_d6_moment_40 (by decide) ?_
    refine tc_aload_n tc_d6_moment_41 0 rfl ?_
    refine tc_g6_5 tc_d6_moment_42 tc_w273 ?_
    refine tc_acpyL tc_d6_moment_45 tc_w491 tc_okcp ⟨Nat.le_of_ble_eq_true rfl, Nat.le_of_ble_eq_true rfl⟩ tc_aL24 tc_aL26 h (fun μ4 h => ?_)
    refine tc_aload_n tc_d6_moment_48 0 rfl ?_
    refine tc_g6_5 tc_d6_moment_49 tc_w273 ?_
    exact tc_iret tc_d6_moment_52 rfl (tc_riS h)
  · refine tc_bipush (v := (-3)) tc_d6_moment_14 (by decide) ?_
    exact tc_iret tc_d6_moment_16 rfl (tc_riS h)
theorem tc_c6_moment (N : Nat) {μ : tc_Mem} {z : Int32 × tc_Mem} (h : tc_f6_moment N μ = some z) : tc_Con l G tc_i6_moment [.ref (tc_ad G 0)] μ (some (.int z.1)) z.2 :=
  tc_Con.of (L := [(0, .ref (tc_ad G 0))]) (by decide) (Nat.le_of_ble_eq_true rfl) rfl (fun X => tc_b6_moment_0 N  _ _ h)
def tc_f6_drop (N : Nat) (μ : tc_Mem) : Option (Int32 × tc_Mem) :=
  if (μ 1 0) = 0 then
    some ((-3), μ)
  else
    tc_bd (tc_f5_removeLast N 1 μ) fun _ μ2 =>
    some ((μ2 1 0), μ2)
theorem tc_b6_drop_0 (N : Nat) (μ : tc_Mem) (z : Int32 × tc_Mem) (h : tc_f6_drop N μ = some z) : tc_At l G tc_i6_drop (some (.int z.1)) z.2 X 0 [(0, .ref (tc_ad G 0))] [] μ := by
  unfold tc_f6_drop at h
  refine tc_aload_n tc_d6_drop_0 0 rfl ?_
  refine tc_g6_0 tc_d6_drop_1 tc_w268 ?_
  refine tc_g5_0_1 tc_d6_drop_4 tc_w114 ?_
  refine tc_if_ne (tgt := 13) tc_d6_drop_7 (by decide) h (fun h => ?_) (fun h => ?_)
  · refine tc_aload_n tc_d6_drop_13 0 rfl ?_
    refine tc_g6_0 tc_d6_drop_14 tc_w268 ?_
    obtain ⟨r1, μ2, e1, h⟩ := tc_bdS h
    have c1 := tc_c5_removeLast (l := l) (G := G) N tc_Y1 e1
    refine tc_callVv (As := []) (rest := []) (μ1 := μ2) tc_d6_drop_17 tc_ok5_removeLast tc_w314 ⟨Nat.le_of_ble_eq_true rfl, Nat.le_of_ble_eq_true rfl⟩ tc_s5_1 rfl c1 rfl rfl (Nat.le_of_ble_eq_true rfl) ?_
    refine tc_aload_n tc_d6_drop_20 0 rfl ?_
    refine tc_g6_0 tc_d6_drop_21 tc_w268 ?_
    refine tc_g5_0_1 tc_d6_drop_24 tc_w114 ?_
    exact tc_iret tc_d6_drop_27 rfl (tc_riS h)
  · refine tc_bipush (v := (-3)) tc_d6_drop_10 (by decide) ?_
    exact tc_iret tc_d6_drop_12 rfl (tc_riS h)
theorem tc_c6_drop (N : Nat) {μ : tc_Mem} {z : Int32 × tc_Mem} (h : tc_f6_drop N μ = some z) : tc_Con l G tc_i6_drop [.ref (tc_ad G 0)] μ (some (.int z.1)) z.2 :=
  tc_Con.of (L := [(0, .ref (tc_ad G 0))]) (by decide) (Nat.le_of_ble_eq_true rfl) rfl (fun X => tc_b6_drop_0 N  _ _ h)
def tc_f6_answerOfClause (N : Nat) (x1 : Int32) (μ : tc_Mem) : Option (Int32 × tc_Mem) :=
  tc_bd (tc_f4_number N x1 0 μ) fun r1 μ2 =>
  tc_bd (tc_f4_number N x1 1 μ2) fun r3 μ4 =>
  tc_ck x1 15 (
  tc_lt (μ4 44 x1.toNatClampNeg) fun v6 =>
  if v6 < 0 ∨ 7 < v6 then
    some ((-2), μ4)
  else if v6 = 0 then
    tc_bd (tc_f4_number N x1 2 μ4) fun r7 μ8 =>
    tc_bd (tc_f4_number N x1 3 μ8) fun r9 μ10 =>
    tc_bd (tc_f6_section N r1 r3 r7 r9 μ10) fun r11 μ12 =>
    some (r11, μ12)
  else if v6 = 1 then
    tc_bd (tc_f6_train N r1 1 μ4) fun r13 μ14 =>
    some (r13, μ14)
  else if v6 = 2 then
    tc_bd (tc_f6_train N r1 0 μ4) fun r15 μ16 =>
    some (r15, μ16)
  else if v6 = 3 then
    tc_bd (tc_f6_fault N r1 r3 μ4) fun r17 μ18 =>
    some (r17, μ18)
  else if v6 = 4 then
    tc_bd (tc_f6_mend N r1 μ4) fun r19 μ20 =>
    some (r19, μ20)
  else if v6 = 5 then
    tc_bd (tc_f6_rule N 2 r1 μ4) fun r21 μ22 =>
    some (r21, μ22)
  else if v6 = 6 then
    tc_bd (tc_f6_moment N μ4) fun r23 μ24 =>
    some (r23, μ24)
  else if v6 = 7 then
    tc_bd (tc_f6_drop N μ4) fun r25 μ26 =>
    some (r25, μ26)
  else none)
theorem tc_b6_answerOfClause_0 (N : Nat) (x1 : Int32) (μ : tc_Mem) (z : Int32 × tc_Mem) (h : tc_f6_answerOfClause N x1 μ = some z) : tc_At l G tc_i6_answerOfClause (some (.int z.1)) z.2 X 0 [(0, .ref (tc_ad G 0)), (1, .int x1)] [] μ := by
  unfold tc_f6_answerOfClause at h
  refine tc_aload_n tc_d6_answerOfClause_0 0 rfl ?_
  refine tc_g6_7 tc_d6_answerOfClause_1 tc_w275 ?_
  refine tc_iload_n tc_d6_answerOfClause_4 1 rfl ?_
  refine tc_iconst (v := 0) tc_d6_answerOfClause_5 (by decide) ?_
  obtain ⟨r1, μ2, e1, h⟩ := tc_bdS h
  have c1 := tc_c4_number (l := l) (G := G) N e1
  refine tc_callVi (As := [.int x1, .int 0]) (rest := []) (r1 := r1) (μ1 := μ2) tc_d6_answerOfClause_6 tc_ok4_number tc_w811 ⟨Nat.le_of_ble_eq_true rfl, Nat.le_of_ble_eq_true rfl⟩ tc_s4 rfl c1 rfl rfl (Nat.le_of_ble_eq_true rfl) ?_
  refine tc_istore_n (L' := [(2, .int r1), (0, .ref (tc_ad G 0)), (1, .int x1)]) tc_d6_answerOfClause_9 (by decide) rfl ?_
  refine tc_aload_n tc_d6_answerOfClause_10 1 rfl ?_
  refine tc_g6_7 tc_d6_answerOfClause_11 tc_w275 ?_
  refine tc_iload_n tc_d6_answerOfClause_14 2 rfl ?_
  refine tc_iconst (v := 1) tc_d6_answerOfClause_15 (by decide) ?_
  obtain ⟨r3, μ4, e3, h⟩ := tc_bdS h
  have c3 := tc_c4_number (l := l) (G := G) N e3
  refine tc_callVi (As := [.int x1, .int 1]) (rest := []) (r1 := r3) (μ1 := μ4) tc_d6_answerOfClause_16 tc_ok4_number tc_w811 ⟨Nat.le_of_ble_eq_true rfl, Nat.le_of_ble_eq_true rfl⟩ tc_s4 rfl c3 rfl rfl (Nat.le_of_ble_eq_true rfl) ?_
  refine tc_istore_n (L' := [(3, .int r3), (2, .int r1), (0, .ref (tc_ad G 0)), (1, .int x1)]) tc_d6_answerOfClause_19 (by decide) rfl ?_
  refine tc_aload_n tc_d6_answerOfClause_20 2 rfl ?_
  refine tc_g6_7 tc_d6_answerOfClause_21 tc_w275 ?_
  refine tc_g4_3 tc_d6_answerOfClause_24 tc_w232 ?_
  refine tc_iload_n tc_d6_answerOfClause_27 3 rfl ?_
  obtain ⟨hi5, h⟩ := tc_ckS h
  refine tc_iald tc_d6_answerOfClause_28 tc_aL44 hi5 ?_
  refine tc_ltI h (fun v6 h => ?_)
  by_cases hq : v6 < 0 ∨ 7 < v6
  · rw [if_pos hq] at h
    refine tc_tswD (a := 0) (b := 7) (tgt := 145) tc_d6_answerOfClause_29 ⟨by decide, by decide⟩ hq (by decide) ?_
    refine tc_bipush (v := (-2)) tc_d6_answerOfClause_145 (by decide) ?_
    exact tc_iret tc_d6_answerOfClause_147 rfl (tc_riS h)
  · rw [if_neg hq] at h
    by_cases hq : v6 = 0
    · rw [if_pos hq] at h
      refine tc_tswK (k := 0) (off := 47) (tgt := 76) tc_d6_answerOfClause_29 hq (by decide) (by decide) rfl (by decide) ?_
      refine tc_aload_n tc_d6_answerOfClause_76 2 rfl ?_
      refine tc_iload_n tc_d6_answerOfClause_77 1 rfl ?_
      refine tc_iload_n tc_d6_answerOfClause_78 0 rfl ?_
      refine tc_aload_n tc_d6_answerOfClause_79 2 rfl ?_
      refine tc_g6_7 tc_d6_answerOfClause_80 tc_w275 ?_
      refine tc_iload_n tc_d6_answerOfClause_83 3 rfl ?_
      refine tc_iconst (v := 2) tc_d6_answerOfClause_84 (by decide) ?_
      obtain ⟨r7, μ8, e7, h⟩ := tc_bdS h
      have c7 := tc_c4_number (l := l) (G := G) N e7
      refine tc_callVi (As := [.int x1, .int 2]) (rest := [.int r3, .int r1, .ref (tc_ad G 0)]) (r1 := r7) (μ1 := μ8) tc_d6_answerOfClause_85 tc_ok4_number tc_w811 ⟨Nat.le_of_ble_eq_true rfl, Nat.le_of_ble_eq_true rfl⟩ tc_s4 rfl c7 rfl rfl (Nat.le_of_ble_eq_true rfl) ?_
      refine tc_aload_n tc_d6_answerOfClause_88 2 rfl ?_
      refine tc_g6_7 tc_d6_answerOfClause_89 tc_w275 ?_
      refine tc_iload_n tc_d6_answerOfClause_92 3 rfl ?_
      refine tc_iconst (v := 3) tc_d6_answerOfClause_93 (by decide) ?_
      obtain ⟨r9, μ10, e9, h⟩ := tc_bdS h
      have c9 := tc_c4_number (l := l) (G := G) N e9
      refine tc_callVi (As := [.int x1, .int 3]) (rest := [.int r7, .int r3, .int r1, .ref (tc_ad G 0)]) (r1 := r9) (μ1 := μ10) tc_d6_answerOfClause_94 tc_ok4_number tc_w811 ⟨Nat.le_of_ble_eq_true rfl, Nat.le_of_ble_eq_true rfl⟩ tc_s4 rfl c9 rfl rfl (Nat.le_of_ble_eq_true rfl) ?_
      obtain ⟨r11, μ12, e11, h⟩ := tc_bdS h
      have c11 := tc_c6_section (l := l) (G := G) N e11
      refine tc_callVi (As := [.int r1, .int r3, .int r7, .int r9]) (rest := []) (r1 := r11) (μ1 := μ12) tc_d6_answerOfClause_97 tc_ok6_section tc_w815 ⟨Nat.le_of_ble_eq_true rfl, Nat.le_of_ble_eq_true rfl⟩ tc_s6 rfl c11 rfl rfl (Nat.le_of_ble_eq_true rfl) ?_
      exact tc_iret tc_d6_answerOfClause_100 rfl (tc_riS h)
    · rw [if_neg hq] at h
      by_cases hq : v6 = 1
      · rw [if_pos hq] at h
        refine tc_tswK (k := 1) (off := 72) (tgt := 101) tc_d6_answerOfClause_29 hq (by decide) (by decide) rfl (by decide) ?_
        refine tc_aload_n tc_d6_answerOfClause_101 2 rfl ?_
        refine tc_iload_n tc_d6_answerOfClause_102 1 rfl ?_
        refine tc_iconst (v := 1) tc_d6_answerOfClause_103 (by decide) ?_
        obtain ⟨r13, μ14, e13, h⟩ := tc_bdS h
        have c13 := tc_c6_train (l := l) (G := G) N e13
        refine tc_callVi (As := [.int r1, .int 1]) (rest := []) (r1 := r13) (μ1 := μ14) tc_d6_answerOfClause_104 tc_ok6_train tc_w816 ⟨Nat.le_of_ble_eq_true rfl, Nat.le_of_ble_eq_true rfl⟩ tc_s6 rfl c13 rfl rfl (Nat.le_of_ble_eq_true rfl) ?_
        exact tc_iret tc_d6_answerOfClause_107 rfl (tc_riS h)
      · rw [if_neg hq] at h
        by_cases hq : v6 = 2
        · rw [if_pos hq] at h
          refine tc_tswK (k := 2) (off := 79) (tgt := 108) tc_d6_answerOfClause_29 hq (by decide) (by decide) rfl (by decide) ?_
          refine tc_aload_n tc_d6_answerOfClause_108 2 rfl ?_
          refine tc_iload_n tc_d6_answerOfClause_109 1 rfl ?_
          refine tc_iconst (v := 0) tc_d6_answerOfClause_110 (by decide) ?_
          obtain ⟨r15, μ16, e15, h⟩ := tc_bdS h
          have c15 := tc_c6_train (l := l) (G := G) N e15
          refine tc_callVi (As := [.int r1, .int 0]) (rest := []) (r1 := r15) (μ1 := μ16) tc_d6_answerOfClause_111 tc_ok6_train tc_w816 ⟨Nat.le_of_ble_eq_true rfl, Nat.le_of_ble_eq_true rfl⟩ tc_s6 rfl c15 rfl rfl (Nat.le_of_ble_eq_true rfl) ?_
          exact tc_iret tc_d6_answerOfClause_114 rfl (tc_riS h)
        · rw [if_neg hq] at h
          by_cases hq : v6 = 3
          · rw [if_pos hq] at h
            refine tc_tswK (k := 3) (off := 86) (tgt := 115) tc_d6_answerOfClause_29 hq (by decide) (by decide) rfl (by decide) ?_
            refine tc_aload_n tc_d6_answerOfClause_115 2 rfl ?_
            refine tc_iload_n tc_d6_answerOfClause_116 1 rfl ?_
            refine tc_iload_n tc_d6_answerOfClause_117 0 rfl ?_
            obtain ⟨r17, μ18, e17, h⟩ := tc_bdS h
            have c17 := tc_c6_fault (l := l) (G := G) N e17
            refine tc_callVi (As := [.int r1, .int r3]) (rest := []) (r1 := r17) (μ1 := μ18) tc_d6_answerOfClause_118 tc_ok6_fault tc_w817 ⟨Nat.le_of_ble_eq_true rfl, Nat.le_of_ble_eq_true rfl⟩ tc_s6 rfl c17 rfl rfl (Nat.le_of_ble_eq_true rfl) ?_
            exact tc_iret tc_d6_answerOfClause_121 rfl (tc_riS h)
          · rw [if_neg hq] at h
            by_cases hq : v6 = 4
            · rw [if_pos hq] at h
              refine tc_tswK (k := 4) (off := 93) (tgt := 122) tc_d6_answerOfClause_29 hq (by decide) (by decide) rfl (by decide) ?_
              refine tc_aload_n tc_d6_answerOfClause_122 2 rfl ?_
              refine tc_iload_n tc_d6_answerOfClause_123 1 rfl ?_
              obtain ⟨r19, μ20, e19, h⟩ := tc_bdS h
              have c19 := tc_c6_mend (l := l) (G := G) N e19
              refine tc_callVi (As := [.int r1]) (rest := []) (r1 := r19) (μ1 := μ20) tc_d6_answerOfClause_124 tc_ok6_mend tc_w818 ⟨Nat.le_of_ble_eq_true rfl, Nat.le_of_ble_eq_true rfl⟩ tc_s6 rfl c19 rfl rfl (Nat.le_of_ble_eq_true rfl) ?_
              exact tc_iret tc_d6_answerOfClause_127 rfl (tc_riS h)
            · rw [if_neg hq] at h
              by_cases hq : v6 = 5
              · rw [if_pos hq] at h
                refine tc_tswK (k := 5) (off := 99) (tgt := 128) tc_d6_answerOfClause_29 hq (by decide) (by decide) rfl (by decide) ?_
                refine tc_aload_n tc_d6_answerOfClause_128 2 rfl ?_
                refine tc_iconst (v := 2) tc_d6_answerOfClause_129 (by decide) ?_
                refine tc_iload_n tc_d6_answerOfClause_130 1 rfl ?_
                obtain ⟨r21, μ22, e21, h⟩ := tc_bdS h
                have c21 := tc_c6_rule (l := l) (G := G) N e21
                refine tc_callVi (As := [.int 2, .int r1]) (rest := []) (r1 := r21) (μ1 := μ22) tc_d6_answerOfClause_131 tc_ok6_rule tc_w819 ⟨Nat.le_of_ble_eq_true rfl, Nat.le_of_ble_eq_true rfl⟩ tc_s6 rfl c21 rfl rfl (Nat.le_of_ble_eq_true rfl) ?_
                exact tc_iret tc_d6_answerOfClause_134 rfl (tc_riS h)
              · rw [if_neg hq] at h
                by_cases hq : v6 = 6
                · rw [if_pos hq] at h
                  refine tc_tswK (k := 6) (off := 106) (tgt := 135) tc_d6_answerOfClause_29 hq (by decide) (by decide) rfl (by decide) ?_
                  refine tc_aload_n tc_d6_answerOfClause_135 2 rfl ?_
                  obtain ⟨r23, μ24, e23, h⟩ := tc_bdS h
                  have c23 := tc_c6_moment (l := l) (G := G) N e23
                  refine tc_callVi (As := []) (rest := []) (r1 := r23) (μ1 := μ24) tc_d6_answerOfClause_136 tc_ok6_moment tc_w820 ⟨Nat.le_of_ble_eq_true rfl, Nat.le_of_ble_eq_true rfl⟩ tc_s6 rfl c23 rfl rfl (Nat.le_of_ble_eq_true rfl) ?_
                  exact tc_iret tc_d6_answerOfClause_139 rfl (tc_riS h)
                · rw [if_neg hq] at h
                  by_cases hq : v6 = 7
                  · rw [if_pos hq] at h
                    refine tc_tswK (k := 7) (off := 111) (tgt := 140) tc_d6_answerOfClause_29 hq (by decide) (by decide) rfl (by decide) ?_
                    refine tc_aload_n tc_d6_answerOfClause_140 2 rfl ?_
                    obtain ⟨r25, μ26, e25, h⟩ := tc_bdS h
                    have c25 := tc_c6_drop (l := l) (G := G) N e25
                    refine tc_callVi (As := []) (rest := []) (r1 := r25) (μ1 := μ26) tc_d6_answerOfClause_141 tc_ok6_drop tc_w821 ⟨Nat.le_of_ble_eq_true rfl, Nat.le_of_ble_eq_true rfl⟩ tc_s6 rfl c25 rfl rfl (Nat.le_of_ble_eq_true rfl) ?_
                    exact tc_iret tc_d6_answerOfClause_144 rfl (tc_riS h)
                  · rw [if_neg hq] at h
                    cases h
theorem tc_c6_answerOfClause (N : Nat) {x1 : Int32} {μ : tc_Mem} {z : Int32 × tc_Mem} (h : tc_f6_answerOfClause N x1 μ = some z) : tc_Con l G tc_i6_answerOfClause [.ref (tc_ad G 0), .int x1] μ (some (.int z.1)) z.2 :=
  tc_Con.of (L := [(0, .ref (tc_ad G 0)), (1, .int x1)]) (by decide) (Nat.le_of_ble_eq_true rfl) rfl (fun X => tc_b6_answerOfClause_0 N  _ _ _ h)
def tc_f6_aspect (N : Nat) (x1 : Int32) (μ : tc_Mem) : Option (Int32 × tc_Mem) :=
  tc_bd (tc_f5_has N 1 x1 μ) fun r1 μ2 =>
  if r1 = 0 then
    some ((-2), μ2)
  else
    tc_bd (tc_f5_relay N 1 x1 μ2) fun r3 μ4 =>
    if r3 = 0 then
      some (0, μ4)
    else
      tc_bd (tc_f5_relay N 1 (x1 + 1) μ4) fun r5 μ6 =>
      if r5 = 0 then
        some (1, μ6)
      else
        some (2, μ6)
theorem tc_b6_aspect_0 (N : Nat) (x1 : Int32) (μ : tc_Mem) (z : Int32 × tc_Mem) (h : tc_f6_aspect N x1 μ = some z) : tc_At l G tc_i6_aspect (some (.int z.1)) z.2 X 0 [(0, .ref (tc_ad G 0)), (1, .int x1)] [] μ := by
  unfold tc_f6_aspect at h
  refine tc_aload_n tc_d6_aspect_0 0 rfl ?_
  refine tc_g6_0 tc_d6_aspect_1 tc_w268 ?_
  refine tc_iload_n tc_d6_aspect_4 1 rfl ?_
  obtain ⟨r1, μ2, e1, h⟩ := tc_bdS h
  have c1 := tc_c5_has (l := l) (G := G) N tc_Y1 e1
  refine tc_callVi (As := [.int x1]) (rest := []) (r1 := r1) (μ1 := μ2) tc_d6_aspect_5 tc_ok5_has tc_w333 ⟨Nat.le_of_ble_eq_true rfl, Nat.le_of_ble_eq_true rfl⟩ tc_s5_1 rfl c1 rfl rfl (Nat.le_of_ble_eq_true rfl) ?_
  refine tc_if_ne (tgt := 14) tc_d6_aspect_8 (by decide) h (fun h => ?_) (fun h => ?_)
  · refine tc_aload_n tc_d6_aspect_14 0 rfl ?_
    refine tc_g6_0 tc_d6_aspect_15 tc_w268 ?_
    refine tc_iload_n tc_d6_aspect_18 1 rfl ?_
    obtain ⟨r3, μ4, e3, h⟩ := tc_bdS h
    have c3 := tc_c5_relay (l := l) (G := G) N tc_Y1 e3
    refine tc_callVi (As := [.int x1]) (rest := []) (r1 := r3) (μ1 := μ4) tc_d6_aspect_19 tc_ok5_relay tc_w519 ⟨Nat.le_of_ble_eq_true rfl, Nat.le_of_ble_eq_true rfl⟩ tc_s5_1 rfl c3 rfl rfl (Nat.le_of_ble_eq_true rfl) ?_
    refine tc_if_ne (tgt := 27) tc_d6_aspect_22 (by decide) h (fun h => ?_) (fun h => ?_)
    · refine tc_aload_n tc_d6_aspect_27 0 rfl ?_
      refine tc_g6_0 tc_d6_aspect_28 tc_w268 ?_
      refine tc_iload_n tc_d6_aspect_31 1 rfl ?_
      refine tc_iconst (v := 1) tc_d6_aspect_32 (by decide) ?_
      refine tc_iadd tc_d6_aspect_33 ?_
      obtain ⟨r5, μ6, e5, h⟩ := tc_bdS h
      have c5 := tc_c5_relay (l := l) (G := G) N tc_Y1 e5
      refine tc_callVi (As := [.int (x1 + 1)]) (rest := []) (r1 := r5) (μ1 := μ6) tc_d6_aspect_34 tc_ok5_relay tc_w519 ⟨Nat.le_of_ble_eq_true rfl, Nat.le_of_ble_eq_true rfl⟩ tc_s5_1 rfl c5 rfl rfl (Nat.le_of_ble_eq_true rfl) ?_
      refine tc_if_ne (tgt := 44) tc_d6_aspect_37 (by decide) h (fun h => ?_) (fun h => ?_)
      · refine tc_iconst (v := 2) tc_d6_aspect_44 (by decide) ?_
        exact tc_iret tc_d6_aspect_45 rfl (tc_riS h)
      · refine tc_iconst (v := 1) tc_d6_aspect_40 (by decide) ?_
        refine tc_goto (tgt := 45) tc_d6_aspect_41 (by decide) ?_
        exact tc_iret tc_d6_aspect_45 rfl (tc_riS h)
    · refine tc_iconst (v := 0) tc_d6_aspect_25 (by decide) ?_
      exact tc_iret tc_d6_aspect_26 rfl (tc_riS h)
  · refine tc_bipush (v := (-2)) tc_d6_aspect_11 (by decide) ?_
    exact tc_iret tc_d6_aspect_13 rfl (tc_riS h)
theorem tc_c6_aspect (N : Nat) {x1 : Int32} {μ : tc_Mem} {z : Int32 × tc_Mem} (h : tc_f6_aspect N x1 μ = some z) : tc_Con l G tc_i6_aspect [.ref (tc_ad G 0), .int x1] μ (some (.int z.1)) z.2 :=
  tc_Con.of (L := [(0, .ref (tc_ad G 0)), (1, .int x1)]) (by decide) (Nat.le_of_ble_eq_true rfl) rfl (fun X => tc_b6_aspect_0 N  _ _ _ h)
def tc_f6_back (N : Nat) (μ : tc_Mem) : Option (Int32 × tc_Mem) :=
  if (μ 0 2) = 0 then
    some ((-3), μ)
  else
    tc_bd (tc_f5_become N 1 12 μ) fun _ μ2 =>
    some ((μ2 1 0), μ2)
theorem tc_b6_back_0 (N : Nat) (μ : tc_Mem) (z : Int32 × tc_Mem) (h : tc_f6_back N μ = some z) : tc_At l G tc_i6_back (some (.int z.1)) z.2 X 0 [(0, .ref (tc_ad G 0))] [] μ := by
  unfold tc_f6_back at h
  refine tc_aload_n tc_d6_back_0 0 rfl ?_
  refine tc_g6_2 tc_d6_back_1 tc_w270 ?_
  refine tc_if_ne (tgt := 10) tc_d6_back_4 (by decide) h (fun h => ?_) (fun h => ?_)
  · refine tc_aload_n tc_d6_back_10 0 rfl ?_
    refine tc_g6_0 tc_d6_back_11 tc_w268 ?_
    refine tc_aload_n tc_d6_back_14 0 rfl ?_
    refine tc_g6_1 tc_d6_back_15 tc_w269 ?_
    obtain ⟨r1, μ2, e1, h⟩ := tc_bdS h
    have c1 := tc_c5_become (l := l) (G := G) N tc_Y1 tc_Y12 e1
    refine tc_callVv (As := [.ref (tc_ad G 12)]) (rest := []) (μ1 := μ2) tc_d6_back_18 tc_ok5_become tc_w827 ⟨Nat.le_of_ble_eq_true rfl, Nat.le_of_ble_eq_true rfl⟩ tc_s5_1 rfl c1 rfl rfl (Nat.le_of_ble_eq_true rfl) ?_
    refine tc_aload_n tc_d6_back_21 0 rfl ?_
    refine tc_g6_0 tc_d6_back_22 tc_w268 ?_
    refine tc_g5_0_1 tc_d6_back_25 tc_w114 ?_
    exact tc_iret tc_d6_back_28 rfl (tc_riS h)
  · refine tc_bipush (v := (-3)) tc_d6_back_7 (by decide) ?_
    exact tc_iret tc_d6_back_9 rfl (tc_riS h)
theorem tc_c6_back (N : Nat) {μ : tc_Mem} {z : Int32 × tc_Mem} (h : tc_f6_back N μ = some z) : tc_Con l G tc_i6_back [.ref (tc_ad G 0)] μ (some (.int z.1)) z.2 :=
  tc_Con.of (L := [(0, .ref (tc_ad G 0))]) (by decide) (Nat.le_of_ble_eq_true rfl) rfl (fun X => tc_b6_back_0 N  _ _ h)
def tc_f6_bound (N : Nat) (x1 : Int32) (μ : tc_Mem) : Option (Int32 × tc_Mem) :=
  tc_bd (tc_f6_isWithin N x1 0 1 μ) fun r1 μ2 =>
  if r1 = 0 then
    some ((-2), μ2)
  else
    if x1 = 0 then
      tc_bd (tc_f2_greatestFairWeather N μ2) fun r5 μ6 =>
      some (r5, μ6)
    else
      tc_bd (tc_f2_leastBlindWeather N μ2) fun r3 μ4 =>
      some (r3, μ4)
theorem tc_b6_bound_0 (N : Nat) (x1 : Int32) (μ : tc_Mem) (z : Int32 × tc_Mem) (h : tc_f6_bound N x1 μ = some z) : tc_At l G tc_i6_bound (some (.int z.1)) z.2 X 0 [(0, .ref (tc_ad G 0)), (1, .int x1)] [] μ := by
  unfold tc_f6_bound at h
  refine tc_iload_n tc_d6_bound_0 1 rfl ?_
  refine tc_iconst (v := 0) tc_d6_bound_1 (by decide) ?_
  refine tc_iconst (v := 1) tc_d6_bound_2 (by decide) ?_
  obtain ⟨r1, μ2, e1, h⟩ := tc_bdS h
  have c1 := tc_c6_isWithin (l := l) (G := G) N e1
  refine tc_callSi (As := [.int x1, .int 0, .int 1]) (rest := []) (r1 := r1) (μ1 := μ2) tc_d6_bound_3 tc_ok6_isWithin tc_w303 ⟨Nat.le_of_ble_eq_true rfl, Nat.le_of_ble_eq_true rfl⟩ c1 rfl rfl (Nat.le_of_ble_eq_true rfl) ?_
  refine tc_if_ne (tgt := 12) tc_d6_bound_6 (by decide) h (fun h => ?_) (fun h => ?_)
  · refine tc_iload_n tc_d6_bound_12 1 rfl ?_
    refine tc_if_ne (tgt := 26) tc_d6_bound_13 (by decide) h (fun h => ?_) (fun h => ?_)
    · refine tc_aload_n tc_d6_bound_26 0 rfl ?_
      refine tc_g6_6 tc_d6_bound_27 tc_w274 ?_
      obtain ⟨r3, μ4, e3, h⟩ := tc_bdS h
      have c3 := tc_c2_leastBlindWeather (l := l) (G := G) N e3
      refine tc_callVi (As := []) (rest := []) (r1 := r3) (μ1 := μ4) tc_d6_bound_30 tc_ok2_leastBlindWeather tc_w590 ⟨Nat.le_of_ble_eq_true rfl, Nat.le_of_ble_eq_true rfl⟩ tc_s2 rfl c3 rfl rfl (Nat.le_of_ble_eq_true rfl) ?_
      exact tc_iret tc_d6_bound_33 rfl (tc_riS h)
    · refine tc_aload_n tc_d6_bound_16 0 rfl ?_
      refine tc_g6_6 tc_d6_bound_17 tc_w274 ?_
      obtain ⟨r5, μ6, e5, h⟩ := tc_bdS h
      have c5 := tc_c2_greatestFairWeather (l := l) (G := G) N e5
      refine tc_callVi (As := []) (rest := []) (r1 := r5) (μ1 := μ6) tc_d6_bound_20 tc_ok2_greatestFairWeather tc_w581 ⟨Nat.le_of_ble_eq_true rfl, Nat.le_of_ble_eq_true rfl⟩ tc_s2 rfl c5 rfl rfl (Nat.le_of_ble_eq_true rfl) ?_
      refine tc_goto (tgt := 33) tc_d6_bound_23 (by decide) ?_
      exact tc_iret tc_d6_bound_33 rfl (tc_riS h)
  · refine tc_bipush (v := (-2)) tc_d6_bound_9 (by decide) ?_
    exact tc_iret tc_d6_bound_11 rfl (tc_riS h)
theorem tc_c6_bound (N : Nat) {x1 : Int32} {μ : tc_Mem} {z : Int32 × tc_Mem} (h : tc_f6_bound N x1 μ = some z) : tc_Con l G tc_i6_bound [.ref (tc_ad G 0), .int x1] μ (some (.int z.1)) z.2 :=
  tc_Con.of (L := [(0, .ref (tc_ad G 0)), (1, .int x1)]) (by decide) (Nat.le_of_ble_eq_true rfl) rfl (fun X => tc_b6_bound_0 N  _ _ _ h)
def tc_f6_chance_94 (N : Nat) (x7 : Int32) (s0 : Int32) (μ : tc_Mem) : Option (Int32 × tc_Mem) :=
  tc_nz x7 (
  some ((s0 / x7), μ))
theorem tc_b6_chance_94 (N : Nat) (x7 : Int32) (s0 : Int32) (μ : tc_Mem) (z : Int32 × tc_Mem) (h : tc_f6_chance_94 N x7 s0 μ = some z) : tc_At l G tc_i6_chance (some (.int z.1)) z.2 X 94 [(7, .int x7)] [.int s0] μ := by
  unfold tc_f6_chance_94 at h
  refine tc_iload tc_d6_chance_94 0 rfl ?_
  obtain ⟨hn1, h⟩ := tc_nzS h
  refine tc_idiv tc_d6_chance_96 hn1 ?_
  exact tc_iret tc_d6_chance_97 rfl (tc_riS h)
def tc_f6_chance (N : Nat) (x1 : Int32) (x2 : Int32) (x3 : Int32) (x4 : Int32) (x5 : Int32) (μ : tc_Mem) : Option (Int32 × tc_Mem) :=
  tc_bd (tc_f6_isWithin N x2 1 20 μ) fun r1 μ2 =>
  if r1 = 0 then
    some ((-2), μ2)
  else
    tc_bd (tc_f6_isWithin N x3 0 9 μ2) fun r3 μ4 =>
    if r3 = 0 then
      some ((-2), μ4)
    else
      tc_bd (tc_f6_isWithin N x4 0 8 μ4) fun r5 μ6 =>
      if r5 = 0 then
        some ((-2), μ6)
      else
        tc_bd (tc_f6_isWithin N x5 0 1 μ6) fun r7 μ8 =>
        if r7 = 0 then
          some ((-2), μ8)
        else
          if (μ8 1 0) = 0 then
            some ((-2), μ8)
          else
            tc_bd (tc_f2_lotsWith N x1 x2 x3 x4 μ8) fun r9 μ10 =>
            tc_bd (tc_f6_greatestDivisor N x2 r9 μ10) fun r11 μ12 =>
            tc_lt (if (1 : Int32) < r11 then r11 else 1) fun v13 =>
            if x5 = 0 then
              tc_f6_chance_94 N v13 r9 μ12
            else
              tc_f6_chance_94 N v13 x2 μ12
theorem tc_b6_chance_0 (N : Nat) (x1 : Int32) (x2 : Int32) (x3 : Int32) (x4 : Int32) (x5 : Int32) (μ : tc_Mem) (z : Int32 × tc_Mem) (h : tc_f6_chance N x1 x2 x3 x4 x5 μ = some z) : tc_At l G tc_i6_chance (some (.int z.1)) z.2 X 0 [(0, .ref (tc_ad G 0)), (1, .int x1), (2, .int x2), (3, .int x3), (4, .int x4), (5, .int x5)] [] μ := by
  unfold tc_f6_chance at h
  refine tc_iload_n tc_d6_chance_0 2 rfl ?_
  refine tc_iconst (v := 1) tc_d6_chance_1 (by decide) ?_
  refine tc_bipush (v := 20) tc_d6_chance_2 (by decide) ?_
  obtain ⟨r1, μ2, e1, h⟩ := tc_bdS h
  have c1 := tc_c6_isWithin (l := l) (G := G) N e1
  refine tc_callSi (As := [.int x2, .int 1, .int 20]) (rest := []) (r1 := r1) (μ1 := μ2) tc_d6_chance_4 tc_ok6_isWithin tc_w303 ⟨Nat.le_of_ble_eq_true rfl, Nat.le_of_ble_eq_true rfl⟩ c1 rfl rfl (Nat.le_of_ble_eq_true rfl) ?_
  refine tc_if_eq (tgt := 31) tc_d6_chance_7 (by decide) h (fun h => ?_) (fun h => ?_)
  · refine tc_bipush (v := (-2)) tc_d6_chance_31 (by decide) ?_
    exact tc_iret tc_d6_chance_33 rfl (tc_riS h)
  · refine tc_iload_n tc_d6_chance_10 3 rfl ?_
    refine tc_iconst (v := 0) tc_d6_chance_11 (by decide) ?_
    refine tc_bipush (v := 9) tc_d6_chance_12 (by decide) ?_
    obtain ⟨r3, μ4, e3, h⟩ := tc_bdS h
    have c3 := tc_c6_isWithin (l := l) (G := G) N e3
    refine tc_callSi (As := [.int x3, .int 0, .int 9]) (rest := []) (r1 := r3) (μ1 := μ4) tc_d6_chance_14 tc_ok6_isWithin tc_w303 ⟨Nat.le_of_ble_eq_true rfl, Nat.le_of_ble_eq_true rfl⟩ c3 rfl rfl (Nat.le_of_ble_eq_true rfl) ?_
    refine tc_if_eq (tgt := 31) tc_d6_chance_17 (by decide) h (fun h => ?_) (fun h => ?_)
    · refine tc_bipush (v := (-2)) tc_d6_chance_31 (by decide) ?_
      exact tc_iret tc_d6_chance_33 rfl (tc_riS h)
    · refine tc_iload tc_d6_chance_20 4 rfl ?_
      refine tc_iconst (v := 0) tc_d6_chance_22 (by decide) ?_
      refine tc_bipush (v := 8) tc_d6_chance_23 (by decide) ?_
      obtain ⟨r5, μ6, e5, h⟩ := tc_bdS h
      have c5 := tc_c6_isWithin (l := l) (G := G) N e5
      refine tc_callSi (As := [.int x4, .int 0, .int 8]) (rest := []) (r1 := r5) (μ1 := μ6) tc_d6_chance_25 tc_ok6_isWithin tc_w303 ⟨Nat.le_of_ble_eq_true rfl, Nat.le_of_ble_eq_true rfl⟩ c5 rfl rfl (Nat.le_of_ble_eq_true rfl) ?_
      refine tc_if_ne (tgt := 34) tc_d6_chance_28 (by decide) h (fun h => ?_) (fun h => ?_)
      · refine tc_iload tc_d6_chance_34 5 rfl ?_
        refine tc_iconst (v := 0) tc_d6_chance_36 (by decide) ?_
        refine tc_iconst (v := 1) tc_d6_chance_37 (by decide) ?_
        obtain ⟨r7, μ8, e7, h⟩ := tc_bdS h
        have c7 := tc_c6_isWithin (l := l) (G := G) N e7
        refine tc_callSi (As := [.int x5, .int 0, .int 1]) (rest := []) (r1 := r7) (μ1 := μ8) tc_d6_chance_38 tc_ok6_isWithin tc_w303 ⟨Nat.le_of_ble_eq_true rfl, Nat.le_of_ble_eq_true rfl⟩ c7 rfl rfl (Nat.le_of_ble_eq_true rfl) ?_
        refine tc_if_eq (tgt := 54) tc_d6_chance_41 (by decide) h (fun h => ?_) (fun h => ?_)
        · refine tc_bipush (v := (-2)) tc_d6_chance_54 (by decide) ?_
          exact tc_iret tc_d6_chance_56 rfl (tc_riS h)
        · refine tc_aload_n tc_d6_chance_44 0 rfl ?_
          refine tc_g6_0 tc_d6_chance_45 tc_w268 ?_
          refine tc_g5_0_1 tc_d6_chance_48 tc_w114 ?_
          refine tc_if_ne (tgt := 57) tc_d6_chance_51 (by decide) h (fun h => ?_) (fun h => ?_)
          · refine tc_aload_n tc_d6_chance_57 0 rfl ?_
            refine tc_g6_6 tc_d6_chance_58 tc_w274 ?_
            refine tc_iload_n tc_d6_chance_61 1 rfl ?_
            refine tc_iload_n tc_d6_chance_62 2 rfl ?_
            refine tc_iload_n tc_d6_chance_63 3 rfl ?_
            refine tc_iload tc_d6_chance_64 4 rfl ?_
            obtain ⟨r9, μ10, e9, h⟩ := tc_bdS h
            have c9 := tc_c2_lotsWith (l := l) (G := G) N e9
            refine tc_callVi (As := [.int x1, .int x2, .int x3, .int x4]) (rest := []) (r1 := r9) (μ1 := μ10) tc_d6_chance_66 tc_ok2_lotsWith tc_w657 ⟨Nat.le_of_ble_eq_true rfl, Nat.le_of_ble_eq_true rfl⟩ tc_s2 rfl c9 rfl rfl (Nat.le_of_ble_eq_true rfl) ?_
            refine tc_istore (L' := [(6, .int r9), (0, .ref (tc_ad G 0)), (1, .int x1), (2, .int x2), (3, .int x3), (4, .int x4), (5, .int x5)]) tc_d6_chance_69 (by decide) rfl ?_
            refine tc_iconst (v := 1) tc_d6_chance_71 (by decide) ?_
            refine tc_iload_n tc_d6_chance_72 3 rfl ?_
            refine tc_iload tc_d6_chance_73 0 rfl ?_
            obtain ⟨r11, μ12, e11, h⟩ := tc_bdS h
            have c11 := tc_c6_greatestDivisor (l := l) (G := G) N e11
            refine tc_callSi (As := [.int x2, .int r9]) (rest := [.int 1]) (r1 := r11) (μ1 := μ12) tc_d6_chance_75 tc_ok6_greatestDivisor tc_w662 ⟨Nat.le_of_ble_eq_true rfl, Nat.le_of_ble_eq_true rfl⟩ c11 rfl rfl (Nat.le_of_ble_eq_true rfl) ?_
            refine tc_mmax tc_d6_chance_78 tc_w665 tc_okmmax ⟨Nat.le_of_ble_eq_true rfl, Nat.le_of_ble_eq_true rfl⟩ ?_
            refine tc_ltI h (fun v13 h => ?_)
            refine tc_istore (L' := [(7, .int v13), (6, .int r9), (0, .ref (tc_ad G 0)), (1, .int x1), (2, .int x2), (3, .int x3), (4, .int x4), (5, .int x5)]) tc_d6_chance_81 (by decide) rfl ?_
            refine tc_iload tc_d6_chance_83 7 rfl ?_
            refine tc_if_ne (tgt := 93) tc_d6_chance_85 (by decide) h (fun h => ?_) (fun h => ?_)
            · refine tc_iload_n tc_d6_chance_93 4 rfl ?_
              refine tc_sub [0] rfl ?_
              exact (tc_b6_chance_94 N _ _ _ _) h
            · refine tc_iload tc_d6_chance_88 1 rfl ?_
              refine tc_goto (tgt := 94) tc_d6_chance_90 (by decide) ?_
              refine tc_sub [0] rfl ?_
              exact (tc_b6_chance_94 N _ _ _ _) h
          · refine tc_bipush (v := (-2)) tc_d6_chance_54 (by decide) ?_
            exact tc_iret tc_d6_chance_56 rfl (tc_riS h)
      · refine tc_bipush (v := (-2)) tc_d6_chance_31 (by decide) ?_
        exact tc_iret tc_d6_chance_33 rfl (tc_riS h)
theorem tc_c6_chance (N : Nat) {x1 : Int32} {x2 : Int32} {x3 : Int32} {x4 : Int32} {x5 : Int32} {μ : tc_Mem} {z : Int32 × tc_Mem} (h : tc_f6_chance N x1 x2 x3 x4 x5 μ = some z) : tc_Con l G tc_i6_chance [.ref (tc_ad G 0), .int x1, .int x2, .int x3, .int x4, .int x5] μ (some (.int z.1)) z.2 :=
  tc_Con.of (L := [(0, .ref (tc_ad G 0)), (1, .int x1), (2, .int x2), (3, .int x3), (4, .int x4), (5, .int x5)]) (by decide) (Nat.le_of_ble_eq_true rfl) rfl (fun X => tc_b6_chance_0 N  _ _ _ _ _ _ _ h)
def tc_f6_clears (N : Nat) (x1 : Int32) (μ : tc_Mem) : Option (Int32 × tc_Mem) :=
  tc_bd (tc_f5_has N 1 x1 μ) fun r1 μ2 =>
  if r1 = 0 then
    some ((-2), μ2)
  else
    tc_bd (tc_f2_clearing N x1 μ2) fun r3 μ4 =>
    some (r3, μ4)
theorem tc_b6_clears_0 (N : Nat) (x1 : Int32) (μ : tc_Mem) (z : Int32 × tc_Mem) (h : tc_f6_clears N x1 μ = some z) : tc_At l G tc_i6_clears (some (.int z.1)) z.2 X 0 [(0, .ref (tc_ad G 0)), (1, .int x1)] [] μ := by
  unfold tc_f6_clears at h
  refine tc_aload_n tc_d6_clears_0 0 rfl ?_
  refine tc_g6_0 tc_d6_clears_1 tc_w268 ?_
  refine tc_iload_n tc_d6_clears_4 1 rfl ?_
  obtain ⟨r1, μ2, e1, h⟩ := tc_bdS h
  have c1 := tc_c5_has (l := l) (G := G) N tc_Y1 e1
  refine tc_callVi (As := [.int x1]) (rest := []) (r1 := r1) (μ1 := μ2) tc_d6_clears_5 tc_ok5_has tc_w333 ⟨Nat.le_of_ble_eq_true rfl, Nat.le_of_ble_eq_true rfl⟩ tc_s5_1 rfl c1 rfl rfl (Nat.le_of_ble_eq_true rfl) ?_
  refine tc_if_eq (tgt := 22) tc_d6_clears_8 (by decide) h (fun h => ?_) (fun h => ?_)
  · refine tc_bipush (v := (-2)) tc_d6_clears_22 (by decide) ?_
    exact tc_iret tc_d6_clears_24 rfl (tc_riS h)
  · refine tc_aload_n tc_d6_clears_11 0 rfl ?_
    refine tc_g6_6 tc_d6_clears_12 tc_w274 ?_
    refine tc_iload_n tc_d6_clears_15 1 rfl ?_
    obtain ⟨r3, μ4, e3, h⟩ := tc_bdS h
    have c3 := tc_c2_clearing (l := l) (G := G) N e3
    refine tc_callVi (As := [.int x1]) (rest := []) (r1 := r3) (μ1 := μ4) tc_d6_clears_16 tc_ok2_clearing tc_w550 ⟨Nat.le_of_ble_eq_true rfl, Nat.le_of_ble_eq_true rfl⟩ tc_s2 rfl c3 rfl rfl (Nat.le_of_ble_eq_true rfl) ?_
    refine tc_goto (tgt := 24) tc_d6_clears_19 (by decide) ?_
    exact tc_iret tc_d6_clears_24 rfl (tc_riS h)
theorem tc_c6_clears (N : Nat) {x1 : Int32} {μ : tc_Mem} {z : Int32 × tc_Mem} (h : tc_f6_clears N x1 μ = some z) : tc_Con l G tc_i6_clears [.ref (tc_ad G 0), .int x1] μ (some (.int z.1)) z.2 :=
  tc_Con.of (L := [(0, .ref (tc_ad G 0)), (1, .int x1)]) (by decide) (Nat.le_of_ble_eq_true rfl) rfl (fun X => tc_b6_clears_0 N  _ _ _ h)
def tc_f6_copy (N : Nat) (x1 : Int32) (x2 : Int32) (x3 : Int32) (x4 : Int32) (x5 : Int32) (μ : tc_Mem) : Option (Int32 × tc_Mem) :=
  tc_bd (tc_f3_has N x1 μ) fun r1 μ2 =>
  if r1 = 0 then
    some ((-2), μ2)
  else
    tc_bd (tc_f3_has N x3 μ2) fun r3 μ4 =>
    if r3 = 0 then
      some ((-2), μ4)
    else
      tc_bd (tc_f3_isMissing N x1 μ4) fun r5 μ6 =>
      if r5 = 0 then
        tc_bd (tc_f3_isMissing N x3 μ6) fun r7 μ8 =>
        if r7 = 0 then
          tc_ck x1 4 (
          tc_ck x3 4 (
          if (μ8 47 x1.toNatClampNeg) = (μ8 47 x3.toNatClampNeg) then
            tc_bd (tc_f3_holds N x1 x2.toInt64 x5.toInt64 μ8) fun r11 μ12 =>
            if r11 = 0 then
              some ((-12), μ12)
            else
              tc_bd (tc_f3_holds N x3 x4.toInt64 x5.toInt64 μ12) fun r13 μ14 =>
              if r13 = 0 then
                some ((-12), μ14)
              else
                tc_bd (tc_f3_bring N x1 x2 x3 x4 x5 μ14) fun _ μ16 =>
                some (x5, μ16)
          else
            some ((-13), μ8)))
        else
          some ((-11), μ8)
      else
        some ((-11), μ6)
theorem tc_b6_copy_0 (N : Nat) (x1 : Int32) (x2 : Int32) (x3 : Int32) (x4 : Int32) (x5 : Int32) (μ : tc_Mem) (z : Int32 × tc_Mem) (h : tc_f6_copy N x1 x2 x3 x4 x5 μ = some z) : tc_At l G tc_i6_copy (some (.int z.1)) z.2 X 0 [(0, .ref (tc_ad G 0)), (1, .int x1), (2, .int x2), (3, .int x3), (4, .int x4), (5, .int x5)] [] μ := by
  unfold tc_f6_copy at h
  refine tc_aload_n tc_d6_copy_0 0 rfl ?_
  refine tc_g6_8 tc_d6_copy_1 tc_w276 ?_
  refine tc_iload_n tc_d6_copy_4 1 rfl ?_
  obtain ⟨r1, μ2, e1, h⟩ := tc_bdS h
  have c1 := tc_c3_has (l := l) (G := G) N e1
  refine tc_callVi (As := [.int x1]) (rest := []) (r1 := r1) (μ1 := μ2) tc_d6_copy_5 tc_ok3_has tc_w670 ⟨Nat.le_of_ble_eq_true rfl, Nat.le_of_ble_eq_true rfl⟩ tc_s3 rfl c1 rfl rfl (Nat.le_of_ble_eq_true rfl) ?_
  refine tc_if_eq (tgt := 22) tc_d6_copy_8 (by decide) h (fun h => ?_) (fun h => ?_)
  · refine tc_bipush (v := (-2)) tc_d6_copy_22 (by decide) ?_
    exact tc_iret tc_d6_copy_24 rfl (tc_riS h)
  · refine tc_aload_n tc_d6_copy_11 0 rfl ?_
    refine tc_g6_8 tc_d6_copy_12 tc_w276 ?_
    refine tc_iload_n tc_d6_copy_15 3 rfl ?_
    obtain ⟨r3, μ4, e3, h⟩ := tc_bdS h
    have c3 := tc_c3_has (l := l) (G := G) N e3
    refine tc_callVi (As := [.int x3]) (rest := []) (r1 := r3) (μ1 := μ4) tc_d6_copy_16 tc_ok3_has tc_w670 ⟨Nat.le_of_ble_eq_true rfl, Nat.le_of_ble_eq_true rfl⟩ tc_s3 rfl c3 rfl rfl (Nat.le_of_ble_eq_true rfl) ?_
    refine tc_if_ne (tgt := 25) tc_d6_copy_19 (by decide) h (fun h => ?_) (fun h => ?_)
    · refine tc_aload_n tc_d6_copy_25 0 rfl ?_
      refine tc_g6_8 tc_d6_copy_26 tc_w276 ?_
      refine tc_iload_n tc_d6_copy_29 1 rfl ?_
      obtain ⟨r5, μ6, e5, h⟩ := tc_bdS h
      have c5 := tc_c3_isMissing (l := l) (G := G) N e5
      refine tc_callVi (As := [.int x1]) (rest := []) (r1 := r5) (μ1 := μ6) tc_d6_copy_30 tc_ok3_isMissing tc_w675 ⟨Nat.le_of_ble_eq_true rfl, Nat.le_of_ble_eq_true rfl⟩ tc_s3 rfl c5 rfl rfl (Nat.le_of_ble_eq_true rfl) ?_
      refine tc_if_ne (tgt := 47) tc_d6_copy_33 (by decide) h (fun h => ?_) (fun h => ?_)
      · refine tc_bipush (v := (-11)) tc_d6_copy_47 (by decide) ?_
        exact tc_iret tc_d6_copy_49 rfl (tc_riS h)
      · refine tc_aload_n tc_d6_copy_36 0 rfl ?_
        refine tc_g6_8 tc_d6_copy_37 tc_w276 ?_
        refine tc_iload_n tc_d6_copy_40 3 rfl ?_
        obtain ⟨r7, μ8, e7, h⟩ := tc_bdS h
        have c7 := tc_c3_isMissing (l := l) (G := G) N e7
        refine tc_callVi (As := [.int x3]) (rest := []) (r1 := r7) (μ1 := μ8) tc_d6_copy_41 tc_ok3_isMissing tc_w675 ⟨Nat.le_of_ble_eq_true rfl, Nat.le_of_ble_eq_true rfl⟩ tc_s3 rfl c7 rfl rfl (Nat.le_of_ble_eq_true rfl) ?_
        refine tc_if_eq (tgt := 50) tc_d6_copy_44 (by decide) h (fun h => ?_) (fun h => ?_)
        · refine tc_aload_n tc_d6_copy_50 0 rfl ?_
          refine tc_g6_8 tc_d6_copy_51 tc_w276 ?_
          refine tc_g3_0 tc_d6_copy_54 tc_w256 ?_
          refine tc_iload_n tc_d6_copy_57 1 rfl ?_
          obtain ⟨hi9, h⟩ := tc_ckS h
          refine tc_iald tc_d6_copy_58 tc_aL47 hi9 ?_
          refine tc_aload_n tc_d6_copy_59 0 rfl ?_
          refine tc_g6_8 tc_d6_copy_60 tc_w276 ?_
          refine tc_g3_0 tc_d6_copy_63 tc_w256 ?_
          refine tc_iload_n tc_d6_copy_66 3 rfl ?_
          obtain ⟨hi10, h⟩ := tc_ckS h
          refine tc_iald tc_d6_copy_67 tc_aL47 hi10 ?_
          refine tc_icmp_eq (tgt := 74) tc_d6_copy_68 (by decide) h (fun h => ?_) (fun h => ?_)
          · refine tc_aload_n tc_d6_copy_74 0 rfl ?_
            refine tc_g6_8 tc_d6_copy_75 tc_w276 ?_
            refine tc_iload_n tc_d6_copy_78 1 rfl ?_
            refine tc_iload_n tc_d6_copy_79 2 rfl ?_
            refine tc_i2l tc_d6_copy_80 ?_
            refine tc_iload tc_d6_copy_81 5 rfl ?_
            refine tc_i2l tc_d6_copy_83 ?_
            obtain ⟨r11, μ12, e11, h⟩ := tc_bdS h
            have c11 := tc_c3_holds (l := l) (G := G) N e11
            refine tc_callVi (As := [.int x1, .long x2.toInt64, .long x5.toInt64]) (rest := []) (r1 := r11) (μ1 := μ12) tc_d6_copy_84 tc_ok3_holds tc_w840 ⟨Nat.le_of_ble_eq_true rfl, Nat.le_of_ble_eq_true rfl⟩ tc_s3 rfl c11 rfl rfl (Nat.le_of_ble_eq_true rfl) ?_
            refine tc_if_eq (tgt := 107) tc_d6_copy_87 (by decide) h (fun h => ?_) (fun h => ?_)
            · refine tc_bipush (v := (-12)) tc_d6_copy_107 (by decide) ?_
              exact tc_iret tc_d6_copy_109 rfl (tc_riS h)
            · refine tc_aload_n tc_d6_copy_90 0 rfl ?_
              refine tc_g6_8 tc_d6_copy_91 tc_w276 ?_
              refine tc_iload_n tc_d6_copy_94 3 rfl ?_
              refine tc_iload tc_d6_copy_95 4 rfl ?_
              refine tc_i2l tc_d6_copy_97 ?_
              refine tc_iload tc_d6_copy_98 5 rfl ?_
              refine tc_i2l tc_d6_copy_100 ?_
              obtain ⟨r13, μ14, e13, h⟩ := tc_bdS h
              have c13 := tc_c3_holds (l := l) (G := G) N e13
              refine tc_callVi (As := [.int x3, .long x4.toInt64, .long x5.toInt64]) (rest := []) (r1 := r13) (μ1 := μ14) tc_d6_copy_101 tc_ok3_holds tc_w840 ⟨Nat.le_of_ble_eq_true rfl, Nat.le_of_ble_eq_true rfl⟩ tc_s3 rfl c13 rfl rfl (Nat.le_of_ble_eq_true rfl) ?_
              refine tc_if_ne (tgt := 110) tc_d6_copy_104 (by decide) h (fun h => ?_) (fun h => ?_)
              · refine tc_aload_n tc_d6_copy_110 0 rfl ?_
                refine tc_g6_8 tc_d6_copy_111 tc_w276 ?_
                refine tc_iload_n tc_d6_copy_114 1 rfl ?_
                refine tc_iload_n tc_d6_copy_115 2 rfl ?_
                refine tc_iload_n tc_d6_copy_116 3 rfl ?_
                refine tc_iload tc_d6_copy_117 4 rfl ?_
                refine tc_iload tc_d6_copy_119 5 rfl ?_
                obtain ⟨r15, μ16, e15, h⟩ := tc_bdS h
                have c15 := tc_c3_bring (l := l) (G := G) N e15
                refine tc_callVv (As := [.int x1, .int x2, .int x3, .int x4, .int x5]) (rest := []) (μ1 := μ16) tc_d6_copy_121 tc_ok3_bring tc_w867 ⟨Nat.le_of_ble_eq_true rfl, Nat.le_of_ble_eq_true rfl⟩ tc_s3 rfl c15 rfl rfl (Nat.le_of_ble_eq_true rfl) ?_
                refine tc_iload tc_d6_copy_124 5 rfl ?_
                exact tc_iret tc_d6_copy_126 rfl (tc_riS h)
              · refine tc_bipush (v := (-12)) tc_d6_copy_107 (by decide) ?_
                exact tc_iret tc_d6_copy_109 rfl (tc_riS h)
          · refine tc_bipush (v := (-13)) tc_d6_copy_71 (by decide) ?_
            exact tc_iret tc_d6_copy_73 rfl (tc_riS h)
        · refine tc_bipush (v := (-11)) tc_d6_copy_47 (by decide) ?_
          exact tc_iret tc_d6_copy_49 rfl (tc_riS h)
    · refine tc_bipush (v := (-2)) tc_d6_copy_22 (by decide) ?_
      exact tc_iret tc_d6_copy_24 rfl (tc_riS h)
theorem tc_c6_copy (N : Nat) {x1 : Int32} {x2 : Int32} {x3 : Int32} {x4 : Int32} {x5 : Int32} {μ : tc_Mem} {z : Int32 × tc_Mem} (h : tc_f6_copy N x1 x2 x3 x4 x5 μ = some z) : tc_Con l G tc_i6_copy [.ref (tc_ad G 0), .int x1, .int x2, .int x3, .int x4, .int x5] μ (some (.int z.1)) z.2 :=
  tc_Con.of (L := [(0, .ref (tc_ad G 0)), (1, .int x1), (2, .int x2), (3, .int x3), (4, .int x4), (5, .int x5)]) (by decide) (Nat.le_of_ble_eq_true rfl) rfl (fun X => tc_b6_copy_0 N  _ _ _ _ _ _ _ h)
def tc_f6_count (N : Nat) (x1 : Int32) (μ : tc_Mem) : Option (Int32 × tc_Mem) :=
  if x1 < 0 ∨ 4 < x1 then
    some ((-2), μ)
  else if x1 = 0 then
    some ((μ 1 0), μ)
  else if x1 = 1 then
    some ((μ 8 0), μ)
  else if x1 = 2 then
    some ((μ 42 1), μ)
  else if x1 = 3 then
    tc_bd (tc_f8_bitCount N (μ 1 9) μ) fun r1 μ2 =>
    some (r1, μ2)
  else if x1 = 4 then
    tc_bd (tc_f5_allCurrents N 1 μ) fun r3 μ4 =>
    some (r3, μ4)
  else none
theorem tc_b6_count_0 (N : Nat) (x1 : Int32) (μ : tc_Mem) (z : Int32 × tc_Mem) (h : tc_f6_count N x1 μ = some z) : tc_At l G tc_i6_count (some (.int z.1)) z.2 X 0 [(0, .ref (tc_ad G 0)), (1, .int x1)] [] μ := by
  unfold tc_f6_count at h
  refine tc_iload_n tc_d6_count_0 1 rfl ?_
  by_cases hq : x1 < 0 ∨ 4 < x1
  · rw [if_pos hq] at h
    refine tc_tswD (a := 0) (b := 4) (tgt := 82) tc_d6_count_1 ⟨by decide, by decide⟩ hq (by decide) ?_
    refine tc_bipush (v := (-2)) tc_d6_count_82 (by decide) ?_
    exact tc_iret tc_d6_count_84 rfl (tc_riS h)
  · rw [if_neg hq] at h
    by_cases hq : x1 = 0
    · rw [if_pos hq] at h
      refine tc_tswK (k := 0) (off := 35) (tgt := 36) tc_d6_count_1 hq (by decide) (by decide) rfl (by decide) ?_
      refine tc_aload_n tc_d6_count_36 0 rfl ?_
      refine tc_g6_0 tc_d6_count_37 tc_w268 ?_
      refine tc_g5_0_1 tc_d6_count_40 tc_w114 ?_
      exact tc_iret tc_d6_count_43 rfl (tc_riS h)
    · rw [if_neg hq] at h
      by_cases hq : x1 = 1
      · rw [if_pos hq] at h
        refine tc_tswK (k := 1) (off := 43) (tgt := 44) tc_d6_count_1 hq (by decide) (by decide) rfl (by decide) ?_
        refine tc_aload_n tc_d6_count_44 0 rfl ?_
        refine tc_g6_0 tc_d6_count_45 tc_w268 ?_
        refine tc_g5_7_1 tc_d6_count_48 tc_w131 ?_
        refine tc_g1_0_1 tc_d6_count_51 tc_w93 ?_
        exact tc_iret tc_d6_count_54 rfl (tc_riS h)
      · rw [if_neg hq] at h
        by_cases hq : x1 = 2
        · rw [if_pos hq] at h
          refine tc_tswK (k := 2) (off := 54) (tgt := 55) tc_d6_count_1 hq (by decide) (by decide) rfl (by decide) ?_
          refine tc_aload_n tc_d6_count_55 0 rfl ?_
          refine tc_g6_7 tc_d6_count_56 tc_w275 ?_
          refine tc_g4_1 tc_d6_count_59 tc_w229 ?_
          exact tc_iret tc_d6_count_62 rfl (tc_riS h)
        · rw [if_neg hq] at h
          by_cases hq : x1 = 3
          · rw [if_pos hq] at h
            refine tc_tswK (k := 3) (off := 62) (tgt := 63) tc_d6_count_1 hq (by decide) (by decide) rfl (by decide) ?_
            refine tc_aload_n tc_d6_count_63 0 rfl ?_
            refine tc_g6_0 tc_d6_count_64 tc_w268 ?_
            refine tc_g5_9_1 tc_d6_count_67 tc_w139 ?_
            obtain ⟨r1, μ2, e1, h⟩ := tc_bdS h
            have c1 := tc_c8_bitCount (l := l) (G := G) N e1
            refine tc_callSi (As := [.int (μ 1 9)]) (rest := []) (r1 := r1) (μ1 := μ2) tc_d6_count_70 tc_ok8_bitCount tc_w849 ⟨Nat.le_of_ble_eq_true rfl, Nat.le_of_ble_eq_true rfl⟩ c1 rfl rfl (Nat.le_of_ble_eq_true rfl) ?_
            exact tc_iret tc_d6_count_73 rfl (tc_riS h)
          · rw [if_neg hq] at h
            by_cases hq : x1 = 4
            · rw [if_pos hq] at h
              refine tc_tswK (k := 4) (off := 73) (tgt := 74) tc_d6_count_1 hq (by decide) (by decide) rfl (by decide) ?_
              refine tc_aload_n tc_d6_count_74 0 rfl ?_
              refine tc_g6_0 tc_d6_count_75 tc_w268 ?_
              obtain ⟨r3, μ4, e3, h⟩ := tc_bdS h
              have c3 := tc_c5_allCurrents (l := l) (G := G) N tc_Y1 e3
              refine tc_callVi (As := []) (rest := []) (r1 := r3) (μ1 := μ4) tc_d6_count_78 tc_ok5_allCurrents tc_w850 ⟨Nat.le_of_ble_eq_true rfl, Nat.le_of_ble_eq_true rfl⟩ tc_s5_1 rfl c3 rfl rfl (Nat.le_of_ble_eq_true rfl) ?_
              exact tc_iret tc_d6_count_81 rfl (tc_riS h)
            · rw [if_neg hq] at h
              cases h
theorem tc_c6_count (N : Nat) {x1 : Int32} {μ : tc_Mem} {z : Int32 × tc_Mem} (h : tc_f6_count N x1 μ = some z) : tc_Con l G tc_i6_count [.ref (tc_ad G 0), .int x1] μ (some (.int z.1)) z.2 :=
  tc_Con.of (L := [(0, .ref (tc_ad G 0)), (1, .int x1)]) (by decide) (Nat.le_of_ble_eq_true rfl) rfl (fun X => tc_b6_count_0 N  _ _ _ h)
def tc_f6_drawn (N : Nat) (x1 : Int32) (x2 : Int32) (μ : tc_Mem) : Option (Int32 × tc_Mem) :=
  tc_bd (tc_f6_isWithin N x2 0 9 μ) fun r1 μ2 =>
  if r1 = 0 then
    some ((-2), μ2)
  else
    if (μ2 1 0) = 0 then
      some ((-2), μ2)
    else
      tc_bd (tc_f2_unsafeByLot N x1 x2 μ2) fun r3 μ4 =>
      some (r3, μ4)
theorem tc_b6_drawn_0 (N : Nat) (x1 : Int32) (x2 : Int32) (μ : tc_Mem) (z : Int32 × tc_Mem) (h : tc_f6_drawn N x1 x2 μ = some z) : tc_At l G tc_i6_drawn (some (.int z.1)) z.2 X 0 [(0, .ref (tc_ad G 0)), (1, .int x1), (2, .int x2)] [] μ := by
  unfold tc_f6_drawn at h
  refine tc_iload_n tc_d6_drawn_0 2 rfl ?_
  refine tc_iconst (v := 0) tc_d6_drawn_1 (by decide) ?_
  refine tc_bipush (v := 9) tc_d6_drawn_2 (by decide) ?_
  obtain ⟨r1, μ2, e1, h⟩ := tc_bdS h
  have c1 := tc_c6_isWithin (l := l) (G := G) N e1
  refine tc_callSi (As := [.int x2, .int 0, .int 9]) (rest := []) (r1 := r1) (μ1 := μ2) tc_d6_drawn_4 tc_ok6_isWithin tc_w303 ⟨Nat.le_of_ble_eq_true rfl, Nat.le_of_ble_eq_true rfl⟩ c1 rfl rfl (Nat.le_of_ble_eq_true rfl) ?_
  refine tc_if_eq (tgt := 20) tc_d6_drawn_7 (by decide) h (fun h => ?_) (fun h => ?_)
  · refine tc_bipush (v := (-2)) tc_d6_drawn_20 (by decide) ?_
    exact tc_iret tc_d6_drawn_22 rfl (tc_riS h)
  · refine tc_aload_n tc_d6_drawn_10 0 rfl ?_
    refine tc_g6_0 tc_d6_drawn_11 tc_w268 ?_
    refine tc_g5_0_1 tc_d6_drawn_14 tc_w114 ?_
    refine tc_if_ne (tgt := 23) tc_d6_drawn_17 (by decide) h (fun h => ?_) (fun h => ?_)
    · refine tc_aload_n tc_d6_drawn_23 0 rfl ?_
      refine tc_g6_6 tc_d6_drawn_24 tc_w274 ?_
      refine tc_iload_n tc_d6_drawn_27 1 rfl ?_
      refine tc_iload_n tc_d6_drawn_28 2 rfl ?_
      obtain ⟨r3, μ4, e3, h⟩ := tc_bdS h
      have c3 := tc_c2_unsafeByLot (l := l) (G := G) N e3
      refine tc_callVi (As := [.int x1, .int x2]) (rest := []) (r1 := r3) (μ1 := μ4) tc_d6_drawn_29 tc_ok2_unsafeByLot tc_w648 ⟨Nat.le_of_ble_eq_true rfl, Nat.le_of_ble_eq_true rfl⟩ tc_s2 rfl c3 rfl rfl (Nat.le_of_ble_eq_true rfl) ?_
      exact tc_iret tc_d6_drawn_32 rfl (tc_riS h)
    · refine tc_bipush (v := (-2)) tc_d6_drawn_20 (by decide) ?_
      exact tc_iret tc_d6_drawn_22 rfl (tc_riS h)
theorem tc_c6_drawn (N : Nat) {x1 : Int32} {x2 : Int32} {μ : tc_Mem} {z : Int32 × tc_Mem} (h : tc_f6_drawn N x1 x2 μ = some z) : tc_Con l G tc_i6_drawn [.ref (tc_ad G 0), .int x1, .int x2] μ (some (.int z.1)) z.2 :=
  tc_Con.of (L := [(0, .ref (tc_ad G 0)), (1, .int x1), (2, .int x2)]) (by decide) (Nat.le_of_ble_eq_true rfl) rfl (fun X => tc_b6_drawn_0 N  _ _ _ _ h)
def tc_f6_faultOf (N : Nat) (x1 : Int32) (x2 : Int32) (μ : tc_Mem) : Option (Int32 × tc_Mem) :=
  tc_bd (tc_f6_isWithin N x1 0 ((μ 8 0) - 1) μ) fun r1 μ2 =>
  if r1 = 0 then
    some ((-2), μ2)
  else
    if x2 < 0 ∨ 2 < x2 then
      some ((-2), μ2)
    else if x2 = 0 then
      tc_ck x1 15 (
      some ((μ2 9 x1.toNatClampNeg), μ2))
    else if x2 = 1 then
      tc_ck x1 15 (
      some ((μ2 10 x1.toNatClampNeg), μ2))
    else if x2 = 2 then
      tc_ck x1 15 (
      some ((μ2 11 x1.toNatClampNeg), μ2))
    else none
theorem tc_b6_faultOf_0 (N : Nat) (x1 : Int32) (x2 : Int32) (μ : tc_Mem) (z : Int32 × tc_Mem) (h : tc_f6_faultOf N x1 x2 μ = some z) : tc_At l G tc_i6_faultOf (some (.int z.1)) z.2 X 0 [(0, .ref (tc_ad G 0)), (1, .int x1), (2, .int x2)] [] μ := by
  unfold tc_f6_faultOf at h
  refine tc_iload_n tc_d6_faultOf_0 1 rfl ?_
  refine tc_iconst (v := 0) tc_d6_faultOf_1 (by decide) ?_
  refine tc_aload_n tc_d6_faultOf_2 0 rfl ?_
  refine tc_g6_0 tc_d6_faultOf_3 tc_w268 ?_
  refine tc_g5_7_1 tc_d6_faultOf_6 tc_w131 ?_
  refine tc_g1_0_1 tc_d6_faultOf_9 tc_w93 ?_
  refine tc_iconst (v := 1) tc_d6_faultOf_12 (by decide) ?_
  refine tc_isub tc_d6_faultOf_13 ?_
  obtain ⟨r1, μ2, e1, h⟩ := tc_bdS h
  have c1 := tc_c6_isWithin (l := l) (G := G) N e1
  refine tc_callSi (As := [.int x1, .int 0, .int ((μ 8 0) - 1)]) (rest := []) (r1 := r1) (μ1 := μ2) tc_d6_faultOf_14 tc_ok6_isWithin tc_w303 ⟨Nat.le_of_ble_eq_true rfl, Nat.le_of_ble_eq_true rfl⟩ c1 rfl rfl (Nat.le_of_ble_eq_true rfl) ?_
  refine tc_if_ne (tgt := 23) tc_d6_faultOf_17 (by decide) h (fun h => ?_) (fun h => ?_)
  · refine tc_iload_n tc_d6_faultOf_23 2 rfl ?_
    by_cases hq : x2 < 0 ∨ 2 < x2
    · rw [if_pos hq] at h
      refine tc_tswD (a := 0) (b := 2) (tgt := 91) tc_d6_faultOf_24 ⟨by decide, by decide⟩ hq (by decide) ?_
      refine tc_bipush (v := (-2)) tc_d6_faultOf_91 (by decide) ?_
      exact tc_iret tc_d6_faultOf_93 rfl (tc_riS h)
    · rw [if_neg hq] at h
      by_cases hq : x2 = 0
      · rw [if_pos hq] at h
        refine tc_tswK (k := 0) (off := 28) (tgt := 52) tc_d6_faultOf_24 hq (by decide) (by decide) rfl (by decide) ?_
        refine tc_aload_n tc_d6_faultOf_52 0 rfl ?_
        refine tc_g6_0 tc_d6_faultOf_53 tc_w268 ?_
        refine tc_g5_7_1 tc_d6_faultOf_56 tc_w131 ?_
        refine tc_g1_1_1 tc_d6_faultOf_59 tc_w97 ?_
        refine tc_iload_n tc_d6_faultOf_62 1 rfl ?_
        obtain ⟨hi3, h⟩ := tc_ckS h
        refine tc_iald tc_d6_faultOf_63 tc_aL9 hi3 ?_
        exact tc_iret tc_d6_faultOf_64 rfl (tc_riS h)
      · rw [if_neg hq] at h
        by_cases hq : x2 = 1
        · rw [if_pos hq] at h
          refine tc_tswK (k := 1) (off := 41) (tgt := 65) tc_d6_faultOf_24 hq (by decide) (by decide) rfl (by decide) ?_
          refine tc_aload_n tc_d6_faultOf_65 0 rfl ?_
          refine tc_g6_0 tc_d6_faultOf_66 tc_w268 ?_
          refine tc_g5_7_1 tc_d6_faultOf_69 tc_w131 ?_
          refine tc_g1_2_1 tc_d6_faultOf_72 tc_w100 ?_
          refine tc_iload_n tc_d6_faultOf_75 1 rfl ?_
          obtain ⟨hi4, h⟩ := tc_ckS h
          refine tc_iald tc_d6_faultOf_76 tc_aL10 hi4 ?_
          exact tc_iret tc_d6_faultOf_77 rfl (tc_riS h)
        · rw [if_neg hq] at h
          by_cases hq : x2 = 2
          · rw [if_pos hq] at h
            refine tc_tswK (k := 2) (off := 54) (tgt := 78) tc_d6_faultOf_24 hq (by decide) (by decide) rfl (by decide) ?_
            refine tc_aload_n tc_d6_faultOf_78 0 rfl ?_
            refine tc_g6_0 tc_d6_faultOf_79 tc_w268 ?_
            refine tc_g5_7_1 tc_d6_faultOf_82 tc_w131 ?_
            refine tc_g1_3_1 tc_d6_faultOf_85 tc_w102 ?_
            refine tc_iload_n tc_d6_faultOf_88 1 rfl ?_
            obtain ⟨hi5, h⟩ := tc_ckS h
            refine tc_iald tc_d6_faultOf_89 tc_aL11 hi5 ?_
            exact tc_iret tc_d6_faultOf_90 rfl (tc_riS h)
          · rw [if_neg hq] at h
            cases h
  · refine tc_bipush (v := (-2)) tc_d6_faultOf_20 (by decide) ?_
    exact tc_iret tc_d6_faultOf_22 rfl (tc_riS h)
theorem tc_c6_faultOf (N : Nat) {x1 : Int32} {x2 : Int32} {μ : tc_Mem} {z : Int32 × tc_Mem} (h : tc_f6_faultOf N x1 x2 μ = some z) : tc_Con l G tc_i6_faultOf [.ref (tc_ad G 0), .int x1, .int x2] μ (some (.int z.1)) z.2 :=
  tc_Con.of (L := [(0, .ref (tc_ad G 0)), (1, .int x1), (2, .int x2)]) (by decide) (Nat.le_of_ble_eq_true rfl) rfl (fun X => tc_b6_faultOf_0 N  _ _ _ _ h)
def tc_f6_feed_133 (N : Nat) (μ : tc_Mem) : Option (Int32 × tc_Mem) :=
  some ((μ 42 1), μ)
theorem tc_b6_feed_133 (N : Nat) (μ : tc_Mem) (z : Int32 × tc_Mem) (h : tc_f6_feed_133 N μ = some z) : tc_At l G tc_i6_feed (some (.int z.1)) z.2 X 133 [(0, .ref (tc_ad G 0))] [] μ := by
  unfold tc_f6_feed_133 at h
  refine tc_aload_n tc_d6_feed_133 0 rfl ?_
  refine tc_g6_7 tc_d6_feed_134 tc_w275 ?_
  refine tc_g4_1 tc_d6_feed_137 tc_w229 ?_
  exact tc_iret tc_d6_feed_140 rfl (tc_riS h)
def tc_f6_feed_119 (N : Nat) (x1 : Int32) (x6 : Int32) (μ : tc_Mem) : Option (Int32 × tc_Mem) :=
  if x1 ≤ 4 then
    tc_f6_feed_133 N μ
  else
    tc_bd (tc_f4_add N x6 μ) fun _ μ2 =>
    tc_f6_feed_133 N μ2
theorem tc_b6_feed_119 (N : Nat) (x1 : Int32) (x6 : Int32) (μ : tc_Mem) (z : Int32 × tc_Mem) (h : tc_f6_feed_119 N x1 x6 μ = some z) : tc_At l G tc_i6_feed (some (.int z.1)) z.2 X 119 [(0, .ref (tc_ad G 0)), (1, .int x1), (6, .int x6)] [] μ := by
  unfold tc_f6_feed_119 at h
  refine tc_iload_n tc_d6_feed_119 1 rfl ?_
  refine tc_iconst (v := 4) tc_d6_feed_120 (by decide) ?_
  refine tc_icmp_le (tgt := 133) tc_d6_feed_121 (by decide) h (fun h => ?_) (fun h => ?_)
  · refine tc_sub [0] rfl ?_
    exact (tc_b6_feed_133 N _ _) h
  · refine tc_aload_n tc_d6_feed_124 0 rfl ?_
    refine tc_g6_7 tc_d6_feed_125 tc_w275 ?_
    refine tc_iload tc_d6_feed_128 2 rfl ?_
    obtain ⟨r1, μ2, e1, h⟩ := tc_bdS h
    have c1 := tc_c4_add (l := l) (G := G) N e1
    refine tc_callVv (As := [.int x6]) (rest := []) (μ1 := μ2) tc_d6_feed_130 tc_ok4_add tc_w710 ⟨Nat.le_of_ble_eq_true rfl, Nat.le_of_ble_eq_true rfl⟩ tc_s4 rfl c1 rfl rfl (Nat.le_of_ble_eq_true rfl) ?_
    refine tc_sub [0] rfl ?_
    exact (tc_b6_feed_133 N _ _) h
def tc_f6_feed_105 (N : Nat) (x1 : Int32) (x5 : Int32) (x6 : Int32) (μ : tc_Mem) : Option (Int32 × tc_Mem) :=
  if x1 ≤ 3 then
    tc_f6_feed_119 N x1 x6 μ
  else
    tc_bd (tc_f4_add N x5 μ) fun _ μ2 =>
    tc_f6_feed_119 N x1 x6 μ2
theorem tc_b6_feed_105 (N : Nat) (x1 : Int32) (x5 : Int32) (x6 : Int32) (μ : tc_Mem) (z : Int32 × tc_Mem) (h : tc_f6_feed_105 N x1 x5 x6 μ = some z) : tc_At l G tc_i6_feed (some (.int z.1)) z.2 X 105 [(0, .ref (tc_ad G 0)), (1, .int x1), (5, .int x5), (6, .int x6)] [] μ := by
  unfold tc_f6_feed_105 at h
  refine tc_iload_n tc_d6_feed_105 1 rfl ?_
  refine tc_iconst (v := 3) tc_d6_feed_106 (by decide) ?_
  refine tc_icmp_le (tgt := 119) tc_d6_feed_107 (by decide) h (fun h => ?_) (fun h => ?_)
  · refine tc_sub [0, 1, 3] rfl ?_
    exact (tc_b6_feed_119 N _ _ _ _) h
  · refine tc_aload_n tc_d6_feed_110 0 rfl ?_
    refine tc_g6_7 tc_d6_feed_111 tc_w275 ?_
    refine tc_iload tc_d6_feed_114 2 rfl ?_
    obtain ⟨r1, μ2, e1, h⟩ := tc_bdS h
    have c1 := tc_c4_add (l := l) (G := G) N e1
    refine tc_callVv (As := [.int x5]) (rest := []) (μ1 := μ2) tc_d6_feed_116 tc_ok4_add tc_w710 ⟨Nat.le_of_ble_eq_true rfl, Nat.le_of_ble_eq_true rfl⟩ tc_s4 rfl c1 rfl rfl (Nat.le_of_ble_eq_true rfl) ?_
    refine tc_sub [0, 1, 3] rfl ?_
    exact (tc_b6_feed_119 N _ _ _ _) h
def tc_f6_feed_91 (N : Nat) (x1 : Int32) (x4 : Int32) (x5 : Int32) (x6 : Int32) (μ : tc_Mem) : Option (Int32 × tc_Mem) :=
  if x1 ≤ 2 then
    tc_f6_feed_105 N x1 x5 x6 μ
  else
    tc_bd (tc_f4_add N x4 μ) fun _ μ2 =>
    tc_f6_feed_105 N x1 x5 x6 μ2
theorem tc_b6_feed_91 (N : Nat) (x1 : Int32) (x4 : Int32) (x5 : Int32) (x6 : Int32) (μ : tc_Mem) (z : Int32 × tc_Mem) (h : tc_f6_feed_91 N x1 x4 x5 x6 μ = some z) : tc_At l G tc_i6_feed (some (.int z.1)) z.2 X 91 [(0, .ref (tc_ad G 0)), (1, .int x1), (4, .int x4), (5, .int x5), (6, .int x6)] [] μ := by
  unfold tc_f6_feed_91 at h
  refine tc_iload_n tc_d6_feed_91 1 rfl ?_
  refine tc_iconst (v := 2) tc_d6_feed_92 (by decide) ?_
  refine tc_icmp_le (tgt := 105) tc_d6_feed_93 (by decide) h (fun h => ?_) (fun h => ?_)
  · refine tc_sub [0, 1, 3, 4] rfl ?_
    exact (tc_b6_feed_105 N _ _ _ _ _) h
  · refine tc_aload_n tc_d6_feed_96 0 rfl ?_
    refine tc_g6_7 tc_d6_feed_97 tc_w275 ?_
    refine tc_iload tc_d6_feed_100 2 rfl ?_
    obtain ⟨r1, μ2, e1, h⟩ := tc_bdS h
    have c1 := tc_c4_add (l := l) (G := G) N e1
    refine tc_callVv (As := [.int x4]) (rest := []) (μ1 := μ2) tc_d6_feed_102 tc_ok4_add tc_w710 ⟨Nat.le_of_ble_eq_true rfl, Nat.le_of_ble_eq_true rfl⟩ tc_s4 rfl c1 rfl rfl (Nat.le_of_ble_eq_true rfl) ?_
    refine tc_sub [0, 1, 3, 4] rfl ?_
    exact (tc_b6_feed_105 N _ _ _ _ _) h
def tc_f6_feed (N : Nat) (x1 : Int32) (x2 : Int32) (x3 : Int32) (x4 : Int32) (x5 : Int32) (x6 : Int32) (μ : tc_Mem) : Option (Int32 × tc_Mem) :=
  tc_bd (tc_f6_isWithin N x1 1 5 μ) fun r1 μ2 =>
  if r1 = 0 then
    some ((-2), μ2)
  else
    tc_bd (tc_f6_isByte N x2 μ2) fun r3 μ4 =>
    if r3 = 0 then
      some ((-2), μ4)
    else
      tc_bd (tc_f6_isByte N x3 μ4) fun r5 μ6 =>
      if r5 = 0 then
        some ((-2), μ6)
      else
        tc_bd (tc_f6_isByte N x4 μ6) fun r7 μ8 =>
        if r7 = 0 then
          some ((-2), μ8)
        else
          tc_bd (tc_f6_isByte N x5 μ8) fun r9 μ10 =>
          if r9 = 0 then
            some ((-2), μ10)
          else
            tc_bd (tc_f6_isByte N x6 μ10) fun r11 μ12 =>
            if r11 = 0 then
              some ((-2), μ12)
            else
              if ((μ12 42 1) + x1) ≤ 60 then
                tc_bd (tc_f4_add N x2 μ12) fun _ μ14 =>
                if x1 ≤ 1 then
                  tc_f6_feed_91 N x1 x4 x5 x6 μ14
                else
                  tc_bd (tc_f4_add N x3 μ14) fun _ μ16 =>
                  tc_f6_feed_91 N x1 x4 x5 x6 μ16
              else
                some ((-4), μ12)
theorem tc_b6_feed_0 (N : Nat) (x1 : Int32) (x2 : Int32) (x3 : Int32) (x4 : Int32) (x5 : Int32) (x6 : Int32) (μ : tc_Mem) (z : Int32 × tc_Mem) (h : tc_f6_feed N x1 x2 x3 x4 x5 x6 μ = some z) : tc_At l G tc_i6_feed (some (.int z.1)) z.2 X 0 [(0, .ref (tc_ad G 0)), (1, .int x1), (2, .int x2), (3, .int x3), (4, .int x4), (5, .int x5), (6, .int x6)] [] μ := by
  unfold tc_f6_feed at h
  refine tc_iload_n tc_d6_feed_0 1 rfl ?_
  refine tc_iconst (v := 1) tc_d6_feed_1 (by decide) ?_
  refine tc_iconst (v := 5) tc_d6_feed_2 (by decide) ?_
  obtain ⟨r1, μ2, e1, h⟩ := tc_bdS h
  have c1 := tc_c6_isWithin (l := l) (G := G) N e1
  refine tc_callSi (As := [.int x1, .int 1, .int 5]) (rest := []) (r1 := r1) (μ1 := μ2) tc_d6_feed_3 tc_ok6_isWithin tc_w303 ⟨Nat.le_of_ble_eq_true rfl, Nat.le_of_ble_eq_true rfl⟩ c1 rfl rfl (Nat.le_of_ble_eq_true rfl) ?_
  refine tc_if_eq (tgt := 23) tc_d6_feed_6 (by decide) h (fun h => ?_) (fun h => ?_)
  · refine tc_bipush (v := (-2)) tc_d6_feed_23 (by decide) ?_
    exact tc_iret tc_d6_feed_25 rfl (tc_riS h)
  · refine tc_iload_n tc_d6_feed_9 2 rfl ?_
    obtain ⟨r3, μ4, e3, h⟩ := tc_bdS h
    have c3 := tc_c6_isByte (l := l) (G := G) N e3
    refine tc_callSi (As := [.int x2]) (rest := []) (r1 := r3) (μ1 := μ4) tc_d6_feed_10 tc_ok6_isByte tc_w707 ⟨Nat.le_of_ble_eq_true rfl, Nat.le_of_ble_eq_true rfl⟩ c3 rfl rfl (Nat.le_of_ble_eq_true rfl) ?_
    refine tc_if_eq (tgt := 23) tc_d6_feed_13 (by decide) h (fun h => ?_) (fun h => ?_)
    · refine tc_bipush (v := (-2)) tc_d6_feed_23 (by decide) ?_
      exact tc_iret tc_d6_feed_25 rfl (tc_riS h)
    · refine tc_iload_n tc_d6_feed_16 3 rfl ?_
      obtain ⟨r5, μ6, e5, h⟩ := tc_bdS h
      have c5 := tc_c6_isByte (l := l) (G := G) N e5
      refine tc_callSi (As := [.int x3]) (rest := []) (r1 := r5) (μ1 := μ6) tc_d6_feed_17 tc_ok6_isByte tc_w707 ⟨Nat.le_of_ble_eq_true rfl, Nat.le_of_ble_eq_true rfl⟩ c5 rfl rfl (Nat.le_of_ble_eq_true rfl) ?_
      refine tc_if_ne (tgt := 26) tc_d6_feed_20 (by decide) h (fun h => ?_) (fun h => ?_)
      · refine tc_iload tc_d6_feed_26 4 rfl ?_
        obtain ⟨r7, μ8, e7, h⟩ := tc_bdS h
        have c7 := tc_c6_isByte (l := l) (G := G) N e7
        refine tc_callSi (As := [.int x4]) (rest := []) (r1 := r7) (μ1 := μ8) tc_d6_feed_28 tc_ok6_isByte tc_w707 ⟨Nat.le_of_ble_eq_true rfl, Nat.le_of_ble_eq_true rfl⟩ c7 rfl rfl (Nat.le_of_ble_eq_true rfl) ?_
        refine tc_if_eq (tgt := 50) tc_d6_feed_31 (by decide) h (fun h => ?_) (fun h => ?_)
        · refine tc_bipush (v := (-2)) tc_d6_feed_50 (by decide) ?_
          exact tc_iret tc_d6_feed_52 rfl (tc_riS h)
        · refine tc_iload tc_d6_feed_34 5 rfl ?_
          obtain ⟨r9, μ10, e9, h⟩ := tc_bdS h
          have c9 := tc_c6_isByte (l := l) (G := G) N e9
          refine tc_callSi (As := [.int x5]) (rest := []) (r1 := r9) (μ1 := μ10) tc_d6_feed_36 tc_ok6_isByte tc_w707 ⟨Nat.le_of_ble_eq_true rfl, Nat.le_of_ble_eq_true rfl⟩ c9 rfl rfl (Nat.le_of_ble_eq_true rfl) ?_
          refine tc_if_eq (tgt := 50) tc_d6_feed_39 (by decide) h (fun h => ?_) (fun h => ?_)
          · refine tc_bipush (v := (-2)) tc_d6_feed_50 (by decide) ?_
            exact tc_iret tc_d6_feed_52 rfl (tc_riS h)
          · refine tc_iload tc_d6_feed_42 6 rfl ?_
            obtain ⟨r11, μ12, e11, h⟩ := tc_bdS h
            have c11 := tc_c6_isByte (l := l) (G := G) N e11
            refine tc_callSi (As := [.int x6]) (rest := []) (r1 := r11) (μ1 := μ12) tc_d6_feed_44 tc_ok6_isByte tc_w707 ⟨Nat.le_of_ble_eq_true rfl, Nat.le_of_ble_eq_true rfl⟩ c11 rfl rfl (Nat.le_of_ble_eq_true rfl) ?_
            refine tc_if_ne (tgt := 53) tc_d6_feed_47 (by decide) h (fun h => ?_) (fun h => ?_)
            · refine tc_aload_n tc_d6_feed_53 0 rfl ?_
              refine tc_g6_7 tc_d6_feed_54 tc_w275 ?_
              refine tc_g4_1 tc_d6_feed_57 tc_w229 ?_
              refine tc_iload_n tc_d6_feed_60 1 rfl ?_
              refine tc_iadd tc_d6_feed_61 ?_
              refine tc_bipush (v := 60) tc_d6_feed_62 (by decide) ?_
              refine tc_icmp_le (tgt := 70) tc_d6_feed_64 (by decide) h (fun h => ?_) (fun h => ?_)
              · refine tc_aload_n tc_d6_feed_70 0 rfl ?_
                refine tc_g6_7 tc_d6_feed_71 tc_w275 ?_
                refine tc_iload_n tc_d6_feed_74 2 rfl ?_
                obtain ⟨r13, μ14, e13, h⟩ := tc_bdS h
                have c13 := tc_c4_add (l := l) (G := G) N e13
                refine tc_callVv (As := [.int x2]) (rest := []) (μ1 := μ14) tc_d6_feed_75 tc_ok4_add tc_w710 ⟨Nat.le_of_ble_eq_true rfl, Nat.le_of_ble_eq_true rfl⟩ tc_s4 rfl c13 rfl rfl (Nat.le_of_ble_eq_true rfl) ?_
                refine tc_iload_n tc_d6_feed_78 1 rfl ?_
                refine tc_iconst (v := 1) tc_d6_feed_79 (by decide) ?_
                refine tc_icmp_le (tgt := 91) tc_d6_feed_80 (by decide) h (fun h => ?_) (fun h => ?_)
                · refine tc_sub [0, 1, 4, 5, 6] rfl ?_
                  exact (tc_b6_feed_91 N _ _ _ _ _ _) h
                · refine tc_aload_n tc_d6_feed_83 0 rfl ?_
                  refine tc_g6_7 tc_d6_feed_84 tc_w275 ?_
                  refine tc_iload_n tc_d6_feed_87 3 rfl ?_
                  obtain ⟨r15, μ16, e15, h⟩ := tc_bdS h
                  have c15 := tc_c4_add (l := l) (G := G) N e15
                  refine tc_callVv (As := [.int x3]) (rest := []) (μ1 := μ16) tc_d6_feed_88 tc_ok4_add tc_w710 ⟨Nat.le_of_ble_eq_true rfl, Nat.le_of_ble_eq_true rfl⟩ tc_s4 rfl c15 rfl rfl (Nat.le_of_ble_eq_true rfl) ?_
                  refine tc_sub [0, 1, 4, 5, 6] rfl ?_
                  exact (tc_b6_feed_91 N _ _ _ _ _ _) h
              · refine tc_bipush (v := (-4)) tc_d6_feed_67 (by decide) ?_
                exact tc_iret tc_d6_feed_69 rfl (tc_riS h)
            · refine tc_bipush (v := (-2)) tc_d6_feed_50 (by decide) ?_
              exact tc_iret tc_d6_feed_52 rfl (tc_riS h)
      · refine tc_bipush (v := (-2)) tc_d6_feed_23 (by decide) ?_
        exact tc_iret tc_d6_feed_25 rfl (tc_riS h)
theorem tc_c6_feed (N : Nat) {x1 : Int32} {x2 : Int32} {x3 : Int32} {x4 : Int32} {x5 : Int32} {x6 : Int32} {μ : tc_Mem} {z : Int32 × tc_Mem} (h : tc_f6_feed N x1 x2 x3 x4 x5 x6 μ = some z) : tc_Con l G tc_i6_feed [.ref (tc_ad G 0), .int x1, .int x2, .int x3, .int x4, .int x5, .int x6] μ (some (.int z.1)) z.2 :=
  tc_Con.of (L := [(0, .ref (tc_ad G 0)), (1, .int x1), (2, .int x2), (3, .int x3), (4, .int x4), (5, .int x5), (6, .int x6)]) (by decide) (Nat.le_of_ble_eq_true rfl) rfl (fun X => tc_b6_feed_0 N  _ _ _ _ _ _ _ _ h)
def tc_f6_film_68 (N : Nat) : Nat → Int32 → Int32 → Int32 → Int32 → tc_Mem → Option (Int32 × tc_Mem)
  | 0 => fun _ _ _ _ _ => none
  | n + 1 => fun x1 x3 x4 x5 μ => 
    if x3 ≤ x5 then
      some (x3, μ)
    else
      tc_bd (tc_f6_bit N x4 x5 μ) fun r1 μ2 =>
      tc_bd (tc_f3_lay N x1 x5 r1 μ2) fun _ μ4 =>
      tc_f6_film_68 N  n x1 x3 x4 (x5 + 1) μ4
theorem tc_b6_film_68 (N : Nat) : ∀ (n : Nat) (x1 : Int32) (x3 : Int32) (x4 : Int32) (x5 : Int32) (μ : tc_Mem) (z : Int32 × tc_Mem), tc_f6_film_68 N n x1 x3 x4 x5 μ = some z → tc_At l G tc_i6_film (some (.int z.1)) z.2 X 68 [(0, .ref (tc_ad G 0)), (1, .int x1), (3, .int x3), (4, .int x4), (5, .int x5)] [] μ := by
  intro n
  induction n with
  | zero => intro x1 x3 x4 x5 μ z h; cases h
  | succ n ih =>
    intro x1 x3 x4 x5 μ z h
    rw [tc_f6_film_68] at h
    refine tc_iload tc_d6_film_68 4 rfl ?_
    refine tc_iload_n tc_d6_film_70 2 rfl ?_
    refine tc_icmp_ge (tgt := 97) tc_d6_film_71 (by decide) h (fun h => ?_) (fun h => ?_)
    · refine tc_iload_n tc_d6_film_97 2 rfl ?_
      exact tc_iret tc_d6_film_98 rfl (tc_riS h)
    · refine tc_aload_n tc_d6_film_74 0 rfl ?_
      refine tc_g6_8 tc_d6_film_75 tc_w276 ?_
      refine tc_iload_n tc_d6_film_78 1 rfl ?_
      refine tc_iload tc_d6_film_79 4 rfl ?_
      refine tc_iload tc_d6_film_81 3 rfl ?_
      refine tc_iload tc_d6_film_83 4 rfl ?_
      obtain ⟨r1, μ2, e1, h⟩ := tc_bdS h
      have c1 := tc_c6_bit (l := l) (G := G) N e1
      refine tc_callSi (As := [.int x4, .int x5]) (rest := [.int x5, .int x1, .ref (tc_ad G 46)]) (r1 := r1) (μ1 := μ2) tc_d6_film_85 tc_ok6_bit tc_w369 ⟨Nat.le_of_ble_eq_true rfl, Nat.le_of_ble_eq_true rfl⟩ c1 rfl rfl (Nat.le_of_ble_eq_true rfl) ?_
      obtain ⟨r3, μ4, e3, h⟩ := tc_bdS h
      have c3 := tc_c3_lay (l := l) (G := G) N e3
      refine tc_callVv (As := [.int x1, .int x5, .int r1]) (rest := []) (μ1 := μ4) tc_d6_film_88 tc_ok3_lay tc_w699 ⟨Nat.le_of_ble_eq_true rfl, Nat.le_of_ble_eq_true rfl⟩ tc_s3 rfl c3 rfl rfl (Nat.le_of_ble_eq_true rfl) ?_
      refine tc_iinc (v := (x5 + 1)) (L' := [(5, .int (x5 + 1)), (0, .ref (tc_ad G 0)), (1, .int x1), (3, .int x3), (4, .int x4)]) tc_d6_film_91 4 rfl rfl (by decide) rfl ?_
      refine tc_goto (tgt := 68) tc_d6_film_94 (by decide) ?_
      refine tc_sub [1, 2, 3, 4, 0] rfl ?_
      exact (ih _ _ _ _ _ _) h
def tc_f6_film (N : Nat) (x1 : Int32) (x2 : Int32) (x3 : Int32) (μ : tc_Mem) : Option (Int32 × tc_Mem) :=
  tc_bd (tc_f3_has N x1 μ) fun r1 μ2 =>
  if r1 = 0 then
    some ((-2), μ2)
  else
    tc_bd (tc_f5_has N 1 x2 μ2) fun r3 μ4 =>
    if r3 = 0 then
      some ((-2), μ4)
    else
      tc_bd (tc_f6_isWithin N x3 0 10 μ4) fun r5 μ6 =>
      if r5 = 0 then
        some ((-2), μ6)
      else
        tc_bd (tc_f2_pictures N x2 x3 μ6) fun r7 μ8 =>
        if r7 = (-1) then
          some ((-3), μ8)
        else
          tc_bd (tc_f3_become N x1 0 x3 μ8) fun _ μ10 =>
          tc_f6_film_68 N N x1 x3 r7 0 μ10
theorem tc_b6_film_0 (N : Nat) (x1 : Int32) (x2 : Int32) (x3 : Int32) (μ : tc_Mem) (z : Int32 × tc_Mem) (h : tc_f6_film N x1 x2 x3 μ = some z) : tc_At l G tc_i6_film (some (.int z.1)) z.2 X 0 [(0, .ref (tc_ad G 0)), (1, .int x1), (2, .int x2), (3, .int x3)] [] μ := by
  unfold tc_f6_film at h
  refine tc_aload_n tc_d6_film_0 0 rfl ?_
  refine tc_g6_8 tc_d6_film_1 tc_w276 ?_
  refine tc_iload_n tc_d6_film_4 1 rfl ?_
  obtain ⟨r1, μ2, e1, h⟩ := tc_bdS h
  have c1 := tc_c3_has (l := l) (G := G) N e1
  refine tc_callVi (As := [.int x1]) (rest := []) (r1 := r1) (μ1 := μ2) tc_d6_film_5 tc_ok3_has tc_w670 ⟨Nat.le_of_ble_eq_true rfl, Nat.le_of_ble_eq_true rfl⟩ tc_s3 rfl c1 rfl rfl (Nat.le_of_ble_eq_true rfl) ?_
  refine tc_if_eq (tgt := 32) tc_d6_film_8 (by decide) h (fun h => ?_) (fun h => ?_)
  · refine tc_bipush (v := (-2)) tc_d6_film_32 (by decide) ?_
    exact tc_iret tc_d6_film_34 rfl (tc_riS h)
  · refine tc_aload_n tc_d6_film_11 0 rfl ?_
    refine tc_g6_0 tc_d6_film_12 tc_w268 ?_
    refine tc_iload_n tc_d6_film_15 2 rfl ?_
    obtain ⟨r3, μ4, e3, h⟩ := tc_bdS h
    have c3 := tc_c5_has (l := l) (G := G) N tc_Y1 e3
    refine tc_callVi (As := [.int x2]) (rest := []) (r1 := r3) (μ1 := μ4) tc_d6_film_16 tc_ok5_has tc_w333 ⟨Nat.le_of_ble_eq_true rfl, Nat.le_of_ble_eq_true rfl⟩ tc_s5_1 rfl c3 rfl rfl (Nat.le_of_ble_eq_true rfl) ?_
    refine tc_if_eq (tgt := 32) tc_d6_film_19 (by decide) h (fun h => ?_) (fun h => ?_)
    · refine tc_bipush (v := (-2)) tc_d6_film_32 (by decide) ?_
      exact tc_iret tc_d6_film_34 rfl (tc_riS h)
    · refine tc_iload_n tc_d6_film_22 3 rfl ?_
      refine tc_iconst (v := 0) tc_d6_film_23 (by decide) ?_
      refine tc_bipush (v := 10) tc_d6_film_24 (by decide) ?_
      obtain ⟨r5, μ6, e5, h⟩ := tc_bdS h
      have c5 := tc_c6_isWithin (l := l) (G := G) N e5
      refine tc_callSi (As := [.int x3, .int 0, .int 10]) (rest := []) (r1 := r5) (μ1 := μ6) tc_d6_film_26 tc_ok6_isWithin tc_w303 ⟨Nat.le_of_ble_eq_true rfl, Nat.le_of_ble_eq_true rfl⟩ c5 rfl rfl (Nat.le_of_ble_eq_true rfl) ?_
      refine tc_if_ne (tgt := 35) tc_d6_film_29 (by decide) h (fun h => ?_) (fun h => ?_)
      · refine tc_aload_n tc_d6_film_35 0 rfl ?_
        refine tc_g6_6 tc_d6_film_36 tc_w274 ?_
        refine tc_iload_n tc_d6_film_39 2 rfl ?_
        refine tc_iload_n tc_d6_film_40 3 rfl ?_
        obtain ⟨r7, μ8, e7, h⟩ := tc_bdS h
        have c7 := tc_c2_pictures (l := l) (G := G) N e7
        refine tc_callVi (As := [.int x2, .int x3]) (rest := []) (r1 := r7) (μ1 := μ8) tc_d6_film_41 tc_ok2_pictures tc_w691 ⟨Nat.le_of_ble_eq_true rfl, Nat.le_of_ble_eq_true rfl⟩ tc_s2 rfl c7 rfl rfl (Nat.le_of_ble_eq_true rfl) ?_
        refine tc_istore (L' := [(4, .int r7), (0, .ref (tc_ad G 0)), (1, .int x1), (2, .int x2), (3, .int x3)]) tc_d6_film_44 (by decide) rfl ?_
        refine tc_iload tc_d6_film_46 0 rfl ?_
        refine tc_iconst (v := (-1)) tc_d6_film_48 (by decide) ?_
        refine tc_icmp_ne (tgt := 55) tc_d6_film_49 (by decide) h (fun h => ?_) (fun h => ?_)
        · refine tc_aload_n tc_d6_film_55 1 rfl ?_
          refine tc_g6_8 tc_d6_film_56 tc_w276 ?_
          refine tc_iload_n tc_d6_film_59 2 rfl ?_
          refine tc_iconst (v := 0) tc_d6_film_60 (by decide) ?_
          refine tc_iload_n tc_d6_film_61 4 rfl ?_
          obtain ⟨r9, μ10, e9, h⟩ := tc_bdS h
          have c9 := tc_c3_become (l := l) (G := G) N e9
          refine tc_callVv (As := [.int x1, .int 0, .int x3]) (rest := []) (μ1 := μ10) tc_d6_film_62 tc_ok3_become tc_w695 ⟨Nat.le_of_ble_eq_true rfl, Nat.le_of_ble_eq_true rfl⟩ tc_s3 rfl c9 rfl rfl (Nat.le_of_ble_eq_true rfl) ?_
          refine tc_iconst (v := 0) tc_d6_film_65 (by decide) ?_
          refine tc_istore (L' := [(5, .int 0), (4, .int r7), (0, .ref (tc_ad G 0)), (1, .int x1), (2, .int x2), (3, .int x3)]) tc_d6_film_66 (by decide) rfl ?_
          refine tc_sub [2, 3, 5, 1, 0] rfl ?_
          exact (tc_b6_film_68 N N _ _ _ _ _ _) h
        · refine tc_bipush (v := (-3)) tc_d6_film_52 (by decide) ?_
          exact tc_iret tc_d6_film_54 rfl (tc_riS h)
      · refine tc_bipush (v := (-2)) tc_d6_film_32 (by decide) ?_
        exact tc_iret tc_d6_film_34 rfl (tc_riS h)
theorem tc_c6_film (N : Nat) {x1 : Int32} {x2 : Int32} {x3 : Int32} {μ : tc_Mem} {z : Int32 × tc_Mem} (h : tc_f6_film N x1 x2 x3 μ = some z) : tc_Con l G tc_i6_film [.ref (tc_ad G 0), .int x1, .int x2, .int x3] μ (some (.int z.1)) z.2 :=
  tc_Con.of (L := [(0, .ref (tc_ad G 0)), (1, .int x1), (2, .int x2), (3, .int x3)]) (by decide) (Nat.le_of_ble_eq_true rfl) rfl (fun X => tc_b6_film_0 N  _ _ _ _ _ h)
def tc_f6_fix (N : Nat) (μ : tc_Mem) : Option (Int32 × tc_Mem) :=
  tc_bd (tc_f2_faultToMend N μ) fun r1 μ2 =>
  some (r1, μ2)
theorem tc_b6_fix_0 (N : Nat) (μ : tc_Mem) (z : Int32 × tc_Mem) (h : tc_f6_fix N μ = some z) : tc_At l G tc_i6_fix (some (.int z.1)) z.2 X 0 [(0, .ref (tc_ad G 0))] [] μ := by
  unfold tc_f6_fix at h
  refine tc_aload_n tc_d6_fix_0 0 rfl ?_
  refine tc_g6_6 tc_d6_fix_1 tc_w274 ?_
  obtain ⟨r1, μ2, e1, h⟩ := tc_bdS h
  have c1 := tc_c2_faultToMend (l := l) (G := G) N e1
  refine tc_callVi (As := []) (rest := []) (r1 := r1) (μ1 := μ2) tc_d6_fix_4 tc_ok2_faultToMend tc_w632 ⟨Nat.le_of_ble_eq_true rfl, Nat.le_of_ble_eq_true rfl⟩ tc_s2 rfl c1 rfl rfl (Nat.le_of_ble_eq_true rfl) ?_
  exact tc_iret tc_d6_fix_7 rfl (tc_riS h)
theorem tc_c6_fix (N : Nat) {μ : tc_Mem} {z : Int32 × tc_Mem} (h : tc_f6_fix N μ = some z) : tc_Con l G tc_i6_fix [.ref (tc_ad G 0)] μ (some (.int z.1)) z.2 :=
  tc_Con.of (L := [(0, .ref (tc_ad G 0))]) (by decide) (Nat.le_of_ble_eq_true rfl) rfl (fun X => tc_b6_fix_0 N  _ _ h)
def tc_f6_force_57 (N : Nat) (x1 : Int32) (x3 : Int32) (s1 : Int32) (s2 : Int32) (s3 : Int32) (μ : tc_Mem) : Option (Int32 × tc_Mem) :=
  tc_bd (tc_f6_withBit N s1 s2 s3 μ) fun r1 μ2 =>
  tc_lt (tc_wr μ2 1 8 r1) fun μ3 =>
  tc_ck x1 8 (
  tc_lt (tc_wr μ3 6 x1.toNatClampNeg 0) fun μ5 =>
  some (x3, μ5))
theorem tc_b6_force_57 (N : Nat) (x1 : Int32) (x3 : Int32) (s1 : Int32) (s2 : Int32) (s3 : Int32) (μ : tc_Mem) (z : Int32 × tc_Mem) (h : tc_f6_force_57 N x1 x3 s1 s2 s3 μ = some z) : tc_At l G tc_i6_force (some (.int z.1)) z.2 X 57 [(0, .ref (tc_ad G 0)), (1, .int x1), (3, .int x3)] [.int s3, .int s2, .int s1, .ref (tc_ad G 1)] μ := by
  unfold tc_f6_force_57 at h
  obtain ⟨r1, μ2, e1, h⟩ := tc_bdS h
  have c1 := tc_c6_withBit (l := l) (G := G) N e1
  refine tc_callSi (As := [.int s1, .int s2, .int s3]) (rest := [.ref (tc_ad G 1)]) (r1 := r1) (μ1 := μ2) tc_d6_force_57 tc_ok6_withBit tc_w400 ⟨Nat.le_of_ble_eq_true rfl, Nat.le_of_ble_eq_true rfl⟩ c1 rfl rfl (Nat.le_of_ble_eq_true rfl) ?_
  refine tc_p5_8_1 tc_d6_force_60 tc_w136 h (fun μ3 h => ?_)
  refine tc_aload_n tc_d6_force_63 0 rfl ?_
  refine tc_g6_0 tc_d6_force_64 tc_w268 ?_
  refine tc_g5_5_1 tc_d6_force_67 tc_w127 ?_
  refine tc_iload_n tc_d6_force_70 1 rfl ?_
  refine tc_iconst (v := 0) tc_d6_force_71 (by decide) ?_
  obtain ⟨hi4, h⟩ := tc_ckS h
  refine tc_iastL tc_d6_force_72 tc_aL6 hi4 h (fun μ5 h => ?_)
  refine tc_iload_n tc_d6_force_73 2 rfl ?_
  exact tc_iret tc_d6_force_74 rfl (tc_riS h)
def tc_f6_force (N : Nat) (x1 : Int32) (x2 : Int32) (μ : tc_Mem) : Option (Int32 × tc_Mem) :=
  tc_bd (tc_f5_has N 1 x1 μ) fun r1 μ2 =>
  if r1 = 0 then
    some ((-2), μ2)
  else
    tc_bd (tc_f6_isWithin N x2 0 1 μ2) fun r3 μ4 =>
    if r3 = 0 then
      some ((-2), μ4)
    else
      tc_bd (tc_f6_bit N (μ4 1 8) x1 μ4) fun r5 μ6 =>
      if x2 = 1 then
        tc_f6_force_57 N x1 r5 (μ6 1 8) x1 1 μ6
      else
        tc_f6_force_57 N x1 r5 (μ6 1 8) x1 0 μ6
theorem tc_b6_force_0 (N : Nat) (x1 : Int32) (x2 : Int32) (μ : tc_Mem) (z : Int32 × tc_Mem) (h : tc_f6_force N x1 x2 μ = some z) : tc_At l G tc_i6_force (some (.int z.1)) z.2 X 0 [(0, .ref (tc_ad G 0)), (1, .int x1), (2, .int x2)] [] μ := by
  unfold tc_f6_force at h
  refine tc_aload_n tc_d6_force_0 0 rfl ?_
  refine tc_g6_0 tc_d6_force_1 tc_w268 ?_
  refine tc_iload_n tc_d6_force_4 1 rfl ?_
  obtain ⟨r1, μ2, e1, h⟩ := tc_bdS h
  have c1 := tc_c5_has (l := l) (G := G) N tc_Y1 e1
  refine tc_callVi (As := [.int x1]) (rest := []) (r1 := r1) (μ1 := μ2) tc_d6_force_5 tc_ok5_has tc_w333 ⟨Nat.le_of_ble_eq_true rfl, Nat.le_of_ble_eq_true rfl⟩ tc_s5_1 rfl c1 rfl rfl (Nat.le_of_ble_eq_true rfl) ?_
  refine tc_if_eq (tgt := 20) tc_d6_force_8 (by decide) h (fun h => ?_) (fun h => ?_)
  · refine tc_bipush (v := (-2)) tc_d6_force_20 (by decide) ?_
    exact tc_iret tc_d6_force_22 rfl (tc_riS h)
  · refine tc_iload_n tc_d6_force_11 2 rfl ?_
    refine tc_iconst (v := 0) tc_d6_force_12 (by decide) ?_
    refine tc_iconst (v := 1) tc_d6_force_13 (by decide) ?_
    obtain ⟨r3, μ4, e3, h⟩ := tc_bdS h
    have c3 := tc_c6_isWithin (l := l) (G := G) N e3
    refine tc_callSi (As := [.int x2, .int 0, .int 1]) (rest := []) (r1 := r3) (μ1 := μ4) tc_d6_force_14 tc_ok6_isWithin tc_w303 ⟨Nat.le_of_ble_eq_true rfl, Nat.le_of_ble_eq_true rfl⟩ c3 rfl rfl (Nat.le_of_ble_eq_true rfl) ?_
    refine tc_if_ne (tgt := 23) tc_d6_force_17 (by decide) h (fun h => ?_) (fun h => ?_)
    · refine tc_aload_n tc_d6_force_23 0 rfl ?_
      refine tc_g6_0 tc_d6_force_24 tc_w268 ?_
      refine tc_g5_8_1 tc_d6_force_27 tc_w136 ?_
      refine tc_iload_n tc_d6_force_30 1 rfl ?_
      obtain ⟨r5, μ6, e5, h⟩ := tc_bdS h
      have c5 := tc_c6_bit (l := l) (G := G) N e5
      refine tc_callSi (As := [.int (μ4 1 8), .int x1]) (rest := []) (r1 := r5) (μ1 := μ6) tc_d6_force_31 tc_ok6_bit tc_w369 ⟨Nat.le_of_ble_eq_true rfl, Nat.le_of_ble_eq_true rfl⟩ c5 rfl rfl (Nat.le_of_ble_eq_true rfl) ?_
      refine tc_istore_n (L' := [(3, .int r5), (0, .ref (tc_ad G 0)), (1, .int x1), (2, .int x2)]) tc_d6_force_34 (by decide) rfl ?_
      refine tc_aload_n tc_d6_force_35 1 rfl ?_
      refine tc_g6_0 tc_d6_force_36 tc_w268 ?_
      refine tc_aload_n tc_d6_force_39 1 rfl ?_
      refine tc_g6_0 tc_d6_force_40 tc_w268 ?_
      refine tc_g5_8_1 tc_d6_force_43 tc_w136 ?_
      refine tc_iload_n tc_d6_force_46 2 rfl ?_
      refine tc_iload_n tc_d6_force_47 3 rfl ?_
      refine tc_iconst (v := 1) tc_d6_force_48 (by decide) ?_
      refine tc_icmp_ne (tgt := 56) tc_d6_force_49 (by decide) h (fun h => ?_) (fun h => ?_)
      · refine tc_iconst (v := 0) tc_d6_force_56 (by decide) ?_
        refine tc_sub [1, 2, 0] rfl ?_
        exact (tc_b6_force_57 N _ _ _ _ _ _ _) h
      · refine tc_iconst (v := 1) tc_d6_force_52 (by decide) ?_
        refine tc_goto (tgt := 57) tc_d6_force_53 (by decide) ?_
        refine tc_sub [1, 2, 0] rfl ?_
        exact (tc_b6_force_57 N _ _ _ _ _ _ _) h
    · refine tc_bipush (v := (-2)) tc_d6_force_20 (by decide) ?_
      exact tc_iret tc_d6_force_22 rfl (tc_riS h)
theorem tc_c6_force (N : Nat) {x1 : Int32} {x2 : Int32} {μ : tc_Mem} {z : Int32 × tc_Mem} (h : tc_f6_force N x1 x2 μ = some z) : tc_Con l G tc_i6_force [.ref (tc_ad G 0), .int x1, .int x2] μ (some (.int z.1)) z.2 :=
  tc_Con.of (L := [(0, .ref (tc_ad G 0)), (1, .int x1), (2, .int x2)]) (by decide) (Nat.le_of_ble_eq_true rfl) rfl (fun X => tc_b6_force_0 N  _ _ _ _ h)
def tc_f6_image (N : Nat) (μ : tc_Mem) : Option (Int32 × tc_Mem) :=
  tc_bd (tc_f5_become N 12 1 μ) fun _ μ2 =>
  tc_lt (tc_wr μ2 0 2 1) fun μ3 =>
  some ((μ3 12 0), μ3)
theorem tc_b6_image_0 (N : Nat) (μ : tc_Mem) (z : Int32 × tc_Mem) (h : tc_f6_image N μ = some z) : tc_At l G tc_i6_image (some (.int z.1)) z.2 X 0 [(0, .ref (tc_ad G 0))] [] μ := by
  unfold tc_f6_image at h
  refine tc_aload_n tc_d6_image_0 0 rfl ?_
  refine tc_g6_1 tc_d6_image_1 tc_w269 ?_
  refine tc_aload_n tc_d6_image_4 0 rfl ?_
  refine tc_g6_0 tc_d6_image_5 tc_w268 ?_
  obtain ⟨r1, μ2, e1, h⟩ := tc_bdS h
  have c1 := tc_c5_become (l := l) (G := G) N tc_Y12 tc_Y1 e1
  refine tc_callVv (As := [.ref (tc_ad G 1)]) (rest := []) (μ1 := μ2) tc_d6_image_8 tc_ok5_become tc_w827 ⟨Nat.le_of_ble_eq_true rfl, Nat.le_of_ble_eq_true rfl⟩ tc_s5_12 rfl c1 rfl rfl (Nat.le_of_ble_eq_true rfl) ?_
  refine tc_aload_n tc_d6_image_11 0 rfl ?_
  refine tc_iconst (v := 1) tc_d6_image_12 (by decide) ?_
  refine tc_p6_2 tc_d6_image_13 tc_w270 (by decide) (by decide) h (fun μ3 h => ?_)
  refine tc_aload_n tc_d6_image_16 0 rfl ?_
  refine tc_g6_1 tc_d6_image_17 tc_w269 ?_
  refine tc_g5_0_12 tc_d6_image_20 tc_w114 ?_
  exact tc_iret tc_d6_image_23 rfl (tc_riS h)
theorem tc_c6_image (N : Nat) {μ : tc_Mem} {z : Int32 × tc_Mem} (h : tc_f6_image N μ = some z) : tc_Con l G tc_i6_image [.ref (tc_ad G 0)] μ (some (.int z.1)) z.2 :=
  tc_Con.of (L := [(0, .ref (tc_ad G 0))]) (by decide) (Nat.le_of_ble_eq_true rfl) rfl (fun X => tc_b6_image_0 N  _ _ h)
def tc_f6_load_68 (N : Nat) : Nat → Int32 → Int32 → Int32 → Int32 → Int32 → tc_Mem → Option (Int32 × tc_Mem)
  | 0 => fun _ _ _ _ _ _ => none
  | n + 1 => fun x1 x3 x4 x5 x6 μ => 
    if x4 ≤ x6 then
      some (x5, μ)
    else
      tc_bd (tc_f3_holds N x1 (x3.toInt64 + (4 * x6.toInt64)) 4 μ) fun r1 μ2 =>
      if r1 = 0 then
        some ((-12), μ2)
      else
        tc_lt (x3 + (4 * x6)) fun v3 =>
        tc_bd (tc_f3_item N x1 v3 μ2) fun r4 μ5 =>
        tc_bd (tc_f3_item N x1 (v3 + 1) μ5) fun r6 μ7 =>
        tc_bd (tc_f3_item N x1 (v3 + 2) μ7) fun r8 μ9 =>
        tc_bd (tc_f3_item N x1 (v3 + 3) μ9) fun r10 μ11 =>
        tc_bd (tc_f6_section N r4 r6 r8 r10 μ11) fun r12 μ13 =>
        if r12 < 0 then
          tc_f6_load_68 N  n x1 x3 x4 x5 (x6 + 1) μ13
        else
          tc_f6_load_68 N  n x1 x3 x4 (x5 + 1) (x6 + 1) μ13
theorem tc_b6_load_68 (N : Nat) : ∀ (n : Nat) (x1 : Int32) (x3 : Int32) (x4 : Int32) (x5 : Int32) (x6 : Int32) (μ : tc_Mem) (z : Int32 × tc_Mem), tc_f6_load_68 N n x1 x3 x4 x5 x6 μ = some z → tc_At l G tc_i6_load (some (.int z.1)) z.2 X 68 [(0, .ref (tc_ad G 0)), (1, .int x1), (3, .int x3), (4, .int x4), (5, .int x5), (6, .int x6)] [] μ := by
  intro n
  induction n with
  | zero => intro x1 x3 x4 x5 x6 μ z h; cases h
  | succ n ih =>
    intro x1 x3 x4 x5 x6 μ z h
    rw [tc_f6_load_68] at h
    refine tc_iload tc_d6_load_68 5 rfl ?_
    refine tc_iload tc_d6_load_70 3 rfl ?_
    refine tc_icmp_ge (tgt := 188) tc_d6_load_72 (by decide) h (fun h => ?_) (fun h => ?_)
    · refine tc_iload tc_d6_load_188 4 rfl ?_
      exact tc_iret tc_d6_load_190 rfl (tc_riS h)
    · refine tc_aload_n tc_d6_load_75 0 rfl ?_
      refine tc_g6_8 tc_d6_load_76 tc_w276 ?_
      refine tc_iload_n tc_d6_load_79 1 rfl ?_
      refine tc_iload_n tc_d6_load_80 2 rfl ?_
      refine tc_i2l tc_d6_load_81 ?_
      refine tc_ldc2 (v := 4) tc_d6_load_82 tc_w839 ?_
      refine tc_iload tc_d6_load_85 5 rfl ?_
      refine tc_i2l tc_d6_load_87 ?_
      refine tc_lmul tc_d6_load_88 ?_
      refine tc_ladd tc_d6_load_89 ?_
      refine tc_ldc2 (v := 4) tc_d6_load_90 tc_w839 ?_
      obtain ⟨r1, μ2, e1, h⟩ := tc_bdS h
      have c1 := tc_c3_holds (l := l) (G := G) N e1
      refine tc_callVi (As := [.int x1, .long (x3.toInt64 + (4 * x6.toInt64)), .long 4]) (rest := []) (r1 := r1) (μ1 := μ2) tc_d6_load_93 tc_ok3_holds tc_w840 ⟨Nat.le_of_ble_eq_true rfl, Nat.le_of_ble_eq_true rfl⟩ tc_s3 rfl c1 rfl rfl (Nat.le_of_ble_eq_true rfl) ?_
      refine tc_if_ne (tgt := 102) tc_d6_load_96 (by decide) h (fun h => ?_) (fun h => ?_)
      · refine tc_iload_n tc_d6_load_102 2 rfl ?_
        refine tc_iconst (v := 4) tc_d6_load_103 (by decide) ?_
        refine tc_iload tc_d6_load_104 5 rfl ?_
        refine tc_imul tc_d6_load_106 ?_
        refine tc_iadd tc_d6_load_107 ?_
        refine tc_ltI h (fun v3 h => ?_)
        refine tc_istore (L' := [(7, .int v3), (0, .ref (tc_ad G 0)), (1, .int x1), (3, .int x3), (4, .int x4), (5, .int x5), (6, .int x6)]) tc_d6_load_108 (by decide) rfl ?_
        refine tc_aload_n tc_d6_load_110 1 rfl ?_
        refine tc_g6_8 tc_d6_load_111 tc_w276 ?_
        refine tc_iload_n tc_d6_load_114 2 rfl ?_
        refine tc_iload tc_d6_load_115 0 rfl ?_
        obtain ⟨r4, μ5, e4, h⟩ := tc_bdS h
        have c4 := tc_c3_item (l := l) (G := G) N e4
        refine tc_callVi (As := [.int x1, .int v3]) (rest := []) (r1 := r4) (μ1 := μ5) tc_d6_load_117 tc_ok3_item tc_w844 ⟨Nat.le_of_ble_eq_true rfl, Nat.le_of_ble_eq_true rfl⟩ tc_s3 rfl c4 rfl rfl (Nat.le_of_ble_eq_true rfl) ?_
        refine tc_istore (L' := [(8, .int r4), (7, .int v3), (0, .ref (tc_ad G 0)), (1, .int x1), (3, .int x3), (4, .int x4), (5, .int x5), (6, .int x6)]) tc_d6_load_120 (by decide) rfl ?_
        refine tc_aload_n tc_d6_load_122 2 rfl ?_
        refine tc_g6_8 tc_d6_load_123 tc_w276 ?_
        refine tc_iload_n tc_d6_load_126 3 rfl ?_
        refine tc_iload tc_d6_load_127 1 rfl ?_
        refine tc_iconst (v := 1) tc_d6_load_129 (by decide) ?_
        refine tc_iadd tc_d6_load_130 ?_
        obtain ⟨r6, μ7, e6, h⟩ := tc_bdS h
        have c6 := tc_c3_item (l := l) (G := G) N e6
        refine tc_callVi (As := [.int x1, .int (v3 + 1)]) (rest := []) (r1 := r6) (μ1 := μ7) tc_d6_load_131 tc_ok3_item tc_w844 ⟨Nat.le_of_ble_eq_true rfl, Nat.le_of_ble_eq_true rfl⟩ tc_s3 rfl c6 rfl rfl (Nat.le_of_ble_eq_true rfl) ?_
        refine tc_istore (L' := [(9, .int r6), (8, .int r4), (7, .int v3), (0, .ref (tc_ad G 0)), (1, .int x1), (3, .int x3), (4, .int x4), (5, .int x5), (6, .int x6)]) tc_d6_load_134 (by decide) rfl ?_
        refine tc_aload_n tc_d6_load_136 3 rfl ?_
        refine tc_g6_8 tc_d6_load_137 tc_w276 ?_
        refine tc_iload_n tc_d6_load_140 4 rfl ?_
        refine tc_iload tc_d6_load_141 2 rfl ?_
        refine tc_iconst (v := 2) tc_d6_load_143 (by decide) ?_
        refine tc_iadd tc_d6_load_144 ?_
        obtain ⟨r8, μ9, e8, h⟩ := tc_bdS h
        have c8 := tc_c3_item (l := l) (G := G) N e8
        refine tc_callVi (As := [.int x1, .int (v3 + 2)]) (rest := []) (r1 := r8) (μ1 := μ9) tc_d6_load_145 tc_ok3_item tc_w844 ⟨Nat.le_of_ble_eq_true rfl, Nat.le_of_ble_eq_true rfl⟩ tc_s3 rfl c8 rfl rfl (Nat.le_of_ble_eq_true rfl) ?_
        refine tc_istore (L' := [(10, .int r8), (9, .int r6), (8, .int r4), (7, .int v3), (0, .ref (tc_ad G 0)), (1, .int x1), (3, .int x3), (4, .int x4), (5, .int x5), (6, .int x6)]) tc_d6_load_148 (by decide) rfl ?_
        refine tc_aload_n tc_d6_load_150 4 rfl ?_
        refine tc_g6_8 tc_d6_load_151 tc_w276 ?_
        refine tc_iload_n tc_d6_load_154 5 rfl ?_
        refine tc_iload tc_d6_load_155 3 rfl ?_
        refine tc_iconst (v := 3) tc_d6_load_157 (by decide) ?_
        refine tc_iadd tc_d6_load_158 ?_
        obtain ⟨r10, μ11, e10, h⟩ := tc_bdS h
        have c10 := tc_c3_item (l := l) (G := G) N e10
        refine tc_callVi (As := [.int x1, .int (v3 + 3)]) (rest := []) (r1 := r10) (μ1 := μ11) tc_d6_load_159 tc_ok3_item tc_w844 ⟨Nat.le_of_ble_eq_true rfl, Nat.le_of_ble_eq_true rfl⟩ tc_s3 rfl c10 rfl rfl (Nat.le_of_ble_eq_true rfl) ?_
        refine tc_istore (L' := [(11, .int r10), (10, .int r8), (9, .int r6), (8, .int r4), (7, .int v3), (0, .ref (tc_ad G 0)), (1, .int x1), (3, .int x3), (4, .int x4), (5, .int x5), (6, .int x6)]) tc_d6_load_162 (by decide) rfl ?_
        refine tc_aload_n tc_d6_load_164 5 rfl ?_
        refine tc_iload tc_d6_load_165 3 rfl ?_
        refine tc_iload tc_d6_load_167 2 rfl ?_
        refine tc_iload tc_d6_load_169 1 rfl ?_
        refine tc_iload tc_d6_load_171 0 rfl ?_
        obtain ⟨r12, μ13, e12, h⟩ := tc_bdS h
        have c12 := tc_c6_section (l := l) (G := G) N e12
        refine tc_callVi (As := [.int r4, .int r6, .int r8, .int r10]) (rest := []) (r1 := r12) (μ1 := μ13) tc_d6_load_173 tc_ok6_section tc_w815 ⟨Nat.le_of_ble_eq_true rfl, Nat.le_of_ble_eq_true rfl⟩ tc_s6 rfl c12 rfl rfl (Nat.le_of_ble_eq_true rfl) ?_
        refine tc_if_lt (tgt := 182) tc_d6_load_176 (by decide) h (fun h => ?_) (fun h => ?_)
        · refine tc_iinc (v := (x6 + 1)) (L' := [(6, .int (x6 + 1)), (11, .int r10), (10, .int r8), (9, .int r6), (8, .int r4), (7, .int v3), (0, .ref (tc_ad G 0)), (1, .int x1), (3, .int x3), (4, .int x4), (5, .int x5)]) tc_d6_load_182 10 rfl rfl (by decide) rfl ?_
          refine tc_goto (tgt := 68) tc_d6_load_185 (by decide) ?_
          refine tc_sub [6, 7, 8, 9, 10, 0] rfl ?_
          exact (ih _ _ _ _ _ _ _) h
        · refine tc_iinc (v := (x5 + 1)) (L' := [(5, .int (x5 + 1)), (11, .int r10), (10, .int r8), (9, .int r6), (8, .int r4), (7, .int v3), (0, .ref (tc_ad G 0)), (1, .int x1), (3, .int x3), (4, .int x4), (6, .int x6)]) tc_d6_load_179 9 rfl rfl (by decide) rfl ?_
          refine tc_iinc (v := (x6 + 1)) (L' := [(6, .int (x6 + 1)), (5, .int (x5 + 1)), (11, .int r10), (10, .int r8), (9, .int r6), (8, .int r4), (7, .int v3), (0, .ref (tc_ad G 0)), (1, .int x1), (3, .int x3), (4, .int x4)]) tc_d6_load_182 10 rfl rfl (by decide) rfl ?_
          refine tc_goto (tgt := 68) tc_d6_load_185 (by decide) ?_
          refine tc_sub [7, 8, 9, 10, 1, 0] rfl ?_
          exact (ih _ _ _ _ _ _ _) h
      · refine tc_bipush (v := (-12)) tc_d6_load_99 (by decide) ?_
        exact tc_iret tc_d6_load_101 rfl (tc_riS h)
def tc_f6_load (N : Nat) (x1 : Int32) (x2 : Int32) (x3 : Int32) (x4 : Int32) (μ : tc_Mem) : Option (Int32 × tc_Mem) :=
  tc_bd (tc_f3_has N x1 μ) fun r1 μ2 =>
  if r1 = 0 then
    some ((-2), μ2)
  else
    tc_bd (tc_f6_isSort N x2 μ2) fun r3 μ4 =>
    if r3 = 0 then
      some ((-2), μ4)
    else
      tc_bd (tc_f6_isWithin N x4 0 8 μ4) fun r5 μ6 =>
      if r5 = 0 then
        some ((-2), μ6)
      else
        tc_bd (tc_f3_isMissing N x1 μ6) fun r7 μ8 =>
        if r7 = 0 then
          tc_ck x1 4 (
          if (μ8 47 x1.toNatClampNeg) = x2 then
            tc_f6_load_68 N N x1 x3 x4 0 0 μ8
          else
            some ((-13), μ8))
        else
          some ((-11), μ8)
theorem tc_b6_load_0 (N : Nat) (x1 : Int32) (x2 : Int32) (x3 : Int32) (x4 : Int32) (μ : tc_Mem) (z : Int32 × tc_Mem) (h : tc_f6_load N x1 x2 x3 x4 μ = some z) : tc_At l G tc_i6_load (some (.int z.1)) z.2 X 0 [(0, .ref (tc_ad G 0)), (1, .int x1), (2, .int x2), (3, .int x3), (4, .int x4)] [] μ := by
  unfold tc_f6_load at h
  refine tc_aload_n tc_d6_load_0 0 rfl ?_
  refine tc_g6_8 tc_d6_load_1 tc_w276 ?_
  refine tc_iload_n tc_d6_load_4 1 rfl ?_
  obtain ⟨r1, μ2, e1, h⟩ := tc_bdS h
  have c1 := tc_c3_has (l := l) (G := G) N e1
  refine tc_callVi (As := [.int x1]) (rest := []) (r1 := r1) (μ1 := μ2) tc_d6_load_5 tc_ok3_has tc_w670 ⟨Nat.le_of_ble_eq_true rfl, Nat.le_of_ble_eq_true rfl⟩ tc_s3 rfl c1 rfl rfl (Nat.le_of_ble_eq_true rfl) ?_
  refine tc_if_eq (tgt := 29) tc_d6_load_8 (by decide) h (fun h => ?_) (fun h => ?_)
  · refine tc_bipush (v := (-2)) tc_d6_load_29 (by decide) ?_
    exact tc_iret tc_d6_load_31 rfl (tc_riS h)
  · refine tc_iload_n tc_d6_load_11 2 rfl ?_
    obtain ⟨r3, μ4, e3, h⟩ := tc_bdS h
    have c3 := tc_c6_isSort (l := l) (G := G) N e3
    refine tc_callSi (As := [.int x2]) (rest := []) (r1 := r3) (μ1 := μ4) tc_d6_load_12 tc_ok6_isSort tc_w836 ⟨Nat.le_of_ble_eq_true rfl, Nat.le_of_ble_eq_true rfl⟩ c3 rfl rfl (Nat.le_of_ble_eq_true rfl) ?_
    refine tc_if_eq (tgt := 29) tc_d6_load_15 (by decide) h (fun h => ?_) (fun h => ?_)
    · refine tc_bipush (v := (-2)) tc_d6_load_29 (by decide) ?_
      exact tc_iret tc_d6_load_31 rfl (tc_riS h)
    · refine tc_iload tc_d6_load_18 4 rfl ?_
      refine tc_iconst (v := 0) tc_d6_load_20 (by decide) ?_
      refine tc_bipush (v := 8) tc_d6_load_21 (by decide) ?_
      obtain ⟨r5, μ6, e5, h⟩ := tc_bdS h
      have c5 := tc_c6_isWithin (l := l) (G := G) N e5
      refine tc_callSi (As := [.int x4, .int 0, .int 8]) (rest := []) (r1 := r5) (μ1 := μ6) tc_d6_load_23 tc_ok6_isWithin tc_w303 ⟨Nat.le_of_ble_eq_true rfl, Nat.le_of_ble_eq_true rfl⟩ c5 rfl rfl (Nat.le_of_ble_eq_true rfl) ?_
      refine tc_if_ne (tgt := 32) tc_d6_load_26 (by decide) h (fun h => ?_) (fun h => ?_)
      · refine tc_aload_n tc_d6_load_32 0 rfl ?_
        refine tc_g6_8 tc_d6_load_33 tc_w276 ?_
        refine tc_iload_n tc_d6_load_36 1 rfl ?_
        obtain ⟨r7, μ8, e7, h⟩ := tc_bdS h
        have c7 := tc_c3_isMissing (l := l) (G := G) N e7
        refine tc_callVi (As := [.int x1]) (rest := []) (r1 := r7) (μ1 := μ8) tc_d6_load_37 tc_ok3_isMissing tc_w675 ⟨Nat.le_of_ble_eq_true rfl, Nat.le_of_ble_eq_true rfl⟩ tc_s3 rfl c7 rfl rfl (Nat.le_of_ble_eq_true rfl) ?_
        refine tc_if_eq (tgt := 46) tc_d6_load_40 (by decide) h (fun h => ?_) (fun h => ?_)
        · refine tc_aload_n tc_d6_load_46 0 rfl ?_
          refine tc_g6_8 tc_d6_load_47 tc_w276 ?_
          refine tc_g3_0 tc_d6_load_50 tc_w256 ?_
          refine tc_iload_n tc_d6_load_53 1 rfl ?_
          obtain ⟨hi9, h⟩ := tc_ckS h
          refine tc_iald tc_d6_load_54 tc_aL47 hi9 ?_
          refine tc_iload_n tc_d6_load_55 2 rfl ?_
          refine tc_icmp_eq (tgt := 62) tc_d6_load_56 (by decide) h (fun h => ?_) (fun h => ?_)
          · refine tc_iconst (v := 0) tc_d6_load_62 (by decide) ?_
            refine tc_istore (L' := [(5, .int 0), (0, .ref (tc_ad G 0)), (1, .int x1), (2, .int x2), (3, .int x3), (4, .int x4)]) tc_d6_load_63 (by decide) rfl ?_
            refine tc_iconst (v := 0) tc_d6_load_65 (by decide) ?_
            refine tc_istore (L' := [(6, .int 0), (5, .int 0), (0, .ref (tc_ad G 0)), (1, .int x1), (2, .int x2), (3, .int x3), (4, .int x4)]) tc_d6_load_66 (by decide) rfl ?_
            refine tc_sub [2, 3, 5, 6, 1, 0] rfl ?_
            exact (tc_b6_load_68 N N _ _ _ _ _ _ _) h
          · refine tc_bipush (v := (-13)) tc_d6_load_59 (by decide) ?_
            exact tc_iret tc_d6_load_61 rfl (tc_riS h)
        · refine tc_bipush (v := (-11)) tc_d6_load_43 (by decide) ?_
          exact tc_iret tc_d6_load_45 rfl (tc_riS h)
      · refine tc_bipush (v := (-2)) tc_d6_load_29 (by decide) ?_
        exact tc_iret tc_d6_load_31 rfl (tc_riS h)
theorem tc_c6_load (N : Nat) {x1 : Int32} {x2 : Int32} {x3 : Int32} {x4 : Int32} {μ : tc_Mem} {z : Int32 × tc_Mem} (h : tc_f6_load N x1 x2 x3 x4 μ = some z) : tc_Con l G tc_i6_load [.ref (tc_ad G 0), .int x1, .int x2, .int x3, .int x4] μ (some (.int z.1)) z.2 :=
  tc_Con.of (L := [(0, .ref (tc_ad G 0)), (1, .int x1), (2, .int x2), (3, .int x3), (4, .int x4)]) (by decide) (Nat.le_of_ble_eq_true rfl) rfl (fun X => tc_b6_load_0 N  _ _ _ _ _ _ h)
def tc_f6_log (N : Nat) (x1 : Int32) (μ : tc_Mem) : Option (Int32 × tc_Mem) :=
  if ((-1) : Int32) ≤ x1 then
    if x1 = (-1) then
      some ((μ 0 5), μ)
    else
      if (μ 0 5) ≤ x1 then
        some ((-1), μ)
      else
        tc_ck x1 40 (
        some ((μ 26 x1.toNatClampNeg), μ))
  else
    some ((-2), μ)
theorem tc_b6_log_0 (N : Nat) (x1 : Int32) (μ : tc_Mem) (z : Int32 × tc_Mem) (h : tc_f6_log N x1 μ = some z) : tc_At l G tc_i6_log (some (.int z.1)) z.2 X 0 [(0, .ref (tc_ad G 0)), (1, .int x1)] [] μ := by
  unfold tc_f6_log at h
  refine tc_iload_n tc_d6_log_0 1 rfl ?_
  refine tc_iconst (v := (-1)) tc_d6_log_1 (by decide) ?_
  refine tc_icmp_ge (tgt := 8) tc_d6_log_2 (by decide) h (fun h => ?_) (fun h => ?_)
  · refine tc_iload_n tc_d6_log_8 1 rfl ?_
    refine tc_iconst (v := (-1)) tc_d6_log_9 (by decide) ?_
    refine tc_icmp_ne (tgt := 18) tc_d6_log_10 (by decide) h (fun h => ?_) (fun h => ?_)
    · refine tc_iload_n tc_d6_log_18 1 rfl ?_
      refine tc_aload_n tc_d6_log_19 0 rfl ?_
      refine tc_g6_5 tc_d6_log_20 tc_w273 ?_
      refine tc_icmp_ge (tgt := 35) tc_d6_log_23 (by decide) h (fun h => ?_) (fun h => ?_)
      · refine tc_iconst (v := (-1)) tc_d6_log_35 (by decide) ?_
        exact tc_iret tc_d6_log_36 rfl (tc_riS h)
      · refine tc_aload_n tc_d6_log_26 0 rfl ?_
        refine tc_g6_4 tc_d6_log_27 tc_w272 ?_
        refine tc_iload_n tc_d6_log_30 1 rfl ?_
        obtain ⟨hi1, h⟩ := tc_ckS h
        refine tc_iald tc_d6_log_31 tc_aL26 hi1 ?_
        refine tc_goto (tgt := 36) tc_d6_log_32 (by decide) ?_
        exact tc_iret tc_d6_log_36 rfl (tc_riS h)
    · refine tc_aload_n tc_d6_log_13 0 rfl ?_
      refine tc_g6_5 tc_d6_log_14 tc_w273 ?_
      exact tc_iret tc_d6_log_17 rfl (tc_riS h)
  · refine tc_bipush (v := (-2)) tc_d6_log_5 (by decide) ?_
    exact tc_iret tc_d6_log_7 rfl (tc_riS h)
theorem tc_c6_log (N : Nat) {x1 : Int32} {μ : tc_Mem} {z : Int32 × tc_Mem} (h : tc_f6_log N x1 μ = some z) : tc_Con l G tc_i6_log [.ref (tc_ad G 0), .int x1] μ (some (.int z.1)) z.2 :=
  tc_Con.of (L := [(0, .ref (tc_ad G 0)), (1, .int x1)]) (by decide) (Nat.le_of_ble_eq_true rfl) rfl (fun X => tc_b6_log_0 N  _ _ _ h)
def tc_f6_moves (N : Nat) (μ : tc_Mem) : Option (Int32 × tc_Mem) :=
  tc_bd (tc_f5_moveTrains N 1 μ) fun _ μ2 =>
  some ((μ2 1 9), μ2)
theorem tc_b6_moves_0 (N : Nat) (μ : tc_Mem) (z : Int32 × tc_Mem) (h : tc_f6_moves N μ = some z) : tc_At l G tc_i6_moves (some (.int z.1)) z.2 X 0 [(0, .ref (tc_ad G 0))] [] μ := by
  unfold tc_f6_moves at h
  refine tc_aload_n tc_d6_moves_0 0 rfl ?_
  refine tc_g6_0 tc_d6_moves_1 tc_w268 ?_
  obtain ⟨r1, μ2, e1, h⟩ := tc_bdS h
  have c1 := tc_c5_moveTrains (l := l) (G := G) N tc_Y1 e1
  refine tc_callVv (As := []) (rest := []) (μ1 := μ2) tc_d6_moves_4 tc_ok5_moveTrains tc_w405 ⟨Nat.le_of_ble_eq_true rfl, Nat.le_of_ble_eq_true rfl⟩ tc_s5_1 rfl c1 rfl rfl (Nat.le_of_ble_eq_true rfl) ?_
  refine tc_aload_n tc_d6_moves_7 0 rfl ?_
  refine tc_g6_0 tc_d6_moves_8 tc_w268 ?_
  refine tc_g5_9_1 tc_d6_moves_11 tc_w139 ?_
  exact tc_iret tc_d6_moves_14 rfl (tc_riS h)
theorem tc_c6_moves (N : Nat) {μ : tc_Mem} {z : Int32 × tc_Mem} (h : tc_f6_moves N μ = some z) : tc_Con l G tc_i6_moves [.ref (tc_ad G 0)] μ (some (.int z.1)) z.2 :=
  tc_Con.of (L := [(0, .ref (tc_ad G 0))]) (by decide) (Nat.le_of_ble_eq_true rfl) rfl (fun X => tc_b6_moves_0 N  _ _ h)
def tc_f6_of (N : Nat) (x1 : Int32) (x2 : Int32) (μ : tc_Mem) : Option (Int32 × tc_Mem) :=
  tc_bd (tc_f5_has N 1 x1 μ) fun r1 μ2 =>
  if r1 = 0 then
    some ((-2), μ2)
  else
    if x2 < 0 ∨ 8 < x2 then
      some ((-2), μ2)
    else if x2 = 0 then
      tc_ck x1 8 (
      some ((μ2 3 x1.toNatClampNeg), μ2))
    else if x2 = 1 then
      tc_ck x1 8 (
      some ((μ2 4 x1.toNatClampNeg), μ2))
    else if x2 = 2 then
      tc_ck x1 8 (
      some ((μ2 5 x1.toNatClampNeg), μ2))
    else if x2 = 3 then
      tc_ck x1 8 (
      some ((μ2 2 x1.toNatClampNeg), μ2))
    else if x2 = 4 then
      tc_bd (tc_f5_leak N 1 x1 μ2) fun r7 μ8 =>
      some (r7, μ8)
    else if x2 = 5 then
      tc_bd (tc_f5_measure N 1 μ2) fun _ μ10 =>
      tc_ck x1 8 (
      some ((μ10 7 x1.toNatClampNeg), μ10))
    else if x2 = 6 then
      tc_bd (tc_f6_bit N (μ2 1 8) x1 μ2) fun r12 μ13 =>
      some (r12, μ13)
    else if x2 = 7 then
      tc_ck x1 8 (
      some ((μ2 6 x1.toNatClampNeg), μ2))
    else if x2 = 8 then
      tc_ck x1 8 (
      tc_ck (μ2 2 x1.toNatClampNeg) 6 (
      some ((tc_LOOKS (μ2 2 x1.toNatClampNeg).toNatClampNeg), μ2)))
    else none
theorem tc_b6_of_0 (N : Nat) (x1 : Int32) (x2 : Int32) (μ : tc_Mem) (z : Int32 × tc_Mem) (h : tc_f6_of N x1 x2 μ = some z) : tc_At l G tc_i6_of (some (.int z.1)) z.2 X 0 [(0, .ref (tc_ad G 0)), (1, .int x1), (2, .int x2)] [] μ := by
  unfold tc_f6_of at h
  refine tc_aload_n tc_d6_of_0 0 rfl ?_
  refine tc_g6_0 tc_d6_of_1 tc_w268 ?_
  refine tc_iload_n tc_d6_of_4 1 rfl ?_
  obtain ⟨r1, μ2, e1, h⟩ := tc_bdS h
  have c1 := tc_c5_has (l := l) (G := G) N tc_Y1 e1
  refine tc_callVi (As := [.int x1]) (rest := []) (r1 := r1) (μ1 := μ2) tc_d6_of_5 tc_ok5_has tc_w333 ⟨Nat.le_of_ble_eq_true rfl, Nat.le_of_ble_eq_true rfl⟩ tc_s5_1 rfl c1 rfl rfl (Nat.le_of_ble_eq_true rfl) ?_
  refine tc_if_ne (tgt := 14) tc_d6_of_8 (by decide) h (fun h => ?_) (fun h => ?_)
  · refine tc_iload_n tc_d6_of_14 2 rfl ?_
    by_cases hq : x2 < 0 ∨ 8 < x2
    · rw [if_pos hq] at h
      refine tc_tswD (a := 0) (b := 8) (tgt := 166) tc_d6_of_15 ⟨by decide, by decide⟩ hq (by decide) ?_
      refine tc_bipush (v := (-2)) tc_d6_of_166 (by decide) ?_
      exact tc_iret tc_d6_of_168 rfl (tc_riS h)
    · rw [if_neg hq] at h
      by_cases hq : x2 = 0
      · rw [if_pos hq] at h
        refine tc_tswK (k := 0) (off := 49) (tgt := 64) tc_d6_of_15 hq (by decide) (by decide) rfl (by decide) ?_
        refine tc_aload_n tc_d6_of_64 0 rfl ?_
        refine tc_g6_0 tc_d6_of_65 tc_w268 ?_
        refine tc_g5_2_1 tc_d6_of_68 tc_w121 ?_
        refine tc_iload_n tc_d6_of_71 1 rfl ?_
        obtain ⟨hi3, h⟩ := tc_ckS h
        refine tc_iald tc_d6_of_72 tc_aL3 hi3 ?_
        exact tc_iret tc_d6_of_73 rfl (tc_riS h)
      · rw [if_neg hq] at h
        by_cases hq : x2 = 1
        · rw [if_pos hq] at h
          refine tc_tswK (k := 1) (off := 59) (tgt := 74) tc_d6_of_15 hq (by decide) (by decide) rfl (by decide) ?_
          refine tc_aload_n tc_d6_of_74 0 rfl ?_
          refine tc_g6_0 tc_d6_of_75 tc_w268 ?_
          refine tc_g5_3_1 tc_d6_of_78 tc_w123 ?_
          refine tc_iload_n tc_d6_of_81 1 rfl ?_
          obtain ⟨hi4, h⟩ := tc_ckS h
          refine tc_iald tc_d6_of_82 tc_aL4 hi4 ?_
          exact tc_iret tc_d6_of_83 rfl (tc_riS h)
        · rw [if_neg hq] at h
          by_cases hq : x2 = 2
          · rw [if_pos hq] at h
            refine tc_tswK (k := 2) (off := 69) (tgt := 84) tc_d6_of_15 hq (by decide) (by decide) rfl (by decide) ?_
            refine tc_aload_n tc_d6_of_84 0 rfl ?_
            refine tc_g6_0 tc_d6_of_85 tc_w268 ?_
            refine tc_g5_4_1 tc_d6_of_88 tc_w125 ?_
            refine tc_iload_n tc_d6_of_91 1 rfl ?_
            obtain ⟨hi5, h⟩ := tc_ckS h
            refine tc_iald tc_d6_of_92 tc_aL5 hi5 ?_
            exact tc_iret tc_d6_of_93 rfl (tc_riS h)
          · rw [if_neg hq] at h
            by_cases hq : x2 = 3
            · rw [if_pos hq] at h
              refine tc_tswK (k := 3) (off := 79) (tgt := 94) tc_d6_of_15 hq (by decide) (by decide) rfl (by decide) ?_
              refine tc_aload_n tc_d6_of_94 0 rfl ?_
              refine tc_g6_0 tc_d6_of_95 tc_w268 ?_
              refine tc_g5_1_1 tc_d6_of_98 tc_w118 ?_
              refine tc_iload_n tc_d6_of_101 1 rfl ?_
              obtain ⟨hi6, h⟩ := tc_ckS h
              refine tc_iald tc_d6_of_102 tc_aL2 hi6 ?_
              exact tc_iret tc_d6_of_103 rfl (tc_riS h)
            · rw [if_neg hq] at h
              by_cases hq : x2 = 4
              · rw [if_pos hq] at h
                refine tc_tswK (k := 4) (off := 89) (tgt := 104) tc_d6_of_15 hq (by decide) (by decide) rfl (by decide) ?_
                refine tc_aload_n tc_d6_of_104 0 rfl ?_
                refine tc_g6_0 tc_d6_of_105 tc_w268 ?_
                refine tc_iload_n tc_d6_of_108 1 rfl ?_
                obtain ⟨r7, μ8, e7, h⟩ := tc_bdS h
                have c7 := tc_c5_leak (l := l) (G := G) N tc_Y1 e7
                refine tc_callVi (As := [.int x1]) (rest := []) (r1 := r7) (μ1 := μ8) tc_d6_of_109 tc_ok5_leak tc_w341 ⟨Nat.le_of_ble_eq_true rfl, Nat.le_of_ble_eq_true rfl⟩ tc_s5_1 rfl c7 rfl rfl (Nat.le_of_ble_eq_true rfl) ?_
                exact tc_iret tc_d6_of_112 rfl (tc_riS h)
              · rw [if_neg hq] at h
                by_cases hq : x2 = 5
                · rw [if_pos hq] at h
                  refine tc_tswK (k := 5) (off := 98) (tgt := 113) tc_d6_of_15 hq (by decide) (by decide) rfl (by decide) ?_
                  refine tc_aload_n tc_d6_of_113 0 rfl ?_
                  refine tc_g6_0 tc_d6_of_114 tc_w268 ?_
                  obtain ⟨r9, μ10, e9, h⟩ := tc_bdS h
                  have c9 := tc_c5_measure (l := l) (G := G) N tc_Y1 e9
                  refine tc_callVv (As := []) (rest := []) (μ1 := μ10) tc_d6_of_117 tc_ok5_measure tc_w345 ⟨Nat.le_of_ble_eq_true rfl, Nat.le_of_ble_eq_true rfl⟩ tc_s5_1 rfl c9 rfl rfl (Nat.le_of_ble_eq_true rfl) ?_
                  refine tc_aload_n tc_d6_of_120 0 rfl ?_
                  refine tc_g6_0 tc_d6_of_121 tc_w268 ?_
                  refine tc_g5_6_1 tc_d6_of_124 tc_w129 ?_
                  refine tc_iload_n tc_d6_of_127 1 rfl ?_
                  obtain ⟨hi11, h⟩ := tc_ckS h
                  refine tc_iald tc_d6_of_128 tc_aL7 hi11 ?_
                  exact tc_iret tc_d6_of_129 rfl (tc_riS h)
                · rw [if_neg hq] at h
                  by_cases hq : x2 = 6
                  · rw [if_pos hq] at h
                    refine tc_tswK (k := 6) (off := 115) (tgt := 130) tc_d6_of_15 hq (by decide) (by decide) rfl (by decide) ?_
                    refine tc_aload_n tc_d6_of_130 0 rfl ?_
                    refine tc_g6_0 tc_d6_of_131 tc_w268 ?_
                    refine tc_g5_8_1 tc_d6_of_134 tc_w136 ?_
                    refine tc_iload_n tc_d6_of_137 1 rfl ?_
                    obtain ⟨r12, μ13, e12, h⟩ := tc_bdS h
                    have c12 := tc_c6_bit (l := l) (G := G) N e12
                    refine tc_callSi (As := [.int (μ2 1 8), .int x1]) (rest := []) (r1 := r12) (μ1 := μ13) tc_d6_of_138 tc_ok6_bit tc_w369 ⟨Nat.le_of_ble_eq_true rfl, Nat.le_of_ble_eq_true rfl⟩ c12 rfl rfl (Nat.le_of_ble_eq_true rfl) ?_
                    exact tc_iret tc_d6_of_141 rfl (tc_riS h)
                  · rw [if_neg hq] at h
                    by_cases hq : x2 = 7
                    · rw [if_pos hq] at h
                      refine tc_tswK (k := 7) (off := 127) (tgt := 142) tc_d6_of_15 hq (by decide) (by decide) rfl (by decide) ?_
                      refine tc_aload_n tc_d6_of_142 0 rfl ?_
                      refine tc_g6_0 tc_d6_of_143 tc_w268 ?_
                      refine tc_g5_5_1 tc_d6_of_146 tc_w127 ?_
                      refine tc_iload_n tc_d6_of_149 1 rfl ?_
                      obtain ⟨hi14, h⟩ := tc_ckS h
                      refine tc_iald tc_d6_of_150 tc_aL6 hi14 ?_
                      exact tc_iret tc_d6_of_151 rfl (tc_riS h)
                    · rw [if_neg hq] at h
                      by_cases hq : x2 = 8
                      · rw [if_pos hq] at h
                        refine tc_tswK (k := 8) (off := 137) (tgt := 152) tc_d6_of_15 hq (by decide) (by decide) rfl (by decide) ?_
                        refine tc_gets tc_d6_of_152 tc_w372 tc_tab0 ?_
                        refine tc_aload_n tc_d6_of_155 0 rfl ?_
                        refine tc_g6_0 tc_d6_of_156 tc_w268 ?_
                        refine tc_g5_1_1 tc_d6_of_159 tc_w118 ?_
                        refine tc_iload_n tc_d6_of_162 1 rfl ?_
                        obtain ⟨hi15, h⟩ := tc_ckS h
                        refine tc_iald tc_d6_of_163 tc_aL2 hi15 ?_
                        obtain ⟨hi16, h⟩ := tc_ckS h
                        refine tc_tld tc_d6_of_164 tc_tab0 hi16 ?_
                        exact tc_iret tc_d6_of_165 rfl (tc_riS h)
                      · rw [if_neg hq] at h
                        cases h
  · refine tc_bipush (v := (-2)) tc_d6_of_11 (by decide) ?_
    exact tc_iret tc_d6_of_13 rfl (tc_riS h)
theorem tc_c6_of (N : Nat) {x1 : Int32} {x2 : Int32} {μ : tc_Mem} {z : Int32 × tc_Mem} (h : tc_f6_of N x1 x2 μ = some z) : tc_Con l G tc_i6_of [.ref (tc_ad G 0), .int x1, .int x2] μ (some (.int z.1)) z.2 :=
  tc_Con.of (L := [(0, .ref (tc_ad G 0)), (1, .int x1), (2, .int x2)]) (by decide) (Nat.le_of_ble_eq_true rfl) rfl (fun X => tc_b6_of_0 N  _ _ _ _ h)
def tc_f6_order (N : Nat) (x1 : Int32) (μ : tc_Mem) : Option (Int32 × tc_Mem) :=
  tc_bd (tc_f6_isWithin N x1 0 1 μ) fun r1 μ2 =>
  if r1 = 0 then
    some ((-2), μ2)
  else
    tc_bd (tc_f2_fromLast N x1 μ2) fun r3 μ4 =>
    some (r3, μ4)
theorem tc_b6_order_0 (N : Nat) (x1 : Int32) (μ : tc_Mem) (z : Int32 × tc_Mem) (h : tc_f6_order N x1 μ = some z) : tc_At l G tc_i6_order (some (.int z.1)) z.2 X 0 [(0, .ref (tc_ad G 0)), (1, .int x1)] [] μ := by
  unfold tc_f6_order at h
  refine tc_iload_n tc_d6_order_0 1 rfl ?_
  refine tc_iconst (v := 0) tc_d6_order_1 (by decide) ?_
  refine tc_iconst (v := 1) tc_d6_order_2 (by decide) ?_
  obtain ⟨r1, μ2, e1, h⟩ := tc_bdS h
  have c1 := tc_c6_isWithin (l := l) (G := G) N e1
  refine tc_callSi (As := [.int x1, .int 0, .int 1]) (rest := []) (r1 := r1) (μ1 := μ2) tc_d6_order_3 tc_ok6_isWithin tc_w303 ⟨Nat.le_of_ble_eq_true rfl, Nat.le_of_ble_eq_true rfl⟩ c1 rfl rfl (Nat.le_of_ble_eq_true rfl) ?_
  refine tc_if_eq (tgt := 20) tc_d6_order_6 (by decide) h (fun h => ?_) (fun h => ?_)
  · refine tc_bipush (v := (-2)) tc_d6_order_20 (by decide) ?_
    exact tc_iret tc_d6_order_22 rfl (tc_riS h)
  · refine tc_aload_n tc_d6_order_9 0 rfl ?_
    refine tc_g6_6 tc_d6_order_10 tc_w274 ?_
    refine tc_iload_n tc_d6_order_13 1 rfl ?_
    obtain ⟨r3, μ4, e3, h⟩ := tc_bdS h
    have c3 := tc_c2_fromLast (l := l) (G := G) N e3
    refine tc_callVi (As := [.int x1]) (rest := []) (r1 := r3) (μ1 := μ4) tc_d6_order_14 tc_ok2_fromLast tc_w559 ⟨Nat.le_of_ble_eq_true rfl, Nat.le_of_ble_eq_true rfl⟩ tc_s2 rfl c3 rfl rfl (Nat.le_of_ble_eq_true rfl) ?_
    refine tc_goto (tgt := 22) tc_d6_order_17 (by decide) ?_
    exact tc_iret tc_d6_order_22 rfl (tc_riS h)
theorem tc_c6_order (N : Nat) {x1 : Int32} {μ : tc_Mem} {z : Int32 × tc_Mem} (h : tc_f6_order N x1 μ = some z) : tc_Con l G tc_i6_order [.ref (tc_ad G 0), .int x1] μ (some (.int z.1)) z.2 :=
  tc_Con.of (L := [(0, .ref (tc_ad G 0)), (1, .int x1)]) (by decide) (Nat.le_of_ble_eq_true rfl) rfl (fun X => tc_b6_order_0 N  _ _ _ h)
def tc_f6_pick (N : Nat) (x1 : Int32) (μ : tc_Mem) : Option (Int32 × tc_Mem) :=
  tc_bd (tc_f6_isWithin N x1 0 1 μ) fun r1 μ2 =>
  if r1 = 0 then
    some ((-2), μ2)
  else
    if x1 = 0 then
      tc_bd (tc_f2_leastSafePick N μ2) fun r5 μ6 =>
      some (r5, μ6)
    else
      tc_bd (tc_f2_greatestFairPick N μ2) fun r3 μ4 =>
      some (r3, μ4)
theorem tc_b6_pick_0 (N : Nat) (x1 : Int32) (μ : tc_Mem) (z : Int32 × tc_Mem) (h : tc_f6_pick N x1 μ = some z) : tc_At l G tc_i6_pick (some (.int z.1)) z.2 X 0 [(0, .ref (tc_ad G 0)), (1, .int x1)] [] μ := by
  unfold tc_f6_pick at h
  refine tc_iload_n tc_d6_pick_0 1 rfl ?_
  refine tc_iconst (v := 0) tc_d6_pick_1 (by decide) ?_
  refine tc_iconst (v := 1) tc_d6_pick_2 (by decide) ?_
  obtain ⟨r1, μ2, e1, h⟩ := tc_bdS h
  have c1 := tc_c6_isWithin (l := l) (G := G) N e1
  refine tc_callSi (As := [.int x1, .int 0, .int 1]) (rest := []) (r1 := r1) (μ1 := μ2) tc_d6_pick_3 tc_ok6_isWithin tc_w303 ⟨Nat.le_of_ble_eq_true rfl, Nat.le_of_ble_eq_true rfl⟩ c1 rfl rfl (Nat.le_of_ble_eq_true rfl) ?_
  refine tc_if_ne (tgt := 12) tc_d6_pick_6 (by decide) h (fun h => ?_) (fun h => ?_)
  · refine tc_iload_n tc_d6_pick_12 1 rfl ?_
    refine tc_if_ne (tgt := 26) tc_d6_pick_13 (by decide) h (fun h => ?_) (fun h => ?_)
    · refine tc_aload_n tc_d6_pick_26 0 rfl ?_
      refine tc_g6_6 tc_d6_pick_27 tc_w274 ?_
      obtain ⟨r3, μ4, e3, h⟩ := tc_bdS h
      have c3 := tc_c2_greatestFairPick (l := l) (G := G) N e3
      refine tc_callVi (As := []) (rest := []) (r1 := r3) (μ1 := μ4) tc_d6_pick_30 tc_ok2_greatestFairPick tc_w624 ⟨Nat.le_of_ble_eq_true rfl, Nat.le_of_ble_eq_true rfl⟩ tc_s2 rfl c3 rfl rfl (Nat.le_of_ble_eq_true rfl) ?_
      exact tc_iret tc_d6_pick_33 rfl (tc_riS h)
    · refine tc_aload_n tc_d6_pick_16 0 rfl ?_
      refine tc_g6_6 tc_d6_pick_17 tc_w274 ?_
      obtain ⟨r5, μ6, e5, h⟩ := tc_bdS h
      have c5 := tc_c2_leastSafePick (l := l) (G := G) N e5
      refine tc_callVi (As := []) (rest := []) (r1 := r5) (μ1 := μ6) tc_d6_pick_20 tc_ok2_leastSafePick tc_w619 ⟨Nat.le_of_ble_eq_true rfl, Nat.le_of_ble_eq_true rfl⟩ tc_s2 rfl c5 rfl rfl (Nat.le_of_ble_eq_true rfl) ?_
      refine tc_goto (tgt := 33) tc_d6_pick_23 (by decide) ?_
      exact tc_iret tc_d6_pick_33 rfl (tc_riS h)
  · refine tc_bipush (v := (-2)) tc_d6_pick_9 (by decide) ?_
    exact tc_iret tc_d6_pick_11 rfl (tc_riS h)
theorem tc_c6_pick (N : Nat) {x1 : Int32} {μ : tc_Mem} {z : Int32 × tc_Mem} (h : tc_f6_pick N x1 μ = some z) : tc_Con l G tc_i6_pick [.ref (tc_ad G 0), .int x1] μ (some (.int z.1)) z.2 :=
  tc_Con.of (L := [(0, .ref (tc_ad G 0)), (1, .int x1)]) (by decide) (Nat.le_of_ble_eq_true rfl) rfl (fun X => tc_b6_pick_0 N  _ _ _ h)
def tc_f6_proof (N : Nat) (x1 : Int32) (μ : tc_Mem) : Option (Int32 × tc_Mem) :=
  tc_bd (tc_f6_isWithin N x1 0 1 μ) fun r1 μ2 =>
  if r1 = 0 then
    some ((-2), μ2)
  else
    if x1 = 0 then
      tc_bd (tc_f2_failingCases N μ2) fun r5 μ6 =>
      some (r5, μ6)
    else
      tc_bd (tc_f2_firstFailingCase N (μ2 1 10) μ2) fun r3 μ4 =>
      some (r3, μ4)
theorem tc_b6_proof_0 (N : Nat) (x1 : Int32) (μ : tc_Mem) (z : Int32 × tc_Mem) (h : tc_f6_proof N x1 μ = some z) : tc_At l G tc_i6_proof (some (.int z.1)) z.2 X 0 [(0, .ref (tc_ad G 0)), (1, .int x1)] [] μ := by
  unfold tc_f6_proof at h
  refine tc_iload_n tc_d6_proof_0 1 rfl ?_
  refine tc_iconst (v := 0) tc_d6_proof_1 (by decide) ?_
  refine tc_iconst (v := 1) tc_d6_proof_2 (by decide) ?_
  obtain ⟨r1, μ2, e1, h⟩ := tc_bdS h
  have c1 := tc_c6_isWithin (l := l) (G := G) N e1
  refine tc_callSi (As := [.int x1, .int 0, .int 1]) (rest := []) (r1 := r1) (μ1 := μ2) tc_d6_proof_3 tc_ok6_isWithin tc_w303 ⟨Nat.le_of_ble_eq_true rfl, Nat.le_of_ble_eq_true rfl⟩ c1 rfl rfl (Nat.le_of_ble_eq_true rfl) ?_
  refine tc_if_ne (tgt := 12) tc_d6_proof_6 (by decide) h (fun h => ?_) (fun h => ?_)
  · refine tc_iload_n tc_d6_proof_12 1 rfl ?_
    refine tc_if_ne (tgt := 26) tc_d6_proof_13 (by decide) h (fun h => ?_) (fun h => ?_)
    · refine tc_aload_n tc_d6_proof_26 0 rfl ?_
      refine tc_g6_6 tc_d6_proof_27 tc_w274 ?_
      refine tc_aload_n tc_d6_proof_30 0 rfl ?_
      refine tc_g6_0 tc_d6_proof_31 tc_w268 ?_
      refine tc_g5_10_1 tc_d6_proof_34 tc_w142 ?_
      obtain ⟨r3, μ4, e3, h⟩ := tc_bdS h
      have c3 := tc_c2_firstFailingCase (l := l) (G := G) N e3
      refine tc_callVi (As := [.int (μ2 1 10)]) (rest := []) (r1 := r3) (μ1 := μ4) tc_d6_proof_37 tc_ok2_firstFailingCase tc_w611 ⟨Nat.le_of_ble_eq_true rfl, Nat.le_of_ble_eq_true rfl⟩ tc_s2 rfl c3 rfl rfl (Nat.le_of_ble_eq_true rfl) ?_
      exact tc_iret tc_d6_proof_40 rfl (tc_riS h)
    · refine tc_aload_n tc_d6_proof_16 0 rfl ?_
      refine tc_g6_6 tc_d6_proof_17 tc_w274 ?_
      obtain ⟨r5, μ6, e5, h⟩ := tc_bdS h
      have c5 := tc_c2_failingCases (l := l) (G := G) N e5
      refine tc_callVi (As := []) (rest := []) (r1 := r5) (μ1 := μ6) tc_d6_proof_20 tc_ok2_failingCases tc_w598 ⟨Nat.le_of_ble_eq_true rfl, Nat.le_of_ble_eq_true rfl⟩ tc_s2 rfl c5 rfl rfl (Nat.le_of_ble_eq_true rfl) ?_
      refine tc_goto (tgt := 40) tc_d6_proof_23 (by decide) ?_
      exact tc_iret tc_d6_proof_40 rfl (tc_riS h)
  · refine tc_bipush (v := (-2)) tc_d6_proof_9 (by decide) ?_
    exact tc_iret tc_d6_proof_11 rfl (tc_riS h)
theorem tc_c6_proof (N : Nat) {x1 : Int32} {μ : tc_Mem} {z : Int32 × tc_Mem} (h : tc_f6_proof N x1 μ = some z) : tc_Con l G tc_i6_proof [.ref (tc_ad G 0), .int x1] μ (some (.int z.1)) z.2 :=
  tc_Con.of (L := [(0, .ref (tc_ad G 0)), (1, .int x1)]) (by decide) (Nat.le_of_ble_eq_true rfl) rfl (fun X => tc_b6_proof_0 N  _ _ _ h)
def tc_f6_put (N : Nat) (x1 : Int32) (x2 : Int32) (x3 : Int32) (μ : tc_Mem) : Option (Int32 × tc_Mem) :=
  tc_bd (tc_f3_has N x1 μ) fun r1 μ2 =>
  if r1 = 0 then
    some ((-2), μ2)
  else
    tc_bd (tc_f3_isMissing N x1 μ2) fun r3 μ4 =>
    if r3 = 0 then
      tc_bd (tc_f3_holds N x1 x2.toInt64 1 μ4) fun r5 μ6 =>
      if r5 = 0 then
        some ((-12), μ6)
      else
        tc_bd (tc_f3_lay N x1 x2 x3 μ6) fun _ μ8 =>
        some (1, μ8)
    else
      some ((-11), μ4)
theorem tc_b6_put_0 (N : Nat) (x1 : Int32) (x2 : Int32) (x3 : Int32) (μ : tc_Mem) (z : Int32 × tc_Mem) (h : tc_f6_put N x1 x2 x3 μ = some z) : tc_At l G tc_i6_put (some (.int z.1)) z.2 X 0 [(0, .ref (tc_ad G 0)), (1, .int x1), (2, .int x2), (3, .int x3)] [] μ := by
  unfold tc_f6_put at h
  refine tc_aload_n tc_d6_put_0 0 rfl ?_
  refine tc_g6_8 tc_d6_put_1 tc_w276 ?_
  refine tc_iload_n tc_d6_put_4 1 rfl ?_
  obtain ⟨r1, μ2, e1, h⟩ := tc_bdS h
  have c1 := tc_c3_has (l := l) (G := G) N e1
  refine tc_callVi (As := [.int x1]) (rest := []) (r1 := r1) (μ1 := μ2) tc_d6_put_5 tc_ok3_has tc_w670 ⟨Nat.le_of_ble_eq_true rfl, Nat.le_of_ble_eq_true rfl⟩ tc_s3 rfl c1 rfl rfl (Nat.le_of_ble_eq_true rfl) ?_
  refine tc_if_ne (tgt := 14) tc_d6_put_8 (by decide) h (fun h => ?_) (fun h => ?_)
  · refine tc_aload_n tc_d6_put_14 0 rfl ?_
    refine tc_g6_8 tc_d6_put_15 tc_w276 ?_
    refine tc_iload_n tc_d6_put_18 1 rfl ?_
    obtain ⟨r3, μ4, e3, h⟩ := tc_bdS h
    have c3 := tc_c3_isMissing (l := l) (G := G) N e3
    refine tc_callVi (As := [.int x1]) (rest := []) (r1 := r3) (μ1 := μ4) tc_d6_put_19 tc_ok3_isMissing tc_w675 ⟨Nat.le_of_ble_eq_true rfl, Nat.le_of_ble_eq_true rfl⟩ tc_s3 rfl c3 rfl rfl (Nat.le_of_ble_eq_true rfl) ?_
    refine tc_if_eq (tgt := 28) tc_d6_put_22 (by decide) h (fun h => ?_) (fun h => ?_)
    · refine tc_aload_n tc_d6_put_28 0 rfl ?_
      refine tc_g6_8 tc_d6_put_29 tc_w276 ?_
      refine tc_iload_n tc_d6_put_32 1 rfl ?_
      refine tc_iload_n tc_d6_put_33 2 rfl ?_
      refine tc_i2l tc_d6_put_34 ?_
      refine tc_lconst (v := 1) tc_d6_put_35 (by decide) ?_
      obtain ⟨r5, μ6, e5, h⟩ := tc_bdS h
      have c5 := tc_c3_holds (l := l) (G := G) N e5
      refine tc_callVi (As := [.int x1, .long x2.toInt64, .long 1]) (rest := []) (r1 := r5) (μ1 := μ6) tc_d6_put_36 tc_ok3_holds tc_w840 ⟨Nat.le_of_ble_eq_true rfl, Nat.le_of_ble_eq_true rfl⟩ tc_s3 rfl c5 rfl rfl (Nat.le_of_ble_eq_true rfl) ?_
      refine tc_if_ne (tgt := 45) tc_d6_put_39 (by decide) h (fun h => ?_) (fun h => ?_)
      · refine tc_aload_n tc_d6_put_45 0 rfl ?_
        refine tc_g6_8 tc_d6_put_46 tc_w276 ?_
        refine tc_iload_n tc_d6_put_49 1 rfl ?_
        refine tc_iload_n tc_d6_put_50 2 rfl ?_
        refine tc_iload_n tc_d6_put_51 3 rfl ?_
        obtain ⟨r7, μ8, e7, h⟩ := tc_bdS h
        have c7 := tc_c3_lay (l := l) (G := G) N e7
        refine tc_callVv (As := [.int x1, .int x2, .int x3]) (rest := []) (μ1 := μ8) tc_d6_put_52 tc_ok3_lay tc_w699 ⟨Nat.le_of_ble_eq_true rfl, Nat.le_of_ble_eq_true rfl⟩ tc_s3 rfl c7 rfl rfl (Nat.le_of_ble_eq_true rfl) ?_
        refine tc_iconst (v := 1) tc_d6_put_55 (by decide) ?_
        exact tc_iret tc_d6_put_56 rfl (tc_riS h)
      · refine tc_bipush (v := (-12)) tc_d6_put_42 (by decide) ?_
        exact tc_iret tc_d6_put_44 rfl (tc_riS h)
    · refine tc_bipush (v := (-11)) tc_d6_put_25 (by decide) ?_
      exact tc_iret tc_d6_put_27 rfl (tc_riS h)
  · refine tc_bipush (v := (-2)) tc_d6_put_11 (by decide) ?_
    exact tc_iret tc_d6_put_13 rfl (tc_riS h)
theorem tc_c6_put (N : Nat) {x1 : Int32} {x2 : Int32} {x3 : Int32} {μ : tc_Mem} {z : Int32 × tc_Mem} (h : tc_f6_put N x1 x2 x3 μ = some z) : tc_Con l G tc_i6_put [.ref (tc_ad G 0), .int x1, .int x2, .int x3] μ (some (.int z.1)) z.2 :=
  tc_Con.of (L := [(0, .ref (tc_ad G 0)), (1, .int x1), (2, .int x2), (3, .int x3)]) (by decide) (Nat.le_of_ble_eq_true rfl) rfl (fun X => tc_b6_put_0 N  _ _ _ _ _ h)
def tc_f6_run (N : Nat) (x1 : Int32) (x2 : Int32) (μ : tc_Mem) : Option (Int32 × tc_Mem) :=
  tc_bd (tc_f6_isWithin N x1 0 20 μ) fun r1 μ2 =>
  if r1 = 0 then
    some ((-2), μ2)
  else
    tc_bd (tc_f6_isWithin N x2 0 3 μ2) fun r3 μ4 =>
    if r3 = 0 then
      some ((-2), μ4)
    else
      tc_bd (tc_f2_ran N x1 x2 μ4) fun r5 μ6 =>
      some (r5, μ6)
theorem tc_b6_run_0 (N : Nat) (x1 : Int32) (x2 : Int32) (μ : tc_Mem) (z : Int32 × tc_Mem) (h : tc_f6_run N x1 x2 μ = some z) : tc_At l G tc_i6_run (some (.int z.1)) z.2 X 0 [(0, .ref (tc_ad G 0)), (1, .int x1), (2, .int x2)] [] μ := by
  unfold tc_f6_run at h
  refine tc_iload_n tc_d6_run_0 1 rfl ?_
  refine tc_iconst (v := 0) tc_d6_run_1 (by decide) ?_
  refine tc_bipush (v := 20) tc_d6_run_2 (by decide) ?_
  obtain ⟨r1, μ2, e1, h⟩ := tc_bdS h
  have c1 := tc_c6_isWithin (l := l) (G := G) N e1
  refine tc_callSi (As := [.int x1, .int 0, .int 20]) (rest := []) (r1 := r1) (μ1 := μ2) tc_d6_run_4 tc_ok6_isWithin tc_w303 ⟨Nat.le_of_ble_eq_true rfl, Nat.le_of_ble_eq_true rfl⟩ c1 rfl rfl (Nat.le_of_ble_eq_true rfl) ?_
  refine tc_if_eq (tgt := 19) tc_d6_run_7 (by decide) h (fun h => ?_) (fun h => ?_)
  · refine tc_bipush (v := (-2)) tc_d6_run_19 (by decide) ?_
    exact tc_iret tc_d6_run_21 rfl (tc_riS h)
  · refine tc_iload_n tc_d6_run_10 2 rfl ?_
    refine tc_iconst (v := 0) tc_d6_run_11 (by decide) ?_
    refine tc_iconst (v := 3) tc_d6_run_12 (by decide) ?_
    obtain ⟨r3, μ4, e3, h⟩ := tc_bdS h
    have c3 := tc_c6_isWithin (l := l) (G := G) N e3
    refine tc_callSi (As := [.int x2, .int 0, .int 3]) (rest := []) (r1 := r3) (μ1 := μ4) tc_d6_run_13 tc_ok6_isWithin tc_w303 ⟨Nat.le_of_ble_eq_true rfl, Nat.le_of_ble_eq_true rfl⟩ c3 rfl rfl (Nat.le_of_ble_eq_true rfl) ?_
    refine tc_if_ne (tgt := 22) tc_d6_run_16 (by decide) h (fun h => ?_) (fun h => ?_)
    · refine tc_aload_n tc_d6_run_22 0 rfl ?_
      refine tc_g6_6 tc_d6_run_23 tc_w274 ?_
      refine tc_iload_n tc_d6_run_26 1 rfl ?_
      refine tc_iload_n tc_d6_run_27 2 rfl ?_
      obtain ⟨r5, μ6, e5, h⟩ := tc_bdS h
      have c5 := tc_c2_ran (l := l) (G := G) N e5
      refine tc_callVi (As := [.int x1, .int x2]) (rest := []) (r1 := r5) (μ1 := μ6) tc_d6_run_28 tc_ok2_ran tc_w524 ⟨Nat.le_of_ble_eq_true rfl, Nat.le_of_ble_eq_true rfl⟩ tc_s2 rfl c5 rfl rfl (Nat.le_of_ble_eq_true rfl) ?_
      exact tc_iret tc_d6_run_31 rfl (tc_riS h)
    · refine tc_bipush (v := (-2)) tc_d6_run_19 (by decide) ?_
      exact tc_iret tc_d6_run_21 rfl (tc_riS h)
theorem tc_c6_run (N : Nat) {x1 : Int32} {x2 : Int32} {μ : tc_Mem} {z : Int32 × tc_Mem} (h : tc_f6_run N x1 x2 μ = some z) : tc_Con l G tc_i6_run [.ref (tc_ad G 0), .int x1, .int x2] μ (some (.int z.1)) z.2 :=
  tc_Con.of (L := [(0, .ref (tc_ad G 0)), (1, .int x1), (2, .int x2)]) (by decide) (Nat.le_of_ble_eq_true rfl) rfl (fun X => tc_b6_run_0 N  _ _ _ _ h)
def tc_f6_seen (N : Nat) (x1 : Int32) (μ : tc_Mem) : Option (Int32 × tc_Mem) :=
  tc_bd (tc_f5_has N 1 x1 μ) fun r1 μ2 =>
  if r1 = 0 then
    some ((-2), μ2)
  else
    tc_bd (tc_f2_seesBreak N x1 μ2) fun r3 μ4 =>
    if r3 = 0 then
      some (0, μ4)
    else
      some (1, μ4)
theorem tc_b6_seen_0 (N : Nat) (x1 : Int32) (μ : tc_Mem) (z : Int32 × tc_Mem) (h : tc_f6_seen N x1 μ = some z) : tc_At l G tc_i6_seen (some (.int z.1)) z.2 X 0 [(0, .ref (tc_ad G 0)), (1, .int x1)] [] μ := by
  unfold tc_f6_seen at h
  refine tc_aload_n tc_d6_seen_0 0 rfl ?_
  refine tc_g6_0 tc_d6_seen_1 tc_w268 ?_
  refine tc_iload_n tc_d6_seen_4 1 rfl ?_
  obtain ⟨r1, μ2, e1, h⟩ := tc_bdS h
  have c1 := tc_c5_has (l := l) (G := G) N tc_Y1 e1
  refine tc_callVi (As := [.int x1]) (rest := []) (r1 := r1) (μ1 := μ2) tc_d6_seen_5 tc_ok5_has tc_w333 ⟨Nat.le_of_ble_eq_true rfl, Nat.le_of_ble_eq_true rfl⟩ tc_s5_1 rfl c1 rfl rfl (Nat.le_of_ble_eq_true rfl) ?_
  refine tc_if_ne (tgt := 14) tc_d6_seen_8 (by decide) h (fun h => ?_) (fun h => ?_)
  · refine tc_aload_n tc_d6_seen_14 0 rfl ?_
    refine tc_g6_6 tc_d6_seen_15 tc_w274 ?_
    refine tc_iload_n tc_d6_seen_18 1 rfl ?_
    obtain ⟨r3, μ4, e3, h⟩ := tc_bdS h
    have c3 := tc_c2_seesBreak (l := l) (G := G) N e3
    refine tc_callVi (As := [.int x1]) (rest := []) (r1 := r3) (μ1 := μ4) tc_d6_seen_19 tc_ok2_seesBreak tc_w568 ⟨Nat.le_of_ble_eq_true rfl, Nat.le_of_ble_eq_true rfl⟩ tc_s2 rfl c3 rfl rfl (Nat.le_of_ble_eq_true rfl) ?_
    refine tc_if_eq (tgt := 29) tc_d6_seen_22 (by decide) h (fun h => ?_) (fun h => ?_)
    · refine tc_iconst (v := 0) tc_d6_seen_29 (by decide) ?_
      exact tc_iret tc_d6_seen_30 rfl (tc_riS h)
    · refine tc_iconst (v := 1) tc_d6_seen_25 (by decide) ?_
      refine tc_goto (tgt := 30) tc_d6_seen_26 (by decide) ?_
      exact tc_iret tc_d6_seen_30 rfl (tc_riS h)
  · refine tc_bipush (v := (-2)) tc_d6_seen_11 (by decide) ?_
    exact tc_iret tc_d6_seen_13 rfl (tc_riS h)
theorem tc_c6_seen (N : Nat) {x1 : Int32} {μ : tc_Mem} {z : Int32 × tc_Mem} (h : tc_f6_seen N x1 μ = some z) : tc_Con l G tc_i6_seen [.ref (tc_ad G 0), .int x1] μ (some (.int z.1)) z.2 :=
  tc_Con.of (L := [(0, .ref (tc_ad G 0)), (1, .int x1)]) (by decide) (Nat.le_of_ble_eq_true rfl) rfl (fun X => tc_b6_seen_0 N  _ _ _ h)
def tc_f6_set (N : Nat) (x1 : Int32) (x2 : Int32) (x3 : Int32) (μ : tc_Mem) : Option (Int32 × tc_Mem) :=
  tc_bd (tc_f5_has N 1 x1 μ) fun r1 μ2 =>
  if r1 = 0 then
    some ((-2), μ2)
  else
    tc_bd (tc_f6_isTrait N x2 x3 μ2) fun r3 μ4 =>
    if r3 = 0 then
      some ((-2), μ4)
    else
      tc_bd (tc_f6_of N x1 x2 μ4) fun r5 μ6 =>
      tc_bd (tc_f5_lay N 1 x1 x2 x3 μ6) fun _ μ8 =>
      some (r5, μ8)
theorem tc_b6_set_0 (N : Nat) (x1 : Int32) (x2 : Int32) (x3 : Int32) (μ : tc_Mem) (z : Int32 × tc_Mem) (h : tc_f6_set N x1 x2 x3 μ = some z) : tc_At l G tc_i6_set (some (.int z.1)) z.2 X 0 [(0, .ref (tc_ad G 0)), (1, .int x1), (2, .int x2), (3, .int x3)] [] μ := by
  unfold tc_f6_set at h
  refine tc_aload_n tc_d6_set_0 0 rfl ?_
  refine tc_g6_0 tc_d6_set_1 tc_w268 ?_
  refine tc_iload_n tc_d6_set_4 1 rfl ?_
  obtain ⟨r1, μ2, e1, h⟩ := tc_bdS h
  have c1 := tc_c5_has (l := l) (G := G) N tc_Y1 e1
  refine tc_callVi (As := [.int x1]) (rest := []) (r1 := r1) (μ1 := μ2) tc_d6_set_5 tc_ok5_has tc_w333 ⟨Nat.le_of_ble_eq_true rfl, Nat.le_of_ble_eq_true rfl⟩ tc_s5_1 rfl c1 rfl rfl (Nat.le_of_ble_eq_true rfl) ?_
  refine tc_if_eq (tgt := 19) tc_d6_set_8 (by decide) h (fun h => ?_) (fun h => ?_)
  · refine tc_bipush (v := (-2)) tc_d6_set_19 (by decide) ?_
    exact tc_iret tc_d6_set_21 rfl (tc_riS h)
  · refine tc_iload_n tc_d6_set_11 2 rfl ?_
    refine tc_iload_n tc_d6_set_12 3 rfl ?_
    obtain ⟨r3, μ4, e3, h⟩ := tc_bdS h
    have c3 := tc_c6_isTrait (l := l) (G := G) N e3
    refine tc_callSi (As := [.int x2, .int x3]) (rest := []) (r1 := r3) (μ1 := μ4) tc_d6_set_13 tc_ok6_isTrait tc_w300 ⟨Nat.le_of_ble_eq_true rfl, Nat.le_of_ble_eq_true rfl⟩ c3 rfl rfl (Nat.le_of_ble_eq_true rfl) ?_
    refine tc_if_ne (tgt := 22) tc_d6_set_16 (by decide) h (fun h => ?_) (fun h => ?_)
    · refine tc_aload_n tc_d6_set_22 0 rfl ?_
      refine tc_iload_n tc_d6_set_23 1 rfl ?_
      refine tc_iload_n tc_d6_set_24 2 rfl ?_
      obtain ⟨r5, μ6, e5, h⟩ := tc_bdS h
      have c5 := tc_c6_of (l := l) (G := G) N e5
      refine tc_callVi (As := [.int x1, .int x2]) (rest := []) (r1 := r5) (μ1 := μ6) tc_d6_set_25 tc_ok6_of tc_w337 ⟨Nat.le_of_ble_eq_true rfl, Nat.le_of_ble_eq_true rfl⟩ tc_s6 rfl c5 rfl rfl (Nat.le_of_ble_eq_true rfl) ?_
      refine tc_istore (L' := [(4, .int r5), (0, .ref (tc_ad G 0)), (1, .int x1), (2, .int x2), (3, .int x3)]) tc_d6_set_28 (by decide) rfl ?_
      refine tc_aload_n tc_d6_set_30 1 rfl ?_
      refine tc_g6_0 tc_d6_set_31 tc_w268 ?_
      refine tc_iload_n tc_d6_set_34 2 rfl ?_
      refine tc_iload_n tc_d6_set_35 3 rfl ?_
      refine tc_iload_n tc_d6_set_36 4 rfl ?_
      obtain ⟨r7, μ8, e7, h⟩ := tc_bdS h
      have c7 := tc_c5_lay (l := l) (G := G) N tc_Y1 e7
      refine tc_callVv (As := [.int x1, .int x2, .int x3]) (rest := []) (μ1 := μ8) tc_d6_set_37 tc_ok5_lay tc_w374 ⟨Nat.le_of_ble_eq_true rfl, Nat.le_of_ble_eq_true rfl⟩ tc_s5_1 rfl c7 rfl rfl (Nat.le_of_ble_eq_true rfl) ?_
      refine tc_iload tc_d6_set_40 0 rfl ?_
      exact tc_iret tc_d6_set_42 rfl (tc_riS h)
    · refine tc_bipush (v := (-2)) tc_d6_set_19 (by decide) ?_
      exact tc_iret tc_d6_set_21 rfl (tc_riS h)
theorem tc_c6_set (N : Nat) {x1 : Int32} {x2 : Int32} {x3 : Int32} {μ : tc_Mem} {z : Int32 × tc_Mem} (h : tc_f6_set N x1 x2 x3 μ = some z) : tc_Con l G tc_i6_set [.ref (tc_ad G 0), .int x1, .int x2, .int x3] μ (some (.int z.1)) z.2 :=
  tc_Con.of (L := [(0, .ref (tc_ad G 0)), (1, .int x1), (2, .int x2), (3, .int x3)]) (by decide) (Nat.le_of_ble_eq_true rfl) rfl (fun X => tc_b6_set_0 N  _ _ _ _ _ h)
def tc_f6_sheet (N : Nat) (x1 : Int32) (x2 : Int32) (x3 : Int32) (μ : tc_Mem) : Option (Int32 × tc_Mem) :=
  tc_bd (tc_f3_has N x1 μ) fun r1 μ2 =>
  if r1 = 0 then
    some ((-2), μ2)
  else
    if x2 = (-1) then
      tc_bd (tc_f3_become N x1 (-1) 0 μ2) fun _ μ8 =>
      some (1, μ8)
    else
      tc_bd (tc_f6_isSort N x2 μ2) fun r3 μ4 =>
      if r3 = 0 then
        some ((-2), μ4)
      else
        if x3 ≤ 40 then
          if (0 : Int32) ≤ x3 then
            tc_bd (tc_f3_become N x1 x2 x3 μ4) fun _ μ6 =>
            some (1, μ6)
          else
            some ((-14), μ4)
        else
          some ((-2), μ4)
theorem tc_b6_sheet_0 (N : Nat) (x1 : Int32) (x2 : Int32) (x3 : Int32) (μ : tc_Mem) (z : Int32 × tc_Mem) (h : tc_f6_sheet N x1 x2 x3 μ = some z) : tc_At l G tc_i6_sheet (some (.int z.1)) z.2 X 0 [(0, .ref (tc_ad G 0)), (1, .int x1), (2, .int x2), (3, .int x3)] [] μ := by
  unfold tc_f6_sheet at h
  refine tc_aload_n tc_d6_sheet_0 0 rfl ?_
  refine tc_g6_8 tc_d6_sheet_1 tc_w276 ?_
  refine tc_iload_n tc_d6_sheet_4 1 rfl ?_
  obtain ⟨r1, μ2, e1, h⟩ := tc_bdS h
  have c1 := tc_c3_has (l := l) (G := G) N e1
  refine tc_callVi (As := [.int x1]) (rest := []) (r1 := r1) (μ1 := μ2) tc_d6_sheet_5 tc_ok3_has tc_w670 ⟨Nat.le_of_ble_eq_true rfl, Nat.le_of_ble_eq_true rfl⟩ tc_s3 rfl c1 rfl rfl (Nat.le_of_ble_eq_true rfl) ?_
  refine tc_if_ne (tgt := 14) tc_d6_sheet_8 (by decide) h (fun h => ?_) (fun h => ?_)
  · refine tc_iload_n tc_d6_sheet_14 2 rfl ?_
    refine tc_iconst (v := (-1)) tc_d6_sheet_15 (by decide) ?_
    refine tc_icmp_ne (tgt := 31) tc_d6_sheet_16 (by decide) h (fun h => ?_) (fun h => ?_)
    · refine tc_iload_n tc_d6_sheet_31 2 rfl ?_
      obtain ⟨r3, μ4, e3, h⟩ := tc_bdS h
      have c3 := tc_c6_isSort (l := l) (G := G) N e3
      refine tc_callSi (As := [.int x2]) (rest := []) (r1 := r3) (μ1 := μ4) tc_d6_sheet_32 tc_ok6_isSort tc_w836 ⟨Nat.le_of_ble_eq_true rfl, Nat.le_of_ble_eq_true rfl⟩ c3 rfl rfl (Nat.le_of_ble_eq_true rfl) ?_
      refine tc_if_eq (tgt := 44) tc_d6_sheet_35 (by decide) h (fun h => ?_) (fun h => ?_)
      · refine tc_bipush (v := (-2)) tc_d6_sheet_44 (by decide) ?_
        exact tc_iret tc_d6_sheet_46 rfl (tc_riS h)
      · refine tc_iload_n tc_d6_sheet_38 3 rfl ?_
        refine tc_bipush (v := 40) tc_d6_sheet_39 (by decide) ?_
        refine tc_icmp_le (tgt := 47) tc_d6_sheet_41 (by decide) h (fun h => ?_) (fun h => ?_)
        · refine tc_iload_n tc_d6_sheet_47 3 rfl ?_
          refine tc_if_ge (tgt := 54) tc_d6_sheet_48 (by decide) h (fun h => ?_) (fun h => ?_)
          · refine tc_aload_n tc_d6_sheet_54 0 rfl ?_
            refine tc_g6_8 tc_d6_sheet_55 tc_w276 ?_
            refine tc_iload_n tc_d6_sheet_58 1 rfl ?_
            refine tc_iload_n tc_d6_sheet_59 2 rfl ?_
            refine tc_iload_n tc_d6_sheet_60 3 rfl ?_
            obtain ⟨r5, μ6, e5, h⟩ := tc_bdS h
            have c5 := tc_c3_become (l := l) (G := G) N e5
            refine tc_callVv (As := [.int x1, .int x2, .int x3]) (rest := []) (μ1 := μ6) tc_d6_sheet_61 tc_ok3_become tc_w695 ⟨Nat.le_of_ble_eq_true rfl, Nat.le_of_ble_eq_true rfl⟩ tc_s3 rfl c5 rfl rfl (Nat.le_of_ble_eq_true rfl) ?_
            refine tc_iconst (v := 1) tc_d6_sheet_64 (by decide) ?_
            exact tc_iret tc_d6_sheet_65 rfl (tc_riS h)
          · refine tc_bipush (v := (-14)) tc_d6_sheet_51 (by decide) ?_
            exact tc_iret tc_d6_sheet_53 rfl (tc_riS h)
        · refine tc_bipush (v := (-2)) tc_d6_sheet_44 (by decide) ?_
          exact tc_iret tc_d6_sheet_46 rfl (tc_riS h)
    · refine tc_aload_n tc_d6_sheet_19 0 rfl ?_
      refine tc_g6_8 tc_d6_sheet_20 tc_w276 ?_
      refine tc_iload_n tc_d6_sheet_23 1 rfl ?_
      refine tc_iconst (v := (-1)) tc_d6_sheet_24 (by decide) ?_
      refine tc_iconst (v := 0) tc_d6_sheet_25 (by decide) ?_
      obtain ⟨r7, μ8, e7, h⟩ := tc_bdS h
      have c7 := tc_c3_become (l := l) (G := G) N e7
      refine tc_callVv (As := [.int x1, .int (-1), .int 0]) (rest := []) (μ1 := μ8) tc_d6_sheet_26 tc_ok3_become tc_w695 ⟨Nat.le_of_ble_eq_true rfl, Nat.le_of_ble_eq_true rfl⟩ tc_s3 rfl c7 rfl rfl (Nat.le_of_ble_eq_true rfl) ?_
      refine tc_iconst (v := 1) tc_d6_sheet_29 (by decide) ?_
      exact tc_iret tc_d6_sheet_30 rfl (tc_riS h)
  · refine tc_bipush (v := (-2)) tc_d6_sheet_11 (by decide) ?_
    exact tc_iret tc_d6_sheet_13 rfl (tc_riS h)
theorem tc_c6_sheet (N : Nat) {x1 : Int32} {x2 : Int32} {x3 : Int32} {μ : tc_Mem} {z : Int32 × tc_Mem} (h : tc_f6_sheet N x1 x2 x3 μ = some z) : tc_Con l G tc_i6_sheet [.ref (tc_ad G 0), .int x1, .int x2, .int x3] μ (some (.int z.1)) z.2 :=
  tc_Con.of (L := [(0, .ref (tc_ad G 0)), (1, .int x1), (2, .int x2), (3, .int x3)]) (by decide) (Nat.le_of_ble_eq_true rfl) rfl (fun X => tc_b6_sheet_0 N  _ _ _ _ _ h)
def tc_f6_taken (N : Nat) (x1 : Int32) (x2 : Int32) (μ : tc_Mem) : Option (Int32 × tc_Mem) :=
  tc_bd (tc_f5_has N 1 x1 μ) fun r1 μ2 =>
  if r1 = 0 then
    some ((-2), μ2)
  else
    tc_bd (tc_f6_isTrait N 3 x2 μ2) fun r3 μ4 =>
    if r3 = 0 then
      some ((-2), μ4)
    else
      tc_ck x1 8 (
      tc_bd (tc_f6_isUnder N (μ4 2 x1.toNatClampNeg) x2 μ4) fun r6 μ7 =>
      if r6 = 0 then
        some ((-13), μ7)
      else
        tc_ck x1 8 (
        some ((μ7 3 x1.toNatClampNeg), μ7)))
theorem tc_b6_taken_0 (N : Nat) (x1 : Int32) (x2 : Int32) (μ : tc_Mem) (z : Int32 × tc_Mem) (h : tc_f6_taken N x1 x2 μ = some z) : tc_At l G tc_i6_taken (some (.int z.1)) z.2 X 0 [(0, .ref (tc_ad G 0)), (1, .int x1), (2, .int x2)] [] μ := by
  unfold tc_f6_taken at h
  refine tc_aload_n tc_d6_taken_0 0 rfl ?_
  refine tc_g6_0 tc_d6_taken_1 tc_w268 ?_
  refine tc_iload_n tc_d6_taken_4 1 rfl ?_
  obtain ⟨r1, μ2, e1, h⟩ := tc_bdS h
  have c1 := tc_c5_has (l := l) (G := G) N tc_Y1 e1
  refine tc_callVi (As := [.int x1]) (rest := []) (r1 := r1) (μ1 := μ2) tc_d6_taken_5 tc_ok5_has tc_w333 ⟨Nat.le_of_ble_eq_true rfl, Nat.le_of_ble_eq_true rfl⟩ tc_s5_1 rfl c1 rfl rfl (Nat.le_of_ble_eq_true rfl) ?_
  refine tc_if_eq (tgt := 19) tc_d6_taken_8 (by decide) h (fun h => ?_) (fun h => ?_)
  · refine tc_bipush (v := (-2)) tc_d6_taken_19 (by decide) ?_
    exact tc_iret tc_d6_taken_21 rfl (tc_riS h)
  · refine tc_iconst (v := 3) tc_d6_taken_11 (by decide) ?_
    refine tc_iload_n tc_d6_taken_12 2 rfl ?_
    obtain ⟨r3, μ4, e3, h⟩ := tc_bdS h
    have c3 := tc_c6_isTrait (l := l) (G := G) N e3
    refine tc_callSi (As := [.int 3, .int x2]) (rest := []) (r1 := r3) (μ1 := μ4) tc_d6_taken_13 tc_ok6_isTrait tc_w300 ⟨Nat.le_of_ble_eq_true rfl, Nat.le_of_ble_eq_true rfl⟩ c3 rfl rfl (Nat.le_of_ble_eq_true rfl) ?_
    refine tc_if_ne (tgt := 22) tc_d6_taken_16 (by decide) h (fun h => ?_) (fun h => ?_)
    · refine tc_aload_n tc_d6_taken_22 0 rfl ?_
      refine tc_g6_0 tc_d6_taken_23 tc_w268 ?_
      refine tc_g5_1_1 tc_d6_taken_26 tc_w118 ?_
      refine tc_iload_n tc_d6_taken_29 1 rfl ?_
      obtain ⟨hi5, h⟩ := tc_ckS h
      refine tc_iald tc_d6_taken_30 tc_aL2 hi5 ?_
      refine tc_iload_n tc_d6_taken_31 2 rfl ?_
      obtain ⟨r6, μ7, e6, h⟩ := tc_bdS h
      have c6 := tc_c6_isUnder (l := l) (G := G) N e6
      refine tc_callSi (As := [.int (μ4 2 x1.toNatClampNeg), .int x2]) (rest := []) (r1 := r6) (μ1 := μ7) tc_d6_taken_32 tc_ok6_isUnder tc_w383 ⟨Nat.le_of_ble_eq_true rfl, Nat.le_of_ble_eq_true rfl⟩ c6 rfl rfl (Nat.le_of_ble_eq_true rfl) ?_
      refine tc_if_eq (tgt := 50) tc_d6_taken_35 (by decide) h (fun h => ?_) (fun h => ?_)
      · refine tc_bipush (v := (-13)) tc_d6_taken_50 (by decide) ?_
        exact tc_iret tc_d6_taken_52 rfl (tc_riS h)
      · refine tc_aload_n tc_d6_taken_38 0 rfl ?_
        refine tc_g6_0 tc_d6_taken_39 tc_w268 ?_
        refine tc_g5_2_1 tc_d6_taken_42 tc_w121 ?_
        refine tc_iload_n tc_d6_taken_45 1 rfl ?_
        obtain ⟨hi8, h⟩ := tc_ckS h
        refine tc_iald tc_d6_taken_46 tc_aL3 hi8 ?_
        refine tc_goto (tgt := 52) tc_d6_taken_47 (by decide) ?_
        exact tc_iret tc_d6_taken_52 rfl (tc_riS h)
    · refine tc_bipush (v := (-2)) tc_d6_taken_19 (by decide) ?_
      exact tc_iret tc_d6_taken_21 rfl (tc_riS h)
theorem tc_c6_taken (N : Nat) {x1 : Int32} {x2 : Int32} {μ : tc_Mem} {z : Int32 × tc_Mem} (h : tc_f6_taken N x1 x2 μ = some z) : tc_Con l G tc_i6_taken [.ref (tc_ad G 0), .int x1, .int x2] μ (some (.int z.1)) z.2 :=
  tc_Con.of (L := [(0, .ref (tc_ad G 0)), (1, .int x1), (2, .int x2)]) (by decide) (Nat.le_of_ble_eq_true rfl) rfl (fun X => tc_b6_taken_0 N  _ _ _ _ h)
def tc_f6_tells_98 (N : Nat) : Nat → Int32 → Int32 → Int32 → Int32 → tc_Mem → Option (Int32 × tc_Mem)
  | 0 => fun _ _ _ _ _ => none
  | n + 1 => fun x1 x2 x4 x5 μ => 
    if (6 : Int32) ≤ x5 then
      some (x4, μ)
    else
      tc_bd (tc_f2_firstOtherwise N x1 x2 x5 μ) fun r1 μ2 =>
      if r1 = (-1) then
        tc_lt (x4 ||| (1 <<< (x5 &&& 31))) fun v3 =>
        tc_f6_tells_98 N  n x1 x2 v3 (x5 + 1) μ2
      else
        tc_f6_tells_98 N  n x1 x2 x4 (x5 + 1) μ2
theorem tc_b6_tells_98 (N : Nat) : ∀ (n : Nat) (x1 : Int32) (x2 : Int32) (x4 : Int32) (x5 : Int32) (μ : tc_Mem) (z : Int32 × tc_Mem), tc_f6_tells_98 N n x1 x2 x4 x5 μ = some z → tc_At l G tc_i6_tells (some (.int z.1)) z.2 X 98 [(0, .ref (tc_ad G 0)), (1, .int x1), (2, .int x2), (4, .int x4), (5, .int x5)] [] μ := by
  intro n
  induction n with
  | zero => intro x1 x2 x4 x5 μ z h; cases h
  | succ n ih =>
    intro x1 x2 x4 x5 μ z h
    rw [tc_f6_tells_98] at h
    refine tc_iload tc_d6_tells_98 4 rfl ?_
    refine tc_bipush (v := 6) tc_d6_tells_100 (by decide) ?_
    refine tc_icmp_ge (tgt := 139) tc_d6_tells_102 (by decide) h (fun h => ?_) (fun h => ?_)
    · refine tc_iload tc_d6_tells_139 3 rfl ?_
      exact tc_iret tc_d6_tells_141 rfl (tc_riS h)
    · refine tc_aload_n tc_d6_tells_105 0 rfl ?_
      refine tc_g6_6 tc_d6_tells_106 tc_w274 ?_
      refine tc_aload_n tc_d6_tells_109 0 rfl ?_
      refine tc_g6_8 tc_d6_tells_110 tc_w276 ?_
      refine tc_iload_n tc_d6_tells_113 1 rfl ?_
      refine tc_iload_n tc_d6_tells_114 2 rfl ?_
      refine tc_iload tc_d6_tells_115 4 rfl ?_
      obtain ⟨r1, μ2, e1, h⟩ := tc_bdS h
      have c1 := tc_c2_firstOtherwise (l := l) (G := G) N e1
      refine tc_callVi (As := [.ref (tc_ad G 46), .int x1, .int x2, .int x5]) (rest := []) (r1 := r1) (μ1 := μ2) tc_d6_tells_117 tc_ok2_firstOtherwise tc_w679 ⟨Nat.le_of_ble_eq_true rfl, Nat.le_of_ble_eq_true rfl⟩ tc_s2 rfl c1 rfl rfl (Nat.le_of_ble_eq_true rfl) ?_
      refine tc_iconst (v := (-1)) tc_d6_tells_120 (by decide) ?_
      refine tc_icmp_ne (tgt := 133) tc_d6_tells_121 (by decide) h (fun h => ?_) (fun h => ?_)
      · refine tc_iinc (v := (x5 + 1)) (L' := [(5, .int (x5 + 1)), (0, .ref (tc_ad G 0)), (1, .int x1), (2, .int x2), (4, .int x4)]) tc_d6_tells_133 4 rfl rfl (by decide) rfl ?_
        refine tc_goto (tgt := 98) tc_d6_tells_136 (by decide) ?_
        refine tc_sub [1, 2, 3, 4, 0] rfl ?_
        exact (ih _ _ _ _ _ _) h
      · refine tc_iload tc_d6_tells_124 3 rfl ?_
        refine tc_iconst (v := 1) tc_d6_tells_126 (by decide) ?_
        refine tc_iload tc_d6_tells_127 4 rfl ?_
        refine tc_ishl tc_d6_tells_129 ?_
        refine tc_ior tc_d6_tells_130 ?_
        refine tc_ltI h (fun v3 h => ?_)
        refine tc_istore (L' := [(4, .int v3), (0, .ref (tc_ad G 0)), (1, .int x1), (2, .int x2), (5, .int x5)]) tc_d6_tells_131 (by decide) rfl ?_
        refine tc_iinc (v := (x5 + 1)) (L' := [(5, .int (x5 + 1)), (4, .int v3), (0, .ref (tc_ad G 0)), (1, .int x1), (2, .int x2)]) tc_d6_tells_133 4 rfl rfl (by decide) rfl ?_
        refine tc_goto (tgt := 98) tc_d6_tells_136 (by decide) ?_
        refine tc_sub [2, 3, 4, 1, 0] rfl ?_
        exact (ih _ _ _ _ _ _) h
def tc_f6_tells (N : Nat) (x1 : Int32) (x2 : Int32) (x3 : Int32) (μ : tc_Mem) : Option (Int32 × tc_Mem) :=
  tc_bd (tc_f3_has N x1 μ) fun r1 μ2 =>
  if r1 = 0 then
    some ((-2), μ2)
  else
    tc_bd (tc_f5_has N 1 x2 μ2) fun r3 μ4 =>
    if r3 = 0 then
      some ((-2), μ4)
    else
      tc_bd (tc_f6_isWithin N x3 0 1 μ4) fun r5 μ6 =>
      if r5 = 0 then
        some ((-2), μ6)
      else
        tc_bd (tc_f3_isMissing N x1 μ6) fun r7 μ8 =>
        if r7 = 0 then
          tc_ck x1 4 (
          if (μ8 48 x1.toNatClampNeg) ≤ 10 then
            if x3 = 0 then
              tc_ck x2 8 (
              tc_bd (tc_f2_firstOtherwise N x1 x2 (μ8 2 x2.toNatClampNeg) μ8) fun r11 μ12 =>
              some (r11, μ12))
            else
              tc_f6_tells_98 N N x1 x2 0 0 μ8
          else
            some ((-2), μ8))
        else
          some ((-11), μ8)
theorem tc_b6_tells_0 (N : Nat) (x1 : Int32) (x2 : Int32) (x3 : Int32) (μ : tc_Mem) (z : Int32 × tc_Mem) (h : tc_f6_tells N x1 x2 x3 μ = some z) : tc_At l G tc_i6_tells (some (.int z.1)) z.2 X 0 [(0, .ref (tc_ad G 0)), (1, .int x1), (2, .int x2), (3, .int x3)] [] μ := by
  unfold tc_f6_tells at h
  refine tc_aload_n tc_d6_tells_0 0 rfl ?_
  refine tc_g6_8 tc_d6_tells_1 tc_w276 ?_
  refine tc_iload_n tc_d6_tells_4 1 rfl ?_
  obtain ⟨r1, μ2, e1, h⟩ := tc_bdS h
  have c1 := tc_c3_has (l := l) (G := G) N e1
  refine tc_callVi (As := [.int x1]) (rest := []) (r1 := r1) (μ1 := μ2) tc_d6_tells_5 tc_ok3_has tc_w670 ⟨Nat.le_of_ble_eq_true rfl, Nat.le_of_ble_eq_true rfl⟩ tc_s3 rfl c1 rfl rfl (Nat.le_of_ble_eq_true rfl) ?_
  refine tc_if_eq (tgt := 31) tc_d6_tells_8 (by decide) h (fun h => ?_) (fun h => ?_)
  · refine tc_bipush (v := (-2)) tc_d6_tells_31 (by decide) ?_
    exact tc_iret tc_d6_tells_33 rfl (tc_riS h)
  · refine tc_aload_n tc_d6_tells_11 0 rfl ?_
    refine tc_g6_0 tc_d6_tells_12 tc_w268 ?_
    refine tc_iload_n tc_d6_tells_15 2 rfl ?_
    obtain ⟨r3, μ4, e3, h⟩ := tc_bdS h
    have c3 := tc_c5_has (l := l) (G := G) N tc_Y1 e3
    refine tc_callVi (As := [.int x2]) (rest := []) (r1 := r3) (μ1 := μ4) tc_d6_tells_16 tc_ok5_has tc_w333 ⟨Nat.le_of_ble_eq_true rfl, Nat.le_of_ble_eq_true rfl⟩ tc_s5_1 rfl c3 rfl rfl (Nat.le_of_ble_eq_true rfl) ?_
    refine tc_if_eq (tgt := 31) tc_d6_tells_19 (by decide) h (fun h => ?_) (fun h => ?_)
    · refine tc_bipush (v := (-2)) tc_d6_tells_31 (by decide) ?_
      exact tc_iret tc_d6_tells_33 rfl (tc_riS h)
    · refine tc_iload_n tc_d6_tells_22 3 rfl ?_
      refine tc_iconst (v := 0) tc_d6_tells_23 (by decide) ?_
      refine tc_iconst (v := 1) tc_d6_tells_24 (by decide) ?_
      obtain ⟨r5, μ6, e5, h⟩ := tc_bdS h
      have c5 := tc_c6_isWithin (l := l) (G := G) N e5
      refine tc_callSi (As := [.int x3, .int 0, .int 1]) (rest := []) (r1 := r5) (μ1 := μ6) tc_d6_tells_25 tc_ok6_isWithin tc_w303 ⟨Nat.le_of_ble_eq_true rfl, Nat.le_of_ble_eq_true rfl⟩ c5 rfl rfl (Nat.le_of_ble_eq_true rfl) ?_
      refine tc_if_ne (tgt := 34) tc_d6_tells_28 (by decide) h (fun h => ?_) (fun h => ?_)
      · refine tc_aload_n tc_d6_tells_34 0 rfl ?_
        refine tc_g6_8 tc_d6_tells_35 tc_w276 ?_
        refine tc_iload_n tc_d6_tells_38 1 rfl ?_
        obtain ⟨r7, μ8, e7, h⟩ := tc_bdS h
        have c7 := tc_c3_isMissing (l := l) (G := G) N e7
        refine tc_callVi (As := [.int x1]) (rest := []) (r1 := r7) (μ1 := μ8) tc_d6_tells_39 tc_ok3_isMissing tc_w675 ⟨Nat.le_of_ble_eq_true rfl, Nat.le_of_ble_eq_true rfl⟩ tc_s3 rfl c7 rfl rfl (Nat.le_of_ble_eq_true rfl) ?_
        refine tc_if_eq (tgt := 48) tc_d6_tells_42 (by decide) h (fun h => ?_) (fun h => ?_)
        · refine tc_aload_n tc_d6_tells_48 0 rfl ?_
          refine tc_g6_8 tc_d6_tells_49 tc_w276 ?_
          refine tc_g3_1 tc_d6_tells_52 tc_w259 ?_
          refine tc_iload_n tc_d6_tells_55 1 rfl ?_
          obtain ⟨hi9, h⟩ := tc_ckS h
          refine tc_iald tc_d6_tells_56 tc_aL48 hi9 ?_
          refine tc_bipush (v := 10) tc_d6_tells_57 (by decide) ?_
          refine tc_icmp_le (tgt := 65) tc_d6_tells_59 (by decide) h (fun h => ?_) (fun h => ?_)
          · refine tc_iload_n tc_d6_tells_65 3 rfl ?_
            refine tc_if_ne (tgt := 92) tc_d6_tells_66 (by decide) h (fun h => ?_) (fun h => ?_)
            · refine tc_iconst (v := 0) tc_d6_tells_92 (by decide) ?_
              refine tc_istore (L' := [(4, .int 0), (0, .ref (tc_ad G 0)), (1, .int x1), (2, .int x2), (3, .int x3)]) tc_d6_tells_93 (by decide) rfl ?_
              refine tc_iconst (v := 0) tc_d6_tells_95 (by decide) ?_
              refine tc_istore (L' := [(5, .int 0), (4, .int 0), (0, .ref (tc_ad G 0)), (1, .int x1), (2, .int x2), (3, .int x3)]) tc_d6_tells_96 (by decide) rfl ?_
              refine tc_sub [2, 3, 4, 1, 0] rfl ?_
              exact (tc_b6_tells_98 N N _ _ _ _ _ _) h
            · refine tc_aload_n tc_d6_tells_69 0 rfl ?_
              refine tc_g6_6 tc_d6_tells_70 tc_w274 ?_
              refine tc_aload_n tc_d6_tells_73 0 rfl ?_
              refine tc_g6_8 tc_d6_tells_74 tc_w276 ?_
              refine tc_iload_n tc_d6_tells_77 1 rfl ?_
              refine tc_iload_n tc_d6_tells_78 2 rfl ?_
              refine tc_aload_n tc_d6_tells_79 0 rfl ?_
              refine tc_g6_0 tc_d6_tells_80 tc_w268 ?_
              refine tc_g5_1_1 tc_d6_tells_83 tc_w118 ?_
              refine tc_iload_n tc_d6_tells_86 2 rfl ?_
              obtain ⟨hi10, h⟩ := tc_ckS h
              refine tc_iald tc_d6_tells_87 tc_aL2 hi10 ?_
              obtain ⟨r11, μ12, e11, h⟩ := tc_bdS h
              have c11 := tc_c2_firstOtherwise (l := l) (G := G) N e11
              refine tc_callVi (As := [.ref (tc_ad G 46), .int x1, .int x2, .int (μ8 2 x2.toNatClampNeg)]) (rest := []) (r1 := r11) (μ1 := μ12) tc_d6_tells_88 tc_ok2_firstOtherwise tc_w679 ⟨Nat.le_of_ble_eq_true rfl, Nat.le_of_ble_eq_true rfl⟩ tc_s2 rfl c11 rfl rfl (Nat.le_of_ble_eq_true rfl) ?_
              exact tc_iret tc_d6_tells_91 rfl (tc_riS h)
          · refine tc_bipush (v := (-2)) tc_d6_tells_62 (by decide) ?_
            exact tc_iret tc_d6_tells_64 rfl (tc_riS h)
        · refine tc_bipush (v := (-11)) tc_d6_tells_45 (by decide) ?_
          exact tc_iret tc_d6_tells_47 rfl (tc_riS h)
      · refine tc_bipush (v := (-2)) tc_d6_tells_31 (by decide) ?_
        exact tc_iret tc_d6_tells_33 rfl (tc_riS h)
theorem tc_c6_tells (N : Nat) {x1 : Int32} {x2 : Int32} {x3 : Int32} {μ : tc_Mem} {z : Int32 × tc_Mem} (h : tc_f6_tells N x1 x2 x3 μ = some z) : tc_Con l G tc_i6_tells [.ref (tc_ad G 0), .int x1, .int x2, .int x3] μ (some (.int z.1)) z.2 :=
  tc_Con.of (L := [(0, .ref (tc_ad G 0)), (1, .int x1), (2, .int x2), (3, .int x3)]) (by decide) (Nat.le_of_ble_eq_true rfl) rfl (fun X => tc_b6_tells_0 N  _ _ _ _ _ h)
def tc_f6_who (N : Nat) (x1 : Int32) (μ : tc_Mem) : Option (Int32 × tc_Mem) :=
  if x1 < 0 ∨ 4 < x1 then
    some ((-2), μ)
  else if x1 = 0 then
    some ((μ 1 8), μ)
  else if x1 = 1 then
    tc_bd (tc_f5_unsafe N 1 μ) fun r1 μ2 =>
    some (r1, μ2)
  else if x1 = 2 then
    tc_bd (tc_f5_wrong N 1 μ) fun r3 μ4 =>
    some (r3, μ4)
  else if x1 = 3 then
    some ((μ 1 9), μ)
  else if x1 = 4 then
    tc_bd (tc_f1_placesOf N 1 0 μ) fun r5 μ6 =>
    some (r5, μ6)
  else none
theorem tc_b6_who_0 (N : Nat) (x1 : Int32) (μ : tc_Mem) (z : Int32 × tc_Mem) (h : tc_f6_who N x1 μ = some z) : tc_At l G tc_i6_who (some (.int z.1)) z.2 X 0 [(0, .ref (tc_ad G 0)), (1, .int x1)] [] μ := by
  unfold tc_f6_who at h
  refine tc_iload_n tc_d6_who_0 1 rfl ?_
  by_cases hq : x1 < 0 ∨ 4 < x1
  · rw [if_pos hq] at h
    refine tc_tswD (a := 0) (b := 4) (tgt := 80) tc_d6_who_1 ⟨by decide, by decide⟩ hq (by decide) ?_
    refine tc_bipush (v := (-2)) tc_d6_who_80 (by decide) ?_
    exact tc_iret tc_d6_who_82 rfl (tc_riS h)
  · rw [if_neg hq] at h
    by_cases hq : x1 = 0
    · rw [if_pos hq] at h
      refine tc_tswK (k := 0) (off := 35) (tgt := 36) tc_d6_who_1 hq (by decide) (by decide) rfl (by decide) ?_
      refine tc_aload_n tc_d6_who_36 0 rfl ?_
      refine tc_g6_0 tc_d6_who_37 tc_w268 ?_
      refine tc_g5_8_1 tc_d6_who_40 tc_w136 ?_
      exact tc_iret tc_d6_who_43 rfl (tc_riS h)
    · rw [if_neg hq] at h
      by_cases hq : x1 = 1
      · rw [if_pos hq] at h
        refine tc_tswK (k := 1) (off := 43) (tgt := 44) tc_d6_who_1 hq (by decide) (by decide) rfl (by decide) ?_
        refine tc_aload_n tc_d6_who_44 0 rfl ?_
        refine tc_g6_0 tc_d6_who_45 tc_w268 ?_
        obtain ⟨r1, μ2, e1, h⟩ := tc_bdS h
        have c1 := tc_c5_unsafe (l := l) (G := G) N tc_Y1 e1
        refine tc_callVi (As := []) (rest := []) (r1 := r1) (μ1 := μ2) tc_d6_who_48 tc_ok5_unsafe tc_w502 ⟨Nat.le_of_ble_eq_true rfl, Nat.le_of_ble_eq_true rfl⟩ tc_s5_1 rfl c1 rfl rfl (Nat.le_of_ble_eq_true rfl) ?_
        exact tc_iret tc_d6_who_51 rfl (tc_riS h)
      · rw [if_neg hq] at h
        by_cases hq : x1 = 2
        · rw [if_pos hq] at h
          refine tc_tswK (k := 2) (off := 51) (tgt := 52) tc_d6_who_1 hq (by decide) (by decide) rfl (by decide) ?_
          refine tc_aload_n tc_d6_who_52 0 rfl ?_
          refine tc_g6_0 tc_d6_who_53 tc_w268 ?_
          obtain ⟨r3, μ4, e3, h⟩ := tc_bdS h
          have c3 := tc_c5_wrong (l := l) (G := G) N tc_Y1 e3
          refine tc_callVi (As := []) (rest := []) (r1 := r3) (μ1 := μ4) tc_d6_who_56 tc_ok5_wrong tc_w510 ⟨Nat.le_of_ble_eq_true rfl, Nat.le_of_ble_eq_true rfl⟩ tc_s5_1 rfl c3 rfl rfl (Nat.le_of_ble_eq_true rfl) ?_
          exact tc_iret tc_d6_who_59 rfl (tc_riS h)
        · rw [if_neg hq] at h
          by_cases hq : x1 = 3
          · rw [if_pos hq] at h
            refine tc_tswK (k := 3) (off := 59) (tgt := 60) tc_d6_who_1 hq (by decide) (by decide) rfl (by decide) ?_
            refine tc_aload_n tc_d6_who_60 0 rfl ?_
            refine tc_g6_0 tc_d6_who_61 tc_w268 ?_
            refine tc_g5_9_1 tc_d6_who_64 tc_w139 ?_
            exact tc_iret tc_d6_who_67 rfl (tc_riS h)
          · rw [if_neg hq] at h
            by_cases hq : x1 = 4
            · rw [if_pos hq] at h
              refine tc_tswK (k := 4) (off := 67) (tgt := 68) tc_d6_who_1 hq (by decide) (by decide) rfl (by decide) ?_
              refine tc_aload_n tc_d6_who_68 0 rfl ?_
              refine tc_g6_0 tc_d6_who_69 tc_w268 ?_
              refine tc_g5_7_1 tc_d6_who_72 tc_w131 ?_
              refine tc_iconst (v := 0) tc_d6_who_75 (by decide) ?_
              obtain ⟨r5, μ6, e5, h⟩ := tc_bdS h
              have c5 := tc_c1_placesOf (l := l) (G := G) N tc_Y1 e5
              refine tc_callVi (As := [.int 0]) (rest := []) (r1 := r5) (μ1 := μ6) tc_d6_who_76 tc_ok1_placesOf tc_w514 ⟨Nat.le_of_ble_eq_true rfl, Nat.le_of_ble_eq_true rfl⟩ tc_s1_1 rfl c5 rfl rfl (Nat.le_of_ble_eq_true rfl) ?_
              exact tc_iret tc_d6_who_79 rfl (tc_riS h)
            · rw [if_neg hq] at h
              cases h
theorem tc_c6_who (N : Nat) {x1 : Int32} {μ : tc_Mem} {z : Int32 × tc_Mem} (h : tc_f6_who N x1 μ = some z) : tc_Con l G tc_i6_who [.ref (tc_ad G 0), .int x1] μ (some (.int z.1)) z.2 :=
  tc_Con.of (L := [(0, .ref (tc_ad G 0)), (1, .int x1)]) (by decide) (Nat.le_of_ble_eq_true rfl) rfl (fun X => tc_b6_who_0 N  _ _ _ h)
end WALK
