section WALK
variable {l : Launch} {G : tc_G} {X : tc_X}
def tc_f4_add (N : Nat) (x1 : Int32) (μ : tc_Mem) : Option (Int32 × tc_Mem) :=
  if (60 : Int32) ≤ (μ 42 1) then
    some (0, μ)
  else
    tc_ck (μ 42 1) 60 (
    tc_lt (tc_wr μ 43 (μ 42 1).toNatClampNeg x1) fun μ2 =>
    tc_lt (tc_wr μ2 42 1 ((μ2 42 1) + 1)) fun μ3 =>
    some (0, μ3))
theorem tc_b4_add_0 (N : Nat) (x1 : Int32) (μ : tc_Mem) (z : Int32 × tc_Mem) (h : tc_f4_add N x1 μ = some z) : tc_At l G tc_i4_add none z.2 X 0 [(0, .ref (tc_ad G 42)), (1, .int x1)] [] μ := by
  unfold tc_f4_add at h
  refine tc_aload_n tc_d4_add_0 0 rfl ?_
  refine tc_g4_1 tc_d4_add_1 tc_w228 ?_
  refine tc_bipush (v := 60) tc_d4_add_4 (by decide) ?_
  refine tc_icmp_ge (tgt := 29) tc_d4_add_6 (by decide) h (fun h => ?_) (fun h => ?_)
  · exact tc_vret tc_d4_add_29 rfl (tc_rvS h)
  · refine tc_aload_n tc_d4_add_9 0 rfl ?_
    refine tc_g4_0 tc_d4_add_10 tc_w227 ?_
    refine tc_aload_n tc_d4_add_13 0 rfl ?_
    refine tc_g4_1 tc_d4_add_14 tc_w228 ?_
    refine tc_iload_n tc_d4_add_17 1 rfl ?_
    obtain ⟨hi1, h⟩ := tc_ckS h
    refine tc_iastL tc_d4_add_18 tc_aL43 hi1 h (fun μ2 h => ?_)
    refine tc_aload_n tc_d4_add_19 0 rfl ?_
    refine tc_dup tc_d4_add_20 rfl ?_
    refine tc_g4_1 tc_d4_add_21 tc_w228 ?_
    refine tc_iconst (v := 1) tc_d4_add_24 (by decide) ?_
    refine tc_iadd tc_d4_add_25 ?_
    refine tc_p4_1 tc_d4_add_26 tc_w228 h (fun μ3 h => ?_)
    exact tc_vret tc_d4_add_29 rfl (tc_rvS h)
theorem tc_c4_add (N : Nat) {x1 : Int32} {μ : tc_Mem} {z : Int32 × tc_Mem} (h : tc_f4_add N x1 μ = some z) : tc_Con l G tc_i4_add [.ref (tc_ad G 42), .int x1] μ none z.2 :=
  tc_Con.of (L := [(0, .ref (tc_ad G 42)), (1, .int x1)]) (by decide) (Nat.le_of_ble_eq_true rfl) rfl (fun X => tc_b4_add_0 N  _ _ _ h)
def tc_f4_number (N : Nat) (x1 : Int32) (x2 : Int32) (μ : tc_Mem) : Option (Int32 × tc_Mem) :=
  tc_ck ((x1 * 4) + x2) 60 (
  some ((μ 45 ((x1 * 4) + x2).toNatClampNeg), μ))
theorem tc_b4_number_0 (N : Nat) (x1 : Int32) (x2 : Int32) (μ : tc_Mem) (z : Int32 × tc_Mem) (h : tc_f4_number N x1 x2 μ = some z) : tc_At l G tc_i4_number (some (.int z.1)) z.2 X 0 [(0, .ref (tc_ad G 42)), (1, .int x1), (2, .int x2)] [] μ := by
  unfold tc_f4_number at h
  refine tc_aload_n tc_d4_number_0 0 rfl ?_
  refine tc_g4_4 tc_d4_number_1 tc_w233 ?_
  refine tc_iload_n tc_d4_number_4 1 rfl ?_
  refine tc_iconst (v := 4) tc_d4_number_5 (by decide) ?_
  refine tc_imul tc_d4_number_6 ?_
  refine tc_iload_n tc_d4_number_7 2 rfl ?_
  refine tc_iadd tc_d4_number_8 ?_
  obtain ⟨hi1, h⟩ := tc_ckS h
  refine tc_iald tc_d4_number_9 tc_aL45 hi1 ?_
  exact tc_iret tc_d4_number_10 rfl (tc_riS h)
theorem tc_c4_number (N : Nat) {x1 : Int32} {x2 : Int32} {μ : tc_Mem} {z : Int32 × tc_Mem} (h : tc_f4_number N x1 x2 μ = some z) : tc_Con l G tc_i4_number [.ref (tc_ad G 42), .int x1, .int x2] μ (some (.int z.1)) z.2 :=
  tc_Con.of (L := [(0, .ref (tc_ad G 42)), (1, .int x1), (2, .int x2)]) (by decide) (Nat.le_of_ble_eq_true rfl) rfl (fun X => tc_b4_number_0 N  _ _ _ _ h)
def tc_f4_numberFrom_4 (N : Nat) : Nat → Int32 → Int32 → tc_Mem → Option (Int32 × tc_Mem)
  | 0 => fun _ _ _ => none
  | n + 1 => fun x2 x3 μ => 
    if (μ 42 2) ≤ x3 then
      some (x2, μ)
    else
      tc_ck x3 60 (
      tc_lt (((x2 * 10) + (μ 43 x3.toNatClampNeg)) - 48) fun v2 =>
      tc_f4_numberFrom_4 N  n v2 (x3 + 1) μ)
theorem tc_b4_numberFrom_4 (N : Nat) : ∀ (n : Nat) (x2 : Int32) (x3 : Int32) (μ : tc_Mem) (z : Int32 × tc_Mem), tc_f4_numberFrom_4 N n x2 x3 μ = some z → tc_At l G tc_i4_numberFrom (some (.int z.1)) z.2 X 4 [(0, .ref (tc_ad G 42)), (2, .int x2), (3, .int x3)] [] μ := by
  intro n
  induction n with
  | zero => intro x2 x3 μ z h; cases h
  | succ n ih =>
    intro x2 x3 μ z h
    rw [tc_f4_numberFrom_4] at h
    refine tc_iload_n tc_d4_numberFrom_4 2 rfl ?_
    refine tc_aload_n tc_d4_numberFrom_5 0 rfl ?_
    refine tc_g4_2 tc_d4_numberFrom_6 tc_w230 ?_
    refine tc_icmp_ge (tgt := 33) tc_d4_numberFrom_9 (by decide) h (fun h => ?_) (fun h => ?_)
    · refine tc_iload_n tc_d4_numberFrom_33 1 rfl ?_
      exact tc_iret tc_d4_numberFrom_34 rfl (tc_riS h)
    · refine tc_iload_n tc_d4_numberFrom_12 1 rfl ?_
      refine tc_bipush (v := 10) tc_d4_numberFrom_13 (by decide) ?_
      refine tc_imul tc_d4_numberFrom_15 ?_
      refine tc_aload_n tc_d4_numberFrom_16 0 rfl ?_
      refine tc_g4_0 tc_d4_numberFrom_17 tc_w227 ?_
      refine tc_iload_n tc_d4_numberFrom_20 2 rfl ?_
      obtain ⟨hi1, h⟩ := tc_ckS h
      refine tc_iald tc_d4_numberFrom_21 tc_aL43 hi1 ?_
      refine tc_iadd tc_d4_numberFrom_22 ?_
      refine tc_bipush (v := 48) tc_d4_numberFrom_23 (by decide) ?_
      refine tc_isub tc_d4_numberFrom_25 ?_
      refine tc_ltI h (fun v2 h => ?_)
      refine tc_istore_n (L' := [(2, .int v2), (0, .ref (tc_ad G 42)), (3, .int x3)]) tc_d4_numberFrom_26 (by decide) rfl ?_
      refine tc_iinc (v := (x3 + 1)) (L' := [(3, .int (x3 + 1)), (2, .int v2), (0, .ref (tc_ad G 42))]) tc_d4_numberFrom_27 2 rfl rfl (by decide) rfl ?_
      refine tc_goto (tgt := 4) tc_d4_numberFrom_30 (by decide) ?_
      refine tc_sub [2, 1, 0] rfl ?_
      exact (ih _ _ _ _) h
def tc_f4_numberFrom (N : Nat) (x1 : Int32) (μ : tc_Mem) : Option (Int32 × tc_Mem) :=
  tc_f4_numberFrom_4 N N 0 x1 μ
theorem tc_b4_numberFrom_0 (N : Nat) (x1 : Int32) (μ : tc_Mem) (z : Int32 × tc_Mem) (h : tc_f4_numberFrom N x1 μ = some z) : tc_At l G tc_i4_numberFrom (some (.int z.1)) z.2 X 0 [(0, .ref (tc_ad G 42)), (1, .int x1)] [] μ := by
  unfold tc_f4_numberFrom at h
  refine tc_iconst (v := 0) tc_d4_numberFrom_0 (by decide) ?_
  refine tc_istore_n (L' := [(2, .int 0), (0, .ref (tc_ad G 42)), (1, .int x1)]) tc_d4_numberFrom_1 (by decide) rfl ?_
  refine tc_iload_n tc_d4_numberFrom_2 2 rfl ?_
  refine tc_istore_n (L' := [(3, .int x1), (2, .int 0), (0, .ref (tc_ad G 42)), (1, .int x1)]) tc_d4_numberFrom_3 (by decide) rfl ?_
  refine tc_sub [2, 1, 0] rfl ?_
  exact (tc_b4_numberFrom_4 N N _ _ _ _) h
theorem tc_c4_numberFrom (N : Nat) {x1 : Int32} {μ : tc_Mem} {z : Int32 × tc_Mem} (h : tc_f4_numberFrom N x1 μ = some z) : tc_Con l G tc_i4_numberFrom [.ref (tc_ad G 42), .int x1] μ (some (.int z.1)) z.2 :=
  tc_Con.of (L := [(0, .ref (tc_ad G 42)), (1, .int x1)]) (by decide) (Nat.le_of_ble_eq_true rfl) rfl (fun X => tc_b4_numberFrom_0 N  _ _ _ h)
def tc_f4_skipBlanks_39 (N : Nat) (k0 : tc_Mem → Option (Int32 × tc_Mem)) (μ : tc_Mem) : Option (Int32 × tc_Mem) :=
  tc_lt (tc_wr μ 42 2 ((μ 42 2) + 1)) fun μ1 =>
  k0 μ1
theorem tc_b4_skipBlanks_39 (N : Nat) {k0 : tc_Mem → Option (Int32 × tc_Mem)} (H0 : ∀ (μ : tc_Mem) (z : Int32 × tc_Mem), k0 μ = some z → tc_At l G tc_i4_skipBlanks none z.2 X 0 [(0, .ref (tc_ad G 42))] [] μ) (μ : tc_Mem) (z : Int32 × tc_Mem) (h : tc_f4_skipBlanks_39 N k0 μ = some z) : tc_At l G tc_i4_skipBlanks none z.2 X 39 [(0, .ref (tc_ad G 42))] [] μ := by
  unfold tc_f4_skipBlanks_39 at h
  refine tc_aload_n tc_d4_skipBlanks_39 0 rfl ?_
  refine tc_dup tc_d4_skipBlanks_40 rfl ?_
  refine tc_g4_2 tc_d4_skipBlanks_41 tc_w230 ?_
  refine tc_iconst (v := 1) tc_d4_skipBlanks_44 (by decide) ?_
  refine tc_iadd tc_d4_skipBlanks_45 ?_
  refine tc_p4_2 tc_d4_skipBlanks_46 tc_w230 h (fun μ1 h => ?_)
  refine tc_goto (tgt := 0) tc_d4_skipBlanks_49 (by decide) ?_
  exact (H0 _ _) h
def tc_f4_skipBlanks_0 (N : Nat) : Nat → tc_Mem → Option (Int32 × tc_Mem)
  | 0 => fun _ => none
  | n + 1 => fun μ => 
    if (μ 42 1) ≤ (μ 42 2) then
      some (0, μ)
    else
      tc_ck (μ 42 2) 60 (
      if (μ 43 (μ 42 2).toNatClampNeg) = 32 then
        tc_f4_skipBlanks_39 N (tc_f4_skipBlanks_0 N n) μ
      else
        tc_ck (μ 42 2) 60 (
        if (μ 43 (μ 42 2).toNatClampNeg) = 10 then
          tc_f4_skipBlanks_39 N (tc_f4_skipBlanks_0 N n) μ
        else
          some (0, μ)))
theorem tc_b4_skipBlanks_0 (N : Nat) : ∀ (n : Nat) (μ : tc_Mem) (z : Int32 × tc_Mem), tc_f4_skipBlanks_0 N n μ = some z → tc_At l G tc_i4_skipBlanks none z.2 X 0 [(0, .ref (tc_ad G 42))] [] μ := by
  intro n
  induction n with
  | zero => intro  μ z h; cases h
  | succ n ih =>
    intro  μ z h
    rw [tc_f4_skipBlanks_0] at h
    refine tc_aload_n tc_d4_skipBlanks_0 0 rfl ?_
    refine tc_g4_2 tc_d4_skipBlanks_1 tc_w230 ?_
    refine tc_aload_n tc_d4_skipBlanks_4 0 rfl ?_
    refine tc_g4_1 tc_d4_skipBlanks_5 tc_w228 ?_
    refine tc_icmp_ge (tgt := 52) tc_d4_skipBlanks_8 (by decide) h (fun h => ?_) (fun h => ?_)
    · exact tc_vret tc_d4_skipBlanks_52 rfl (tc_rvS h)
    · refine tc_aload_n tc_d4_skipBlanks_11 0 rfl ?_
      refine tc_g4_0 tc_d4_skipBlanks_12 tc_w227 ?_
      refine tc_aload_n tc_d4_skipBlanks_15 0 rfl ?_
      refine tc_g4_2 tc_d4_skipBlanks_16 tc_w230 ?_
      obtain ⟨hi1, h⟩ := tc_ckS h
      refine tc_iald tc_d4_skipBlanks_19 tc_aL43 hi1 ?_
      refine tc_bipush (v := 32) tc_d4_skipBlanks_20 (by decide) ?_
      refine tc_icmp_eq (tgt := 39) tc_d4_skipBlanks_22 (by decide) h (fun h => ?_) (fun h => ?_)
      · exact (tc_b4_skipBlanks_39 N ih _ _) h
      · refine tc_aload_n tc_d4_skipBlanks_25 0 rfl ?_
        refine tc_g4_0 tc_d4_skipBlanks_26 tc_w227 ?_
        refine tc_aload_n tc_d4_skipBlanks_29 0 rfl ?_
        refine tc_g4_2 tc_d4_skipBlanks_30 tc_w230 ?_
        obtain ⟨hi2, h⟩ := tc_ckS h
        refine tc_iald tc_d4_skipBlanks_33 tc_aL43 hi2 ?_
        refine tc_bipush (v := 10) tc_d4_skipBlanks_34 (by decide) ?_
        refine tc_icmp_ne (tgt := 52) tc_d4_skipBlanks_36 (by decide) h (fun h => ?_) (fun h => ?_)
        · exact tc_vret tc_d4_skipBlanks_52 rfl (tc_rvS h)
        · exact (tc_b4_skipBlanks_39 N ih _ _) h
def tc_f4_skipBlanks (N : Nat) (μ : tc_Mem) : Option (Int32 × tc_Mem) :=
  tc_f4_skipBlanks_0 N N μ
theorem tc_b4_skipBlanks_E (N : Nat) (μ : tc_Mem) (z : Int32 × tc_Mem) (h : tc_f4_skipBlanks N μ = some z) : tc_At l G tc_i4_skipBlanks none z.2 X 0 [(0, .ref (tc_ad G 42))] [] μ := by
  unfold tc_f4_skipBlanks at h
  exact (tc_b4_skipBlanks_0 N N _ _) h
theorem tc_c4_skipBlanks (N : Nat) {μ : tc_Mem} {z : Int32 × tc_Mem} (h : tc_f4_skipBlanks N μ = some z) : tc_Con l G tc_i4_skipBlanks [.ref (tc_ad G 42)] μ none z.2 :=
  tc_Con.of (L := [(0, .ref (tc_ad G 42))]) (by decide) (Nat.le_of_ble_eq_true rfl) rfl (fun X => tc_b4_skipBlanks_E N  _ _ h)
def tc_f4_skipAll_0 (N : Nat) : Nat → Int32 → Int32 → tc_Mem → Option (Int32 × tc_Mem)
  | 0 => fun _ _ _ => none
  | n + 1 => fun x1 x2 μ => 
    if (μ 42 1) ≤ (μ 42 2) then
      some (0, μ)
    else
      tc_ck (μ 42 2) 60 (
      if (μ 43 (μ 42 2).toNatClampNeg) < x1 then
        some (0, μ)
      else
        tc_ck (μ 42 2) 60 (
        if x2 < (μ 43 (μ 42 2).toNatClampNeg) then
          some (0, μ)
        else
          tc_lt (tc_wr μ 42 2 ((μ 42 2) + 1)) fun μ3 =>
          tc_f4_skipAll_0 N  n x1 x2 μ3))
theorem tc_b4_skipAll_0 (N : Nat) : ∀ (n : Nat) (x1 : Int32) (x2 : Int32) (μ : tc_Mem) (z : Int32 × tc_Mem), tc_f4_skipAll_0 N n x1 x2 μ = some z → tc_At l G tc_i4_skipAll none z.2 X 0 [(0, .ref (tc_ad G 42)), (1, .int x1), (2, .int x2)] [] μ := by
  intro n
  induction n with
  | zero => intro x1 x2 μ z h; cases h
  | succ n ih =>
    intro x1 x2 μ z h
    rw [tc_f4_skipAll_0] at h
    refine tc_aload_n tc_d4_skipAll_0 0 rfl ?_
    refine tc_g4_2 tc_d4_skipAll_1 tc_w230 ?_
    refine tc_aload_n tc_d4_skipAll_4 0 rfl ?_
    refine tc_g4_1 tc_d4_skipAll_5 tc_w228 ?_
    refine tc_icmp_ge (tgt := 50) tc_d4_skipAll_8 (by decide) h (fun h => ?_) (fun h => ?_)
    · exact tc_vret tc_d4_skipAll_50 rfl (tc_rvS h)
    · refine tc_aload_n tc_d4_skipAll_11 0 rfl ?_
      refine tc_g4_0 tc_d4_skipAll_12 tc_w227 ?_
      refine tc_aload_n tc_d4_skipAll_15 0 rfl ?_
      refine tc_g4_2 tc_d4_skipAll_16 tc_w230 ?_
      obtain ⟨hi1, h⟩ := tc_ckS h
      refine tc_iald tc_d4_skipAll_19 tc_aL43 hi1 ?_
      refine tc_iload_n tc_d4_skipAll_20 1 rfl ?_
      refine tc_icmp_lt (tgt := 50) tc_d4_skipAll_21 (by decide) h (fun h => ?_) (fun h => ?_)
      · exact tc_vret tc_d4_skipAll_50 rfl (tc_rvS h)
      · refine tc_aload_n tc_d4_skipAll_24 0 rfl ?_
        refine tc_g4_0 tc_d4_skipAll_25 tc_w227 ?_
        refine tc_aload_n tc_d4_skipAll_28 0 rfl ?_
        refine tc_g4_2 tc_d4_skipAll_29 tc_w230 ?_
        obtain ⟨hi2, h⟩ := tc_ckS h
        refine tc_iald tc_d4_skipAll_32 tc_aL43 hi2 ?_
        refine tc_iload_n tc_d4_skipAll_33 2 rfl ?_
        refine tc_icmp_gt (tgt := 50) tc_d4_skipAll_34 (by decide) h (fun h => ?_) (fun h => ?_)
        · exact tc_vret tc_d4_skipAll_50 rfl (tc_rvS h)
        · refine tc_aload_n tc_d4_skipAll_37 0 rfl ?_
          refine tc_dup tc_d4_skipAll_38 rfl ?_
          refine tc_g4_2 tc_d4_skipAll_39 tc_w230 ?_
          refine tc_iconst (v := 1) tc_d4_skipAll_42 (by decide) ?_
          refine tc_iadd tc_d4_skipAll_43 ?_
          refine tc_p4_2 tc_d4_skipAll_44 tc_w230 h (fun μ3 h => ?_)
          refine tc_goto (tgt := 0) tc_d4_skipAll_47 (by decide) ?_
          exact (ih _ _ _ _) h
def tc_f4_skipAll (N : Nat) (x1 : Int32) (x2 : Int32) (μ : tc_Mem) : Option (Int32 × tc_Mem) :=
  tc_f4_skipAll_0 N N x1 x2 μ
theorem tc_b4_skipAll_E (N : Nat) (x1 : Int32) (x2 : Int32) (μ : tc_Mem) (z : Int32 × tc_Mem) (h : tc_f4_skipAll N x1 x2 μ = some z) : tc_At l G tc_i4_skipAll none z.2 X 0 [(0, .ref (tc_ad G 42)), (1, .int x1), (2, .int x2)] [] μ := by
  unfold tc_f4_skipAll at h
  exact (tc_b4_skipAll_0 N N _ _ _ _) h
theorem tc_c4_skipAll (N : Nat) {x1 : Int32} {x2 : Int32} {μ : tc_Mem} {z : Int32 × tc_Mem} (h : tc_f4_skipAll N x1 x2 μ = some z) : tc_Con l G tc_i4_skipAll [.ref (tc_ad G 42), .int x1, .int x2] μ none z.2 :=
  tc_Con.of (L := [(0, .ref (tc_ad G 42)), (1, .int x1), (2, .int x2)]) (by decide) (Nat.le_of_ble_eq_true rfl) rfl (fun X => tc_b4_skipAll_E N  _ _ _ _ h)
end WALK
