section WALK
variable {l : Launch} {G : tc_G} {X : tc_X}
def tc_f7_caughtBy (N : Nat) (x1 : Int32) (x2 : Int32) (μ : tc_Mem) : Option (Int32 × tc_Mem) :=
  if x1 = 2 then
    if ((μ 50 0) - 1) ≤ x2 then
      some (0, μ)
    else
      tc_ck (x2 + 1) 8 (
      some (((μ 52 (x2 + 1).toNatClampNeg) / 2), μ))
  else
    some (0, μ)
theorem tc_b7_caughtBy_0 (N : Nat) (x1 : Int32) (x2 : Int32) (μ : tc_Mem) (z : Int32 × tc_Mem) (h : tc_f7_caughtBy N x1 x2 μ = some z) : tc_At l G tc_i7_caughtBy (some (.int z.1)) z.2 X 0 [(0, .ref (tc_ad G 50)), (1, .int x1), (2, .int x2)] [] μ := by
  unfold tc_f7_caughtBy at h
  refine tc_iload_n tc_d7_caughtBy_0 1 rfl ?_
  refine tc_iconst (v := 2) tc_d7_caughtBy_1 (by decide) ?_
  refine tc_icmp_ne (tgt := 28) tc_d7_caughtBy_2 (by decide) h (fun h => ?_) (fun h => ?_)
  · refine tc_iconst (v := 0) tc_d7_caughtBy_28 (by decide) ?_
    exact tc_iret tc_d7_caughtBy_29 rfl (tc_riS h)
  · refine tc_iload_n tc_d7_caughtBy_5 2 rfl ?_
    refine tc_aload_n tc_d7_caughtBy_6 0 rfl ?_
    refine tc_g7_0 tc_d7_caughtBy_7 tc_w878 ?_
    refine tc_iconst (v := 1) tc_d7_caughtBy_10 (by decide) ?_
    refine tc_isub tc_d7_caughtBy_11 ?_
    refine tc_icmp_ge (tgt := 28) tc_d7_caughtBy_12 (by decide) h (fun h => ?_) (fun h => ?_)
    · refine tc_iconst (v := 0) tc_d7_caughtBy_28 (by decide) ?_
      exact tc_iret tc_d7_caughtBy_29 rfl (tc_riS h)
    · refine tc_aload_n tc_d7_caughtBy_15 0 rfl ?_
      refine tc_g7_2 tc_d7_caughtBy_16 tc_w880 ?_
      refine tc_iload_n tc_d7_caughtBy_19 2 rfl ?_
      refine tc_iconst (v := 1) tc_d7_caughtBy_20 (by decide) ?_
      refine tc_iadd tc_d7_caughtBy_21 ?_
      obtain ⟨hi1, h⟩ := tc_ckS h
      refine tc_iald tc_d7_caughtBy_22 tc_aL52 hi1 ?_
      refine tc_iconst (v := 2) tc_d7_caughtBy_23 (by decide) ?_
      refine tc_idiv tc_d7_caughtBy_24 (by decide) ?_
      refine tc_goto (tgt := 29) tc_d7_caughtBy_25 (by decide) ?_
      exact tc_iret tc_d7_caughtBy_29 rfl (tc_riS h)
theorem tc_c7_caughtBy (N : Nat) {x1 : Int32} {x2 : Int32} {μ : tc_Mem} {z : Int32 × tc_Mem} (h : tc_f7_caughtBy N x1 x2 μ = some z) : tc_Con l G tc_i7_caughtBy [.ref (tc_ad G 50), .int x1, .int x2] μ (some (.int z.1)) z.2 :=
  tc_Con.of (L := [(0, .ref (tc_ad G 50)), (1, .int x1), (2, .int x2)]) (by decide) (Nat.le_of_ble_eq_true rfl) rfl (fun X => tc_b7_caughtBy_0 N  _ _ _ _ h)
def tc_f7_addFault (N : Nat) (x1 : Int32) (x2 : Int32) (μ : tc_Mem) : Option (Int32 × tc_Mem) :=
  tc_ck (μ 50 9) 20 (
  tc_lt (tc_wr μ 59 (μ 50 9).toNatClampNeg x1) fun μ2 =>
  tc_ck (μ2 50 9) 20 (
  tc_lt (tc_wr μ2 60 (μ2 50 9).toNatClampNeg x2) fun μ4 =>
  tc_bd (tc_f7_caughtBy N x1 x2 μ4) fun r5 μ6 =>
  tc_ck (μ4 50 9) 20 (
  tc_lt (tc_wr μ6 61 (μ4 50 9).toNatClampNeg r5) fun μ8 =>
  tc_lt (tc_wr μ8 50 9 ((μ8 50 9) + 1)) fun μ9 =>
  some (0, μ9))))
theorem tc_b7_addFault_0 (N : Nat) (x1 : Int32) (x2 : Int32) (μ : tc_Mem) (z : Int32 × tc_Mem) (h : tc_f7_addFault N x1 x2 μ = some z) : tc_At l G tc_i7_addFault none z.2 X 0 [(0, .ref (tc_ad G 50)), (1, .int x1), (2, .int x2)] [] μ := by
  unfold tc_f7_addFault at h
  refine tc_aload_n tc_d7_addFault_0 0 rfl ?_
  refine tc_g7_10 tc_d7_addFault_1 tc_w888 ?_
  refine tc_aload_n tc_d7_addFault_4 0 rfl ?_
  refine tc_g7_9 tc_d7_addFault_5 tc_w887 ?_
  refine tc_iload_n tc_d7_addFault_8 1 rfl ?_
  obtain ⟨hi1, h⟩ := tc_ckS h
  refine tc_iastL tc_d7_addFault_9 tc_aL59 hi1 h (fun μ2 h => ?_)
  refine tc_aload_n tc_d7_addFault_10 0 rfl ?_
  refine tc_g7_11 tc_d7_addFault_11 tc_w889 ?_
  refine tc_aload_n tc_d7_addFault_14 0 rfl ?_
  refine tc_g7_9 tc_d7_addFault_15 tc_w887 ?_
  refine tc_iload_n tc_d7_addFault_18 2 rfl ?_
  obtain ⟨hi3, h⟩ := tc_ckS h
  refine tc_iastL tc_d7_addFault_19 tc_aL60 hi3 h (fun μ4 h => ?_)
  refine tc_aload_n tc_d7_addFault_20 0 rfl ?_
  refine tc_g7_12 tc_d7_addFault_21 tc_w890 ?_
  refine tc_aload_n tc_d7_addFault_24 0 rfl ?_
  refine tc_g7_9 tc_d7_addFault_25 tc_w887 ?_
  refine tc_aload_n tc_d7_addFault_28 0 rfl ?_
  refine tc_iload_n tc_d7_addFault_29 1 rfl ?_
  refine tc_iload_n tc_d7_addFault_30 2 rfl ?_
  obtain ⟨r5, μ6, e5, h⟩ := tc_bdS h
  have c5 := tc_c7_caughtBy (l := l) (G := G) N e5
  refine tc_callVi (As := [.int x1, .int x2]) (rest := [.int (μ4 50 9), .ref (tc_ad G 61)]) (r1 := r5) (μ1 := μ6) tc_d7_addFault_31 tc_ok7_caughtBy tc_w1081 ⟨Nat.le_of_ble_eq_true rfl, Nat.le_of_ble_eq_true rfl⟩ tc_s7 rfl c5 rfl rfl (Nat.le_of_ble_eq_true rfl) ?_
  obtain ⟨hi7, h⟩ := tc_ckS h
  refine tc_iastL tc_d7_addFault_34 tc_aL61 hi7 h (fun μ8 h => ?_)
  refine tc_aload_n tc_d7_addFault_35 0 rfl ?_
  refine tc_dup tc_d7_addFault_36 rfl ?_
  refine tc_g7_9 tc_d7_addFault_37 tc_w887 ?_
  refine tc_iconst (v := 1) tc_d7_addFault_40 (by decide) ?_
  refine tc_iadd tc_d7_addFault_41 ?_
  refine tc_p7_9 tc_d7_addFault_42 tc_w887 h (fun μ9 h => ?_)
  exact tc_vret tc_d7_addFault_45 rfl (tc_rvS h)
theorem tc_c7_addFault (N : Nat) {x1 : Int32} {x2 : Int32} {μ : tc_Mem} {z : Int32 × tc_Mem} (h : tc_f7_addFault N x1 x2 μ = some z) : tc_Con l G tc_i7_addFault [.ref (tc_ad G 50), .int x1, .int x2] μ none z.2 :=
  tc_Con.of (L := [(0, .ref (tc_ad G 50)), (1, .int x1), (2, .int x2)]) (by decide) (Nat.le_of_ble_eq_true rfl) rfl (fun X => tc_b7_addFault_0 N  _ _ _ _ h)
def tc_f7_keepsNow_50 (N : Nat) (μ : tc_Mem) : Option (Int32 × tc_Mem) :=
  tc_lt (tc_wr μ 50 31 (μ 50 9)) fun μ1 =>
  some (0, μ1)
theorem tc_b7_keepsNow_50 (N : Nat) (μ : tc_Mem) (z : Int32 × tc_Mem) (h : tc_f7_keepsNow_50 N μ = some z) : tc_At l G tc_i7_keepsNow none z.2 X 50 [(0, .ref (tc_ad G 50))] [] μ := by
  unfold tc_f7_keepsNow_50 at h
  refine tc_aload_n tc_d7_keepsNow_50 0 rfl ?_
  refine tc_aload_n tc_d7_keepsNow_51 0 rfl ?_
  refine tc_g7_9 tc_d7_keepsNow_52 tc_w887 ?_
  refine tc_p7_31 tc_d7_keepsNow_55 tc_w909 h (fun μ1 h => ?_)
  exact tc_vret tc_d7_keepsNow_58 rfl (tc_rvS h)
def tc_f7_keepsNow_2 (N : Nat) : Nat → Int32 → tc_Mem → Option (Int32 × tc_Mem)
  | 0 => fun _ _ => none
  | n + 1 => fun x1 μ => 
    if (8 : Int32) ≤ x1 then
      tc_f7_keepsNow_50 N μ
    else
      tc_ck x1 8 (
      tc_ck x1 8 (
      tc_lt (tc_wr μ 72 x1.toNatClampNeg (vp_nar .boolean (μ 56 x1.toNatClampNeg))) fun μ3 =>
      tc_ck x1 8 (
      tc_ck x1 8 (
      tc_lt (tc_wr μ3 73 x1.toNatClampNeg (vp_nar .boolean (μ3 57 x1.toNatClampNeg))) fun μ6 =>
      tc_ck x1 8 (
      tc_ck x1 8 (
      tc_lt (tc_wr μ6 74 x1.toNatClampNeg (μ6 55 x1.toNatClampNeg)) fun μ9 =>
      tc_f7_keepsNow_2 N  n (x1 + 1) μ9))))))
theorem tc_b7_keepsNow_2 (N : Nat) : ∀ (n : Nat) (x1 : Int32) (μ : tc_Mem) (z : Int32 × tc_Mem), tc_f7_keepsNow_2 N n x1 μ = some z → tc_At l G tc_i7_keepsNow none z.2 X 2 [(0, .ref (tc_ad G 50)), (1, .int x1)] [] μ := by
  intro n
  induction n with
  | zero => intro x1 μ z h; cases h
  | succ n ih =>
    intro x1 μ z h
    rw [tc_f7_keepsNow_2] at h
    refine tc_iload_n tc_d7_keepsNow_2 1 rfl ?_
    refine tc_bipush (v := 8) tc_d7_keepsNow_3 (by decide) ?_
    refine tc_icmp_ge (tgt := 50) tc_d7_keepsNow_5 (by decide) h (fun h => ?_) (fun h => ?_)
    · refine tc_sub [0] rfl ?_
      exact (tc_b7_keepsNow_50 N _ _) h
    · refine tc_aload_n tc_d7_keepsNow_8 0 rfl ?_
      refine tc_g7_28 tc_d7_keepsNow_9 tc_w906 ?_
      refine tc_iload_n tc_d7_keepsNow_12 1 rfl ?_
      refine tc_aload_n tc_d7_keepsNow_13 0 rfl ?_
      refine tc_g7_6 tc_d7_keepsNow_14 tc_w884 ?_
      refine tc_iload_n tc_d7_keepsNow_17 1 rfl ?_
      obtain ⟨hi1, h⟩ := tc_ckS h
      refine tc_zald tc_d7_keepsNow_18 tc_aL56 hi1 ?_
      obtain ⟨hi2, h⟩ := tc_ckS h
      refine tc_zastL tc_d7_keepsNow_19 tc_aL72 hi2 h (fun μ3 h => ?_)
      refine tc_aload_n tc_d7_keepsNow_20 0 rfl ?_
      refine tc_g7_29 tc_d7_keepsNow_21 tc_w907 ?_
      refine tc_iload_n tc_d7_keepsNow_24 1 rfl ?_
      refine tc_aload_n tc_d7_keepsNow_25 0 rfl ?_
      refine tc_g7_7 tc_d7_keepsNow_26 tc_w885 ?_
      refine tc_iload_n tc_d7_keepsNow_29 1 rfl ?_
      obtain ⟨hi4, h⟩ := tc_ckS h
      refine tc_zald tc_d7_keepsNow_30 tc_aL57 hi4 ?_
      obtain ⟨hi5, h⟩ := tc_ckS h
      refine tc_zastL tc_d7_keepsNow_31 tc_aL73 hi5 h (fun μ6 h => ?_)
      refine tc_aload_n tc_d7_keepsNow_32 0 rfl ?_
      refine tc_g7_30 tc_d7_keepsNow_33 tc_w908 ?_
      refine tc_iload_n tc_d7_keepsNow_36 1 rfl ?_
      refine tc_aload_n tc_d7_keepsNow_37 0 rfl ?_
      refine tc_g7_5 tc_d7_keepsNow_38 tc_w883 ?_
      refine tc_iload_n tc_d7_keepsNow_41 1 rfl ?_
      obtain ⟨hi7, h⟩ := tc_ckS h
      refine tc_iald tc_d7_keepsNow_42 tc_aL55 hi7 ?_
      obtain ⟨hi8, h⟩ := tc_ckS h
      refine tc_iastL tc_d7_keepsNow_43 tc_aL74 hi8 h (fun μ9 h => ?_)
      refine tc_iinc (v := (x1 + 1)) (L' := [(1, .int (x1 + 1)), (0, .ref (tc_ad G 50))]) tc_d7_keepsNow_44 1 rfl rfl (by decide) rfl ?_
      refine tc_goto (tgt := 2) tc_d7_keepsNow_47 (by decide) ?_
      refine tc_sub [1, 0] rfl ?_
      exact (ih _ _ _) h
def tc_f7_keepsNow (N : Nat) (μ : tc_Mem) : Option (Int32 × tc_Mem) :=
  tc_f7_keepsNow_2 N N 0 μ
theorem tc_b7_keepsNow_0 (N : Nat) (μ : tc_Mem) (z : Int32 × tc_Mem) (h : tc_f7_keepsNow N μ = some z) : tc_At l G tc_i7_keepsNow none z.2 X 0 [(0, .ref (tc_ad G 50))] [] μ := by
  unfold tc_f7_keepsNow at h
  refine tc_iconst (v := 0) tc_d7_keepsNow_0 (by decide) ?_
  refine tc_istore_n (L' := [(1, .int 0), (0, .ref (tc_ad G 50))]) tc_d7_keepsNow_1 (by decide) rfl ?_
  refine tc_sub [1, 0] rfl ?_
  exact (tc_b7_keepsNow_2 N N _ _ _) h
theorem tc_c7_keepsNow (N : Nat) {μ : tc_Mem} {z : Int32 × tc_Mem} (h : tc_f7_keepsNow N μ = some z) : tc_Con l G tc_i7_keepsNow [.ref (tc_ad G 50)] μ none z.2 :=
  tc_Con.of (L := [(0, .ref (tc_ad G 50))]) (by decide) (Nat.le_of_ble_eq_true rfl) rfl (fun X => tc_b7_keepsNow_0 N  _ _ h)
def tc_f7_comes (N : Nat) (x1 : Int32) (μ : tc_Mem) : Option (Int32 × tc_Mem) :=
  tc_ck x1 8 (
  if (μ 69 x1.toNatClampNeg) = 0 then
    tc_ck (((μ 50 24) + (μ 50 25)) - ((μ 50 24) + (μ 50 25)) / 8 * 8) 8 (
    tc_lt (tc_wr μ 68 (((μ 50 24) + (μ 50 25)) - ((μ 50 24) + (μ 50 25)) / 8 * 8).toNatClampNeg x1) fun μ3 =>
    tc_ck x1 8 (
    tc_lt (tc_wr μ3 69 x1.toNatClampNeg (vp_nar .boolean 1)) fun μ5 =>
    tc_lt (tc_wr μ5 50 25 ((μ5 50 25) + 1)) fun μ6 =>
    some (0, μ6)))
  else
    some (0, μ))
theorem tc_b7_comes_0 (N : Nat) (x1 : Int32) (μ : tc_Mem) (z : Int32 × tc_Mem) (h : tc_f7_comes N x1 μ = some z) : tc_At l G tc_i7_comes none z.2 X 0 [(0, .ref (tc_ad G 50)), (1, .int x1)] [] μ := by
  unfold tc_f7_comes at h
  refine tc_aload_n tc_d7_comes_0 0 rfl ?_
  refine tc_g7_23 tc_d7_comes_1 tc_w901 ?_
  refine tc_iload_n tc_d7_comes_4 1 rfl ?_
  obtain ⟨hi1, h⟩ := tc_ckS h
  refine tc_zald tc_d7_comes_5 tc_aL69 hi1 ?_
  refine tc_if_eq (tgt := 10) tc_d7_comes_6 (by decide) h (fun h => ?_) (fun h => ?_)
  · refine tc_aload_n tc_d7_comes_10 0 rfl ?_
    refine tc_g7_22 tc_d7_comes_11 tc_w900 ?_
    refine tc_aload_n tc_d7_comes_14 0 rfl ?_
    refine tc_g7_24 tc_d7_comes_15 tc_w902 ?_
    refine tc_aload_n tc_d7_comes_18 0 rfl ?_
    refine tc_g7_25 tc_d7_comes_19 tc_w903 ?_
    refine tc_iadd tc_d7_comes_22 ?_
    refine tc_bipush (v := 8) tc_d7_comes_23 (by decide) ?_
    refine tc_irem tc_d7_comes_25 (by decide) ?_
    refine tc_iload_n tc_d7_comes_26 1 rfl ?_
    obtain ⟨hi2, h⟩ := tc_ckS h
    refine tc_iastL tc_d7_comes_27 tc_aL68 hi2 h (fun μ3 h => ?_)
    refine tc_aload_n tc_d7_comes_28 0 rfl ?_
    refine tc_g7_23 tc_d7_comes_29 tc_w901 ?_
    refine tc_iload_n tc_d7_comes_32 1 rfl ?_
    refine tc_iconst (v := 1) tc_d7_comes_33 (by decide) ?_
    obtain ⟨hi4, h⟩ := tc_ckS h
    refine tc_zastL tc_d7_comes_34 tc_aL69 hi4 h (fun μ5 h => ?_)
    refine tc_aload_n tc_d7_comes_35 0 rfl ?_
    refine tc_dup tc_d7_comes_36 rfl ?_
    refine tc_g7_25 tc_d7_comes_37 tc_w903 ?_
    refine tc_iconst (v := 1) tc_d7_comes_40 (by decide) ?_
    refine tc_iadd tc_d7_comes_41 ?_
    refine tc_p7_25 tc_d7_comes_42 tc_w903 h (fun μ6 h => ?_)
    exact tc_vret tc_d7_comes_45 rfl (tc_rvS h)
  · exact tc_vret tc_d7_comes_9 rfl (tc_rvS h)
theorem tc_c7_comes (N : Nat) {x1 : Int32} {μ : tc_Mem} {z : Int32 × tc_Mem} (h : tc_f7_comes N x1 μ = some z) : tc_Con l G tc_i7_comes [.ref (tc_ad G 50), .int x1] μ none z.2 :=
  tc_Con.of (L := [(0, .ref (tc_ad G 50)), (1, .int x1)]) (by decide) (Nat.le_of_ble_eq_true rfl) rfl (fun X => tc_b7_comes_0 N  _ _ _ h)
def tc_f7_leakOf (N : Nat) (x1 : Int32) (μ : tc_Mem) : Option (Int32 × tc_Mem) :=
  tc_ck x1 8 (
  tc_ck x1 8 (
  tc_ck 2 3 (
  some (((((μ 53 x1.toNatClampNeg) * (μ 54 x1.toNatClampNeg)) * (μ 58 (2 : Int32).toNatClampNeg)) / 10), μ))))
theorem tc_b7_leakOf_0 (N : Nat) (x1 : Int32) (μ : tc_Mem) (z : Int32 × tc_Mem) (h : tc_f7_leakOf N x1 μ = some z) : tc_At l G tc_i7_leakOf (some (.int z.1)) z.2 X 0 [(0, .ref (tc_ad G 50)), (1, .int x1)] [] μ := by
  unfold tc_f7_leakOf at h
  refine tc_aload_n tc_d7_leakOf_0 0 rfl ?_
  refine tc_g7_3 tc_d7_leakOf_1 tc_w881 ?_
  refine tc_iload_n tc_d7_leakOf_4 1 rfl ?_
  obtain ⟨hi1, h⟩ := tc_ckS h
  refine tc_iald tc_d7_leakOf_5 tc_aL53 hi1 ?_
  refine tc_aload_n tc_d7_leakOf_6 0 rfl ?_
  refine tc_g7_4 tc_d7_leakOf_7 tc_w882 ?_
  refine tc_iload_n tc_d7_leakOf_10 1 rfl ?_
  obtain ⟨hi2, h⟩ := tc_ckS h
  refine tc_iald tc_d7_leakOf_11 tc_aL54 hi2 ?_
  refine tc_imul tc_d7_leakOf_12 ?_
  refine tc_aload_n tc_d7_leakOf_13 0 rfl ?_
  refine tc_g7_8 tc_d7_leakOf_14 tc_w886 ?_
  refine tc_iconst (v := 2) tc_d7_leakOf_17 (by decide) ?_
  obtain ⟨hi3, h⟩ := tc_ckS h
  refine tc_iald tc_d7_leakOf_18 tc_aL58 hi3 ?_
  refine tc_imul tc_d7_leakOf_19 ?_
  refine tc_bipush (v := 10) tc_d7_leakOf_20 (by decide) ?_
  refine tc_idiv tc_d7_leakOf_22 (by decide) ?_
  exact tc_iret tc_d7_leakOf_23 rfl (tc_riS h)
theorem tc_c7_leakOf (N : Nat) {x1 : Int32} {μ : tc_Mem} {z : Int32 × tc_Mem} (h : tc_f7_leakOf N x1 μ = some z) : tc_Con l G tc_i7_leakOf [.ref (tc_ad G 50), .int x1] μ (some (.int z.1)) z.2 :=
  tc_Con.of (L := [(0, .ref (tc_ad G 50)), (1, .int x1)]) (by decide) (Nat.le_of_ble_eq_true rfl) rfl (fun X => tc_b7_leakOf_0 N  _ _ _ h)
def tc_f7_hasFault_2 (N : Nat) : Nat → Int32 → Int32 → Int32 → tc_Mem → Option (Int32 × tc_Mem)
  | 0 => fun _ _ _ _ => none
  | n + 1 => fun x1 x2 x3 μ => 
    if (μ 50 9) ≤ x3 then
      some (0, μ)
    else
      if x3 = (μ 50 13) then
        tc_f7_hasFault_2 N  n x1 x2 (x3 + 1) μ
      else
        tc_ck x3 20 (
        if (μ 60 x3.toNatClampNeg) = x1 then
          tc_ck x3 20 (
          if (μ 59 x3.toNatClampNeg) = x2 then
            some (1, μ)
          else
            tc_f7_hasFault_2 N  n x1 x2 (x3 + 1) μ)
        else
          tc_f7_hasFault_2 N  n x1 x2 (x3 + 1) μ)
theorem tc_b7_hasFault_2 (N : Nat) : ∀ (n : Nat) (x1 : Int32) (x2 : Int32) (x3 : Int32) (μ : tc_Mem) (z : Int32 × tc_Mem), tc_f7_hasFault_2 N n x1 x2 x3 μ = some z → tc_At l G tc_i7_hasFault (some (.int z.1)) z.2 X 2 [(0, .ref (tc_ad G 50)), (1, .int x1), (2, .int x2), (3, .int x3)] [] μ := by
  intro n
  induction n with
  | zero => intro x1 x2 x3 μ z h; cases h
  | succ n ih =>
    intro x1 x2 x3 μ z h
    rw [tc_f7_hasFault_2] at h
    refine tc_iload_n tc_d7_hasFault_2 3 rfl ?_
    refine tc_aload_n tc_d7_hasFault_3 0 rfl ?_
    refine tc_g7_9 tc_d7_hasFault_4 tc_w887 ?_
    refine tc_icmp_ge (tgt := 46) tc_d7_hasFault_7 (by decide) h (fun h => ?_) (fun h => ?_)
    · refine tc_iconst (v := 0) tc_d7_hasFault_46 (by decide) ?_
      exact tc_zret tc_d7_hasFault_47 rfl (by decide) (tc_riS h)
    · refine tc_iload_n tc_d7_hasFault_10 3 rfl ?_
      refine tc_aload_n tc_d7_hasFault_11 0 rfl ?_
      refine tc_g7_13 tc_d7_hasFault_12 tc_w891 ?_
      refine tc_icmp_eq (tgt := 40) tc_d7_hasFault_15 (by decide) h (fun h => ?_) (fun h => ?_)
      · refine tc_iinc (v := (x3 + 1)) (L' := [(3, .int (x3 + 1)), (0, .ref (tc_ad G 50)), (1, .int x1), (2, .int x2)]) tc_d7_hasFault_40 3 rfl rfl (by decide) rfl ?_
        refine tc_goto (tgt := 2) tc_d7_hasFault_43 (by decide) ?_
        refine tc_sub [1, 2, 3, 0] rfl ?_
        exact (ih _ _ _ _ _) h
      · refine tc_aload_n tc_d7_hasFault_18 0 rfl ?_
        refine tc_g7_11 tc_d7_hasFault_19 tc_w889 ?_
        refine tc_iload_n tc_d7_hasFault_22 3 rfl ?_
        obtain ⟨hi1, h⟩ := tc_ckS h
        refine tc_iald tc_d7_hasFault_23 tc_aL60 hi1 ?_
        refine tc_iload_n tc_d7_hasFault_24 1 rfl ?_
        refine tc_icmp_ne (tgt := 40) tc_d7_hasFault_25 (by decide) h (fun h => ?_) (fun h => ?_)
        · refine tc_iinc (v := (x3 + 1)) (L' := [(3, .int (x3 + 1)), (0, .ref (tc_ad G 50)), (1, .int x1), (2, .int x2)]) tc_d7_hasFault_40 3 rfl rfl (by decide) rfl ?_
          refine tc_goto (tgt := 2) tc_d7_hasFault_43 (by decide) ?_
          refine tc_sub [1, 2, 3, 0] rfl ?_
          exact (ih _ _ _ _ _) h
        · refine tc_aload_n tc_d7_hasFault_28 0 rfl ?_
          refine tc_g7_10 tc_d7_hasFault_29 tc_w888 ?_
          refine tc_iload_n tc_d7_hasFault_32 3 rfl ?_
          obtain ⟨hi2, h⟩ := tc_ckS h
          refine tc_iald tc_d7_hasFault_33 tc_aL59 hi2 ?_
          refine tc_iload_n tc_d7_hasFault_34 2 rfl ?_
          refine tc_icmp_ne (tgt := 40) tc_d7_hasFault_35 (by decide) h (fun h => ?_) (fun h => ?_)
          · refine tc_iinc (v := (x3 + 1)) (L' := [(3, .int (x3 + 1)), (0, .ref (tc_ad G 50)), (1, .int x1), (2, .int x2)]) tc_d7_hasFault_40 3 rfl rfl (by decide) rfl ?_
            refine tc_goto (tgt := 2) tc_d7_hasFault_43 (by decide) ?_
            refine tc_sub [1, 2, 3, 0] rfl ?_
            exact (ih _ _ _ _ _) h
          · refine tc_iconst (v := 1) tc_d7_hasFault_38 (by decide) ?_
            exact tc_zret tc_d7_hasFault_39 rfl (by decide) (tc_riS h)
def tc_f7_hasFault (N : Nat) (x1 : Int32) (x2 : Int32) (μ : tc_Mem) : Option (Int32 × tc_Mem) :=
  tc_f7_hasFault_2 N N x1 x2 0 μ
theorem tc_b7_hasFault_0 (N : Nat) (x1 : Int32) (x2 : Int32) (μ : tc_Mem) (z : Int32 × tc_Mem) (h : tc_f7_hasFault N x1 x2 μ = some z) : tc_At l G tc_i7_hasFault (some (.int z.1)) z.2 X 0 [(0, .ref (tc_ad G 50)), (1, .int x1), (2, .int x2)] [] μ := by
  unfold tc_f7_hasFault at h
  refine tc_iconst (v := 0) tc_d7_hasFault_0 (by decide) ?_
  refine tc_istore_n (L' := [(3, .int 0), (0, .ref (tc_ad G 50)), (1, .int x1), (2, .int x2)]) tc_d7_hasFault_1 (by decide) rfl ?_
  refine tc_sub [1, 2, 3, 0] rfl ?_
  exact (tc_b7_hasFault_2 N N _ _ _ _ _) h
theorem tc_c7_hasFault (N : Nat) {x1 : Int32} {x2 : Int32} {μ : tc_Mem} {z : Int32 × tc_Mem} (h : tc_f7_hasFault N x1 x2 μ = some z) : tc_Con l G tc_i7_hasFault [.ref (tc_ad G 50), .int x1, .int x2] μ (some (.int z.1)) z.2 :=
  tc_Con.of (L := [(0, .ref (tc_ad G 50)), (1, .int x1), (2, .int x2)]) (by decide) (Nat.le_of_ble_eq_true rfl) rfl (fun X => tc_b7_hasFault_0 N  _ _ _ _ h)
def tc_f7_currentOf_122 (N : Nat) (x1 : Int32) (x2 : Int32) (μ : tc_Mem) : Option (Int32 × tc_Mem) :=
  tc_ck x1 8 (
  if (μ 57 x1.toNatClampNeg) = 0 then
    some (x2, μ)
  else
    tc_bd (tc_f7_hasFault N x1 3 μ) fun r2 μ3 =>
    if r2 = 0 then
      some (0, μ3)
    else
      some ((x2 / 4), μ3))
theorem tc_b7_currentOf_122 (N : Nat) (x1 : Int32) (x2 : Int32) (μ : tc_Mem) (z : Int32 × tc_Mem) (h : tc_f7_currentOf_122 N x1 x2 μ = some z) : tc_At l G tc_i7_currentOf (some (.int z.1)) z.2 X 122 [(0, .ref (tc_ad G 50)), (1, .int x1), (2, .int x2)] [] μ := by
  unfold tc_f7_currentOf_122 at h
  refine tc_aload_n tc_d7_currentOf_122 0 rfl ?_
  refine tc_g7_7 tc_d7_currentOf_123 tc_w885 ?_
  refine tc_iload_n tc_d7_currentOf_126 1 rfl ?_
  obtain ⟨hi1, h⟩ := tc_ckS h
  refine tc_zald tc_d7_currentOf_127 tc_aL57 hi1 ?_
  refine tc_if_ne (tgt := 135) tc_d7_currentOf_128 (by decide) h (fun h => ?_) (fun h => ?_)
  · refine tc_aload_n tc_d7_currentOf_135 0 rfl ?_
    refine tc_iload_n tc_d7_currentOf_136 1 rfl ?_
    refine tc_iconst (v := 3) tc_d7_currentOf_137 (by decide) ?_
    obtain ⟨r2, μ3, e2, h⟩ := tc_bdS h
    have c2 := tc_c7_hasFault (l := l) (G := G) N e2
    refine tc_callVi (As := [.int x1, .int 3]) (rest := []) (r1 := r2) (μ1 := μ3) tc_d7_currentOf_138 tc_ok7_hasFault tc_w1034 ⟨Nat.le_of_ble_eq_true rfl, Nat.le_of_ble_eq_true rfl⟩ tc_s7 rfl c2 rfl rfl (Nat.le_of_ble_eq_true rfl) ?_
    refine tc_if_eq (tgt := 150) tc_d7_currentOf_141 (by decide) h (fun h => ?_) (fun h => ?_)
    · refine tc_iconst (v := 0) tc_d7_currentOf_150 (by decide) ?_
      exact tc_iret tc_d7_currentOf_151 rfl (tc_riS h)
    · refine tc_iload_n tc_d7_currentOf_144 2 rfl ?_
      refine tc_iconst (v := 4) tc_d7_currentOf_145 (by decide) ?_
      refine tc_idiv tc_d7_currentOf_146 (by decide) ?_
      refine tc_goto (tgt := 151) tc_d7_currentOf_147 (by decide) ?_
      exact tc_iret tc_d7_currentOf_151 rfl (tc_riS h)
  · refine tc_iload_n tc_d7_currentOf_131 2 rfl ?_
    refine tc_goto (tgt := 151) tc_d7_currentOf_132 (by decide) ?_
    exact tc_iret tc_d7_currentOf_151 rfl (tc_riS h)
def tc_f7_currentOf_19 (N : Nat) : Nat → Int32 → Int32 → Int32 → tc_Mem → Option (Int32 × tc_Mem)
  | 0 => fun _ _ _ _ => none
  | n + 1 => fun x1 x2 x3 μ => 
    if (μ 50 9) ≤ x3 then
      tc_f7_currentOf_122 N x1 x2 μ
    else
      if x3 = (μ 50 13) then
        tc_f7_currentOf_19 N  n x1 x2 (x3 + 1) μ
      else
        tc_ck x3 20 (
        if (μ 60 x3.toNatClampNeg) = x1 then
          tc_ck x3 20 (
          tc_lt (μ 59 x3.toNatClampNeg) fun v3 =>
          if v3 < 0 ∨ 2 < v3 then
            tc_f7_currentOf_19 N  n x1 x2 (x3 + 1) μ
          else if v3 = 0 then
            tc_bd (tc_f7_leakOf N x1 μ) fun r4 μ5 =>
            tc_lt (r4 / 2) fun v6 =>
            tc_f7_currentOf_19 N  n x1 v6 (x3 + 1) μ5
          else if v3 = 1 then
            tc_lt (x2 / 2) fun v7 =>
            tc_f7_currentOf_19 N  n x1 v7 (x3 + 1) μ
          else if v3 = 2 then
            tc_ck x3 20 (
            tc_lt (if (x2 + (μ 61 x3.toNatClampNeg)) < 999 then (x2 + (μ 61 x3.toNatClampNeg)) else 999) fun v9 =>
            tc_f7_currentOf_19 N  n x1 v9 (x3 + 1) μ)
          else none)
        else
          tc_f7_currentOf_19 N  n x1 x2 (x3 + 1) μ)
theorem tc_b7_currentOf_19 (N : Nat) : ∀ (n : Nat) (x1 : Int32) (x2 : Int32) (x3 : Int32) (μ : tc_Mem) (z : Int32 × tc_Mem), tc_f7_currentOf_19 N n x1 x2 x3 μ = some z → tc_At l G tc_i7_currentOf (some (.int z.1)) z.2 X 19 [(0, .ref (tc_ad G 50)), (1, .int x1), (2, .int x2), (3, .int x3)] [] μ := by
  intro n
  induction n with
  | zero => intro x1 x2 x3 μ z h; cases h
  | succ n ih =>
    intro x1 x2 x3 μ z h
    rw [tc_f7_currentOf_19] at h
    refine tc_iload_n tc_d7_currentOf_19 3 rfl ?_
    refine tc_aload_n tc_d7_currentOf_20 0 rfl ?_
    refine tc_g7_9 tc_d7_currentOf_21 tc_w887 ?_
    refine tc_icmp_ge (tgt := 122) tc_d7_currentOf_24 (by decide) h (fun h => ?_) (fun h => ?_)
    · refine tc_sub [0, 1, 2] rfl ?_
      exact (tc_b7_currentOf_122 N _ _ _ _) h
    · refine tc_iload_n tc_d7_currentOf_27 3 rfl ?_
      refine tc_aload_n tc_d7_currentOf_28 0 rfl ?_
      refine tc_g7_13 tc_d7_currentOf_29 tc_w891 ?_
      refine tc_icmp_eq (tgt := 116) tc_d7_currentOf_32 (by decide) h (fun h => ?_) (fun h => ?_)
      · refine tc_iinc (v := (x3 + 1)) (L' := [(3, .int (x3 + 1)), (0, .ref (tc_ad G 50)), (1, .int x1), (2, .int x2)]) tc_d7_currentOf_116 3 rfl rfl (by decide) rfl ?_
        refine tc_goto (tgt := 19) tc_d7_currentOf_119 (by decide) ?_
        refine tc_sub [1, 2, 3, 0] rfl ?_
        exact (ih _ _ _ _ _) h
      · refine tc_aload_n tc_d7_currentOf_35 0 rfl ?_
        refine tc_g7_11 tc_d7_currentOf_36 tc_w889 ?_
        refine tc_iload_n tc_d7_currentOf_39 3 rfl ?_
        obtain ⟨hi1, h⟩ := tc_ckS h
        refine tc_iald tc_d7_currentOf_40 tc_aL60 hi1 ?_
        refine tc_iload_n tc_d7_currentOf_41 1 rfl ?_
        refine tc_icmp_eq (tgt := 48) tc_d7_currentOf_42 (by decide) h (fun h => ?_) (fun h => ?_)
        · refine tc_aload_n tc_d7_currentOf_48 0 rfl ?_
          refine tc_g7_10 tc_d7_currentOf_49 tc_w888 ?_
          refine tc_iload_n tc_d7_currentOf_52 3 rfl ?_
          obtain ⟨hi2, h⟩ := tc_ckS h
          refine tc_iald tc_d7_currentOf_53 tc_aL59 hi2 ?_
          refine tc_ltI h (fun v3 h => ?_)
          by_cases hq : v3 < 0 ∨ 2 < v3
          · rw [if_pos hq] at h
            refine tc_tswD (a := 0) (b := 2) (tgt := 116) tc_d7_currentOf_54 ⟨by decide, by decide⟩ hq (by decide) ?_
            refine tc_iinc (v := (x3 + 1)) (L' := [(3, .int (x3 + 1)), (0, .ref (tc_ad G 50)), (1, .int x1), (2, .int x2)]) tc_d7_currentOf_116 3 rfl rfl (by decide) rfl ?_
            refine tc_goto (tgt := 19) tc_d7_currentOf_119 (by decide) ?_
            refine tc_sub [1, 2, 3, 0] rfl ?_
            exact (ih _ _ _ _ _) h
          · rw [if_neg hq] at h
            by_cases hq : v3 = 0
            · rw [if_pos hq] at h
              refine tc_tswK (k := 0) (off := 26) (tgt := 80) tc_d7_currentOf_54 hq (by decide) (by decide) rfl (by decide) ?_
              refine tc_aload_n tc_d7_currentOf_80 0 rfl ?_
              refine tc_iload_n tc_d7_currentOf_81 1 rfl ?_
              obtain ⟨r4, μ5, e4, h⟩ := tc_bdS h
              have c4 := tc_c7_leakOf (l := l) (G := G) N e4
              refine tc_callVi (As := [.int x1]) (rest := []) (r1 := r4) (μ1 := μ5) tc_d7_currentOf_82 tc_ok7_leakOf tc_w1024 ⟨Nat.le_of_ble_eq_true rfl, Nat.le_of_ble_eq_true rfl⟩ tc_s7 rfl c4 rfl rfl (Nat.le_of_ble_eq_true rfl) ?_
              refine tc_iconst (v := 2) tc_d7_currentOf_85 (by decide) ?_
              refine tc_idiv tc_d7_currentOf_86 (by decide) ?_
              refine tc_ltI h (fun v6 h => ?_)
              refine tc_istore_n (L' := [(2, .int v6), (0, .ref (tc_ad G 50)), (1, .int x1), (3, .int x3)]) tc_d7_currentOf_87 (by decide) rfl ?_
              refine tc_goto (tgt := 116) tc_d7_currentOf_88 (by decide) ?_
              refine tc_iinc (v := (x3 + 1)) (L' := [(3, .int (x3 + 1)), (2, .int v6), (0, .ref (tc_ad G 50)), (1, .int x1)]) tc_d7_currentOf_116 3 rfl rfl (by decide) rfl ?_
              refine tc_goto (tgt := 19) tc_d7_currentOf_119 (by decide) ?_
              refine tc_sub [2, 3, 1, 0] rfl ?_
              exact (ih _ _ _ _ _) h
            · rw [if_neg hq] at h
              by_cases hq : v3 = 1
              · rw [if_pos hq] at h
                refine tc_tswK (k := 1) (off := 37) (tgt := 91) tc_d7_currentOf_54 hq (by decide) (by decide) rfl (by decide) ?_
                refine tc_iload_n tc_d7_currentOf_91 2 rfl ?_
                refine tc_iconst (v := 2) tc_d7_currentOf_92 (by decide) ?_
                refine tc_idiv tc_d7_currentOf_93 (by decide) ?_
                refine tc_ltI h (fun v7 h => ?_)
                refine tc_istore_n (L' := [(2, .int v7), (0, .ref (tc_ad G 50)), (1, .int x1), (3, .int x3)]) tc_d7_currentOf_94 (by decide) rfl ?_
                refine tc_goto (tgt := 116) tc_d7_currentOf_95 (by decide) ?_
                refine tc_iinc (v := (x3 + 1)) (L' := [(3, .int (x3 + 1)), (2, .int v7), (0, .ref (tc_ad G 50)), (1, .int x1)]) tc_d7_currentOf_116 3 rfl rfl (by decide) rfl ?_
                refine tc_goto (tgt := 19) tc_d7_currentOf_119 (by decide) ?_
                refine tc_sub [2, 3, 1, 0] rfl ?_
                exact (ih _ _ _ _ _) h
              · rw [if_neg hq] at h
                by_cases hq : v3 = 2
                · rw [if_pos hq] at h
                  refine tc_tswK (k := 2) (off := 44) (tgt := 98) tc_d7_currentOf_54 hq (by decide) (by decide) rfl (by decide) ?_
                  refine tc_sipush (v := 999) tc_d7_currentOf_98 (by decide) ?_
                  refine tc_iload_n tc_d7_currentOf_101 2 rfl ?_
                  refine tc_aload_n tc_d7_currentOf_102 0 rfl ?_
                  refine tc_g7_12 tc_d7_currentOf_103 tc_w890 ?_
                  refine tc_iload_n tc_d7_currentOf_106 3 rfl ?_
                  obtain ⟨hi8, h⟩ := tc_ckS h
                  refine tc_iald tc_d7_currentOf_107 tc_aL61 hi8 ?_
                  refine tc_iadd tc_d7_currentOf_108 ?_
                  refine tc_mmin tc_d7_currentOf_109 tc_w1033 tc_okmmin ⟨Nat.le_of_ble_eq_true rfl, Nat.le_of_ble_eq_true rfl⟩ ?_
                  refine tc_ltI h (fun v9 h => ?_)
                  refine tc_istore_n (L' := [(2, .int v9), (0, .ref (tc_ad G 50)), (1, .int x1), (3, .int x3)]) tc_d7_currentOf_112 (by decide) rfl ?_
                  refine tc_goto (tgt := 116) tc_d7_currentOf_113 (by decide) ?_
                  refine tc_iinc (v := (x3 + 1)) (L' := [(3, .int (x3 + 1)), (2, .int v9), (0, .ref (tc_ad G 50)), (1, .int x1)]) tc_d7_currentOf_116 3 rfl rfl (by decide) rfl ?_
                  refine tc_goto (tgt := 19) tc_d7_currentOf_119 (by decide) ?_
                  refine tc_sub [2, 3, 1, 0] rfl ?_
                  exact (ih _ _ _ _ _) h
                · rw [if_neg hq] at h
                  cases h
        · refine tc_goto (tgt := 116) tc_d7_currentOf_45 (by decide) ?_
          refine tc_iinc (v := (x3 + 1)) (L' := [(3, .int (x3 + 1)), (0, .ref (tc_ad G 50)), (1, .int x1), (2, .int x2)]) tc_d7_currentOf_116 3 rfl rfl (by decide) rfl ?_
          refine tc_goto (tgt := 19) tc_d7_currentOf_119 (by decide) ?_
          refine tc_sub [1, 2, 3, 0] rfl ?_
          exact (ih _ _ _ _ _) h
def tc_f7_currentOf (N : Nat) (x1 : Int32) (μ : tc_Mem) : Option (Int32 × tc_Mem) :=
  tc_ck x1 8 (
  tc_bd (tc_f7_leakOf N x1 μ) fun r2 μ3 =>
  tc_lt (if (0 : Int32) < ((μ 52 x1.toNatClampNeg) - r2) then ((μ 52 x1.toNatClampNeg) - r2) else 0) fun v4 =>
  tc_f7_currentOf_19 N N x1 v4 0 μ3)
theorem tc_b7_currentOf_0 (N : Nat) (x1 : Int32) (μ : tc_Mem) (z : Int32 × tc_Mem) (h : tc_f7_currentOf N x1 μ = some z) : tc_At l G tc_i7_currentOf (some (.int z.1)) z.2 X 0 [(0, .ref (tc_ad G 50)), (1, .int x1)] [] μ := by
  unfold tc_f7_currentOf at h
  refine tc_iconst (v := 0) tc_d7_currentOf_0 (by decide) ?_
  refine tc_aload_n tc_d7_currentOf_1 0 rfl ?_
  refine tc_g7_2 tc_d7_currentOf_2 tc_w880 ?_
  refine tc_iload_n tc_d7_currentOf_5 1 rfl ?_
  obtain ⟨hi1, h⟩ := tc_ckS h
  refine tc_iald tc_d7_currentOf_6 tc_aL52 hi1 ?_
  refine tc_aload_n tc_d7_currentOf_7 0 rfl ?_
  refine tc_iload_n tc_d7_currentOf_8 1 rfl ?_
  obtain ⟨r2, μ3, e2, h⟩ := tc_bdS h
  have c2 := tc_c7_leakOf (l := l) (G := G) N e2
  refine tc_callVi (As := [.int x1]) (rest := [.int (μ 52 x1.toNatClampNeg), .int 0]) (r1 := r2) (μ1 := μ3) tc_d7_currentOf_9 tc_ok7_leakOf tc_w1024 ⟨Nat.le_of_ble_eq_true rfl, Nat.le_of_ble_eq_true rfl⟩ tc_s7 rfl c2 rfl rfl (Nat.le_of_ble_eq_true rfl) ?_
  refine tc_isub tc_d7_currentOf_12 ?_
  refine tc_mmax tc_d7_currentOf_13 tc_w1032 tc_okmmax ⟨Nat.le_of_ble_eq_true rfl, Nat.le_of_ble_eq_true rfl⟩ ?_
  refine tc_ltI h (fun v4 h => ?_)
  refine tc_istore_n (L' := [(2, .int v4), (0, .ref (tc_ad G 50)), (1, .int x1)]) tc_d7_currentOf_16 (by decide) rfl ?_
  refine tc_iconst (v := 0) tc_d7_currentOf_17 (by decide) ?_
  refine tc_istore_n (L' := [(3, .int 0), (2, .int v4), (0, .ref (tc_ad G 50)), (1, .int x1)]) tc_d7_currentOf_18 (by decide) rfl ?_
  refine tc_sub [2, 3, 1, 0] rfl ?_
  exact (tc_b7_currentOf_19 N N _ _ _ _ _) h
theorem tc_c7_currentOf (N : Nat) {x1 : Int32} {μ : tc_Mem} {z : Int32 × tc_Mem} (h : tc_f7_currentOf N x1 μ = some z) : tc_Con l G tc_i7_currentOf [.ref (tc_ad G 50), .int x1] μ (some (.int z.1)) z.2 :=
  tc_Con.of (L := [(0, .ref (tc_ad G 50)), (1, .int x1)]) (by decide) (Nat.le_of_ble_eq_true rfl) rfl (fun X => tc_b7_currentOf_0 N  _ _ _ h)
def tc_f7_goesPlain_29 (N : Nat) (μ : tc_Mem) : Option (Int32 × tc_Mem) :=
  some (1, μ)
theorem tc_b7_goesPlain_29 (N : Nat) (μ : tc_Mem) (z : Int32 × tc_Mem) (h : tc_f7_goesPlain_29 N μ = some z) : tc_At l G tc_i7_goesPlain (some (.int z.1)) z.2 X 29 [] [] μ := by
  unfold tc_f7_goesPlain_29 at h
  refine tc_iconst (v := 1) tc_d7_goesPlain_29 (by decide) ?_
  refine tc_goto (tgt := 34) tc_d7_goesPlain_30 (by decide) ?_
  exact tc_zret tc_d7_goesPlain_34 rfl (by decide) (tc_riS h)
def tc_f7_goesPlain (N : Nat) (x1 : Int32) (x2 : Int32) (μ : tc_Mem) : Option (Int32 × tc_Mem) :=
  tc_ck 0 3 (
  if (μ 58 (0 : Int32).toNatClampNeg) ≤ x2 then
    tc_f7_goesPlain_29 N μ
  else
    tc_ck 1 3 (
    if x2 < (μ 58 (1 : Int32).toNatClampNeg) then
      some (0, μ)
    else
      tc_ck x1 8 (
      if (μ 56 x1.toNatClampNeg) = 0 then
        some (0, μ)
      else
        tc_f7_goesPlain_29 N μ)))
theorem tc_b7_goesPlain_0 (N : Nat) (x1 : Int32) (x2 : Int32) (μ : tc_Mem) (z : Int32 × tc_Mem) (h : tc_f7_goesPlain N x1 x2 μ = some z) : tc_At l G tc_i7_goesPlain (some (.int z.1)) z.2 X 0 [(0, .ref (tc_ad G 50)), (1, .int x1), (2, .int x2)] [] μ := by
  unfold tc_f7_goesPlain at h
  refine tc_iload_n tc_d7_goesPlain_0 2 rfl ?_
  refine tc_aload_n tc_d7_goesPlain_1 0 rfl ?_
  refine tc_g7_8 tc_d7_goesPlain_2 tc_w886 ?_
  refine tc_iconst (v := 0) tc_d7_goesPlain_5 (by decide) ?_
  obtain ⟨hi1, h⟩ := tc_ckS h
  refine tc_iald tc_d7_goesPlain_6 tc_aL58 hi1 ?_
  refine tc_icmp_ge (tgt := 29) tc_d7_goesPlain_7 (by decide) h (fun h => ?_) (fun h => ?_)
  · refine tc_sub [] rfl ?_
    exact (tc_b7_goesPlain_29 N _ _) h
  · refine tc_iload_n tc_d7_goesPlain_10 2 rfl ?_
    refine tc_aload_n tc_d7_goesPlain_11 0 rfl ?_
    refine tc_g7_8 tc_d7_goesPlain_12 tc_w886 ?_
    refine tc_iconst (v := 1) tc_d7_goesPlain_15 (by decide) ?_
    obtain ⟨hi2, h⟩ := tc_ckS h
    refine tc_iald tc_d7_goesPlain_16 tc_aL58 hi2 ?_
    refine tc_icmp_lt (tgt := 33) tc_d7_goesPlain_17 (by decide) h (fun h => ?_) (fun h => ?_)
    · refine tc_iconst (v := 0) tc_d7_goesPlain_33 (by decide) ?_
      exact tc_zret tc_d7_goesPlain_34 rfl (by decide) (tc_riS h)
    · refine tc_aload_n tc_d7_goesPlain_20 0 rfl ?_
      refine tc_g7_6 tc_d7_goesPlain_21 tc_w884 ?_
      refine tc_iload_n tc_d7_goesPlain_24 1 rfl ?_
      obtain ⟨hi3, h⟩ := tc_ckS h
      refine tc_zald tc_d7_goesPlain_25 tc_aL56 hi3 ?_
      refine tc_if_eq (tgt := 33) tc_d7_goesPlain_26 (by decide) h (fun h => ?_) (fun h => ?_)
      · refine tc_iconst (v := 0) tc_d7_goesPlain_33 (by decide) ?_
        exact tc_zret tc_d7_goesPlain_34 rfl (by decide) (tc_riS h)
      · refine tc_sub [] rfl ?_
        exact (tc_b7_goesPlain_29 N _ _) h
theorem tc_c7_goesPlain (N : Nat) {x1 : Int32} {x2 : Int32} {μ : tc_Mem} {z : Int32 × tc_Mem} (h : tc_f7_goesPlain N x1 x2 μ = some z) : tc_Con l G tc_i7_goesPlain [.ref (tc_ad G 50), .int x1, .int x2] μ (some (.int z.1)) z.2 :=
  tc_Con.of (L := [(0, .ref (tc_ad G 50)), (1, .int x1), (2, .int x2)]) (by decide) (Nat.le_of_ble_eq_true rfl) rfl (fun X => tc_b7_goesPlain_0 N  _ _ _ _ h)
def tc_f7_goesSlow_28 (N : Nat) (μ : tc_Mem) : Option (Int32 × tc_Mem) :=
  some (1, μ)
theorem tc_b7_goesSlow_28 (N : Nat) (μ : tc_Mem) (z : Int32 × tc_Mem) (h : tc_f7_goesSlow_28 N μ = some z) : tc_At l G tc_i7_goesSlow (some (.int z.1)) z.2 X 28 [] [] μ := by
  unfold tc_f7_goesSlow_28 at h
  refine tc_iconst (v := 1) tc_d7_goesSlow_28 (by decide) ?_
  refine tc_goto (tgt := 33) tc_d7_goesSlow_29 (by decide) ?_
  exact tc_zret tc_d7_goesSlow_33 rfl (by decide) (tc_riS h)
def tc_f7_goesSlow (N : Nat) (x1 : Int32) (x2 : Int32) (μ : tc_Mem) : Option (Int32 × tc_Mem) :=
  tc_bd (tc_f7_goesPlain N x1 x2 μ) fun r1 μ2 =>
  if r1 = 0 then
    some (0, μ2)
  else
    tc_ck x1 8 (
    if (μ2 56 x1.toNatClampNeg) = 0 then
      tc_ck x1 8 (
      if (μ2 55 x1.toNatClampNeg) < 2 then
        some (0, μ2)
      else
        tc_f7_goesSlow_28 N μ2)
    else
      tc_f7_goesSlow_28 N μ2)
theorem tc_b7_goesSlow_0 (N : Nat) (x1 : Int32) (x2 : Int32) (μ : tc_Mem) (z : Int32 × tc_Mem) (h : tc_f7_goesSlow N x1 x2 μ = some z) : tc_At l G tc_i7_goesSlow (some (.int z.1)) z.2 X 0 [(0, .ref (tc_ad G 50)), (1, .int x1), (2, .int x2)] [] μ := by
  unfold tc_f7_goesSlow at h
  refine tc_aload_n tc_d7_goesSlow_0 0 rfl ?_
  refine tc_iload_n tc_d7_goesSlow_1 1 rfl ?_
  refine tc_iload_n tc_d7_goesSlow_2 2 rfl ?_
  obtain ⟨r1, μ2, e1, h⟩ := tc_bdS h
  have c1 := tc_c7_goesPlain (l := l) (G := G) N e1
  refine tc_callVi (As := [.int x1, .int x2]) (rest := []) (r1 := r1) (μ1 := μ2) tc_d7_goesSlow_3 tc_ok7_goesPlain tc_w1109 ⟨Nat.le_of_ble_eq_true rfl, Nat.le_of_ble_eq_true rfl⟩ tc_s7 rfl c1 rfl rfl (Nat.le_of_ble_eq_true rfl) ?_
  refine tc_if_eq (tgt := 32) tc_d7_goesSlow_6 (by decide) h (fun h => ?_) (fun h => ?_)
  · refine tc_iconst (v := 0) tc_d7_goesSlow_32 (by decide) ?_
    exact tc_zret tc_d7_goesSlow_33 rfl (by decide) (tc_riS h)
  · refine tc_aload_n tc_d7_goesSlow_9 0 rfl ?_
    refine tc_g7_6 tc_d7_goesSlow_10 tc_w884 ?_
    refine tc_iload_n tc_d7_goesSlow_13 1 rfl ?_
    obtain ⟨hi3, h⟩ := tc_ckS h
    refine tc_zald tc_d7_goesSlow_14 tc_aL56 hi3 ?_
    refine tc_if_ne (tgt := 28) tc_d7_goesSlow_15 (by decide) h (fun h => ?_) (fun h => ?_)
    · refine tc_sub [] rfl ?_
      exact (tc_b7_goesSlow_28 N _ _) h
    · refine tc_aload_n tc_d7_goesSlow_18 0 rfl ?_
      refine tc_g7_5 tc_d7_goesSlow_19 tc_w883 ?_
      refine tc_iload_n tc_d7_goesSlow_22 1 rfl ?_
      obtain ⟨hi4, h⟩ := tc_ckS h
      refine tc_iald tc_d7_goesSlow_23 tc_aL55 hi4 ?_
      refine tc_iconst (v := 2) tc_d7_goesSlow_24 (by decide) ?_
      refine tc_icmp_lt (tgt := 32) tc_d7_goesSlow_25 (by decide) h (fun h => ?_) (fun h => ?_)
      · refine tc_iconst (v := 0) tc_d7_goesSlow_32 (by decide) ?_
        exact tc_zret tc_d7_goesSlow_33 rfl (by decide) (tc_riS h)
      · refine tc_sub [] rfl ?_
        exact (tc_b7_goesSlow_28 N _ _) h
theorem tc_c7_goesSlow (N : Nat) {x1 : Int32} {x2 : Int32} {μ : tc_Mem} {z : Int32 × tc_Mem} (h : tc_f7_goesSlow N x1 x2 μ = some z) : tc_Con l G tc_i7_goesSlow [.ref (tc_ad G 50), .int x1, .int x2] μ (some (.int z.1)) z.2 :=
  tc_Con.of (L := [(0, .ref (tc_ad G 50)), (1, .int x1), (2, .int x2)]) (by decide) (Nat.le_of_ble_eq_true rfl) rfl (fun X => tc_b7_goesSlow_0 N  _ _ _ _ h)
def tc_f7_goesStick_33 (N : Nat) (μ : tc_Mem) : Option (Int32 × tc_Mem) :=
  some (1, μ)
theorem tc_b7_goesStick_33 (N : Nat) (μ : tc_Mem) (z : Int32 × tc_Mem) (h : tc_f7_goesStick_33 N μ = some z) : tc_At l G tc_i7_goesStick (some (.int z.1)) z.2 X 33 [] [] μ := by
  unfold tc_f7_goesStick_33 at h
  refine tc_iconst (v := 1) tc_d7_goesStick_33 (by decide) ?_
  refine tc_goto (tgt := 38) tc_d7_goesStick_34 (by decide) ?_
  exact tc_zret tc_d7_goesStick_38 rfl (by decide) (tc_riS h)
def tc_f7_goesStick (N : Nat) (x1 : Int32) (x2 : Int32) (μ : tc_Mem) : Option (Int32 × tc_Mem) :=
  tc_bd (tc_f7_goesPlain N x1 x2 μ) fun r1 μ2 =>
  if r1 = 0 then
    some (0, μ2)
  else
    tc_ck x1 8 (
    if (μ2 56 x1.toNatClampNeg) = 0 then
      if x1 = 0 then
        tc_f7_goesStick_33 N μ2
      else
        tc_ck (x1 - 1) 8 (
        if (μ2 56 (x1 - 1).toNatClampNeg) = 0 then
          some (0, μ2)
        else
          tc_f7_goesStick_33 N μ2)
    else
      tc_f7_goesStick_33 N μ2)
theorem tc_b7_goesStick_0 (N : Nat) (x1 : Int32) (x2 : Int32) (μ : tc_Mem) (z : Int32 × tc_Mem) (h : tc_f7_goesStick N x1 x2 μ = some z) : tc_At l G tc_i7_goesStick (some (.int z.1)) z.2 X 0 [(0, .ref (tc_ad G 50)), (1, .int x1), (2, .int x2)] [] μ := by
  unfold tc_f7_goesStick at h
  refine tc_aload_n tc_d7_goesStick_0 0 rfl ?_
  refine tc_iload_n tc_d7_goesStick_1 1 rfl ?_
  refine tc_iload_n tc_d7_goesStick_2 2 rfl ?_
  obtain ⟨r1, μ2, e1, h⟩ := tc_bdS h
  have c1 := tc_c7_goesPlain (l := l) (G := G) N e1
  refine tc_callVi (As := [.int x1, .int x2]) (rest := []) (r1 := r1) (μ1 := μ2) tc_d7_goesStick_3 tc_ok7_goesPlain tc_w1109 ⟨Nat.le_of_ble_eq_true rfl, Nat.le_of_ble_eq_true rfl⟩ tc_s7 rfl c1 rfl rfl (Nat.le_of_ble_eq_true rfl) ?_
  refine tc_if_eq (tgt := 37) tc_d7_goesStick_6 (by decide) h (fun h => ?_) (fun h => ?_)
  · refine tc_iconst (v := 0) tc_d7_goesStick_37 (by decide) ?_
    exact tc_zret tc_d7_goesStick_38 rfl (by decide) (tc_riS h)
  · refine tc_aload_n tc_d7_goesStick_9 0 rfl ?_
    refine tc_g7_6 tc_d7_goesStick_10 tc_w884 ?_
    refine tc_iload_n tc_d7_goesStick_13 1 rfl ?_
    obtain ⟨hi3, h⟩ := tc_ckS h
    refine tc_zald tc_d7_goesStick_14 tc_aL56 hi3 ?_
    refine tc_if_ne (tgt := 33) tc_d7_goesStick_15 (by decide) h (fun h => ?_) (fun h => ?_)
    · refine tc_sub [] rfl ?_
      exact (tc_b7_goesStick_33 N _ _) h
    · refine tc_iload_n tc_d7_goesStick_18 1 rfl ?_
      refine tc_if_eq (tgt := 33) tc_d7_goesStick_19 (by decide) h (fun h => ?_) (fun h => ?_)
      · refine tc_sub [] rfl ?_
        exact (tc_b7_goesStick_33 N _ _) h
      · refine tc_aload_n tc_d7_goesStick_22 0 rfl ?_
        refine tc_g7_6 tc_d7_goesStick_23 tc_w884 ?_
        refine tc_iload_n tc_d7_goesStick_26 1 rfl ?_
        refine tc_iconst (v := 1) tc_d7_goesStick_27 (by decide) ?_
        refine tc_isub tc_d7_goesStick_28 ?_
        obtain ⟨hi4, h⟩ := tc_ckS h
        refine tc_zald tc_d7_goesStick_29 tc_aL56 hi4 ?_
        refine tc_if_eq (tgt := 37) tc_d7_goesStick_30 (by decide) h (fun h => ?_) (fun h => ?_)
        · refine tc_iconst (v := 0) tc_d7_goesStick_37 (by decide) ?_
          exact tc_zret tc_d7_goesStick_38 rfl (by decide) (tc_riS h)
        · refine tc_sub [] rfl ?_
          exact (tc_b7_goesStick_33 N _ _) h
theorem tc_c7_goesStick (N : Nat) {x1 : Int32} {x2 : Int32} {μ : tc_Mem} {z : Int32 × tc_Mem} (h : tc_f7_goesStick N x1 x2 μ = some z) : tc_Con l G tc_i7_goesStick [.ref (tc_ad G 50), .int x1, .int x2] μ (some (.int z.1)) z.2 :=
  tc_Con.of (L := [(0, .ref (tc_ad G 50)), (1, .int x1), (2, .int x2)]) (by decide) (Nat.le_of_ble_eq_true rfl) rfl (fun X => tc_b7_goesStick_0 N  _ _ _ _ h)
def tc_f7_isUpRight (N : Nat) (x1 : Int32) (μ : tc_Mem) : Option (Int32 × tc_Mem) :=
  if ((μ 50 0) - 1) ≤ x1 then
    some (0, μ)
  else
    tc_ck (x1 + 1) 8 (
    if (μ 56 (x1 + 1).toNatClampNeg) = 0 then
      some (0, μ)
    else
      some (1, μ))
theorem tc_b7_isUpRight_0 (N : Nat) (x1 : Int32) (μ : tc_Mem) (z : Int32 × tc_Mem) (h : tc_f7_isUpRight N x1 μ = some z) : tc_At l G tc_i7_isUpRight (some (.int z.1)) z.2 X 0 [(0, .ref (tc_ad G 50)), (1, .int x1)] [] μ := by
  unfold tc_f7_isUpRight at h
  refine tc_iload_n tc_d7_isUpRight_0 1 rfl ?_
  refine tc_aload_n tc_d7_isUpRight_1 0 rfl ?_
  refine tc_g7_0 tc_d7_isUpRight_2 tc_w878 ?_
  refine tc_iconst (v := 1) tc_d7_isUpRight_5 (by decide) ?_
  refine tc_isub tc_d7_isUpRight_6 ?_
  refine tc_icmp_ge (tgt := 25) tc_d7_isUpRight_7 (by decide) h (fun h => ?_) (fun h => ?_)
  · refine tc_iconst (v := 0) tc_d7_isUpRight_25 (by decide) ?_
    exact tc_zret tc_d7_isUpRight_26 rfl (by decide) (tc_riS h)
  · refine tc_aload_n tc_d7_isUpRight_10 0 rfl ?_
    refine tc_g7_6 tc_d7_isUpRight_11 tc_w884 ?_
    refine tc_iload_n tc_d7_isUpRight_14 1 rfl ?_
    refine tc_iconst (v := 1) tc_d7_isUpRight_15 (by decide) ?_
    refine tc_iadd tc_d7_isUpRight_16 ?_
    obtain ⟨hi1, h⟩ := tc_ckS h
    refine tc_zald tc_d7_isUpRight_17 tc_aL56 hi1 ?_
    refine tc_if_eq (tgt := 25) tc_d7_isUpRight_18 (by decide) h (fun h => ?_) (fun h => ?_)
    · refine tc_iconst (v := 0) tc_d7_isUpRight_25 (by decide) ?_
      exact tc_zret tc_d7_isUpRight_26 rfl (by decide) (tc_riS h)
    · refine tc_iconst (v := 1) tc_d7_isUpRight_21 (by decide) ?_
      refine tc_goto (tgt := 26) tc_d7_isUpRight_22 (by decide) ?_
      exact tc_zret tc_d7_isUpRight_26 rfl (by decide) (tc_riS h)
theorem tc_c7_isUpRight (N : Nat) {x1 : Int32} {μ : tc_Mem} {z : Int32 × tc_Mem} (h : tc_f7_isUpRight N x1 μ = some z) : tc_Con l G tc_i7_isUpRight [.ref (tc_ad G 50), .int x1] μ (some (.int z.1)) z.2 :=
  tc_Con.of (L := [(0, .ref (tc_ad G 50)), (1, .int x1)]) (by decide) (Nat.le_of_ble_eq_true rfl) rfl (fun X => tc_b7_isUpRight_0 N  _ _ _ h)
def tc_f7_isUpLeft (N : Nat) (x1 : Int32) (μ : tc_Mem) : Option (Int32 × tc_Mem) :=
  if x1 ≤ 0 then
    some (0, μ)
  else
    tc_ck (x1 - 1) 8 (
    if (μ 56 (x1 - 1).toNatClampNeg) = 0 then
      some (0, μ)
    else
      some (1, μ))
theorem tc_b7_isUpLeft_0 (N : Nat) (x1 : Int32) (μ : tc_Mem) (z : Int32 × tc_Mem) (h : tc_f7_isUpLeft N x1 μ = some z) : tc_At l G tc_i7_isUpLeft (some (.int z.1)) z.2 X 0 [(0, .ref (tc_ad G 50)), (1, .int x1)] [] μ := by
  unfold tc_f7_isUpLeft at h
  refine tc_iload_n tc_d7_isUpLeft_0 1 rfl ?_
  refine tc_if_le (tgt := 19) tc_d7_isUpLeft_1 (by decide) h (fun h => ?_) (fun h => ?_)
  · refine tc_iconst (v := 0) tc_d7_isUpLeft_19 (by decide) ?_
    exact tc_zret tc_d7_isUpLeft_20 rfl (by decide) (tc_riS h)
  · refine tc_aload_n tc_d7_isUpLeft_4 0 rfl ?_
    refine tc_g7_6 tc_d7_isUpLeft_5 tc_w884 ?_
    refine tc_iload_n tc_d7_isUpLeft_8 1 rfl ?_
    refine tc_iconst (v := 1) tc_d7_isUpLeft_9 (by decide) ?_
    refine tc_isub tc_d7_isUpLeft_10 ?_
    obtain ⟨hi1, h⟩ := tc_ckS h
    refine tc_zald tc_d7_isUpLeft_11 tc_aL56 hi1 ?_
    refine tc_if_eq (tgt := 19) tc_d7_isUpLeft_12 (by decide) h (fun h => ?_) (fun h => ?_)
    · refine tc_iconst (v := 0) tc_d7_isUpLeft_19 (by decide) ?_
      exact tc_zret tc_d7_isUpLeft_20 rfl (by decide) (tc_riS h)
    · refine tc_iconst (v := 1) tc_d7_isUpLeft_15 (by decide) ?_
      refine tc_goto (tgt := 20) tc_d7_isUpLeft_16 (by decide) ?_
      exact tc_zret tc_d7_isUpLeft_20 rfl (by decide) (tc_riS h)
theorem tc_c7_isUpLeft (N : Nat) {x1 : Int32} {μ : tc_Mem} {z : Int32 × tc_Mem} (h : tc_f7_isUpLeft N x1 μ = some z) : tc_Con l G tc_i7_isUpLeft [.ref (tc_ad G 50), .int x1] μ (some (.int z.1)) z.2 :=
  tc_Con.of (L := [(0, .ref (tc_ad G 50)), (1, .int x1)]) (by decide) (Nat.le_of_ble_eq_true rfl) rfl (fun X => tc_b7_isUpLeft_0 N  _ _ _ h)
def tc_f7_goesUp_99 (N : Nat) (s1 : Int32) (s2 : Int32) (μ : tc_Mem) : Option (Int32 × tc_Mem) :=
  tc_bd (tc_f7_goesSlow N s1 s2 μ) fun r1 μ2 =>
  tc_zr r1 μ2
theorem tc_b7_goesUp_99 (N : Nat) (s1 : Int32) (s2 : Int32) (μ : tc_Mem) (z : Int32 × tc_Mem) (h : tc_f7_goesUp_99 N s1 s2 μ = some z) : tc_At l G tc_i7_goesUp (some (.int z.1)) z.2 X 99 [] [.int s2, .int s1, .ref (tc_ad G 50)] μ := by
  unfold tc_f7_goesUp_99 at h
  obtain ⟨r1, μ2, e1, h⟩ := tc_bdS h
  have c1 := tc_c7_goesSlow (l := l) (G := G) N e1
  refine tc_callVi (As := [.int s1, .int s2]) (rest := []) (r1 := r1) (μ1 := μ2) tc_d7_goesUp_99 tc_ok7_goesSlow tc_w1113 ⟨Nat.le_of_ble_eq_true rfl, Nat.le_of_ble_eq_true rfl⟩ tc_s7 rfl c1 rfl rfl (Nat.le_of_ble_eq_true rfl) ?_
  exact tc_zret tc_d7_goesUp_102 rfl (tc_zrS h).1 (tc_zrS h).2
def tc_f7_goesUp_98 (N : Nat) (x2 : Int32) (s1 : Int32) (μ : tc_Mem) : Option (Int32 × tc_Mem) :=
  tc_f7_goesUp_99 N s1 x2 μ
theorem tc_b7_goesUp_98 (N : Nat) (x2 : Int32) (s1 : Int32) (μ : tc_Mem) (z : Int32 × tc_Mem) (h : tc_f7_goesUp_98 N x2 s1 μ = some z) : tc_At l G tc_i7_goesUp (some (.int z.1)) z.2 X 98 [(2, .int x2)] [.int s1, .ref (tc_ad G 50)] μ := by
  unfold tc_f7_goesUp_98 at h
  refine tc_iload_n tc_d7_goesUp_98 0 rfl ?_
  refine tc_sub [] rfl ?_
  exact (tc_b7_goesUp_99 N _ _ _ _) h
def tc_f7_goesUp_159 (N : Nat) (μ : tc_Mem) : Option (Int32 × tc_Mem) :=
  some (1, μ)
theorem tc_b7_goesUp_159 (N : Nat) (μ : tc_Mem) (z : Int32 × tc_Mem) (h : tc_f7_goesUp_159 N μ = some z) : tc_At l G tc_i7_goesUp (some (.int z.1)) z.2 X 159 [] [] μ := by
  unfold tc_f7_goesUp_159 at h
  refine tc_iconst (v := 1) tc_d7_goesUp_159 (by decide) ?_
  refine tc_goto (tgt := 164) tc_d7_goesUp_160 (by decide) ?_
  exact tc_zret tc_d7_goesUp_164 rfl (by decide) (tc_riS h)
def tc_f7_goesUp (N : Nat) (x1 : Int32) (μ : tc_Mem) : Option (Int32 × tc_Mem) :=
  tc_bd (tc_f7_currentOf N x1 μ) fun r1 μ2 =>
  tc_ck x1 8 (
  tc_lt (μ2 51 x1.toNatClampNeg) fun v4 =>
  if v4 < 0 ∨ 4 < v4 then
    tc_bd (tc_f7_goesStick N x1 r1 μ2) fun r5 μ6 =>
    if r5 = 0 then
      some (0, μ6)
    else
      if (μ6 50 0) = 1 then
        tc_f7_goesUp_159 N μ6
      else
        tc_bd (tc_f7_isUpLeft N x1 μ6) fun r7 μ8 =>
        if r7 = 0 then
          tc_bd (tc_f7_isUpRight N x1 μ8) fun r9 μ10 =>
          if r9 = 0 then
            some (0, μ10)
          else
            tc_f7_goesUp_159 N μ10
        else
          tc_f7_goesUp_159 N μ8
  else if v4 = 0 then
    tc_bd (tc_f7_goesPlain N x1 r1 μ2) fun r11 μ12 =>
    tc_zr r11 μ12
  else if v4 = 1 then
    tc_bd (tc_f7_goesSlow N x1 r1 μ2) fun r13 μ14 =>
    tc_zr r13 μ14
  else if v4 = 2 then
    tc_bd (tc_f7_goesStick N x1 r1 μ2) fun r15 μ16 =>
    tc_zr r15 μ16
  else if v4 = 3 then
    if ((μ2 50 0) - 1) ≤ x1 then
      tc_f7_goesUp_98 N r1 x1 μ2
    else
      tc_ck (x1 + 1) 8 (
      if (μ2 56 (x1 + 1).toNatClampNeg) = 0 then
        tc_f7_goesUp_99 N x1 (r1 / 2) μ2
      else
        tc_f7_goesUp_98 N r1 x1 μ2)
  else if v4 = 4 then
    tc_bd (tc_f7_goesPlain N x1 r1 μ2) fun r18 μ19 =>
    if r18 = 0 then
      some (0, μ19)
    else
      tc_bd (tc_f7_isUpRight N x1 μ19) fun r20 μ21 =>
      if r20 = 0 then
        some (1, μ21)
      else
        some (0, μ21)
  else none)
theorem tc_b7_goesUp_0 (N : Nat) (x1 : Int32) (μ : tc_Mem) (z : Int32 × tc_Mem) (h : tc_f7_goesUp N x1 μ = some z) : tc_At l G tc_i7_goesUp (some (.int z.1)) z.2 X 0 [(0, .ref (tc_ad G 50)), (1, .int x1)] [] μ := by
  unfold tc_f7_goesUp at h
  refine tc_aload_n tc_d7_goesUp_0 0 rfl ?_
  refine tc_iload_n tc_d7_goesUp_1 1 rfl ?_
  obtain ⟨r1, μ2, e1, h⟩ := tc_bdS h
  have c1 := tc_c7_currentOf (l := l) (G := G) N e1
  refine tc_callVi (As := [.int x1]) (rest := []) (r1 := r1) (μ1 := μ2) tc_d7_goesUp_2 tc_ok7_currentOf tc_w1028 ⟨Nat.le_of_ble_eq_true rfl, Nat.le_of_ble_eq_true rfl⟩ tc_s7 rfl c1 rfl rfl (Nat.le_of_ble_eq_true rfl) ?_
  refine tc_istore_n (L' := [(2, .int r1), (0, .ref (tc_ad G 50)), (1, .int x1)]) tc_d7_goesUp_5 (by decide) rfl ?_
  refine tc_aload_n tc_d7_goesUp_6 1 rfl ?_
  refine tc_g7_1 tc_d7_goesUp_7 tc_w879 ?_
  refine tc_iload_n tc_d7_goesUp_10 2 rfl ?_
  obtain ⟨hi3, h⟩ := tc_ckS h
  refine tc_iald tc_d7_goesUp_11 tc_aL51 hi3 ?_
  refine tc_ltI h (fun v4 h => ?_)
  by_cases hq : v4 < 0 ∨ 4 < v4
  · rw [if_pos hq] at h
    refine tc_tswD (a := 0) (b := 4) (tgt := 126) tc_d7_goesUp_12 ⟨by decide, by decide⟩ hq (by decide) ?_
    refine tc_aload_n tc_d7_goesUp_126 1 rfl ?_
    refine tc_iload_n tc_d7_goesUp_127 2 rfl ?_
    refine tc_iload_n tc_d7_goesUp_128 0 rfl ?_
    obtain ⟨r5, μ6, e5, h⟩ := tc_bdS h
    have c5 := tc_c7_goesStick (l := l) (G := G) N e5
    refine tc_callVi (As := [.int x1, .int r1]) (rest := []) (r1 := r5) (μ1 := μ6) tc_d7_goesUp_129 tc_ok7_goesStick tc_w1117 ⟨Nat.le_of_ble_eq_true rfl, Nat.le_of_ble_eq_true rfl⟩ tc_s7 rfl c5 rfl rfl (Nat.le_of_ble_eq_true rfl) ?_
    refine tc_if_eq (tgt := 163) tc_d7_goesUp_132 (by decide) h (fun h => ?_) (fun h => ?_)
    · refine tc_iconst (v := 0) tc_d7_goesUp_163 (by decide) ?_
      exact tc_zret tc_d7_goesUp_164 rfl (by decide) (tc_riS h)
    · refine tc_aload_n tc_d7_goesUp_135 1 rfl ?_
      refine tc_g7_0 tc_d7_goesUp_136 tc_w878 ?_
      refine tc_iconst (v := 1) tc_d7_goesUp_139 (by decide) ?_
      refine tc_icmp_eq (tgt := 159) tc_d7_goesUp_140 (by decide) h (fun h => ?_) (fun h => ?_)
      · refine tc_sub [] rfl ?_
        exact (tc_b7_goesUp_159 N _ _) h
      · refine tc_aload_n tc_d7_goesUp_143 1 rfl ?_
        refine tc_iload_n tc_d7_goesUp_144 2 rfl ?_
        obtain ⟨r7, μ8, e7, h⟩ := tc_bdS h
        have c7 := tc_c7_isUpLeft (l := l) (G := G) N e7
        refine tc_callVi (As := [.int x1]) (rest := []) (r1 := r7) (μ1 := μ8) tc_d7_goesUp_145 tc_ok7_isUpLeft tc_w1125 ⟨Nat.le_of_ble_eq_true rfl, Nat.le_of_ble_eq_true rfl⟩ tc_s7 rfl c7 rfl rfl (Nat.le_of_ble_eq_true rfl) ?_
        refine tc_if_ne (tgt := 159) tc_d7_goesUp_148 (by decide) h (fun h => ?_) (fun h => ?_)
        · refine tc_sub [] rfl ?_
          exact (tc_b7_goesUp_159 N _ _) h
        · refine tc_aload_n tc_d7_goesUp_151 1 rfl ?_
          refine tc_iload_n tc_d7_goesUp_152 2 rfl ?_
          obtain ⟨r9, μ10, e9, h⟩ := tc_bdS h
          have c9 := tc_c7_isUpRight (l := l) (G := G) N e9
          refine tc_callVi (As := [.int x1]) (rest := []) (r1 := r9) (μ1 := μ10) tc_d7_goesUp_153 tc_ok7_isUpRight tc_w1121 ⟨Nat.le_of_ble_eq_true rfl, Nat.le_of_ble_eq_true rfl⟩ tc_s7 rfl c9 rfl rfl (Nat.le_of_ble_eq_true rfl) ?_
          refine tc_if_eq (tgt := 163) tc_d7_goesUp_156 (by decide) h (fun h => ?_) (fun h => ?_)
          · refine tc_iconst (v := 0) tc_d7_goesUp_163 (by decide) ?_
            exact tc_zret tc_d7_goesUp_164 rfl (by decide) (tc_riS h)
          · refine tc_sub [] rfl ?_
            exact (tc_b7_goesUp_159 N _ _) h
  · rw [if_neg hq] at h
    by_cases hq : v4 = 0
    · rw [if_pos hq] at h
      refine tc_tswK (k := 0) (off := 36) (tgt := 48) tc_d7_goesUp_12 hq (by decide) (by decide) rfl (by decide) ?_
      refine tc_aload_n tc_d7_goesUp_48 1 rfl ?_
      refine tc_iload_n tc_d7_goesUp_49 2 rfl ?_
      refine tc_iload_n tc_d7_goesUp_50 0 rfl ?_
      obtain ⟨r11, μ12, e11, h⟩ := tc_bdS h
      have c11 := tc_c7_goesPlain (l := l) (G := G) N e11
      refine tc_callVi (As := [.int x1, .int r1]) (rest := []) (r1 := r11) (μ1 := μ12) tc_d7_goesUp_51 tc_ok7_goesPlain tc_w1109 ⟨Nat.le_of_ble_eq_true rfl, Nat.le_of_ble_eq_true rfl⟩ tc_s7 rfl c11 rfl rfl (Nat.le_of_ble_eq_true rfl) ?_
      exact tc_zret tc_d7_goesUp_54 rfl (tc_zrS h).1 (tc_zrS h).2
    · rw [if_neg hq] at h
      by_cases hq : v4 = 1
      · rw [if_pos hq] at h
        refine tc_tswK (k := 1) (off := 43) (tgt := 55) tc_d7_goesUp_12 hq (by decide) (by decide) rfl (by decide) ?_
        refine tc_aload_n tc_d7_goesUp_55 1 rfl ?_
        refine tc_iload_n tc_d7_goesUp_56 2 rfl ?_
        refine tc_iload_n tc_d7_goesUp_57 0 rfl ?_
        obtain ⟨r13, μ14, e13, h⟩ := tc_bdS h
        have c13 := tc_c7_goesSlow (l := l) (G := G) N e13
        refine tc_callVi (As := [.int x1, .int r1]) (rest := []) (r1 := r13) (μ1 := μ14) tc_d7_goesUp_58 tc_ok7_goesSlow tc_w1113 ⟨Nat.le_of_ble_eq_true rfl, Nat.le_of_ble_eq_true rfl⟩ tc_s7 rfl c13 rfl rfl (Nat.le_of_ble_eq_true rfl) ?_
        exact tc_zret tc_d7_goesUp_61 rfl (tc_zrS h).1 (tc_zrS h).2
      · rw [if_neg hq] at h
        by_cases hq : v4 = 2
        · rw [if_pos hq] at h
          refine tc_tswK (k := 2) (off := 50) (tgt := 62) tc_d7_goesUp_12 hq (by decide) (by decide) rfl (by decide) ?_
          refine tc_aload_n tc_d7_goesUp_62 1 rfl ?_
          refine tc_iload_n tc_d7_goesUp_63 2 rfl ?_
          refine tc_iload_n tc_d7_goesUp_64 0 rfl ?_
          obtain ⟨r15, μ16, e15, h⟩ := tc_bdS h
          have c15 := tc_c7_goesStick (l := l) (G := G) N e15
          refine tc_callVi (As := [.int x1, .int r1]) (rest := []) (r1 := r15) (μ1 := μ16) tc_d7_goesUp_65 tc_ok7_goesStick tc_w1117 ⟨Nat.le_of_ble_eq_true rfl, Nat.le_of_ble_eq_true rfl⟩ tc_s7 rfl c15 rfl rfl (Nat.le_of_ble_eq_true rfl) ?_
          exact tc_zret tc_d7_goesUp_68 rfl (tc_zrS h).1 (tc_zrS h).2
        · rw [if_neg hq] at h
          by_cases hq : v4 = 3
          · rw [if_pos hq] at h
            refine tc_tswK (k := 3) (off := 57) (tgt := 69) tc_d7_goesUp_12 hq (by decide) (by decide) rfl (by decide) ?_
            refine tc_aload_n tc_d7_goesUp_69 1 rfl ?_
            refine tc_iload_n tc_d7_goesUp_70 2 rfl ?_
            refine tc_iload_n tc_d7_goesUp_71 2 rfl ?_
            refine tc_aload_n tc_d7_goesUp_72 1 rfl ?_
            refine tc_g7_0 tc_d7_goesUp_73 tc_w878 ?_
            refine tc_iconst (v := 1) tc_d7_goesUp_76 (by decide) ?_
            refine tc_isub tc_d7_goesUp_77 ?_
            refine tc_icmp_ge (tgt := 98) tc_d7_goesUp_78 (by decide) h (fun h => ?_) (fun h => ?_)
            · refine tc_sub [0] rfl ?_
              exact (tc_b7_goesUp_98 N _ _ _ _) h
            · refine tc_aload_n tc_d7_goesUp_81 1 rfl ?_
              refine tc_g7_6 tc_d7_goesUp_82 tc_w884 ?_
              refine tc_iload_n tc_d7_goesUp_85 2 rfl ?_
              refine tc_iconst (v := 1) tc_d7_goesUp_86 (by decide) ?_
              refine tc_iadd tc_d7_goesUp_87 ?_
              obtain ⟨hi17, h⟩ := tc_ckS h
              refine tc_zald tc_d7_goesUp_88 tc_aL56 hi17 ?_
              refine tc_if_ne (tgt := 98) tc_d7_goesUp_89 (by decide) h (fun h => ?_) (fun h => ?_)
              · refine tc_sub [0] rfl ?_
                exact (tc_b7_goesUp_98 N _ _ _ _) h
              · refine tc_iload_n tc_d7_goesUp_92 0 rfl ?_
                refine tc_iconst (v := 2) tc_d7_goesUp_93 (by decide) ?_
                refine tc_idiv tc_d7_goesUp_94 (by decide) ?_
                refine tc_goto (tgt := 99) tc_d7_goesUp_95 (by decide) ?_
                refine tc_sub [] rfl ?_
                exact (tc_b7_goesUp_99 N _ _ _ _) h
          · rw [if_neg hq] at h
            by_cases hq : v4 = 4
            · rw [if_pos hq] at h
              refine tc_tswK (k := 4) (off := 91) (tgt := 103) tc_d7_goesUp_12 hq (by decide) (by decide) rfl (by decide) ?_
              refine tc_aload_n tc_d7_goesUp_103 1 rfl ?_
              refine tc_iload_n tc_d7_goesUp_104 2 rfl ?_
              refine tc_iload_n tc_d7_goesUp_105 0 rfl ?_
              obtain ⟨r18, μ19, e18, h⟩ := tc_bdS h
              have c18 := tc_c7_goesPlain (l := l) (G := G) N e18
              refine tc_callVi (As := [.int x1, .int r1]) (rest := []) (r1 := r18) (μ1 := μ19) tc_d7_goesUp_106 tc_ok7_goesPlain tc_w1109 ⟨Nat.le_of_ble_eq_true rfl, Nat.le_of_ble_eq_true rfl⟩ tc_s7 rfl c18 rfl rfl (Nat.le_of_ble_eq_true rfl) ?_
              refine tc_if_eq (tgt := 124) tc_d7_goesUp_109 (by decide) h (fun h => ?_) (fun h => ?_)
              · refine tc_iconst (v := 0) tc_d7_goesUp_124 (by decide) ?_
                exact tc_zret tc_d7_goesUp_125 rfl (by decide) (tc_riS h)
              · refine tc_aload_n tc_d7_goesUp_112 1 rfl ?_
                refine tc_iload_n tc_d7_goesUp_113 2 rfl ?_
                obtain ⟨r20, μ21, e20, h⟩ := tc_bdS h
                have c20 := tc_c7_isUpRight (l := l) (G := G) N e20
                refine tc_callVi (As := [.int x1]) (rest := []) (r1 := r20) (μ1 := μ21) tc_d7_goesUp_114 tc_ok7_isUpRight tc_w1121 ⟨Nat.le_of_ble_eq_true rfl, Nat.le_of_ble_eq_true rfl⟩ tc_s7 rfl c20 rfl rfl (Nat.le_of_ble_eq_true rfl) ?_
                refine tc_if_ne (tgt := 124) tc_d7_goesUp_117 (by decide) h (fun h => ?_) (fun h => ?_)
                · refine tc_iconst (v := 0) tc_d7_goesUp_124 (by decide) ?_
                  exact tc_zret tc_d7_goesUp_125 rfl (by decide) (tc_riS h)
                · refine tc_iconst (v := 1) tc_d7_goesUp_120 (by decide) ?_
                  refine tc_goto (tgt := 125) tc_d7_goesUp_121 (by decide) ?_
                  exact tc_zret tc_d7_goesUp_125 rfl (by decide) (tc_riS h)
            · rw [if_neg hq] at h
              cases h
theorem tc_c7_goesUp (N : Nat) {x1 : Int32} {μ : tc_Mem} {z : Int32 × tc_Mem} (h : tc_f7_goesUp N x1 μ = some z) : tc_Con l G tc_i7_goesUp [.ref (tc_ad G 50), .int x1] μ (some (.int z.1)) z.2 :=
  tc_Con.of (L := [(0, .ref (tc_ad G 50)), (1, .int x1)]) (by decide) (Nat.le_of_ble_eq_true rfl) rfl (fun X => tc_b7_goesUp_0 N  _ _ _ h)
def tc_f7_looksOf (N : Nat) (x0 : Int32) (μ : tc_Mem) : Option (Int32 × tc_Mem) :=
  if x0 < 2 ∨ 5 < x0 then
    some (0, μ)
  else if x0 = 2 then
    some (1, μ)
  else if x0 = 3 then
    some (2, μ)
  else if x0 = 4 then
    some (2, μ)
  else if x0 = 5 then
    some (3, μ)
  else none
theorem tc_b7_looksOf_0 (N : Nat) (x0 : Int32) (μ : tc_Mem) (z : Int32 × tc_Mem) (h : tc_f7_looksOf N x0 μ = some z) : tc_At l G tc_i7_looksOf (some (.int z.1)) z.2 X 0 [(0, .int x0)] [] μ := by
  unfold tc_f7_looksOf at h
  refine tc_iload_n tc_d7_looksOf_0 0 rfl ?_
  by_cases hq : x0 < 2 ∨ 5 < x0
  · rw [if_pos hq] at h
    refine tc_tswD (a := 2) (b := 5) (tgt := 38) tc_d7_looksOf_1 ⟨by decide, by decide⟩ hq (by decide) ?_
    refine tc_iconst (v := 0) tc_d7_looksOf_38 (by decide) ?_
    exact tc_iret tc_d7_looksOf_39 rfl (tc_riS h)
  · rw [if_neg hq] at h
    by_cases hq : x0 = 2
    · rw [if_pos hq] at h
      refine tc_tswK (k := 2) (off := 31) (tgt := 32) tc_d7_looksOf_1 hq (by decide) (by decide) rfl (by decide) ?_
      refine tc_iconst (v := 1) tc_d7_looksOf_32 (by decide) ?_
      exact tc_iret tc_d7_looksOf_33 rfl (tc_riS h)
    · rw [if_neg hq] at h
      by_cases hq : x0 = 3
      · rw [if_pos hq] at h
        refine tc_tswK (k := 3) (off := 33) (tgt := 34) tc_d7_looksOf_1 hq (by decide) (by decide) rfl (by decide) ?_
        refine tc_iconst (v := 2) tc_d7_looksOf_34 (by decide) ?_
        exact tc_iret tc_d7_looksOf_35 rfl (tc_riS h)
      · rw [if_neg hq] at h
        by_cases hq : x0 = 4
        · rw [if_pos hq] at h
          refine tc_tswK (k := 4) (off := 33) (tgt := 34) tc_d7_looksOf_1 hq (by decide) (by decide) rfl (by decide) ?_
          refine tc_iconst (v := 2) tc_d7_looksOf_34 (by decide) ?_
          exact tc_iret tc_d7_looksOf_35 rfl (tc_riS h)
        · rw [if_neg hq] at h
          by_cases hq : x0 = 5
          · rw [if_pos hq] at h
            refine tc_tswK (k := 5) (off := 35) (tgt := 36) tc_d7_looksOf_1 hq (by decide) (by decide) rfl (by decide) ?_
            refine tc_iconst (v := 3) tc_d7_looksOf_36 (by decide) ?_
            exact tc_iret tc_d7_looksOf_37 rfl (tc_riS h)
          · rw [if_neg hq] at h
            cases h
theorem tc_c7_looksOf (N : Nat) {x0 : Int32} {μ : tc_Mem} {z : Int32 × tc_Mem} (h : tc_f7_looksOf N x0 μ = some z) : tc_Con l G tc_i7_looksOf [.int x0] μ (some (.int z.1)) z.2 :=
  tc_Con.of (L := [(0, .int x0)]) (by decide) (Nat.le_of_ble_eq_true rfl) rfl (fun X => tc_b7_looksOf_0 N  _ _ _ h)
def tc_f7_goes_70 (N : Nat) (k45 : Int32 → Int32 → tc_Mem → Option (Int32 × tc_Mem)) (x1 : Int32) (x2 : Int32) (s1 : Int32) (μ : tc_Mem) : Option (Int32 × tc_Mem) :=
  tc_bd (tc_f7_comes N s1 μ) fun _ μ2 =>
  k45 x1 (x2 + 1) μ2
theorem tc_b7_goes_70 (N : Nat) {k45 : Int32 → Int32 → tc_Mem → Option (Int32 × tc_Mem)} (H45 : ∀ (x1 : Int32) (x2 : Int32) (μ : tc_Mem) (z : Int32 × tc_Mem), k45 x1 x2 μ = some z → tc_At l G tc_i7_goes (some (.int z.1)) z.2 X 45 [(0, .ref (tc_ad G 50)), (1, .int x1), (2, .int x2)] [] μ) (x1 : Int32) (x2 : Int32) (s1 : Int32) (μ : tc_Mem) (z : Int32 × tc_Mem) (h : tc_f7_goes_70 N k45 x1 x2 s1 μ = some z) : tc_At l G tc_i7_goes (some (.int z.1)) z.2 X 70 [(0, .ref (tc_ad G 50)), (1, .int x1), (2, .int x2)] [.int s1, .ref (tc_ad G 50)] μ := by
  unfold tc_f7_goes_70 at h
  obtain ⟨r1, μ2, e1, h⟩ := tc_bdS h
  have c1 := tc_c7_comes (l := l) (G := G) N e1
  refine tc_callVv (As := [.int s1]) (rest := []) (μ1 := μ2) tc_d7_goes_70 tc_ok7_comes tc_w1101 ⟨Nat.le_of_ble_eq_true rfl, Nat.le_of_ble_eq_true rfl⟩ tc_s7 rfl c1 rfl rfl (Nat.le_of_ble_eq_true rfl) ?_
  refine tc_iinc (v := (x2 + 1)) (L' := [(2, .int (x2 + 1)), (0, .ref (tc_ad G 50)), (1, .int x1)]) tc_d7_goes_73 2 rfl rfl (by decide) rfl ?_
  refine tc_goto (tgt := 45) tc_d7_goes_76 (by decide) ?_
  refine tc_sub [1, 2, 0] rfl ?_
  exact (H45 _ _ _ _) h
def tc_f7_goes_341 (N : Nat) (k298 : Int32 → Int32 → tc_Mem → Option (Int32 × tc_Mem)) (x2 : Int32) (x3 : Int32) (s1 : Int32) (s2 : Int32) (μ : tc_Mem) : Option (Int32 × tc_Mem) :=
  tc_ck s1 8 (
  tc_lt (tc_wr μ 55 s1.toNatClampNeg s2) fun μ2 =>
  k298 x2 (x3 + 1) μ2)
theorem tc_b7_goes_341 (N : Nat) {k298 : Int32 → Int32 → tc_Mem → Option (Int32 × tc_Mem)} (H298 : ∀ (x2 : Int32) (x3 : Int32) (μ : tc_Mem) (z : Int32 × tc_Mem), k298 x2 x3 μ = some z → tc_At l G tc_i7_goes (some (.int z.1)) z.2 X 298 [(0, .ref (tc_ad G 50)), (2, .int x2), (3, .int x3)] [] μ) (x2 : Int32) (x3 : Int32) (s1 : Int32) (s2 : Int32) (μ : tc_Mem) (z : Int32 × tc_Mem) (h : tc_f7_goes_341 N k298 x2 x3 s1 s2 μ = some z) : tc_At l G tc_i7_goes (some (.int z.1)) z.2 X 341 [(0, .ref (tc_ad G 50)), (2, .int x2), (3, .int x3)] [.int s2, .int s1, .ref (tc_ad G 55)] μ := by
  unfold tc_f7_goes_341 at h
  obtain ⟨hi1, h⟩ := tc_ckS h
  refine tc_iastL tc_d7_goes_341 tc_aL55 hi1 h (fun μ2 h => ?_)
  refine tc_iinc (v := (x3 + 1)) (L' := [(3, .int (x3 + 1)), (0, .ref (tc_ad G 50)), (2, .int x2)]) tc_d7_goes_342 2 rfl rfl (by decide) rfl ?_
  refine tc_goto (tgt := 298) tc_d7_goes_345 (by decide) ?_
  refine tc_sub [1, 2, 0] rfl ?_
  exact (H298 _ _ _ _) h
def tc_f7_goes_298 (N : Nat) : Nat → Int32 → Int32 → tc_Mem → Option (Int32 × tc_Mem)
  | 0 => fun _ _ _ => none
  | n + 1 => fun x2 x3 μ => 
    if (μ 50 0) ≤ x3 then
      some (x2, μ)
    else
      tc_bd (tc_f7_currentOf N x3 μ) fun r1 μ2 =>
      tc_ck 0 3 (
      if r1 < (μ2 58 (0 : Int32).toNatClampNeg) then
        tc_f7_goes_341 N (tc_f7_goes_298 N n) x2 x3 x3 0 μ2
      else
        tc_ck x3 8 (
        tc_f7_goes_341 N (tc_f7_goes_298 N n) x2 x3 x3 (if ((μ2 55 x3.toNatClampNeg) + 1) < 3 then ((μ2 55 x3.toNatClampNeg) + 1) else 3) μ2))
theorem tc_b7_goes_298 (N : Nat) : ∀ (n : Nat) (x2 : Int32) (x3 : Int32) (μ : tc_Mem) (z : Int32 × tc_Mem), tc_f7_goes_298 N n x2 x3 μ = some z → tc_At l G tc_i7_goes (some (.int z.1)) z.2 X 298 [(0, .ref (tc_ad G 50)), (2, .int x2), (3, .int x3)] [] μ := by
  intro n
  induction n with
  | zero => intro x2 x3 μ z h; cases h
  | succ n ih =>
    intro x2 x3 μ z h
    rw [tc_f7_goes_298] at h
    refine tc_iload_n tc_d7_goes_298 2 rfl ?_
    refine tc_aload_n tc_d7_goes_299 0 rfl ?_
    refine tc_g7_0 tc_d7_goes_300 tc_w878 ?_
    refine tc_icmp_ge (tgt := 348) tc_d7_goes_303 (by decide) h (fun h => ?_) (fun h => ?_)
    · refine tc_iload_n tc_d7_goes_348 1 rfl ?_
      exact tc_iret tc_d7_goes_349 rfl (tc_riS h)
    · refine tc_aload_n tc_d7_goes_306 0 rfl ?_
      refine tc_g7_5 tc_d7_goes_307 tc_w883 ?_
      refine tc_iload_n tc_d7_goes_310 2 rfl ?_
      refine tc_aload_n tc_d7_goes_311 0 rfl ?_
      refine tc_iload_n tc_d7_goes_312 2 rfl ?_
      obtain ⟨r1, μ2, e1, h⟩ := tc_bdS h
      have c1 := tc_c7_currentOf (l := l) (G := G) N e1
      refine tc_callVi (As := [.int x3]) (rest := [.int x3, .ref (tc_ad G 55)]) (r1 := r1) (μ1 := μ2) tc_d7_goes_313 tc_ok7_currentOf tc_w1028 ⟨Nat.le_of_ble_eq_true rfl, Nat.le_of_ble_eq_true rfl⟩ tc_s7 rfl c1 rfl rfl (Nat.le_of_ble_eq_true rfl) ?_
      refine tc_aload_n tc_d7_goes_316 0 rfl ?_
      refine tc_g7_8 tc_d7_goes_317 tc_w886 ?_
      refine tc_iconst (v := 0) tc_d7_goes_320 (by decide) ?_
      obtain ⟨hi3, h⟩ := tc_ckS h
      refine tc_iald tc_d7_goes_321 tc_aL58 hi3 ?_
      refine tc_icmp_lt (tgt := 340) tc_d7_goes_322 (by decide) h (fun h => ?_) (fun h => ?_)
      · refine tc_iconst (v := 0) tc_d7_goes_340 (by decide) ?_
        exact (tc_b7_goes_341 N ih _ _ _ _ _ _) h
      · refine tc_iconst (v := 3) tc_d7_goes_325 (by decide) ?_
        refine tc_aload_n tc_d7_goes_326 0 rfl ?_
        refine tc_g7_5 tc_d7_goes_327 tc_w883 ?_
        refine tc_iload_n tc_d7_goes_330 2 rfl ?_
        obtain ⟨hi4, h⟩ := tc_ckS h
        refine tc_iald tc_d7_goes_331 tc_aL55 hi4 ?_
        refine tc_iconst (v := 1) tc_d7_goes_332 (by decide) ?_
        refine tc_iadd tc_d7_goes_333 ?_
        refine tc_mmin tc_d7_goes_334 tc_w1033 tc_okmmin ⟨Nat.le_of_ble_eq_true rfl, Nat.le_of_ble_eq_true rfl⟩ ?_
        refine tc_goto (tgt := 341) tc_d7_goes_337 (by decide) ?_
        exact (tc_b7_goes_341 N ih _ _ _ _ _ _) h
def tc_f7_goes_296 (N : Nat) (x2 : Int32) (μ : tc_Mem) : Option (Int32 × tc_Mem) :=
  tc_f7_goes_298 N N x2 0 μ
theorem tc_b7_goes_296 (N : Nat) (x2 : Int32) (μ : tc_Mem) (z : Int32 × tc_Mem) (h : tc_f7_goes_296 N x2 μ = some z) : tc_At l G tc_i7_goes (some (.int z.1)) z.2 X 296 [(0, .ref (tc_ad G 50)), (2, .int x2)] [] μ := by
  unfold tc_f7_goes_296 at h
  refine tc_iconst (v := 0) tc_d7_goes_296 (by decide) ?_
  refine tc_istore_n (L' := [(3, .int 0), (0, .ref (tc_ad G 50)), (2, .int x2)]) tc_d7_goes_297 (by decide) rfl ?_
  refine tc_sub [1, 2, 0] rfl ?_
  exact (tc_b7_goes_298 N N _ _ _ _) h
def tc_f7_goes_259 (N : Nat) (k81 : Int32 → tc_Mem → Option (Int32 × tc_Mem)) (x2 : Int32) (x3 : Int32) (μ : tc_Mem) : Option (Int32 × tc_Mem) :=
  if ((μ 50 0) - 1) ≤ x3 then
    k81 x2 μ
  else
    tc_ck (x3 + 1) 8 (
    tc_bd (tc_f7_looksOf N (μ 51 (x3 + 1).toNatClampNeg) μ) fun r2 μ3 =>
    if (r2 - r2 / 2 * 2) = 1 then
      tc_bd (tc_f7_comes N (x3 + 1) μ3) fun _ μ5 =>
      k81 x2 μ5
    else
      k81 x2 μ3)
theorem tc_b7_goes_259 (N : Nat) {k81 : Int32 → tc_Mem → Option (Int32 × tc_Mem)} (H81 : ∀ (x2 : Int32) (μ : tc_Mem) (z : Int32 × tc_Mem), k81 x2 μ = some z → tc_At l G tc_i7_goes (some (.int z.1)) z.2 X 81 [(0, .ref (tc_ad G 50)), (2, .int x2)] [] μ) (x2 : Int32) (x3 : Int32) (μ : tc_Mem) (z : Int32 × tc_Mem) (h : tc_f7_goes_259 N k81 x2 x3 μ = some z) : tc_At l G tc_i7_goes (some (.int z.1)) z.2 X 259 [(0, .ref (tc_ad G 50)), (2, .int x2), (3, .int x3)] [] μ := by
  unfold tc_f7_goes_259 at h
  refine tc_iload_n tc_d7_goes_259 2 rfl ?_
  refine tc_aload_n tc_d7_goes_260 0 rfl ?_
  refine tc_g7_0 tc_d7_goes_261 tc_w878 ?_
  refine tc_iconst (v := 1) tc_d7_goes_264 (by decide) ?_
  refine tc_isub tc_d7_goes_265 ?_
  refine tc_icmp_ge (tgt := 293) tc_d7_goes_266 (by decide) h (fun h => ?_) (fun h => ?_)
  · refine tc_goto (tgt := 81) tc_d7_goes_293 (by decide) ?_
    refine tc_sub [0, 1] rfl ?_
    exact (H81 _ _ _) h
  · refine tc_aload_n tc_d7_goes_269 0 rfl ?_
    refine tc_g7_1 tc_d7_goes_270 tc_w879 ?_
    refine tc_iload_n tc_d7_goes_273 2 rfl ?_
    refine tc_iconst (v := 1) tc_d7_goes_274 (by decide) ?_
    refine tc_iadd tc_d7_goes_275 ?_
    obtain ⟨hi1, h⟩ := tc_ckS h
    refine tc_iald tc_d7_goes_276 tc_aL51 hi1 ?_
    obtain ⟨r2, μ3, e2, h⟩ := tc_bdS h
    have c2 := tc_c7_looksOf (l := l) (G := G) N e2
    refine tc_callSi (As := [.int (μ 51 (x3 + 1).toNatClampNeg)]) (rest := []) (r1 := r2) (μ1 := μ3) tc_d7_goes_277 tc_ok7_looksOf tc_w1038 ⟨Nat.le_of_ble_eq_true rfl, Nat.le_of_ble_eq_true rfl⟩ c2 rfl rfl (Nat.le_of_ble_eq_true rfl) ?_
    refine tc_iconst (v := 2) tc_d7_goes_280 (by decide) ?_
    refine tc_irem tc_d7_goes_281 (by decide) ?_
    refine tc_iconst (v := 1) tc_d7_goes_282 (by decide) ?_
    refine tc_icmp_ne (tgt := 293) tc_d7_goes_283 (by decide) h (fun h => ?_) (fun h => ?_)
    · refine tc_goto (tgt := 81) tc_d7_goes_293 (by decide) ?_
      refine tc_sub [0, 1] rfl ?_
      exact (H81 _ _ _) h
    · refine tc_aload_n tc_d7_goes_286 0 rfl ?_
      refine tc_iload_n tc_d7_goes_287 2 rfl ?_
      refine tc_iconst (v := 1) tc_d7_goes_288 (by decide) ?_
      refine tc_iadd tc_d7_goes_289 ?_
      obtain ⟨r4, μ5, e4, h⟩ := tc_bdS h
      have c4 := tc_c7_comes (l := l) (G := G) N e4
      refine tc_callVv (As := [.int (x3 + 1)]) (rest := []) (μ1 := μ5) tc_d7_goes_290 tc_ok7_comes tc_w1101 ⟨Nat.le_of_ble_eq_true rfl, Nat.le_of_ble_eq_true rfl⟩ tc_s7 rfl c4 rfl rfl (Nat.le_of_ble_eq_true rfl) ?_
      refine tc_goto (tgt := 81) tc_d7_goes_293 (by decide) ?_
      refine tc_sub [0, 1] rfl ?_
      exact (H81 _ _ _) h
def tc_f7_goes_226 (N : Nat) (k81 : Int32 → tc_Mem → Option (Int32 × tc_Mem)) (x2 : Int32) (x3 : Int32) (s1 : Int32) (s2 : Int32) (s3 : Int32) (μ : tc_Mem) : Option (Int32 × tc_Mem) :=
  tc_ck s1 40 (
  tc_lt (tc_wr μ 71 s1.toNatClampNeg (s2 + s3)) fun μ2 =>
  if x3 ≤ 0 then
    tc_f7_goes_259 N k81 (x2 + 1) x3 μ2
  else
    tc_ck (x3 - 1) 8 (
    tc_bd (tc_f7_looksOf N (μ2 51 (x3 - 1).toNatClampNeg) μ2) fun r4 μ5 =>
    if (r4 / 2) = 1 then
      tc_bd (tc_f7_comes N (x3 - 1) μ5) fun _ μ7 =>
      tc_f7_goes_259 N k81 (x2 + 1) x3 μ7
    else
      tc_f7_goes_259 N k81 (x2 + 1) x3 μ5))
theorem tc_b7_goes_226 (N : Nat) {k81 : Int32 → tc_Mem → Option (Int32 × tc_Mem)} (H81 : ∀ (x2 : Int32) (μ : tc_Mem) (z : Int32 × tc_Mem), k81 x2 μ = some z → tc_At l G tc_i7_goes (some (.int z.1)) z.2 X 81 [(0, .ref (tc_ad G 50)), (2, .int x2)] [] μ) (x2 : Int32) (x3 : Int32) (s1 : Int32) (s2 : Int32) (s3 : Int32) (μ : tc_Mem) (z : Int32 × tc_Mem) (h : tc_f7_goes_226 N k81 x2 x3 s1 s2 s3 μ = some z) : tc_At l G tc_i7_goes (some (.int z.1)) z.2 X 226 [(0, .ref (tc_ad G 50)), (2, .int x2), (3, .int x3)] [.int s3, .int s2, .int s1, .ref (tc_ad G 71)] μ := by
  unfold tc_f7_goes_226 at h
  refine tc_iadd tc_d7_goes_226 ?_
  obtain ⟨hi1, h⟩ := tc_ckS h
  refine tc_iastL tc_d7_goes_227 tc_aL71 hi1 h (fun μ2 h => ?_)
  refine tc_iinc (v := (x2 + 1)) (L' := [(2, .int (x2 + 1)), (0, .ref (tc_ad G 50)), (3, .int x3)]) tc_d7_goes_228 1 rfl rfl (by decide) rfl ?_
  refine tc_iload_n tc_d7_goes_231 2 rfl ?_
  refine tc_if_le (tgt := 259) tc_d7_goes_232 (by decide) h (fun h => ?_) (fun h => ?_)
  · refine tc_sub [1, 0, 2] rfl ?_
    exact (tc_b7_goes_259 N H81 _ _ _ _) h
  · refine tc_aload_n tc_d7_goes_235 1 rfl ?_
    refine tc_g7_1 tc_d7_goes_236 tc_w879 ?_
    refine tc_iload_n tc_d7_goes_239 2 rfl ?_
    refine tc_iconst (v := 1) tc_d7_goes_240 (by decide) ?_
    refine tc_isub tc_d7_goes_241 ?_
    obtain ⟨hi3, h⟩ := tc_ckS h
    refine tc_iald tc_d7_goes_242 tc_aL51 hi3 ?_
    obtain ⟨r4, μ5, e4, h⟩ := tc_bdS h
    have c4 := tc_c7_looksOf (l := l) (G := G) N e4
    refine tc_callSi (As := [.int (μ2 51 (x3 - 1).toNatClampNeg)]) (rest := []) (r1 := r4) (μ1 := μ5) tc_d7_goes_243 tc_ok7_looksOf tc_w1038 ⟨Nat.le_of_ble_eq_true rfl, Nat.le_of_ble_eq_true rfl⟩ c4 rfl rfl (Nat.le_of_ble_eq_true rfl) ?_
    refine tc_iconst (v := 2) tc_d7_goes_246 (by decide) ?_
    refine tc_idiv tc_d7_goes_247 (by decide) ?_
    refine tc_iconst (v := 1) tc_d7_goes_248 (by decide) ?_
    refine tc_icmp_ne (tgt := 259) tc_d7_goes_249 (by decide) h (fun h => ?_) (fun h => ?_)
    · refine tc_sub [1, 0, 2] rfl ?_
      exact (tc_b7_goes_259 N H81 _ _ _ _) h
    · refine tc_aload_n tc_d7_goes_252 1 rfl ?_
      refine tc_iload_n tc_d7_goes_253 2 rfl ?_
      refine tc_iconst (v := 1) tc_d7_goes_254 (by decide) ?_
      refine tc_isub tc_d7_goes_255 ?_
      obtain ⟨r6, μ7, e6, h⟩ := tc_bdS h
      have c6 := tc_c7_comes (l := l) (G := G) N e6
      refine tc_callVv (As := [.int (x3 - 1)]) (rest := []) (μ1 := μ7) tc_d7_goes_256 tc_ok7_comes tc_w1101 ⟨Nat.le_of_ble_eq_true rfl, Nat.le_of_ble_eq_true rfl⟩ tc_s7 rfl c6 rfl rfl (Nat.le_of_ble_eq_true rfl) ?_
      refine tc_sub [1, 0, 2] rfl ?_
      exact (tc_b7_goes_259 N H81 _ _ _ _) h
def tc_f7_goes_202 (N : Nat) (k81 : Int32 → tc_Mem → Option (Int32 × tc_Mem)) (x2 : Int32) (x3 : Int32) (s1 : Int32) (s2 : Int32) (μ : tc_Mem) : Option (Int32 × tc_Mem) :=
  tc_ck s1 8 (
  tc_lt (tc_wr μ 56 s1.toNatClampNeg (vp_nar .boolean s2)) fun μ2 =>
  tc_ck x3 8 (
  if (μ2 56 x3.toNatClampNeg) = 0 then
    tc_f7_goes_226 N k81 x2 x3 x2 (10 * x3) 0 μ2
  else
    tc_f7_goes_226 N k81 x2 x3 x2 (10 * x3) 1 μ2))
theorem tc_b7_goes_202 (N : Nat) {k81 : Int32 → tc_Mem → Option (Int32 × tc_Mem)} (H81 : ∀ (x2 : Int32) (μ : tc_Mem) (z : Int32 × tc_Mem), k81 x2 μ = some z → tc_At l G tc_i7_goes (some (.int z.1)) z.2 X 81 [(0, .ref (tc_ad G 50)), (2, .int x2)] [] μ) (x2 : Int32) (x3 : Int32) (s1 : Int32) (s2 : Int32) (μ : tc_Mem) (z : Int32 × tc_Mem) (h : tc_f7_goes_202 N k81 x2 x3 s1 s2 μ = some z) : tc_At l G tc_i7_goes (some (.int z.1)) z.2 X 202 [(0, .ref (tc_ad G 50)), (2, .int x2), (3, .int x3)] [.int s2, .int s1, .ref (tc_ad G 56)] μ := by
  unfold tc_f7_goes_202 at h
  obtain ⟨hi1, h⟩ := tc_ckS h
  refine tc_zastL tc_d7_goes_202 tc_aL56 hi1 h (fun μ2 h => ?_)
  refine tc_aload_n tc_d7_goes_203 0 rfl ?_
  refine tc_g7_27 tc_d7_goes_204 tc_w905 ?_
  refine tc_iload_n tc_d7_goes_207 1 rfl ?_
  refine tc_bipush (v := 10) tc_d7_goes_208 (by decide) ?_
  refine tc_iload_n tc_d7_goes_210 2 rfl ?_
  refine tc_imul tc_d7_goes_211 ?_
  refine tc_aload_n tc_d7_goes_212 0 rfl ?_
  refine tc_g7_6 tc_d7_goes_213 tc_w884 ?_
  refine tc_iload_n tc_d7_goes_216 2 rfl ?_
  obtain ⟨hi3, h⟩ := tc_ckS h
  refine tc_zald tc_d7_goes_217 tc_aL56 hi3 ?_
  refine tc_if_eq (tgt := 225) tc_d7_goes_218 (by decide) h (fun h => ?_) (fun h => ?_)
  · refine tc_iconst (v := 0) tc_d7_goes_225 (by decide) ?_
    exact (tc_b7_goes_226 N H81 _ _ _ _ _ _ _) h
  · refine tc_iconst (v := 1) tc_d7_goes_221 (by decide) ?_
    refine tc_goto (tgt := 226) tc_d7_goes_222 (by decide) ?_
    exact (tc_b7_goes_226 N H81 _ _ _ _ _ _ _) h
def tc_f7_goes_154 (N : Nat) : Nat → Int32 → tc_Mem → Option (Int32 × tc_Mem)
  | 0 => fun _ _ => none
  | n + 1 => fun x4 μ => 
    if (8 : Int32) ≤ x4 then
      some ((-1), μ)
    else
      tc_ck x4 8 (
      tc_ck x4 8 (
      tc_lt (tc_wr μ 56 x4.toNatClampNeg (vp_nar .boolean (μ 70 x4.toNatClampNeg))) fun μ3 =>
      tc_f7_goes_154 N  n (x4 + 1) μ3))
theorem tc_b7_goes_154 (N : Nat) : ∀ (n : Nat) (x4 : Int32) (μ : tc_Mem) (z : Int32 × tc_Mem), tc_f7_goes_154 N n x4 μ = some z → tc_At l G tc_i7_goes (some (.int z.1)) z.2 X 154 [(0, .ref (tc_ad G 50)), (4, .int x4)] [] μ := by
  intro n
  induction n with
  | zero => intro x4 μ z h; cases h
  | succ n ih =>
    intro x4 μ z h
    rw [tc_f7_goes_154] at h
    refine tc_iload tc_d7_goes_154 1 rfl ?_
    refine tc_bipush (v := 8) tc_d7_goes_156 (by decide) ?_
    refine tc_icmp_ge (tgt := 181) tc_d7_goes_158 (by decide) h (fun h => ?_) (fun h => ?_)
    · refine tc_iconst (v := (-1)) tc_d7_goes_181 (by decide) ?_
      exact tc_iret tc_d7_goes_182 rfl (tc_riS h)
    · refine tc_aload_n tc_d7_goes_161 0 rfl ?_
      refine tc_g7_6 tc_d7_goes_162 tc_w884 ?_
      refine tc_iload tc_d7_goes_165 1 rfl ?_
      refine tc_aload_n tc_d7_goes_167 0 rfl ?_
      refine tc_g7_26 tc_d7_goes_168 tc_w904 ?_
      refine tc_iload tc_d7_goes_171 1 rfl ?_
      obtain ⟨hi1, h⟩ := tc_ckS h
      refine tc_zald tc_d7_goes_173 tc_aL70 hi1 ?_
      obtain ⟨hi2, h⟩ := tc_ckS h
      refine tc_zastL tc_d7_goes_174 tc_aL56 hi2 h (fun μ3 h => ?_)
      refine tc_iinc (v := (x4 + 1)) (L' := [(4, .int (x4 + 1)), (0, .ref (tc_ad G 50))]) tc_d7_goes_175 1 rfl rfl (by decide) rfl ?_
      refine tc_goto (tgt := 154) tc_d7_goes_178 (by decide) ?_
      refine tc_sub [1, 0] rfl ?_
      exact (ih _ _ _) h
def tc_f7_goes_151 (N : Nat) (μ : tc_Mem) : Option (Int32 × tc_Mem) :=
  tc_f7_goes_154 N N 0 μ
theorem tc_b7_goes_151 (N : Nat) (μ : tc_Mem) (z : Int32 × tc_Mem) (h : tc_f7_goes_151 N μ = some z) : tc_At l G tc_i7_goes (some (.int z.1)) z.2 X 151 [(0, .ref (tc_ad G 50))] [] μ := by
  unfold tc_f7_goes_151 at h
  refine tc_iconst (v := 0) tc_d7_goes_151 (by decide) ?_
  refine tc_istore (L' := [(4, .int 0), (0, .ref (tc_ad G 50))]) tc_d7_goes_152 (by decide) rfl ?_
  refine tc_sub [1, 0] rfl ?_
  exact (tc_b7_goes_154 N N _ _ _) h
def tc_f7_goes_81 (N : Nat) : Nat → Int32 → tc_Mem → Option (Int32 × tc_Mem)
  | 0 => fun _ _ => none
  | n + 1 => fun x2 μ => 
    if (μ 50 25) ≤ 0 then
      tc_f7_goes_296 N x2 μ
    else
      tc_ck (μ 50 24) 8 (
      tc_lt (μ 68 (μ 50 24).toNatClampNeg) fun v2 =>
      tc_lt (tc_wr μ 50 24 (((μ 50 24) + 1) - ((μ 50 24) + 1) / 8 * 8)) fun μ3 =>
      tc_lt (tc_wr μ3 50 25 ((μ3 50 25) - 1)) fun μ4 =>
      tc_ck v2 8 (
      tc_lt (tc_wr μ4 69 v2.toNatClampNeg (vp_nar .boolean 0)) fun μ6 =>
      tc_bd (tc_f7_goesUp N v2 μ6) fun r7 μ8 =>
      tc_ck v2 8 (
      if r7 = (μ8 56 v2.toNatClampNeg) then
        tc_f7_goes_81 N  n x2 μ8
      else
        if x2 = 40 then
          tc_f7_goes_151 N μ8
        else
          tc_ck v2 8 (
          if (μ8 56 v2.toNatClampNeg) = 0 then
            tc_f7_goes_202 N (tc_f7_goes_81 N n) x2 v2 v2 1 μ8
          else
            tc_f7_goes_202 N (tc_f7_goes_81 N n) x2 v2 v2 0 μ8))))
theorem tc_b7_goes_81 (N : Nat) : ∀ (n : Nat) (x2 : Int32) (μ : tc_Mem) (z : Int32 × tc_Mem), tc_f7_goes_81 N n x2 μ = some z → tc_At l G tc_i7_goes (some (.int z.1)) z.2 X 81 [(0, .ref (tc_ad G 50)), (2, .int x2)] [] μ := by
  intro n
  induction n with
  | zero => intro x2 μ z h; cases h
  | succ n ih =>
    intro x2 μ z h
    rw [tc_f7_goes_81] at h
    refine tc_aload_n tc_d7_goes_81 0 rfl ?_
    refine tc_g7_25 tc_d7_goes_82 tc_w903 ?_
    refine tc_if_le (tgt := 296) tc_d7_goes_85 (by decide) h (fun h => ?_) (fun h => ?_)
    · exact (tc_b7_goes_296 N _ _ _) h
    · refine tc_aload_n tc_d7_goes_88 0 rfl ?_
      refine tc_g7_22 tc_d7_goes_89 tc_w900 ?_
      refine tc_aload_n tc_d7_goes_92 0 rfl ?_
      refine tc_g7_24 tc_d7_goes_93 tc_w902 ?_
      obtain ⟨hi1, h⟩ := tc_ckS h
      refine tc_iald tc_d7_goes_96 tc_aL68 hi1 ?_
      refine tc_ltI h (fun v2 h => ?_)
      refine tc_istore_n (L' := [(3, .int v2), (0, .ref (tc_ad G 50)), (2, .int x2)]) tc_d7_goes_97 (by decide) rfl ?_
      refine tc_aload_n tc_d7_goes_98 1 rfl ?_
      refine tc_aload_n tc_d7_goes_99 1 rfl ?_
      refine tc_g7_24 tc_d7_goes_100 tc_w902 ?_
      refine tc_iconst (v := 1) tc_d7_goes_103 (by decide) ?_
      refine tc_iadd tc_d7_goes_104 ?_
      refine tc_bipush (v := 8) tc_d7_goes_105 (by decide) ?_
      refine tc_irem tc_d7_goes_107 (by decide) ?_
      refine tc_p7_24 tc_d7_goes_108 tc_w902 h (fun μ3 h => ?_)
      refine tc_aload_n tc_d7_goes_111 1 rfl ?_
      refine tc_dup tc_d7_goes_112 rfl ?_
      refine tc_g7_25 tc_d7_goes_113 tc_w903 ?_
      refine tc_iconst (v := 1) tc_d7_goes_116 (by decide) ?_
      refine tc_isub tc_d7_goes_117 ?_
      refine tc_p7_25 tc_d7_goes_118 tc_w903 h (fun μ4 h => ?_)
      refine tc_aload_n tc_d7_goes_121 1 rfl ?_
      refine tc_g7_23 tc_d7_goes_122 tc_w901 ?_
      refine tc_iload_n tc_d7_goes_125 0 rfl ?_
      refine tc_iconst (v := 0) tc_d7_goes_126 (by decide) ?_
      obtain ⟨hi5, h⟩ := tc_ckS h
      refine tc_zastL tc_d7_goes_127 tc_aL69 hi5 h (fun μ6 h => ?_)
      refine tc_aload_n tc_d7_goes_128 1 rfl ?_
      refine tc_iload_n tc_d7_goes_129 0 rfl ?_
      obtain ⟨r7, μ8, e7, h⟩ := tc_bdS h
      have c7 := tc_c7_goesUp (l := l) (G := G) N e7
      refine tc_callVi (As := [.int v2]) (rest := []) (r1 := r7) (μ1 := μ8) tc_d7_goes_130 tc_ok7_goesUp tc_w1105 ⟨Nat.le_of_ble_eq_true rfl, Nat.le_of_ble_eq_true rfl⟩ tc_s7 rfl c7 rfl rfl (Nat.le_of_ble_eq_true rfl) ?_
      refine tc_aload_n tc_d7_goes_133 1 rfl ?_
      refine tc_g7_6 tc_d7_goes_134 tc_w884 ?_
      refine tc_iload_n tc_d7_goes_137 0 rfl ?_
      obtain ⟨hi9, h⟩ := tc_ckS h
      refine tc_zald tc_d7_goes_138 tc_aL56 hi9 ?_
      refine tc_icmp_ne (tgt := 145) tc_d7_goes_139 (by decide) h (fun h => ?_) (fun h => ?_)
      · refine tc_iload_n tc_d7_goes_145 2 rfl ?_
        refine tc_bipush (v := 40) tc_d7_goes_146 (by decide) ?_
        refine tc_icmp_ne (tgt := 183) tc_d7_goes_148 (by decide) h (fun h => ?_) (fun h => ?_)
        · refine tc_aload_n tc_d7_goes_183 1 rfl ?_
          refine tc_g7_6 tc_d7_goes_184 tc_w884 ?_
          refine tc_iload_n tc_d7_goes_187 0 rfl ?_
          refine tc_aload_n tc_d7_goes_188 1 rfl ?_
          refine tc_g7_6 tc_d7_goes_189 tc_w884 ?_
          refine tc_iload_n tc_d7_goes_192 0 rfl ?_
          obtain ⟨hi10, h⟩ := tc_ckS h
          refine tc_zald tc_d7_goes_193 tc_aL56 hi10 ?_
          refine tc_if_ne (tgt := 201) tc_d7_goes_194 (by decide) h (fun h => ?_) (fun h => ?_)
          · refine tc_iconst (v := 0) tc_d7_goes_201 (by decide) ?_
            refine tc_sub [1, 2, 0] rfl ?_
            exact (tc_b7_goes_202 N ih _ _ _ _ _ _) h
          · refine tc_iconst (v := 1) tc_d7_goes_197 (by decide) ?_
            refine tc_goto (tgt := 202) tc_d7_goes_198 (by decide) ?_
            refine tc_sub [1, 2, 0] rfl ?_
            exact (tc_b7_goes_202 N ih _ _ _ _ _ _) h
        · refine tc_sub [1] rfl ?_
          exact (tc_b7_goes_151 N _ _) h
      · refine tc_goto (tgt := 81) tc_d7_goes_142 (by decide) ?_
        refine tc_sub [1, 2] rfl ?_
        exact (ih _ _ _) h
def tc_f7_goes_79 (N : Nat) (μ : tc_Mem) : Option (Int32 × tc_Mem) :=
  tc_f7_goes_81 N N 0 μ
theorem tc_b7_goes_79 (N : Nat) (μ : tc_Mem) (z : Int32 × tc_Mem) (h : tc_f7_goes_79 N μ = some z) : tc_At l G tc_i7_goes (some (.int z.1)) z.2 X 79 [(0, .ref (tc_ad G 50))] [] μ := by
  unfold tc_f7_goes_79 at h
  refine tc_iconst (v := 0) tc_d7_goes_79 (by decide) ?_
  refine tc_istore_n (L' := [(2, .int 0), (0, .ref (tc_ad G 50))]) tc_d7_goes_80 (by decide) rfl ?_
  refine tc_sub [1, 0] rfl ?_
  exact (tc_b7_goes_81 N N _ _ _) h
def tc_f7_goes_45 (N : Nat) : Nat → Int32 → Int32 → tc_Mem → Option (Int32 × tc_Mem)
  | 0 => fun _ _ _ => none
  | n + 1 => fun x1 x2 μ => 
    if (μ 50 0) ≤ x2 then
      tc_f7_goes_79 N μ
    else
      if x1 = 0 then
        tc_f7_goes_70 N (tc_f7_goes_45 N n) x1 x2 x2 μ
      else
        tc_f7_goes_70 N (tc_f7_goes_45 N n) x1 x2 (((μ 50 0) - 1) - x2) μ
theorem tc_b7_goes_45 (N : Nat) : ∀ (n : Nat) (x1 : Int32) (x2 : Int32) (μ : tc_Mem) (z : Int32 × tc_Mem), tc_f7_goes_45 N n x1 x2 μ = some z → tc_At l G tc_i7_goes (some (.int z.1)) z.2 X 45 [(0, .ref (tc_ad G 50)), (1, .int x1), (2, .int x2)] [] μ := by
  intro n
  induction n with
  | zero => intro x1 x2 μ z h; cases h
  | succ n ih =>
    intro x1 x2 μ z h
    rw [tc_f7_goes_45] at h
    refine tc_iload_n tc_d7_goes_45 2 rfl ?_
    refine tc_aload_n tc_d7_goes_46 0 rfl ?_
    refine tc_g7_0 tc_d7_goes_47 tc_w878 ?_
    refine tc_icmp_ge (tgt := 79) tc_d7_goes_50 (by decide) h (fun h => ?_) (fun h => ?_)
    · refine tc_sub [0] rfl ?_
      exact (tc_b7_goes_79 N _ _) h
    · refine tc_aload_n tc_d7_goes_53 0 rfl ?_
      refine tc_iload_n tc_d7_goes_54 1 rfl ?_
      refine tc_if_eq (tgt := 69) tc_d7_goes_55 (by decide) h (fun h => ?_) (fun h => ?_)
      · refine tc_iload_n tc_d7_goes_69 2 rfl ?_
        exact (tc_b7_goes_70 N ih _ _ _ _ _) h
      · refine tc_aload_n tc_d7_goes_58 0 rfl ?_
        refine tc_g7_0 tc_d7_goes_59 tc_w878 ?_
        refine tc_iconst (v := 1) tc_d7_goes_62 (by decide) ?_
        refine tc_isub tc_d7_goes_63 ?_
        refine tc_iload_n tc_d7_goes_64 2 rfl ?_
        refine tc_isub tc_d7_goes_65 ?_
        refine tc_goto (tgt := 70) tc_d7_goes_66 (by decide) ?_
        exact (tc_b7_goes_70 N ih _ _ _ _ _) h
def tc_f7_goes_43 (N : Nat) (x1 : Int32) (μ : tc_Mem) : Option (Int32 × tc_Mem) :=
  tc_f7_goes_45 N N x1 0 μ
theorem tc_b7_goes_43 (N : Nat) (x1 : Int32) (μ : tc_Mem) (z : Int32 × tc_Mem) (h : tc_f7_goes_43 N x1 μ = some z) : tc_At l G tc_i7_goes (some (.int z.1)) z.2 X 43 [(0, .ref (tc_ad G 50)), (1, .int x1)] [] μ := by
  unfold tc_f7_goes_43 at h
  refine tc_iconst (v := 0) tc_d7_goes_43 (by decide) ?_
  refine tc_istore_n (L' := [(2, .int 0), (0, .ref (tc_ad G 50)), (1, .int x1)]) tc_d7_goes_44 (by decide) rfl ?_
  refine tc_sub [1, 2, 0] rfl ?_
  exact (tc_b7_goes_45 N N _ _ _ _) h
def tc_f7_goes_12 (N : Nat) : Nat → Int32 → Int32 → tc_Mem → Option (Int32 × tc_Mem)
  | 0 => fun _ _ _ => none
  | n + 1 => fun x1 x2 μ => 
    if (8 : Int32) ≤ x2 then
      tc_f7_goes_43 N x1 μ
    else
      tc_ck x2 8 (
      tc_lt (tc_wr μ 69 x2.toNatClampNeg (vp_nar .boolean 0)) fun μ2 =>
      tc_ck x2 8 (
      tc_ck x2 8 (
      tc_lt (tc_wr μ2 70 x2.toNatClampNeg (vp_nar .boolean (μ2 56 x2.toNatClampNeg))) fun μ5 =>
      tc_f7_goes_12 N  n x1 (x2 + 1) μ5)))
theorem tc_b7_goes_12 (N : Nat) : ∀ (n : Nat) (x1 : Int32) (x2 : Int32) (μ : tc_Mem) (z : Int32 × tc_Mem), tc_f7_goes_12 N n x1 x2 μ = some z → tc_At l G tc_i7_goes (some (.int z.1)) z.2 X 12 [(0, .ref (tc_ad G 50)), (1, .int x1), (2, .int x2)] [] μ := by
  intro n
  induction n with
  | zero => intro x1 x2 μ z h; cases h
  | succ n ih =>
    intro x1 x2 μ z h
    rw [tc_f7_goes_12] at h
    refine tc_iload_n tc_d7_goes_12 2 rfl ?_
    refine tc_bipush (v := 8) tc_d7_goes_13 (by decide) ?_
    refine tc_icmp_ge (tgt := 43) tc_d7_goes_15 (by decide) h (fun h => ?_) (fun h => ?_)
    · refine tc_sub [0, 1] rfl ?_
      exact (tc_b7_goes_43 N _ _ _) h
    · refine tc_aload_n tc_d7_goes_18 0 rfl ?_
      refine tc_g7_23 tc_d7_goes_19 tc_w901 ?_
      refine tc_iload_n tc_d7_goes_22 2 rfl ?_
      refine tc_iconst (v := 0) tc_d7_goes_23 (by decide) ?_
      obtain ⟨hi1, h⟩ := tc_ckS h
      refine tc_zastL tc_d7_goes_24 tc_aL69 hi1 h (fun μ2 h => ?_)
      refine tc_aload_n tc_d7_goes_25 0 rfl ?_
      refine tc_g7_26 tc_d7_goes_26 tc_w904 ?_
      refine tc_iload_n tc_d7_goes_29 2 rfl ?_
      refine tc_aload_n tc_d7_goes_30 0 rfl ?_
      refine tc_g7_6 tc_d7_goes_31 tc_w884 ?_
      refine tc_iload_n tc_d7_goes_34 2 rfl ?_
      obtain ⟨hi3, h⟩ := tc_ckS h
      refine tc_zald tc_d7_goes_35 tc_aL56 hi3 ?_
      obtain ⟨hi4, h⟩ := tc_ckS h
      refine tc_zastL tc_d7_goes_36 tc_aL70 hi4 h (fun μ5 h => ?_)
      refine tc_iinc (v := (x2 + 1)) (L' := [(2, .int (x2 + 1)), (0, .ref (tc_ad G 50)), (1, .int x1)]) tc_d7_goes_37 2 rfl rfl (by decide) rfl ?_
      refine tc_goto (tgt := 12) tc_d7_goes_40 (by decide) ?_
      refine tc_sub [1, 2, 0] rfl ?_
      exact (ih _ _ _ _) h
def tc_f7_goes (N : Nat) (x1 : Int32) (μ : tc_Mem) : Option (Int32 × tc_Mem) :=
  tc_lt (tc_wr μ 50 24 0) fun μ1 =>
  tc_lt (tc_wr μ1 50 25 0) fun μ2 =>
  tc_f7_goes_12 N N x1 0 μ2
theorem tc_b7_goes_0 (N : Nat) (x1 : Int32) (μ : tc_Mem) (z : Int32 × tc_Mem) (h : tc_f7_goes N x1 μ = some z) : tc_At l G tc_i7_goes (some (.int z.1)) z.2 X 0 [(0, .ref (tc_ad G 50)), (1, .int x1)] [] μ := by
  unfold tc_f7_goes at h
  refine tc_aload_n tc_d7_goes_0 0 rfl ?_
  refine tc_iconst (v := 0) tc_d7_goes_1 (by decide) ?_
  refine tc_p7_24 tc_d7_goes_2 tc_w902 h (fun μ1 h => ?_)
  refine tc_aload_n tc_d7_goes_5 0 rfl ?_
  refine tc_iconst (v := 0) tc_d7_goes_6 (by decide) ?_
  refine tc_p7_25 tc_d7_goes_7 tc_w903 h (fun μ2 h => ?_)
  refine tc_iconst (v := 0) tc_d7_goes_10 (by decide) ?_
  refine tc_istore_n (L' := [(2, .int 0), (0, .ref (tc_ad G 50)), (1, .int x1)]) tc_d7_goes_11 (by decide) rfl ?_
  refine tc_sub [1, 2, 0] rfl ?_
  exact (tc_b7_goes_12 N N _ _ _ _) h
theorem tc_c7_goes (N : Nat) {x1 : Int32} {μ : tc_Mem} {z : Int32 × tc_Mem} (h : tc_f7_goes N x1 μ = some z) : tc_Con l G tc_i7_goes [.ref (tc_ad G 50), .int x1] μ (some (.int z.1)) z.2 :=
  tc_Con.of (L := [(0, .ref (tc_ad G 50)), (1, .int x1)]) (by decide) (Nat.le_of_ble_eq_true rfl) rfl (fun X => tc_b7_goes_0 N  _ _ _ h)
def tc_f7_isTroubled_18 (N : Nat) (μ : tc_Mem) : Option (Int32 × tc_Mem) :=
  some (1, μ)
theorem tc_b7_isTroubled_18 (N : Nat) (μ : tc_Mem) (z : Int32 × tc_Mem) (h : tc_f7_isTroubled_18 N μ = some z) : tc_At l G tc_i7_isTroubled (some (.int z.1)) z.2 X 18 [] [] μ := by
  unfold tc_f7_isTroubled_18 at h
  refine tc_iconst (v := 1) tc_d7_isTroubled_18 (by decide) ?_
  refine tc_goto (tgt := 23) tc_d7_isTroubled_19 (by decide) ?_
  exact tc_zret tc_d7_isTroubled_23 rfl (by decide) (tc_riS h)
def tc_f7_isTroubled (N : Nat) (x1 : Int32) (μ : tc_Mem) : Option (Int32 × tc_Mem) :=
  tc_ck x1 8 (
  if (μ 57 x1.toNatClampNeg) = 0 then
    tc_bd (tc_f7_hasFault N x1 0 μ) fun r2 μ3 =>
    if r2 = 0 then
      some (0, μ3)
    else
      tc_f7_isTroubled_18 N μ3
  else
    tc_f7_isTroubled_18 N μ)
theorem tc_b7_isTroubled_0 (N : Nat) (x1 : Int32) (μ : tc_Mem) (z : Int32 × tc_Mem) (h : tc_f7_isTroubled N x1 μ = some z) : tc_At l G tc_i7_isTroubled (some (.int z.1)) z.2 X 0 [(0, .ref (tc_ad G 50)), (1, .int x1)] [] μ := by
  unfold tc_f7_isTroubled at h
  refine tc_aload_n tc_d7_isTroubled_0 0 rfl ?_
  refine tc_g7_7 tc_d7_isTroubled_1 tc_w885 ?_
  refine tc_iload_n tc_d7_isTroubled_4 1 rfl ?_
  obtain ⟨hi1, h⟩ := tc_ckS h
  refine tc_zald tc_d7_isTroubled_5 tc_aL57 hi1 ?_
  refine tc_if_ne (tgt := 18) tc_d7_isTroubled_6 (by decide) h (fun h => ?_) (fun h => ?_)
  · refine tc_sub [] rfl ?_
    exact (tc_b7_isTroubled_18 N _ _) h
  · refine tc_aload_n tc_d7_isTroubled_9 0 rfl ?_
    refine tc_iload_n tc_d7_isTroubled_10 1 rfl ?_
    refine tc_iconst (v := 0) tc_d7_isTroubled_11 (by decide) ?_
    obtain ⟨r2, μ3, e2, h⟩ := tc_bdS h
    have c2 := tc_c7_hasFault (l := l) (G := G) N e2
    refine tc_callVi (As := [.int x1, .int 0]) (rest := []) (r1 := r2) (μ1 := μ3) tc_d7_isTroubled_12 tc_ok7_hasFault tc_w1034 ⟨Nat.le_of_ble_eq_true rfl, Nat.le_of_ble_eq_true rfl⟩ tc_s7 rfl c2 rfl rfl (Nat.le_of_ble_eq_true rfl) ?_
    refine tc_if_eq (tgt := 22) tc_d7_isTroubled_15 (by decide) h (fun h => ?_) (fun h => ?_)
    · refine tc_iconst (v := 0) tc_d7_isTroubled_22 (by decide) ?_
      exact tc_zret tc_d7_isTroubled_23 rfl (by decide) (tc_riS h)
    · refine tc_sub [] rfl ?_
      exact (tc_b7_isTroubled_18 N _ _) h
theorem tc_c7_isTroubled (N : Nat) {x1 : Int32} {μ : tc_Mem} {z : Int32 × tc_Mem} (h : tc_f7_isTroubled N x1 μ = some z) : tc_Con l G tc_i7_isTroubled [.ref (tc_ad G 50), .int x1] μ (some (.int z.1)) z.2 :=
  tc_Con.of (L := [(0, .ref (tc_ad G 50)), (1, .int x1)]) (by decide) (Nat.le_of_ble_eq_true rfl) rfl (fun X => tc_b7_isTroubled_0 N  _ _ _ h)
def tc_f7_bitsOf_141 (N : Nat) (k4 : Int32 → Int32 → Int32 → tc_Mem → Option (Int32 × tc_Mem)) (x1 : Int32) (x3 : Int32) (s0 : Int32) (s1 : Int32) (μ : tc_Mem) : Option (Int32 × tc_Mem) :=
  tc_lt (s0 ||| s1) fun v1 =>
  k4 x1 v1 (x3 + 1) μ
theorem tc_b7_bitsOf_141 (N : Nat) {k4 : Int32 → Int32 → Int32 → tc_Mem → Option (Int32 × tc_Mem)} (H4 : ∀ (x1 : Int32) (x2 : Int32) (x3 : Int32) (μ : tc_Mem) (z : Int32 × tc_Mem), k4 x1 x2 x3 μ = some z → tc_At l G tc_i7_bitsOf (some (.int z.1)) z.2 X 4 [(0, .ref (tc_ad G 50)), (1, .int x1), (2, .int x2), (3, .int x3)] [] μ) (x1 : Int32) (x3 : Int32) (s0 : Int32) (s1 : Int32) (μ : tc_Mem) (z : Int32 × tc_Mem) (h : tc_f7_bitsOf_141 N k4 x1 x3 s0 s1 μ = some z) : tc_At l G tc_i7_bitsOf (some (.int z.1)) z.2 X 141 [(0, .ref (tc_ad G 50)), (1, .int x1), (3, .int x3)] [.int s1, .int s0] μ := by
  unfold tc_f7_bitsOf_141 at h
  refine tc_ior tc_d7_bitsOf_141 ?_
  refine tc_ltI h (fun v1 h => ?_)
  refine tc_istore_n (L' := [(2, .int v1), (0, .ref (tc_ad G 50)), (1, .int x1), (3, .int x3)]) tc_d7_bitsOf_142 (by decide) rfl ?_
  refine tc_iinc (v := (x3 + 1)) (L' := [(3, .int (x3 + 1)), (2, .int v1), (0, .ref (tc_ad G 50)), (1, .int x1)]) tc_d7_bitsOf_143 3 rfl rfl (by decide) rfl ?_
  refine tc_goto (tgt := 4) tc_d7_bitsOf_146 (by decide) ?_
  refine tc_sub [2, 3, 1, 0] rfl ?_
  exact (H4 _ _ _ _ _) h
def tc_f7_bitsOf_128 (N : Nat) (k4 : Int32 → Int32 → Int32 → tc_Mem → Option (Int32 × tc_Mem)) (x1 : Int32) (x2 : Int32) (x3 : Int32) (x4 : Int32) (μ : tc_Mem) : Option (Int32 × tc_Mem) :=
  if x4 = 0 then
    tc_f7_bitsOf_141 N k4 x1 x3 x2 0 μ
  else
    tc_f7_bitsOf_141 N k4 x1 x3 x2 (1 <<< (x3 &&& 31)) μ
theorem tc_b7_bitsOf_128 (N : Nat) {k4 : Int32 → Int32 → Int32 → tc_Mem → Option (Int32 × tc_Mem)} (H4 : ∀ (x1 : Int32) (x2 : Int32) (x3 : Int32) (μ : tc_Mem) (z : Int32 × tc_Mem), k4 x1 x2 x3 μ = some z → tc_At l G tc_i7_bitsOf (some (.int z.1)) z.2 X 4 [(0, .ref (tc_ad G 50)), (1, .int x1), (2, .int x2), (3, .int x3)] [] μ) (x1 : Int32) (x2 : Int32) (x3 : Int32) (x4 : Int32) (μ : tc_Mem) (z : Int32 × tc_Mem) (h : tc_f7_bitsOf_128 N k4 x1 x2 x3 x4 μ = some z) : tc_At l G tc_i7_bitsOf (some (.int z.1)) z.2 X 128 [(0, .ref (tc_ad G 50)), (1, .int x1), (2, .int x2), (3, .int x3), (4, .int x4)] [] μ := by
  unfold tc_f7_bitsOf_128 at h
  refine tc_iload_n tc_d7_bitsOf_128 2 rfl ?_
  refine tc_iload tc_d7_bitsOf_129 4 rfl ?_
  refine tc_if_eq (tgt := 140) tc_d7_bitsOf_131 (by decide) h (fun h => ?_) (fun h => ?_)
  · refine tc_iconst (v := 0) tc_d7_bitsOf_140 (by decide) ?_
    refine tc_sub [0, 1, 3] rfl ?_
    exact (tc_b7_bitsOf_141 N H4 _ _ _ _ _ _) h
  · refine tc_iconst (v := 1) tc_d7_bitsOf_134 (by decide) ?_
    refine tc_iload_n tc_d7_bitsOf_135 3 rfl ?_
    refine tc_ishl tc_d7_bitsOf_136 ?_
    refine tc_goto (tgt := 141) tc_d7_bitsOf_137 (by decide) ?_
    refine tc_sub [0, 1, 3] rfl ?_
    exact (tc_b7_bitsOf_141 N H4 _ _ _ _ _ _) h
def tc_f7_bitsOf_104 (N : Nat) (k4 : Int32 → Int32 → Int32 → tc_Mem → Option (Int32 × tc_Mem)) (x1 : Int32) (x2 : Int32) (x3 : Int32) (s0 : Int32) (μ : tc_Mem) : Option (Int32 × tc_Mem) :=
  tc_f7_bitsOf_128 N k4 x1 x2 x3 s0 μ
theorem tc_b7_bitsOf_104 (N : Nat) {k4 : Int32 → Int32 → Int32 → tc_Mem → Option (Int32 × tc_Mem)} (H4 : ∀ (x1 : Int32) (x2 : Int32) (x3 : Int32) (μ : tc_Mem) (z : Int32 × tc_Mem), k4 x1 x2 x3 μ = some z → tc_At l G tc_i7_bitsOf (some (.int z.1)) z.2 X 4 [(0, .ref (tc_ad G 50)), (1, .int x1), (2, .int x2), (3, .int x3)] [] μ) (x1 : Int32) (x2 : Int32) (x3 : Int32) (s0 : Int32) (μ : tc_Mem) (z : Int32 × tc_Mem) (h : tc_f7_bitsOf_104 N k4 x1 x2 x3 s0 μ = some z) : tc_At l G tc_i7_bitsOf (some (.int z.1)) z.2 X 104 [(0, .ref (tc_ad G 50)), (1, .int x1), (2, .int x2), (3, .int x3)] [.int s0] μ := by
  unfold tc_f7_bitsOf_104 at h
  refine tc_istore (L' := [(4, .int s0), (0, .ref (tc_ad G 50)), (1, .int x1), (2, .int x2), (3, .int x3)]) tc_d7_bitsOf_104 (by decide) rfl ?_
  refine tc_goto (tgt := 128) tc_d7_bitsOf_106 (by decide) ?_
  refine tc_sub [1, 2, 3, 4, 0] rfl ?_
  exact (tc_b7_bitsOf_128 N H4 _ _ _ _ _ _) h
def tc_f7_bitsOf_103 (N : Nat) (k4 : Int32 → Int32 → Int32 → tc_Mem → Option (Int32 × tc_Mem)) (x1 : Int32) (x2 : Int32) (x3 : Int32) (μ : tc_Mem) : Option (Int32 × tc_Mem) :=
  tc_f7_bitsOf_104 N k4 x1 x2 x3 0 μ
theorem tc_b7_bitsOf_103 (N : Nat) {k4 : Int32 → Int32 → Int32 → tc_Mem → Option (Int32 × tc_Mem)} (H4 : ∀ (x1 : Int32) (x2 : Int32) (x3 : Int32) (μ : tc_Mem) (z : Int32 × tc_Mem), k4 x1 x2 x3 μ = some z → tc_At l G tc_i7_bitsOf (some (.int z.1)) z.2 X 4 [(0, .ref (tc_ad G 50)), (1, .int x1), (2, .int x2), (3, .int x3)] [] μ) (x1 : Int32) (x2 : Int32) (x3 : Int32) (μ : tc_Mem) (z : Int32 × tc_Mem) (h : tc_f7_bitsOf_103 N k4 x1 x2 x3 μ = some z) : tc_At l G tc_i7_bitsOf (some (.int z.1)) z.2 X 103 [(0, .ref (tc_ad G 50)), (1, .int x1), (2, .int x2), (3, .int x3)] [] μ := by
  unfold tc_f7_bitsOf_103 at h
  refine tc_iconst (v := 0) tc_d7_bitsOf_103 (by decide) ?_
  exact (tc_b7_bitsOf_104 N H4 _ _ _ _ _ _) h
def tc_f7_bitsOf_77 (N : Nat) (k4 : Int32 → Int32 → Int32 → tc_Mem → Option (Int32 × tc_Mem)) (x1 : Int32) (x2 : Int32) (x3 : Int32) (s0 : Int32) (μ : tc_Mem) : Option (Int32 × tc_Mem) :=
  tc_f7_bitsOf_128 N k4 x1 x2 x3 s0 μ
theorem tc_b7_bitsOf_77 (N : Nat) {k4 : Int32 → Int32 → Int32 → tc_Mem → Option (Int32 × tc_Mem)} (H4 : ∀ (x1 : Int32) (x2 : Int32) (x3 : Int32) (μ : tc_Mem) (z : Int32 × tc_Mem), k4 x1 x2 x3 μ = some z → tc_At l G tc_i7_bitsOf (some (.int z.1)) z.2 X 4 [(0, .ref (tc_ad G 50)), (1, .int x1), (2, .int x2), (3, .int x3)] [] μ) (x1 : Int32) (x2 : Int32) (x3 : Int32) (s0 : Int32) (μ : tc_Mem) (z : Int32 × tc_Mem) (h : tc_f7_bitsOf_77 N k4 x1 x2 x3 s0 μ = some z) : tc_At l G tc_i7_bitsOf (some (.int z.1)) z.2 X 77 [(0, .ref (tc_ad G 50)), (1, .int x1), (2, .int x2), (3, .int x3)] [.int s0] μ := by
  unfold tc_f7_bitsOf_77 at h
  refine tc_istore (L' := [(4, .int s0), (0, .ref (tc_ad G 50)), (1, .int x1), (2, .int x2), (3, .int x3)]) tc_d7_bitsOf_77 (by decide) rfl ?_
  refine tc_goto (tgt := 128) tc_d7_bitsOf_79 (by decide) ?_
  refine tc_sub [1, 2, 3, 4, 0] rfl ?_
  exact (tc_b7_bitsOf_128 N H4 _ _ _ _ _ _) h
def tc_f7_bitsOf_76 (N : Nat) (k4 : Int32 → Int32 → Int32 → tc_Mem → Option (Int32 × tc_Mem)) (x1 : Int32) (x2 : Int32) (x3 : Int32) (μ : tc_Mem) : Option (Int32 × tc_Mem) :=
  tc_f7_bitsOf_77 N k4 x1 x2 x3 0 μ
theorem tc_b7_bitsOf_76 (N : Nat) {k4 : Int32 → Int32 → Int32 → tc_Mem → Option (Int32 × tc_Mem)} (H4 : ∀ (x1 : Int32) (x2 : Int32) (x3 : Int32) (μ : tc_Mem) (z : Int32 × tc_Mem), k4 x1 x2 x3 μ = some z → tc_At l G tc_i7_bitsOf (some (.int z.1)) z.2 X 4 [(0, .ref (tc_ad G 50)), (1, .int x1), (2, .int x2), (3, .int x3)] [] μ) (x1 : Int32) (x2 : Int32) (x3 : Int32) (μ : tc_Mem) (z : Int32 × tc_Mem) (h : tc_f7_bitsOf_76 N k4 x1 x2 x3 μ = some z) : tc_At l G tc_i7_bitsOf (some (.int z.1)) z.2 X 76 [(0, .ref (tc_ad G 50)), (1, .int x1), (2, .int x2), (3, .int x3)] [] μ := by
  unfold tc_f7_bitsOf_76 at h
  refine tc_iconst (v := 0) tc_d7_bitsOf_76 (by decide) ?_
  exact (tc_b7_bitsOf_77 N H4 _ _ _ _ _ _) h
def tc_f7_bitsOf_4 (N : Nat) : Nat → Int32 → Int32 → Int32 → tc_Mem → Option (Int32 × tc_Mem)
  | 0 => fun _ _ _ _ => none
  | n + 1 => fun x1 x2 x3 μ => 
    if (μ 50 0) ≤ x3 then
      some (x2, μ)
    else
      if x1 < 0 ∨ 3 < x1 then
        tc_bd (tc_f7_hasFault N x3 0 μ) fun r1 μ2 =>
        tc_f7_bitsOf_128 N (tc_f7_bitsOf_4 N n) x1 x2 x3 r1 μ2
      else if x1 = 0 then
        tc_ck x3 8 (
        tc_lt (μ 56 x3.toNatClampNeg) fun v4 =>
        tc_f7_bitsOf_128 N (tc_f7_bitsOf_4 N n) x1 x2 x3 v4 μ)
      else if x1 = 1 then
        tc_bd (tc_f7_isTroubled N x3 μ) fun r5 μ6 =>
        if r5 = 0 then
          tc_f7_bitsOf_76 N (tc_f7_bitsOf_4 N n) x1 x2 x3 μ6
        else
          tc_ck x3 8 (
          if (μ6 56 x3.toNatClampNeg) = 0 then
            tc_f7_bitsOf_76 N (tc_f7_bitsOf_4 N n) x1 x2 x3 μ6
          else
            tc_f7_bitsOf_77 N (tc_f7_bitsOf_4 N n) x1 x2 x3 1 μ6)
      else if x1 = 2 then
        tc_bd (tc_f7_isTroubled N x3 μ) fun r8 μ9 =>
        if r8 = 0 then
          tc_ck x3 8 (
          if (μ9 56 x3.toNatClampNeg) = 0 then
            tc_f7_bitsOf_104 N (tc_f7_bitsOf_4 N n) x1 x2 x3 1 μ9
          else
            tc_f7_bitsOf_103 N (tc_f7_bitsOf_4 N n) x1 x2 x3 μ9)
        else
          tc_f7_bitsOf_103 N (tc_f7_bitsOf_4 N n) x1 x2 x3 μ9
      else if x1 = 3 then
        tc_ck x3 8 (
        tc_lt (μ 57 x3.toNatClampNeg) fun v12 =>
        tc_f7_bitsOf_128 N (tc_f7_bitsOf_4 N n) x1 x2 x3 v12 μ)
      else none
theorem tc_b7_bitsOf_4 (N : Nat) : ∀ (n : Nat) (x1 : Int32) (x2 : Int32) (x3 : Int32) (μ : tc_Mem) (z : Int32 × tc_Mem), tc_f7_bitsOf_4 N n x1 x2 x3 μ = some z → tc_At l G tc_i7_bitsOf (some (.int z.1)) z.2 X 4 [(0, .ref (tc_ad G 50)), (1, .int x1), (2, .int x2), (3, .int x3)] [] μ := by
  intro n
  induction n with
  | zero => intro x1 x2 x3 μ z h; cases h
  | succ n ih =>
    intro x1 x2 x3 μ z h
    rw [tc_f7_bitsOf_4] at h
    refine tc_iload_n tc_d7_bitsOf_4 3 rfl ?_
    refine tc_aload_n tc_d7_bitsOf_5 0 rfl ?_
    refine tc_g7_0 tc_d7_bitsOf_6 tc_w878 ?_
    refine tc_icmp_ge (tgt := 149) tc_d7_bitsOf_9 (by decide) h (fun h => ?_) (fun h => ?_)
    · refine tc_iload_n tc_d7_bitsOf_149 2 rfl ?_
      exact tc_iret tc_d7_bitsOf_150 rfl (tc_riS h)
    · refine tc_iload_n tc_d7_bitsOf_12 1 rfl ?_
      by_cases hq : x1 < 0 ∨ 3 < x1
      · rw [if_pos hq] at h
        refine tc_tswD (a := 0) (b := 3) (tgt := 120) tc_d7_bitsOf_13 ⟨by decide, by decide⟩ hq (by decide) ?_
        refine tc_aload_n tc_d7_bitsOf_120 0 rfl ?_
        refine tc_iload_n tc_d7_bitsOf_121 3 rfl ?_
        refine tc_iconst (v := 0) tc_d7_bitsOf_122 (by decide) ?_
        obtain ⟨r1, μ2, e1, h⟩ := tc_bdS h
        have c1 := tc_c7_hasFault (l := l) (G := G) N e1
        refine tc_callVi (As := [.int x3, .int 0]) (rest := []) (r1 := r1) (μ1 := μ2) tc_d7_bitsOf_123 tc_ok7_hasFault tc_w1034 ⟨Nat.le_of_ble_eq_true rfl, Nat.le_of_ble_eq_true rfl⟩ tc_s7 rfl c1 rfl rfl (Nat.le_of_ble_eq_true rfl) ?_
        refine tc_istore (L' := [(4, .int r1), (0, .ref (tc_ad G 50)), (1, .int x1), (2, .int x2), (3, .int x3)]) tc_d7_bitsOf_126 (by decide) rfl ?_
        refine tc_sub [1, 2, 3, 4, 0] rfl ?_
        exact (tc_b7_bitsOf_128 N ih _ _ _ _ _ _) h
      · rw [if_neg hq] at h
        by_cases hq : x1 = 0
        · rw [if_pos hq] at h
          refine tc_tswK (k := 0) (off := 31) (tgt := 44) tc_d7_bitsOf_13 hq (by decide) (by decide) rfl (by decide) ?_
          refine tc_aload_n tc_d7_bitsOf_44 0 rfl ?_
          refine tc_g7_6 tc_d7_bitsOf_45 tc_w884 ?_
          refine tc_iload_n tc_d7_bitsOf_48 3 rfl ?_
          obtain ⟨hi3, h⟩ := tc_ckS h
          refine tc_zald tc_d7_bitsOf_49 tc_aL56 hi3 ?_
          refine tc_ltI h (fun v4 h => ?_)
          refine tc_istore (L' := [(4, .int v4), (0, .ref (tc_ad G 50)), (1, .int x1), (2, .int x2), (3, .int x3)]) tc_d7_bitsOf_50 (by decide) rfl ?_
          refine tc_goto (tgt := 128) tc_d7_bitsOf_52 (by decide) ?_
          refine tc_sub [1, 2, 3, 4, 0] rfl ?_
          exact (tc_b7_bitsOf_128 N ih _ _ _ _ _ _) h
        · rw [if_neg hq] at h
          by_cases hq : x1 = 1
          · rw [if_pos hq] at h
            refine tc_tswK (k := 1) (off := 42) (tgt := 55) tc_d7_bitsOf_13 hq (by decide) (by decide) rfl (by decide) ?_
            refine tc_aload_n tc_d7_bitsOf_55 0 rfl ?_
            refine tc_iload_n tc_d7_bitsOf_56 3 rfl ?_
            obtain ⟨r5, μ6, e5, h⟩ := tc_bdS h
            have c5 := tc_c7_isTroubled (l := l) (G := G) N e5
            refine tc_callVi (As := [.int x3]) (rest := []) (r1 := r5) (μ1 := μ6) tc_d7_bitsOf_57 tc_ok7_isTroubled tc_w1065 ⟨Nat.le_of_ble_eq_true rfl, Nat.le_of_ble_eq_true rfl⟩ tc_s7 rfl c5 rfl rfl (Nat.le_of_ble_eq_true rfl) ?_
            refine tc_if_eq (tgt := 76) tc_d7_bitsOf_60 (by decide) h (fun h => ?_) (fun h => ?_)
            · exact (tc_b7_bitsOf_76 N ih _ _ _ _ _) h
            · refine tc_aload_n tc_d7_bitsOf_63 0 rfl ?_
              refine tc_g7_6 tc_d7_bitsOf_64 tc_w884 ?_
              refine tc_iload_n tc_d7_bitsOf_67 3 rfl ?_
              obtain ⟨hi7, h⟩ := tc_ckS h
              refine tc_zald tc_d7_bitsOf_68 tc_aL56 hi7 ?_
              refine tc_if_eq (tgt := 76) tc_d7_bitsOf_69 (by decide) h (fun h => ?_) (fun h => ?_)
              · exact (tc_b7_bitsOf_76 N ih _ _ _ _ _) h
              · refine tc_iconst (v := 1) tc_d7_bitsOf_72 (by decide) ?_
                refine tc_goto (tgt := 77) tc_d7_bitsOf_73 (by decide) ?_
                exact (tc_b7_bitsOf_77 N ih _ _ _ _ _ _) h
          · rw [if_neg hq] at h
            by_cases hq : x1 = 2
            · rw [if_pos hq] at h
              refine tc_tswK (k := 2) (off := 69) (tgt := 82) tc_d7_bitsOf_13 hq (by decide) (by decide) rfl (by decide) ?_
              refine tc_aload_n tc_d7_bitsOf_82 0 rfl ?_
              refine tc_iload_n tc_d7_bitsOf_83 3 rfl ?_
              obtain ⟨r8, μ9, e8, h⟩ := tc_bdS h
              have c8 := tc_c7_isTroubled (l := l) (G := G) N e8
              refine tc_callVi (As := [.int x3]) (rest := []) (r1 := r8) (μ1 := μ9) tc_d7_bitsOf_84 tc_ok7_isTroubled tc_w1065 ⟨Nat.le_of_ble_eq_true rfl, Nat.le_of_ble_eq_true rfl⟩ tc_s7 rfl c8 rfl rfl (Nat.le_of_ble_eq_true rfl) ?_
              refine tc_if_ne (tgt := 103) tc_d7_bitsOf_87 (by decide) h (fun h => ?_) (fun h => ?_)
              · exact (tc_b7_bitsOf_103 N ih _ _ _ _ _) h
              · refine tc_aload_n tc_d7_bitsOf_90 0 rfl ?_
                refine tc_g7_6 tc_d7_bitsOf_91 tc_w884 ?_
                refine tc_iload_n tc_d7_bitsOf_94 3 rfl ?_
                obtain ⟨hi10, h⟩ := tc_ckS h
                refine tc_zald tc_d7_bitsOf_95 tc_aL56 hi10 ?_
                refine tc_if_ne (tgt := 103) tc_d7_bitsOf_96 (by decide) h (fun h => ?_) (fun h => ?_)
                · exact (tc_b7_bitsOf_103 N ih _ _ _ _ _) h
                · refine tc_iconst (v := 1) tc_d7_bitsOf_99 (by decide) ?_
                  refine tc_goto (tgt := 104) tc_d7_bitsOf_100 (by decide) ?_
                  exact (tc_b7_bitsOf_104 N ih _ _ _ _ _ _) h
            · rw [if_neg hq] at h
              by_cases hq : x1 = 3
              · rw [if_pos hq] at h
                refine tc_tswK (k := 3) (off := 96) (tgt := 109) tc_d7_bitsOf_13 hq (by decide) (by decide) rfl (by decide) ?_
                refine tc_aload_n tc_d7_bitsOf_109 0 rfl ?_
                refine tc_g7_7 tc_d7_bitsOf_110 tc_w885 ?_
                refine tc_iload_n tc_d7_bitsOf_113 3 rfl ?_
                obtain ⟨hi11, h⟩ := tc_ckS h
                refine tc_zald tc_d7_bitsOf_114 tc_aL57 hi11 ?_
                refine tc_ltI h (fun v12 h => ?_)
                refine tc_istore (L' := [(4, .int v12), (0, .ref (tc_ad G 50)), (1, .int x1), (2, .int x2), (3, .int x3)]) tc_d7_bitsOf_115 (by decide) rfl ?_
                refine tc_goto (tgt := 128) tc_d7_bitsOf_117 (by decide) ?_
                refine tc_sub [1, 2, 3, 4, 0] rfl ?_
                exact (tc_b7_bitsOf_128 N ih _ _ _ _ _ _) h
              · rw [if_neg hq] at h
                cases h
def tc_f7_bitsOf (N : Nat) (x1 : Int32) (μ : tc_Mem) : Option (Int32 × tc_Mem) :=
  tc_f7_bitsOf_4 N N x1 0 0 μ
theorem tc_b7_bitsOf_0 (N : Nat) (x1 : Int32) (μ : tc_Mem) (z : Int32 × tc_Mem) (h : tc_f7_bitsOf N x1 μ = some z) : tc_At l G tc_i7_bitsOf (some (.int z.1)) z.2 X 0 [(0, .ref (tc_ad G 50)), (1, .int x1)] [] μ := by
  unfold tc_f7_bitsOf at h
  refine tc_iconst (v := 0) tc_d7_bitsOf_0 (by decide) ?_
  refine tc_istore_n (L' := [(2, .int 0), (0, .ref (tc_ad G 50)), (1, .int x1)]) tc_d7_bitsOf_1 (by decide) rfl ?_
  refine tc_iconst (v := 0) tc_d7_bitsOf_2 (by decide) ?_
  refine tc_istore_n (L' := [(3, .int 0), (2, .int 0), (0, .ref (tc_ad G 50)), (1, .int x1)]) tc_d7_bitsOf_3 (by decide) rfl ?_
  refine tc_sub [2, 3, 1, 0] rfl ?_
  exact (tc_b7_bitsOf_4 N N _ _ _ _ _) h
theorem tc_c7_bitsOf (N : Nat) {x1 : Int32} {μ : tc_Mem} {z : Int32 × tc_Mem} (h : tc_f7_bitsOf N x1 μ = some z) : tc_Con l G tc_i7_bitsOf [.ref (tc_ad G 50), .int x1] μ (some (.int z.1)) z.2 :=
  tc_Con.of (L := [(0, .ref (tc_ad G 50)), (1, .int x1)]) (by decide) (Nat.le_of_ble_eq_true rfl) rfl (fun X => tc_b7_bitsOf_0 N  _ _ _ h)
def tc_f7_laysBack_50 (N : Nat) (μ : tc_Mem) : Option (Int32 × tc_Mem) :=
  tc_lt (tc_wr μ 50 9 (μ 50 31)) fun μ1 =>
  some (0, μ1)
theorem tc_b7_laysBack_50 (N : Nat) (μ : tc_Mem) (z : Int32 × tc_Mem) (h : tc_f7_laysBack_50 N μ = some z) : tc_At l G tc_i7_laysBack none z.2 X 50 [(0, .ref (tc_ad G 50))] [] μ := by
  unfold tc_f7_laysBack_50 at h
  refine tc_aload_n tc_d7_laysBack_50 0 rfl ?_
  refine tc_aload_n tc_d7_laysBack_51 0 rfl ?_
  refine tc_g7_31 tc_d7_laysBack_52 tc_w909 ?_
  refine tc_p7_9 tc_d7_laysBack_55 tc_w887 h (fun μ1 h => ?_)
  exact tc_vret tc_d7_laysBack_58 rfl (tc_rvS h)
def tc_f7_laysBack_2 (N : Nat) : Nat → Int32 → tc_Mem → Option (Int32 × tc_Mem)
  | 0 => fun _ _ => none
  | n + 1 => fun x1 μ => 
    if (8 : Int32) ≤ x1 then
      tc_f7_laysBack_50 N μ
    else
      tc_ck x1 8 (
      tc_ck x1 8 (
      tc_lt (tc_wr μ 56 x1.toNatClampNeg (vp_nar .boolean (μ 72 x1.toNatClampNeg))) fun μ3 =>
      tc_ck x1 8 (
      tc_ck x1 8 (
      tc_lt (tc_wr μ3 57 x1.toNatClampNeg (vp_nar .boolean (μ3 73 x1.toNatClampNeg))) fun μ6 =>
      tc_ck x1 8 (
      tc_ck x1 8 (
      tc_lt (tc_wr μ6 55 x1.toNatClampNeg (μ6 74 x1.toNatClampNeg)) fun μ9 =>
      tc_f7_laysBack_2 N  n (x1 + 1) μ9))))))
theorem tc_b7_laysBack_2 (N : Nat) : ∀ (n : Nat) (x1 : Int32) (μ : tc_Mem) (z : Int32 × tc_Mem), tc_f7_laysBack_2 N n x1 μ = some z → tc_At l G tc_i7_laysBack none z.2 X 2 [(0, .ref (tc_ad G 50)), (1, .int x1)] [] μ := by
  intro n
  induction n with
  | zero => intro x1 μ z h; cases h
  | succ n ih =>
    intro x1 μ z h
    rw [tc_f7_laysBack_2] at h
    refine tc_iload_n tc_d7_laysBack_2 1 rfl ?_
    refine tc_bipush (v := 8) tc_d7_laysBack_3 (by decide) ?_
    refine tc_icmp_ge (tgt := 50) tc_d7_laysBack_5 (by decide) h (fun h => ?_) (fun h => ?_)
    · refine tc_sub [0] rfl ?_
      exact (tc_b7_laysBack_50 N _ _) h
    · refine tc_aload_n tc_d7_laysBack_8 0 rfl ?_
      refine tc_g7_6 tc_d7_laysBack_9 tc_w884 ?_
      refine tc_iload_n tc_d7_laysBack_12 1 rfl ?_
      refine tc_aload_n tc_d7_laysBack_13 0 rfl ?_
      refine tc_g7_28 tc_d7_laysBack_14 tc_w906 ?_
      refine tc_iload_n tc_d7_laysBack_17 1 rfl ?_
      obtain ⟨hi1, h⟩ := tc_ckS h
      refine tc_zald tc_d7_laysBack_18 tc_aL72 hi1 ?_
      obtain ⟨hi2, h⟩ := tc_ckS h
      refine tc_zastL tc_d7_laysBack_19 tc_aL56 hi2 h (fun μ3 h => ?_)
      refine tc_aload_n tc_d7_laysBack_20 0 rfl ?_
      refine tc_g7_7 tc_d7_laysBack_21 tc_w885 ?_
      refine tc_iload_n tc_d7_laysBack_24 1 rfl ?_
      refine tc_aload_n tc_d7_laysBack_25 0 rfl ?_
      refine tc_g7_29 tc_d7_laysBack_26 tc_w907 ?_
      refine tc_iload_n tc_d7_laysBack_29 1 rfl ?_
      obtain ⟨hi4, h⟩ := tc_ckS h
      refine tc_zald tc_d7_laysBack_30 tc_aL73 hi4 ?_
      obtain ⟨hi5, h⟩ := tc_ckS h
      refine tc_zastL tc_d7_laysBack_31 tc_aL57 hi5 h (fun μ6 h => ?_)
      refine tc_aload_n tc_d7_laysBack_32 0 rfl ?_
      refine tc_g7_5 tc_d7_laysBack_33 tc_w883 ?_
      refine tc_iload_n tc_d7_laysBack_36 1 rfl ?_
      refine tc_aload_n tc_d7_laysBack_37 0 rfl ?_
      refine tc_g7_30 tc_d7_laysBack_38 tc_w908 ?_
      refine tc_iload_n tc_d7_laysBack_41 1 rfl ?_
      obtain ⟨hi7, h⟩ := tc_ckS h
      refine tc_iald tc_d7_laysBack_42 tc_aL74 hi7 ?_
      obtain ⟨hi8, h⟩ := tc_ckS h
      refine tc_iastL tc_d7_laysBack_43 tc_aL55 hi8 h (fun μ9 h => ?_)
      refine tc_iinc (v := (x1 + 1)) (L' := [(1, .int (x1 + 1)), (0, .ref (tc_ad G 50))]) tc_d7_laysBack_44 1 rfl rfl (by decide) rfl ?_
      refine tc_goto (tgt := 2) tc_d7_laysBack_47 (by decide) ?_
      refine tc_sub [1, 0] rfl ?_
      exact (ih _ _ _) h
def tc_f7_laysBack (N : Nat) (μ : tc_Mem) : Option (Int32 × tc_Mem) :=
  tc_f7_laysBack_2 N N 0 μ
theorem tc_b7_laysBack_0 (N : Nat) (μ : tc_Mem) (z : Int32 × tc_Mem) (h : tc_f7_laysBack N μ = some z) : tc_At l G tc_i7_laysBack none z.2 X 0 [(0, .ref (tc_ad G 50))] [] μ := by
  unfold tc_f7_laysBack at h
  refine tc_iconst (v := 0) tc_d7_laysBack_0 (by decide) ?_
  refine tc_istore_n (L' := [(1, .int 0), (0, .ref (tc_ad G 50))]) tc_d7_laysBack_1 (by decide) rfl ?_
  refine tc_sub [1, 0] rfl ?_
  exact (tc_b7_laysBack_2 N N _ _ _) h
theorem tc_c7_laysBack (N : Nat) {μ : tc_Mem} {z : Int32 × tc_Mem} (h : tc_f7_laysBack N μ = some z) : tc_Con l G tc_i7_laysBack [.ref (tc_ad G 50)] μ none z.2 :=
  tc_Con.of (L := [(0, .ref (tc_ad G 50))]) (by decide) (Nat.le_of_ble_eq_true rfl) rfl (fun X => tc_b7_laysBack_0 N  _ _ h)
def tc_f7_in (N : Nat) (x0 : Int32) (x1 : Int32) (x2 : Int32) (μ : tc_Mem) : Option (Int32 × tc_Mem) :=
  if x0 < x1 then
    some (0, μ)
  else
    if x2 < x0 then
      some (0, μ)
    else
      some (1, μ)
theorem tc_b7_in_0 (N : Nat) (x0 : Int32) (x1 : Int32) (x2 : Int32) (μ : tc_Mem) (z : Int32 × tc_Mem) (h : tc_f7_in N x0 x1 x2 μ = some z) : tc_At l G tc_i7_in (some (.int z.1)) z.2 X 0 [(0, .int x0), (1, .int x1), (2, .int x2)] [] μ := by
  unfold tc_f7_in at h
  refine tc_iload_n tc_d7_in_0 0 rfl ?_
  refine tc_iload_n tc_d7_in_1 1 rfl ?_
  refine tc_icmp_lt (tgt := 14) tc_d7_in_2 (by decide) h (fun h => ?_) (fun h => ?_)
  · refine tc_iconst (v := 0) tc_d7_in_14 (by decide) ?_
    exact tc_zret tc_d7_in_15 rfl (by decide) (tc_riS h)
  · refine tc_iload_n tc_d7_in_5 0 rfl ?_
    refine tc_iload_n tc_d7_in_6 2 rfl ?_
    refine tc_icmp_gt (tgt := 14) tc_d7_in_7 (by decide) h (fun h => ?_) (fun h => ?_)
    · refine tc_iconst (v := 0) tc_d7_in_14 (by decide) ?_
      exact tc_zret tc_d7_in_15 rfl (by decide) (tc_riS h)
    · refine tc_iconst (v := 1) tc_d7_in_10 (by decide) ?_
      refine tc_goto (tgt := 15) tc_d7_in_11 (by decide) ?_
      exact tc_zret tc_d7_in_15 rfl (by decide) (tc_riS h)
theorem tc_c7_in (N : Nat) {x0 : Int32} {x1 : Int32} {x2 : Int32} {μ : tc_Mem} {z : Int32 × tc_Mem} (h : tc_f7_in N x0 x1 x2 μ = some z) : tc_Con l G tc_i7_in [.int x0, .int x1, .int x2] μ (some (.int z.1)) z.2 :=
  tc_Con.of (L := [(0, .int x0), (1, .int x1), (2, .int x2)]) (by decide) (Nat.le_of_ble_eq_true rfl) rfl (fun X => tc_b7_in_0 N  _ _ _ _ _ h)
def tc_f7_isSection (N : Nat) (x1 : Int32) (μ : tc_Mem) : Option (Int32 × tc_Mem) :=
  tc_bd (tc_f7_in N x1 0 ((μ 50 0) - 1) μ) fun r1 μ2 =>
  tc_zr r1 μ2
theorem tc_b7_isSection_0 (N : Nat) (x1 : Int32) (μ : tc_Mem) (z : Int32 × tc_Mem) (h : tc_f7_isSection N x1 μ = some z) : tc_At l G tc_i7_isSection (some (.int z.1)) z.2 X 0 [(0, .ref (tc_ad G 50)), (1, .int x1)] [] μ := by
  unfold tc_f7_isSection at h
  refine tc_iload_n tc_d7_isSection_0 1 rfl ?_
  refine tc_iconst (v := 0) tc_d7_isSection_1 (by decide) ?_
  refine tc_aload_n tc_d7_isSection_2 0 rfl ?_
  refine tc_g7_0 tc_d7_isSection_3 tc_w878 ?_
  refine tc_iconst (v := 1) tc_d7_isSection_6 (by decide) ?_
  refine tc_isub tc_d7_isSection_7 ?_
  obtain ⟨r1, μ2, e1, h⟩ := tc_bdS h
  have c1 := tc_c7_in (l := l) (G := G) N e1
  refine tc_callSi (As := [.int x1, .int 0, .int ((μ 50 0) - 1)]) (rest := []) (r1 := r1) (μ1 := μ2) tc_d7_isSection_8 tc_ok7_in tc_w1001 ⟨Nat.le_of_ble_eq_true rfl, Nat.le_of_ble_eq_true rfl⟩ c1 rfl rfl (Nat.le_of_ble_eq_true rfl) ?_
  exact tc_zret tc_d7_isSection_11 rfl (tc_zrS h).1 (tc_zrS h).2
theorem tc_c7_isSection (N : Nat) {x1 : Int32} {μ : tc_Mem} {z : Int32 × tc_Mem} (h : tc_f7_isSection N x1 μ = some z) : tc_Con l G tc_i7_isSection [.ref (tc_ad G 50), .int x1] μ (some (.int z.1)) z.2 :=
  tc_Con.of (L := [(0, .ref (tc_ad G 50)), (1, .int x1)]) (by decide) (Nat.le_of_ble_eq_true rfl) rfl (fun X => tc_b7_isSection_0 N  _ _ _ h)
def tc_f7_goTrains_31 (N : Nat) (μ : tc_Mem) : Option (Int32 × tc_Mem) :=
  if (μ 50 0) ≤ 0 then
    some (0, μ)
  else
    tc_ck 0 8 (
    tc_lt (tc_wr μ 57 (0 : Int32).toNatClampNeg (vp_nar .boolean 0)) fun μ2 =>
    some (0, μ2))
theorem tc_b7_goTrains_31 (N : Nat) (μ : tc_Mem) (z : Int32 × tc_Mem) (h : tc_f7_goTrains_31 N μ = some z) : tc_At l G tc_i7_goTrains none z.2 X 31 [(0, .ref (tc_ad G 50))] [] μ := by
  unfold tc_f7_goTrains_31 at h
  refine tc_aload_n tc_d7_goTrains_31 0 rfl ?_
  refine tc_g7_0 tc_d7_goTrains_32 tc_w878 ?_
  refine tc_if_le (tgt := 45) tc_d7_goTrains_35 (by decide) h (fun h => ?_) (fun h => ?_)
  · exact tc_vret tc_d7_goTrains_45 rfl (tc_rvS h)
  · refine tc_aload_n tc_d7_goTrains_38 0 rfl ?_
    refine tc_g7_7 tc_d7_goTrains_39 tc_w885 ?_
    refine tc_iconst (v := 0) tc_d7_goTrains_42 (by decide) ?_
    refine tc_iconst (v := 0) tc_d7_goTrains_43 (by decide) ?_
    obtain ⟨hi1, h⟩ := tc_ckS h
    refine tc_zastL tc_d7_goTrains_44 tc_aL57 hi1 h (fun μ2 h => ?_)
    exact tc_vret tc_d7_goTrains_45 rfl (tc_rvS h)
def tc_f7_goTrains_7 (N : Nat) : Nat → Int32 → tc_Mem → Option (Int32 × tc_Mem)
  | 0 => fun _ _ => none
  | n + 1 => fun x1 μ => 
    if x1 ≤ 0 then
      tc_f7_goTrains_31 N μ
    else
      tc_ck (x1 - 1) 8 (
      tc_ck x1 8 (
      tc_lt (tc_wr μ 57 x1.toNatClampNeg (vp_nar .boolean (μ 57 (x1 - 1).toNatClampNeg))) fun μ3 =>
      tc_f7_goTrains_7 N  n (x1 + (-1)) μ3))
theorem tc_b7_goTrains_7 (N : Nat) : ∀ (n : Nat) (x1 : Int32) (μ : tc_Mem) (z : Int32 × tc_Mem), tc_f7_goTrains_7 N n x1 μ = some z → tc_At l G tc_i7_goTrains none z.2 X 7 [(0, .ref (tc_ad G 50)), (1, .int x1)] [] μ := by
  intro n
  induction n with
  | zero => intro x1 μ z h; cases h
  | succ n ih =>
    intro x1 μ z h
    rw [tc_f7_goTrains_7] at h
    refine tc_iload_n tc_d7_goTrains_7 1 rfl ?_
    refine tc_if_le (tgt := 31) tc_d7_goTrains_8 (by decide) h (fun h => ?_) (fun h => ?_)
    · refine tc_sub [0] rfl ?_
      exact (tc_b7_goTrains_31 N _ _) h
    · refine tc_aload_n tc_d7_goTrains_11 0 rfl ?_
      refine tc_g7_7 tc_d7_goTrains_12 tc_w885 ?_
      refine tc_iload_n tc_d7_goTrains_15 1 rfl ?_
      refine tc_aload_n tc_d7_goTrains_16 0 rfl ?_
      refine tc_g7_7 tc_d7_goTrains_17 tc_w885 ?_
      refine tc_iload_n tc_d7_goTrains_20 1 rfl ?_
      refine tc_iconst (v := 1) tc_d7_goTrains_21 (by decide) ?_
      refine tc_isub tc_d7_goTrains_22 ?_
      obtain ⟨hi1, h⟩ := tc_ckS h
      refine tc_zald tc_d7_goTrains_23 tc_aL57 hi1 ?_
      obtain ⟨hi2, h⟩ := tc_ckS h
      refine tc_zastL tc_d7_goTrains_24 tc_aL57 hi2 h (fun μ3 h => ?_)
      refine tc_iinc (v := (x1 + (-1))) (L' := [(1, .int (x1 + (-1))), (0, .ref (tc_ad G 50))]) tc_d7_goTrains_25 1 rfl rfl (by decide) rfl ?_
      refine tc_goto (tgt := 7) tc_d7_goTrains_28 (by decide) ?_
      refine tc_sub [1, 0] rfl ?_
      exact (ih _ _ _) h
def tc_f7_goTrains (N : Nat) (μ : tc_Mem) : Option (Int32 × tc_Mem) :=
  tc_lt ((μ 50 0) - 1) fun v1 =>
  tc_f7_goTrains_7 N N v1 μ
theorem tc_b7_goTrains_0 (N : Nat) (μ : tc_Mem) (z : Int32 × tc_Mem) (h : tc_f7_goTrains N μ = some z) : tc_At l G tc_i7_goTrains none z.2 X 0 [(0, .ref (tc_ad G 50))] [] μ := by
  unfold tc_f7_goTrains at h
  refine tc_aload_n tc_d7_goTrains_0 0 rfl ?_
  refine tc_g7_0 tc_d7_goTrains_1 tc_w878 ?_
  refine tc_iconst (v := 1) tc_d7_goTrains_4 (by decide) ?_
  refine tc_isub tc_d7_goTrains_5 ?_
  refine tc_ltI h (fun v1 h => ?_)
  refine tc_istore_n (L' := [(1, .int v1), (0, .ref (tc_ad G 50))]) tc_d7_goTrains_6 (by decide) rfl ?_
  refine tc_sub [1, 0] rfl ?_
  exact (tc_b7_goTrains_7 N N _ _ _) h
theorem tc_c7_goTrains (N : Nat) {μ : tc_Mem} {z : Int32 × tc_Mem} (h : tc_f7_goTrains N μ = some z) : tc_Con l G tc_i7_goTrains [.ref (tc_ad G 50)] μ none z.2 :=
  tc_Con.of (L := [(0, .ref (tc_ad G 50))]) (by decide) (Nat.le_of_ble_eq_true rfl) rfl (fun X => tc_b7_goTrains_0 N  _ _ h)
end WALK
