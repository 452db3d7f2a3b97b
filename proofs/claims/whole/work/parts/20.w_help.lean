section WALK
variable {l : Launch} {G : tc_G} {X : tc_X}
def tc_f6_withBit (N : Nat) (x0 : Int32) (x1 : Int32) (x2 : Int32) (μ : tc_Mem) : Option (Int32 × tc_Mem) :=
  if x2 = 0 then
    some ((x0 &&& ((1 <<< (x1 &&& 31)) ^^^ (-1))), μ)
  else
    some ((x0 ||| (1 <<< (x1 &&& 31))), μ)
theorem tc_b6_withBit_0 (N : Nat) (x0 : Int32) (x1 : Int32) (x2 : Int32) (μ : tc_Mem) (z : Int32 × tc_Mem) (h : tc_f6_withBit N x0 x1 x2 μ = some z) : tc_At l G tc_i6_withBit (some (.int z.1)) z.2 X 0 [(0, .int x0), (1, .int x1), (2, .int x2)] [] μ := by
  unfold tc_f6_withBit at h
  refine tc_iload_n tc_d6_withBit_0 2 rfl ?_
  refine tc_if_eq (tgt := 12) tc_d6_withBit_1 (by decide) h (fun h => ?_) (fun h => ?_)
  · refine tc_iload_n tc_d6_withBit_12 0 rfl ?_
    refine tc_iconst (v := 1) tc_d6_withBit_13 (by decide) ?_
    refine tc_iload_n tc_d6_withBit_14 1 rfl ?_
    refine tc_ishl tc_d6_withBit_15 ?_
    refine tc_iconst (v := (-1)) tc_d6_withBit_16 (by decide) ?_
    refine tc_ixor tc_d6_withBit_17 ?_
    refine tc_iand tc_d6_withBit_18 ?_
    exact tc_iret tc_d6_withBit_19 rfl (tc_riS h)
  · refine tc_iload_n tc_d6_withBit_4 0 rfl ?_
    refine tc_iconst (v := 1) tc_d6_withBit_5 (by decide) ?_
    refine tc_iload_n tc_d6_withBit_6 1 rfl ?_
    refine tc_ishl tc_d6_withBit_7 ?_
    refine tc_ior tc_d6_withBit_8 ?_
    refine tc_goto (tgt := 19) tc_d6_withBit_9 (by decide) ?_
    exact tc_iret tc_d6_withBit_19 rfl (tc_riS h)
theorem tc_c6_withBit (N : Nat) {x0 : Int32} {x1 : Int32} {x2 : Int32} {μ : tc_Mem} {z : Int32 × tc_Mem} (h : tc_f6_withBit N x0 x1 x2 μ = some z) : tc_Con l G tc_i6_withBit [.int x0, .int x1, .int x2] μ (some (.int z.1)) z.2 :=
  tc_Con.of (L := [(0, .int x0), (1, .int x1), (2, .int x2)]) (by decide) (Nat.le_of_ble_eq_true rfl) rfl (fun X => tc_b6_withBit_0 N  _ _ _ _ _ h)
def tc_f8_bitCount (N : Nat) (x0 : Int32) (μ : tc_Mem) : Option (Int32 × tc_Mem) :=
  tc_lt (x0 - (((x0 : Int32).toUInt32 >>> ((1 : Int32).toUInt32 &&& Int32.toUInt32 31)).toInt32 &&& 1431655765)) fun v1 =>
  tc_lt ((v1 &&& 858993459) + (((v1 : Int32).toUInt32 >>> ((2 : Int32).toUInt32 &&& Int32.toUInt32 31)).toInt32 &&& 858993459)) fun v2 =>
  tc_lt ((v2 + ((v2 : Int32).toUInt32 >>> ((4 : Int32).toUInt32 &&& Int32.toUInt32 31)).toInt32) &&& 252645135) fun v3 =>
  tc_lt (v3 + ((v3 : Int32).toUInt32 >>> ((8 : Int32).toUInt32 &&& Int32.toUInt32 31)).toInt32) fun v4 =>
  tc_lt (v4 + ((v4 : Int32).toUInt32 >>> ((16 : Int32).toUInt32 &&& Int32.toUInt32 31)).toInt32) fun v5 =>
  some ((v5 &&& 63), μ)
theorem tc_b8_bitCount_0 (N : Nat) (x0 : Int32) (μ : tc_Mem) (z : Int32 × tc_Mem) (h : tc_f8_bitCount N x0 μ = some z) : tc_At l G tc_i8_bitCount (some (.int z.1)) z.2 X 0 [(0, .int x0)] [] μ := by
  unfold tc_f8_bitCount at h
  refine tc_iload_n tc_d8_bitCount_0 0 rfl ?_
  refine tc_iload_n tc_d8_bitCount_1 0 rfl ?_
  refine tc_iconst (v := 1) tc_d8_bitCount_2 (by decide) ?_
  refine tc_iushr tc_d8_bitCount_3 ?_
  refine tc_ldcw (v := 1431655765) tc_d8_bitCount_4 tc_w542 ?_
  refine tc_iand tc_d8_bitCount_7 ?_
  refine tc_isub tc_d8_bitCount_8 ?_
  refine tc_ltI h (fun v1 h => ?_)
  refine tc_istore_n (L' := [(0, .int v1)]) tc_d8_bitCount_9 (by decide) rfl ?_
  refine tc_iload_n tc_d8_bitCount_10 0 rfl ?_
  refine tc_ldcw (v := 858993459) tc_d8_bitCount_11 tc_w543 ?_
  refine tc_iand tc_d8_bitCount_14 ?_
  refine tc_iload_n tc_d8_bitCount_15 0 rfl ?_
  refine tc_iconst (v := 2) tc_d8_bitCount_16 (by decide) ?_
  refine tc_iushr tc_d8_bitCount_17 ?_
  refine tc_ldcw (v := 858993459) tc_d8_bitCount_18 tc_w543 ?_
  refine tc_iand tc_d8_bitCount_21 ?_
  refine tc_iadd tc_d8_bitCount_22 ?_
  refine tc_ltI h (fun v2 h => ?_)
  refine tc_istore_n (L' := [(0, .int v2)]) tc_d8_bitCount_23 (by decide) rfl ?_
  refine tc_iload_n tc_d8_bitCount_24 0 rfl ?_
  refine tc_iload_n tc_d8_bitCount_25 0 rfl ?_
  refine tc_iconst (v := 4) tc_d8_bitCount_26 (by decide) ?_
  refine tc_iushr tc_d8_bitCount_27 ?_
  refine tc_iadd tc_d8_bitCount_28 ?_
  refine tc_ldcw (v := 252645135) tc_d8_bitCount_29 tc_w544 ?_
  refine tc_iand tc_d8_bitCount_32 ?_
  refine tc_ltI h (fun v3 h => ?_)
  refine tc_istore_n (L' := [(0, .int v3)]) tc_d8_bitCount_33 (by decide) rfl ?_
  refine tc_iload_n tc_d8_bitCount_34 0 rfl ?_
  refine tc_iload_n tc_d8_bitCount_35 0 rfl ?_
  refine tc_bipush (v := 8) tc_d8_bitCount_36 (by decide) ?_
  refine tc_iushr tc_d8_bitCount_38 ?_
  refine tc_iadd tc_d8_bitCount_39 ?_
  refine tc_ltI h (fun v4 h => ?_)
  refine tc_istore_n (L' := [(0, .int v4)]) tc_d8_bitCount_40 (by decide) rfl ?_
  refine tc_iload_n tc_d8_bitCount_41 0 rfl ?_
  refine tc_iload_n tc_d8_bitCount_42 0 rfl ?_
  refine tc_bipush (v := 16) tc_d8_bitCount_43 (by decide) ?_
  refine tc_iushr tc_d8_bitCount_45 ?_
  refine tc_iadd tc_d8_bitCount_46 ?_
  refine tc_ltI h (fun v5 h => ?_)
  refine tc_istore_n (L' := [(0, .int v5)]) tc_d8_bitCount_47 (by decide) rfl ?_
  refine tc_iload_n tc_d8_bitCount_48 0 rfl ?_
  refine tc_bipush (v := 63) tc_d8_bitCount_49 (by decide) ?_
  refine tc_iand tc_d8_bitCount_51 ?_
  exact tc_iret tc_d8_bitCount_52 rfl (tc_riS h)
theorem tc_c8_bitCount (N : Nat) {x0 : Int32} {μ : tc_Mem} {z : Int32 × tc_Mem} (h : tc_f8_bitCount N x0 μ = some z) : tc_Con l G tc_i8_bitCount [.int x0] μ (some (.int z.1)) z.2 :=
  tc_Con.of (L := [(0, .int x0)]) (by decide) (Nat.le_of_ble_eq_true rfl) rfl (fun X => tc_b8_bitCount_0 N  _ _ _ h)
def tc_f6_isWithin (N : Nat) (x0 : Int32) (x1 : Int32) (x2 : Int32) (μ : tc_Mem) : Option (Int32 × tc_Mem) :=
  if x0 < x1 then
    some (0, μ)
  else
    if x2 < x0 then
      some (0, μ)
    else
      some (1, μ)
theorem tc_b6_isWithin_0 (N : Nat) (x0 : Int32) (x1 : Int32) (x2 : Int32) (μ : tc_Mem) (z : Int32 × tc_Mem) (h : tc_f6_isWithin N x0 x1 x2 μ = some z) : tc_At l G tc_i6_isWithin (some (.int z.1)) z.2 X 0 [(0, .int x0), (1, .int x1), (2, .int x2)] [] μ := by
  unfold tc_f6_isWithin at h
  refine tc_iload_n tc_d6_isWithin_0 0 rfl ?_
  refine tc_iload_n tc_d6_isWithin_1 1 rfl ?_
  refine tc_icmp_lt (tgt := 14) tc_d6_isWithin_2 (by decide) h (fun h => ?_) (fun h => ?_)
  · refine tc_iconst (v := 0) tc_d6_isWithin_14 (by decide) ?_
    exact tc_zret tc_d6_isWithin_15 rfl (by decide) (tc_riS h)
  · refine tc_iload_n tc_d6_isWithin_5 0 rfl ?_
    refine tc_iload_n tc_d6_isWithin_6 2 rfl ?_
    refine tc_icmp_gt (tgt := 14) tc_d6_isWithin_7 (by decide) h (fun h => ?_) (fun h => ?_)
    · refine tc_iconst (v := 0) tc_d6_isWithin_14 (by decide) ?_
      exact tc_zret tc_d6_isWithin_15 rfl (by decide) (tc_riS h)
    · refine tc_iconst (v := 1) tc_d6_isWithin_10 (by decide) ?_
      refine tc_goto (tgt := 15) tc_d6_isWithin_11 (by decide) ?_
      exact tc_zret tc_d6_isWithin_15 rfl (by decide) (tc_riS h)
theorem tc_c6_isWithin (N : Nat) {x0 : Int32} {x1 : Int32} {x2 : Int32} {μ : tc_Mem} {z : Int32 × tc_Mem} (h : tc_f6_isWithin N x0 x1 x2 μ = some z) : tc_Con l G tc_i6_isWithin [.int x0, .int x1, .int x2] μ (some (.int z.1)) z.2 :=
  tc_Con.of (L := [(0, .int x0), (1, .int x1), (2, .int x2)]) (by decide) (Nat.le_of_ble_eq_true rfl) rfl (fun X => tc_b6_isWithin_0 N  _ _ _ _ _ h)
def tc_f6_isTrait (N : Nat) (x0 : Int32) (x1 : Int32) (μ : tc_Mem) : Option (Int32 × tc_Mem) :=
  if x0 < 0 ∨ 3 < x0 then
    some (0, μ)
  else if x0 = 0 then
    tc_bd (tc_f6_isWithin N x1 1 99 μ) fun r1 μ2 =>
    tc_zr r1 μ2
  else if x0 = 1 then
    tc_bd (tc_f6_isWithin N x1 0 9 μ) fun r3 μ4 =>
    tc_zr r3 μ4
  else if x0 = 2 then
    tc_bd (tc_f6_isWithin N x1 1 9 μ) fun r5 μ6 =>
    tc_zr r5 μ6
  else if x0 = 3 then
    tc_bd (tc_f6_isWithin N x1 0 5 μ) fun r7 μ8 =>
    tc_zr r7 μ8
  else none
theorem tc_b6_isTrait_0 (N : Nat) (x0 : Int32) (x1 : Int32) (μ : tc_Mem) (z : Int32 × tc_Mem) (h : tc_f6_isTrait N x0 x1 μ = some z) : tc_At l G tc_i6_isTrait (some (.int z.1)) z.2 X 0 [(0, .int x0), (1, .int x1)] [] μ := by
  unfold tc_f6_isTrait at h
  refine tc_iload_n tc_d6_isTrait_0 0 rfl ?_
  by_cases hq : x0 < 0 ∨ 3 < x0
  · rw [if_pos hq] at h
    refine tc_tswD (a := 0) (b := 3) (tgt := 63) tc_d6_isTrait_1 ⟨by decide, by decide⟩ hq (by decide) ?_
    refine tc_iconst (v := 0) tc_d6_isTrait_63 (by decide) ?_
    exact tc_zret tc_d6_isTrait_64 rfl (by decide) (tc_riS h)
  · rw [if_neg hq] at h
    by_cases hq : x0 = 0
    · rw [if_pos hq] at h
      refine tc_tswK (k := 0) (off := 31) (tgt := 32) tc_d6_isTrait_1 hq (by decide) (by decide) rfl (by decide) ?_
      refine tc_iload_n tc_d6_isTrait_32 1 rfl ?_
      refine tc_iconst (v := 1) tc_d6_isTrait_33 (by decide) ?_
      refine tc_bipush (v := 99) tc_d6_isTrait_34 (by decide) ?_
      obtain ⟨r1, μ2, e1, h⟩ := tc_bdS h
      have c1 := tc_c6_isWithin (l := l) (G := G) N e1
      refine tc_callSi (As := [.int x1, .int 1, .int 99]) (rest := []) (r1 := r1) (μ1 := μ2) tc_d6_isTrait_36 tc_ok6_isWithin tc_w303 ⟨Nat.le_of_ble_eq_true rfl, Nat.le_of_ble_eq_true rfl⟩ c1 rfl rfl (Nat.le_of_ble_eq_true rfl) ?_
      exact tc_zret tc_d6_isTrait_39 rfl (tc_zrS h).1 (tc_zrS h).2
    · rw [if_neg hq] at h
      by_cases hq : x0 = 1
      · rw [if_pos hq] at h
        refine tc_tswK (k := 1) (off := 39) (tgt := 40) tc_d6_isTrait_1 hq (by decide) (by decide) rfl (by decide) ?_
        refine tc_iload_n tc_d6_isTrait_40 1 rfl ?_
        refine tc_iconst (v := 0) tc_d6_isTrait_41 (by decide) ?_
        refine tc_bipush (v := 9) tc_d6_isTrait_42 (by decide) ?_
        obtain ⟨r3, μ4, e3, h⟩ := tc_bdS h
        have c3 := tc_c6_isWithin (l := l) (G := G) N e3
        refine tc_callSi (As := [.int x1, .int 0, .int 9]) (rest := []) (r1 := r3) (μ1 := μ4) tc_d6_isTrait_44 tc_ok6_isWithin tc_w303 ⟨Nat.le_of_ble_eq_true rfl, Nat.le_of_ble_eq_true rfl⟩ c3 rfl rfl (Nat.le_of_ble_eq_true rfl) ?_
        exact tc_zret tc_d6_isTrait_47 rfl (tc_zrS h).1 (tc_zrS h).2
      · rw [if_neg hq] at h
        by_cases hq : x0 = 2
        · rw [if_pos hq] at h
          refine tc_tswK (k := 2) (off := 47) (tgt := 48) tc_d6_isTrait_1 hq (by decide) (by decide) rfl (by decide) ?_
          refine tc_iload_n tc_d6_isTrait_48 1 rfl ?_
          refine tc_iconst (v := 1) tc_d6_isTrait_49 (by decide) ?_
          refine tc_bipush (v := 9) tc_d6_isTrait_50 (by decide) ?_
          obtain ⟨r5, μ6, e5, h⟩ := tc_bdS h
          have c5 := tc_c6_isWithin (l := l) (G := G) N e5
          refine tc_callSi (As := [.int x1, .int 1, .int 9]) (rest := []) (r1 := r5) (μ1 := μ6) tc_d6_isTrait_52 tc_ok6_isWithin tc_w303 ⟨Nat.le_of_ble_eq_true rfl, Nat.le_of_ble_eq_true rfl⟩ c5 rfl rfl (Nat.le_of_ble_eq_true rfl) ?_
          exact tc_zret tc_d6_isTrait_55 rfl (tc_zrS h).1 (tc_zrS h).2
        · rw [if_neg hq] at h
          by_cases hq : x0 = 3
          · rw [if_pos hq] at h
            refine tc_tswK (k := 3) (off := 55) (tgt := 56) tc_d6_isTrait_1 hq (by decide) (by decide) rfl (by decide) ?_
            refine tc_iload_n tc_d6_isTrait_56 1 rfl ?_
            refine tc_iconst (v := 0) tc_d6_isTrait_57 (by decide) ?_
            refine tc_iconst (v := 5) tc_d6_isTrait_58 (by decide) ?_
            obtain ⟨r7, μ8, e7, h⟩ := tc_bdS h
            have c7 := tc_c6_isWithin (l := l) (G := G) N e7
            refine tc_callSi (As := [.int x1, .int 0, .int 5]) (rest := []) (r1 := r7) (μ1 := μ8) tc_d6_isTrait_59 tc_ok6_isWithin tc_w303 ⟨Nat.le_of_ble_eq_true rfl, Nat.le_of_ble_eq_true rfl⟩ c7 rfl rfl (Nat.le_of_ble_eq_true rfl) ?_
            exact tc_zret tc_d6_isTrait_62 rfl (tc_zrS h).1 (tc_zrS h).2
          · rw [if_neg hq] at h
            cases h
theorem tc_c6_isTrait (N : Nat) {x0 : Int32} {x1 : Int32} {μ : tc_Mem} {z : Int32 × tc_Mem} (h : tc_f6_isTrait N x0 x1 μ = some z) : tc_Con l G tc_i6_isTrait [.int x0, .int x1] μ (some (.int z.1)) z.2 :=
  tc_Con.of (L := [(0, .int x0), (1, .int x1)]) (by decide) (Nat.le_of_ble_eq_true rfl) rfl (fun X => tc_b6_isTrait_0 N  _ _ _ _ h)
def tc_f6_bit (N : Nat) (x0 : Int32) (x1 : Int32) (μ : tc_Mem) : Option (Int32 × tc_Mem) :=
  some (((x0 >>> (x1 &&& 31)) &&& 1), μ)
theorem tc_b6_bit_0 (N : Nat) (x0 : Int32) (x1 : Int32) (μ : tc_Mem) (z : Int32 × tc_Mem) (h : tc_f6_bit N x0 x1 μ = some z) : tc_At l G tc_i6_bit (some (.int z.1)) z.2 X 0 [(0, .int x0), (1, .int x1)] [] μ := by
  unfold tc_f6_bit at h
  refine tc_iload_n tc_d6_bit_0 0 rfl ?_
  refine tc_iload_n tc_d6_bit_1 1 rfl ?_
  refine tc_ishr tc_d6_bit_2 ?_
  refine tc_iconst (v := 1) tc_d6_bit_3 (by decide) ?_
  refine tc_iand tc_d6_bit_4 ?_
  exact tc_iret tc_d6_bit_5 rfl (tc_riS h)
theorem tc_c6_bit (N : Nat) {x0 : Int32} {x1 : Int32} {μ : tc_Mem} {z : Int32 × tc_Mem} (h : tc_f6_bit N x0 x1 μ = some z) : tc_Con l G tc_i6_bit [.int x0, .int x1] μ (some (.int z.1)) z.2 :=
  tc_Con.of (L := [(0, .int x0), (1, .int x1)]) (by decide) (Nat.le_of_ble_eq_true rfl) rfl (fun X => tc_b6_bit_0 N  _ _ _ _ h)
def tc_f6_greatestDivisor_7 (N : Nat) : Nat → Int32 → Int32 → Int32 → tc_Mem → Option (Int32 × tc_Mem)
  | 0 => fun _ _ _ _ => none
  | n + 1 => fun x2 x3 x4 μ => 
    if (64 : Int32) ≤ x4 then
      some (x2, μ)
    else
      if x3 = 0 then
        some (x2, μ)
      else
        tc_nz x3 (
        tc_lt (x2 - x2 / x3 * x3) fun v2 =>
        tc_f6_greatestDivisor_7 N  n x3 v2 (x4 + 1) μ)
theorem tc_b6_greatestDivisor_7 (N : Nat) : ∀ (n : Nat) (x2 : Int32) (x3 : Int32) (x4 : Int32) (μ : tc_Mem) (z : Int32 × tc_Mem), tc_f6_greatestDivisor_7 N n x2 x3 x4 μ = some z → tc_At l G tc_i6_greatestDivisor (some (.int z.1)) z.2 X 7 [(2, .int x2), (3, .int x3), (4, .int x4)] [] μ := by
  intro n
  induction n with
  | zero => intro x2 x3 x4 μ z h; cases h
  | succ n ih =>
    intro x2 x3 x4 μ z h
    rw [tc_f6_greatestDivisor_7] at h
    refine tc_iload tc_d6_greatestDivisor_7 2 rfl ?_
    refine tc_bipush (v := 64) tc_d6_greatestDivisor_9 (by decide) ?_
    refine tc_icmp_ge (tgt := 34) tc_d6_greatestDivisor_11 (by decide) h (fun h => ?_) (fun h => ?_)
    · refine tc_iload_n tc_d6_greatestDivisor_34 0 rfl ?_
      exact tc_iret tc_d6_greatestDivisor_35 rfl (tc_riS h)
    · refine tc_iload_n tc_d6_greatestDivisor_14 1 rfl ?_
      refine tc_if_eq (tgt := 34) tc_d6_greatestDivisor_15 (by decide) h (fun h => ?_) (fun h => ?_)
      · refine tc_iload_n tc_d6_greatestDivisor_34 0 rfl ?_
        exact tc_iret tc_d6_greatestDivisor_35 rfl (tc_riS h)
      · refine tc_iload_n tc_d6_greatestDivisor_18 0 rfl ?_
        refine tc_iload_n tc_d6_greatestDivisor_19 1 rfl ?_
        obtain ⟨hn1, h⟩ := tc_nzS h
        refine tc_irem tc_d6_greatestDivisor_20 hn1 ?_
        refine tc_ltI h (fun v2 h => ?_)
        refine tc_istore (L' := [(5, .int v2), (2, .int x2), (3, .int x3), (4, .int x4)]) tc_d6_greatestDivisor_21 (by decide) rfl ?_
        refine tc_iload_n tc_d6_greatestDivisor_23 2 rfl ?_
        refine tc_istore_n (L' := [(2, .int x3), (5, .int v2), (3, .int x3), (4, .int x4)]) tc_d6_greatestDivisor_24 (by decide) rfl ?_
        refine tc_iload tc_d6_greatestDivisor_25 1 rfl ?_
        refine tc_istore_n (L' := [(3, .int v2), (2, .int x3), (5, .int v2), (4, .int x4)]) tc_d6_greatestDivisor_27 (by decide) rfl ?_
        refine tc_iinc (v := (x4 + 1)) (L' := [(4, .int (x4 + 1)), (3, .int v2), (2, .int x3), (5, .int v2)]) tc_d6_greatestDivisor_28 3 rfl rfl (by decide) rfl ?_
        refine tc_goto (tgt := 7) tc_d6_greatestDivisor_31 (by decide) ?_
        refine tc_sub [2, 1, 0] rfl ?_
        exact (ih _ _ _ _ _) h
def tc_f6_greatestDivisor (N : Nat) (x0 : Int32) (x1 : Int32) (μ : tc_Mem) : Option (Int32 × tc_Mem) :=
  tc_f6_greatestDivisor_7 N N x0 x1 0 μ
theorem tc_b6_greatestDivisor_0 (N : Nat) (x0 : Int32) (x1 : Int32) (μ : tc_Mem) (z : Int32 × tc_Mem) (h : tc_f6_greatestDivisor N x0 x1 μ = some z) : tc_At l G tc_i6_greatestDivisor (some (.int z.1)) z.2 X 0 [(0, .int x0), (1, .int x1)] [] μ := by
  unfold tc_f6_greatestDivisor at h
  refine tc_iload_n tc_d6_greatestDivisor_0 0 rfl ?_
  refine tc_istore_n (L' := [(2, .int x0), (0, .int x0), (1, .int x1)]) tc_d6_greatestDivisor_1 (by decide) rfl ?_
  refine tc_iload_n tc_d6_greatestDivisor_2 2 rfl ?_
  refine tc_istore_n (L' := [(3, .int x1), (2, .int x0), (0, .int x0), (1, .int x1)]) tc_d6_greatestDivisor_3 (by decide) rfl ?_
  refine tc_iconst (v := 0) tc_d6_greatestDivisor_4 (by decide) ?_
  refine tc_istore (L' := [(4, .int 0), (3, .int x1), (2, .int x0), (0, .int x0), (1, .int x1)]) tc_d6_greatestDivisor_5 (by decide) rfl ?_
  refine tc_sub [2, 1, 0] rfl ?_
  exact (tc_b6_greatestDivisor_7 N N _ _ _ _ _) h
theorem tc_c6_greatestDivisor (N : Nat) {x0 : Int32} {x1 : Int32} {μ : tc_Mem} {z : Int32 × tc_Mem} (h : tc_f6_greatestDivisor N x0 x1 μ = some z) : tc_Con l G tc_i6_greatestDivisor [.int x0, .int x1] μ (some (.int z.1)) z.2 :=
  tc_Con.of (L := [(0, .int x0), (1, .int x1)]) (by decide) (Nat.le_of_ble_eq_true rfl) rfl (fun X => tc_b6_greatestDivisor_0 N  _ _ _ _ h)
def tc_f6_isByte (N : Nat) (x0 : Int32) (μ : tc_Mem) : Option (Int32 × tc_Mem) :=
  tc_bd (tc_f6_isWithin N x0 0 255 μ) fun r1 μ2 =>
  tc_zr r1 μ2
theorem tc_b6_isByte_0 (N : Nat) (x0 : Int32) (μ : tc_Mem) (z : Int32 × tc_Mem) (h : tc_f6_isByte N x0 μ = some z) : tc_At l G tc_i6_isByte (some (.int z.1)) z.2 X 0 [(0, .int x0)] [] μ := by
  unfold tc_f6_isByte at h
  refine tc_iload_n tc_d6_isByte_0 0 rfl ?_
  refine tc_iconst (v := 0) tc_d6_isByte_1 (by decide) ?_
  refine tc_sipush (v := 255) tc_d6_isByte_2 (by decide) ?_
  obtain ⟨r1, μ2, e1, h⟩ := tc_bdS h
  have c1 := tc_c6_isWithin (l := l) (G := G) N e1
  refine tc_callSi (As := [.int x0, .int 0, .int 255]) (rest := []) (r1 := r1) (μ1 := μ2) tc_d6_isByte_5 tc_ok6_isWithin tc_w303 ⟨Nat.le_of_ble_eq_true rfl, Nat.le_of_ble_eq_true rfl⟩ c1 rfl rfl (Nat.le_of_ble_eq_true rfl) ?_
  exact tc_zret tc_d6_isByte_8 rfl (tc_zrS h).1 (tc_zrS h).2
theorem tc_c6_isByte (N : Nat) {x0 : Int32} {μ : tc_Mem} {z : Int32 × tc_Mem} (h : tc_f6_isByte N x0 μ = some z) : tc_Con l G tc_i6_isByte [.int x0] μ (some (.int z.1)) z.2 :=
  tc_Con.of (L := [(0, .int x0)]) (by decide) (Nat.le_of_ble_eq_true rfl) rfl (fun X => tc_b6_isByte_0 N  _ _ _ h)
def tc_f6_isSort (N : Nat) (x0 : Int32) (μ : tc_Mem) : Option (Int32 × tc_Mem) :=
  tc_bd (tc_f6_isWithin N x0 0 1 μ) fun r1 μ2 =>
  tc_zr r1 μ2
theorem tc_b6_isSort_0 (N : Nat) (x0 : Int32) (μ : tc_Mem) (z : Int32 × tc_Mem) (h : tc_f6_isSort N x0 μ = some z) : tc_At l G tc_i6_isSort (some (.int z.1)) z.2 X 0 [(0, .int x0)] [] μ := by
  unfold tc_f6_isSort at h
  refine tc_iload_n tc_d6_isSort_0 0 rfl ?_
  refine tc_iconst (v := 0) tc_d6_isSort_1 (by decide) ?_
  refine tc_iconst (v := 1) tc_d6_isSort_2 (by decide) ?_
  obtain ⟨r1, μ2, e1, h⟩ := tc_bdS h
  have c1 := tc_c6_isWithin (l := l) (G := G) N e1
  refine tc_callSi (As := [.int x0, .int 0, .int 1]) (rest := []) (r1 := r1) (μ1 := μ2) tc_d6_isSort_3 tc_ok6_isWithin tc_w303 ⟨Nat.le_of_ble_eq_true rfl, Nat.le_of_ble_eq_true rfl⟩ c1 rfl rfl (Nat.le_of_ble_eq_true rfl) ?_
  exact tc_zret tc_d6_isSort_6 rfl (tc_zrS h).1 (tc_zrS h).2
theorem tc_c6_isSort (N : Nat) {x0 : Int32} {μ : tc_Mem} {z : Int32 × tc_Mem} (h : tc_f6_isSort N x0 μ = some z) : tc_Con l G tc_i6_isSort [.int x0] μ (some (.int z.1)) z.2 :=
  tc_Con.of (L := [(0, .int x0)]) (by decide) (Nat.le_of_ble_eq_true rfl) rfl (fun X => tc_b6_isSort_0 N  _ _ _ h)
def tc_f6_isUnder_4 (N : Nat) : Nat → Int32 → Int32 → Int32 → tc_Mem → Option (Int32 × tc_Mem)
  | 0 => fun _ _ _ _ => none
  | n + 1 => fun x1 x2 x3 μ => 
    if (6 : Int32) ≤ x3 then
      some (0, μ)
    else
      if x2 < 0 then
        some (0, μ)
      else
        if x2 = x1 then
          some (1, μ)
        else
          tc_ck x2 6 (
          tc_lt (tc_ABOVE x2.toNatClampNeg) fun v2 =>
          tc_f6_isUnder_4 N  n x1 v2 (x3 + 1) μ)
theorem tc_b6_isUnder_4 (N : Nat) : ∀ (n : Nat) (x1 : Int32) (x2 : Int32) (x3 : Int32) (μ : tc_Mem) (z : Int32 × tc_Mem), tc_f6_isUnder_4 N n x1 x2 x3 μ = some z → tc_At l G tc_i6_isUnder (some (.int z.1)) z.2 X 4 [(1, .int x1), (2, .int x2), (3, .int x3)] [] μ := by
  intro n
  induction n with
  | zero => intro x1 x2 x3 μ z h; cases h
  | succ n ih =>
    intro x1 x2 x3 μ z h
    rw [tc_f6_isUnder_4] at h
    refine tc_iload_n tc_d6_isUnder_4 2 rfl ?_
    refine tc_bipush (v := 6) tc_d6_isUnder_5 (by decide) ?_
    refine tc_icmp_ge (tgt := 33) tc_d6_isUnder_7 (by decide) h (fun h => ?_) (fun h => ?_)
    · refine tc_iconst (v := 0) tc_d6_isUnder_33 (by decide) ?_
      exact tc_zret tc_d6_isUnder_34 rfl (by decide) (tc_riS h)
    · refine tc_iload_n tc_d6_isUnder_10 1 rfl ?_
      refine tc_if_lt (tgt := 33) tc_d6_isUnder_11 (by decide) h (fun h => ?_) (fun h => ?_)
      · refine tc_iconst (v := 0) tc_d6_isUnder_33 (by decide) ?_
        exact tc_zret tc_d6_isUnder_34 rfl (by decide) (tc_riS h)
      · refine tc_iload_n tc_d6_isUnder_14 1 rfl ?_
        refine tc_iload_n tc_d6_isUnder_15 0 rfl ?_
        refine tc_icmp_ne (tgt := 21) tc_d6_isUnder_16 (by decide) h (fun h => ?_) (fun h => ?_)
        · refine tc_gets tc_d6_isUnder_21 tc_w386 tc_tab1 ?_
          refine tc_iload_n tc_d6_isUnder_24 1 rfl ?_
          obtain ⟨hi1, h⟩ := tc_ckS h
          refine tc_tld tc_d6_isUnder_25 tc_tab1 hi1 ?_
          refine tc_ltI h (fun v2 h => ?_)
          refine tc_istore_n (L' := [(2, .int v2), (1, .int x1), (3, .int x3)]) tc_d6_isUnder_26 (by decide) rfl ?_
          refine tc_iinc (v := (x3 + 1)) (L' := [(3, .int (x3 + 1)), (2, .int v2), (1, .int x1)]) tc_d6_isUnder_27 2 rfl rfl (by decide) rfl ?_
          refine tc_goto (tgt := 4) tc_d6_isUnder_30 (by decide) ?_
          refine tc_sub [2, 1, 0] rfl ?_
          exact (ih _ _ _ _ _) h
        · refine tc_iconst (v := 1) tc_d6_isUnder_19 (by decide) ?_
          exact tc_zret tc_d6_isUnder_20 rfl (by decide) (tc_riS h)
def tc_f6_isUnder (N : Nat) (x0 : Int32) (x1 : Int32) (μ : tc_Mem) : Option (Int32 × tc_Mem) :=
  tc_f6_isUnder_4 N N x1 x0 0 μ
theorem tc_b6_isUnder_0 (N : Nat) (x0 : Int32) (x1 : Int32) (μ : tc_Mem) (z : Int32 × tc_Mem) (h : tc_f6_isUnder N x0 x1 μ = some z) : tc_At l G tc_i6_isUnder (some (.int z.1)) z.2 X 0 [(0, .int x0), (1, .int x1)] [] μ := by
  unfold tc_f6_isUnder at h
  refine tc_iload_n tc_d6_isUnder_0 0 rfl ?_
  refine tc_istore_n (L' := [(2, .int x0), (0, .int x0), (1, .int x1)]) tc_d6_isUnder_1 (by decide) rfl ?_
  refine tc_iconst (v := 0) tc_d6_isUnder_2 (by decide) ?_
  refine tc_istore_n (L' := [(3, .int 0), (2, .int x0), (0, .int x0), (1, .int x1)]) tc_d6_isUnder_3 (by decide) rfl ?_
  refine tc_sub [3, 1, 0] rfl ?_
  exact (tc_b6_isUnder_4 N N _ _ _ _ _) h
theorem tc_c6_isUnder (N : Nat) {x0 : Int32} {x1 : Int32} {μ : tc_Mem} {z : Int32 × tc_Mem} (h : tc_f6_isUnder N x0 x1 μ = some z) : tc_Con l G tc_i6_isUnder [.int x0, .int x1] μ (some (.int z.1)) z.2 :=
  tc_Con.of (L := [(0, .int x0), (1, .int x1)]) (by decide) (Nat.le_of_ble_eq_true rfl) rfl (fun X => tc_b6_isUnder_0 N  _ _ _ _ h)
end WALK
