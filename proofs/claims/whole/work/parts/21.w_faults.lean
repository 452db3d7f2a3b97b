section WALK
variable {l : Launch} {G : tc_G} {X : tc_X}
def tc_f1_change (N : Nat) (t : Nat) (x1 : Int32) (x2 : Int32) (x3 : Int32) (μ : tc_Mem) : Option (Int32 × tc_Mem) :=
  tc_ck x1 15 (
  tc_lt (μ (t + 8) x1.toNatClampNeg) fun v2 =>
  if v2 < 0 ∨ 2 < v2 then
    some (x2, μ)
  else if v2 = 0 then
    some ((x3 / 2), μ)
  else if v2 = 1 then
    some ((x2 / 2), μ)
  else if v2 = 2 then
    tc_ck x1 15 (
    some ((if (999 : Int32) < (x2 + (μ (t + 10) x1.toNatClampNeg)) then 999 else (x2 + (μ (t + 10) x1.toNatClampNeg))), μ))
  else none)
theorem tc_b1_change_0 (N : Nat) {t : Nat} (ht : tc_Yd t) (x1 : Int32) (x2 : Int32) (x3 : Int32) (μ : tc_Mem) (z : Int32 × tc_Mem) (h : tc_f1_change N t x1 x2 x3 μ = some z) : tc_At l G tc_i1_change (some (.int z.1)) z.2 X 0 [(0, .ref (tc_ad G (t + 7))), (1, .int x1), (2, .int x2), (3, .int x3)] [] μ := by
  unfold tc_f1_change at h
  refine tc_aload_n tc_d1_change_0 0 rfl ?_
  refine tc_g1_1 tc_d1_change_1 tc_w96 ht ?_
  refine tc_iload_n tc_d1_change_4 1 rfl ?_
  obtain ⟨hi1, h⟩ := tc_ckS h
  refine tc_iald tc_d1_change_5 (tc_a5_8 ht) hi1 ?_
  refine tc_ltI h (fun v2 h => ?_)
  by_cases hq : v2 < 0 ∨ 2 < v2
  · rw [if_pos hq] at h
    refine tc_tswD (a := 0) (b := 2) (tgt := 55) tc_d1_change_6 ⟨by decide, by decide⟩ hq (by decide) ?_
    refine tc_iload_n tc_d1_change_55 2 rfl ?_
    exact tc_iret tc_d1_change_56 rfl (tc_riS h)
  · rw [if_neg hq] at h
    by_cases hq : v2 = 0
    · rw [if_pos hq] at h
      refine tc_tswK (k := 0) (off := 26) (tgt := 32) tc_d1_change_6 hq (by decide) (by decide) rfl (by decide) ?_
      refine tc_iload_n tc_d1_change_32 3 rfl ?_
      refine tc_iconst (v := 2) tc_d1_change_33 (by decide) ?_
      refine tc_idiv tc_d1_change_34 (by decide) ?_
      exact tc_iret tc_d1_change_35 rfl (tc_riS h)
    · rw [if_neg hq] at h
      by_cases hq : v2 = 1
      · rw [if_pos hq] at h
        refine tc_tswK (k := 1) (off := 30) (tgt := 36) tc_d1_change_6 hq (by decide) (by decide) rfl (by decide) ?_
        refine tc_iload_n tc_d1_change_36 2 rfl ?_
        refine tc_iconst (v := 2) tc_d1_change_37 (by decide) ?_
        refine tc_idiv tc_d1_change_38 (by decide) ?_
        exact tc_iret tc_d1_change_39 rfl (tc_riS h)
      · rw [if_neg hq] at h
        by_cases hq : v2 = 2
        · rw [if_pos hq] at h
          refine tc_tswK (k := 2) (off := 34) (tgt := 40) tc_d1_change_6 hq (by decide) (by decide) rfl (by decide) ?_
          refine tc_iload_n tc_d1_change_40 2 rfl ?_
          refine tc_aload_n tc_d1_change_41 0 rfl ?_
          refine tc_g1_3 tc_d1_change_42 tc_w101 ht ?_
          refine tc_iload_n tc_d1_change_45 1 rfl ?_
          obtain ⟨hi3, h⟩ := tc_ckS h
          refine tc_iald tc_d1_change_46 (tc_a5_10 ht) hi3 ?_
          refine tc_iadd tc_d1_change_47 ?_
          refine tc_sipush (v := 999) tc_d1_change_48 (by decide) ?_
          refine tc_mmin tc_d1_change_51 tc_w358 tc_okmmin ⟨Nat.le_of_ble_eq_true rfl, Nat.le_of_ble_eq_true rfl⟩ ?_
          exact tc_iret tc_d1_change_54 rfl (tc_riS h)
        · rw [if_neg hq] at h
          cases h
theorem tc_c1_change (N : Nat) {t : Nat} {x1 : Int32} {x2 : Int32} {x3 : Int32} {μ : tc_Mem} {z : Int32 × tc_Mem} (ht : tc_Yd t) (h : tc_f1_change N t x1 x2 x3 μ = some z) : tc_Con l G tc_i1_change [.ref (tc_ad G (t + 7)), .int x1, .int x2, .int x3] μ (some (.int z.1)) z.2 :=
  tc_Con.of (L := [(0, .ref (tc_ad G (t + 7))), (1, .int x1), (2, .int x2), (3, .int x3)]) (by decide) (Nat.le_of_ble_eq_true rfl) rfl (fun X => tc_b1_change_0 N ht _ _ _ _ _ h)
def tc_f1_placesOf_4 (N : Nat) (t : Nat) : Nat → Int32 → Int32 → Int32 → tc_Mem → Option (Int32 × tc_Mem)
  | 0 => fun _ _ _ _ => none
  | n + 1 => fun x1 x2 x3 μ => 
    if (μ (t + 7) 0) ≤ x3 then
      some (x2, μ)
    else
      tc_ck x3 15 (
      if (μ (t + 8) x3.toNatClampNeg) = x1 then
        tc_ck x3 15 (
        tc_lt (x2 ||| (1 <<< ((μ (t + 9) x3.toNatClampNeg) &&& 31))) fun v3 =>
        tc_f1_placesOf_4 N t n x1 v3 (x3 + 1) μ)
      else
        tc_f1_placesOf_4 N t n x1 x2 (x3 + 1) μ)
theorem tc_b1_placesOf_4 (N : Nat) {t : Nat} (ht : tc_Yd t) : ∀ (n : Nat) (x1 : Int32) (x2 : Int32) (x3 : Int32) (μ : tc_Mem) (z : Int32 × tc_Mem), tc_f1_placesOf_4 N t n x1 x2 x3 μ = some z → tc_At l G tc_i1_placesOf (some (.int z.1)) z.2 X 4 [(0, .ref (tc_ad G (t + 7))), (1, .int x1), (2, .int x2), (3, .int x3)] [] μ := by
  intro n
  induction n with
  | zero => intro x1 x2 x3 μ z h; cases h
  | succ n ih =>
    intro x1 x2 x3 μ z h
    rw [tc_f1_placesOf_4] at h
    refine tc_iload_n tc_d1_placesOf_4 3 rfl ?_
    refine tc_aload_n tc_d1_placesOf_5 0 rfl ?_
    refine tc_g1_0 tc_d1_placesOf_6 tc_w92 ht ?_
    refine tc_icmp_ge (tgt := 39) tc_d1_placesOf_9 (by decide) h (fun h => ?_) (fun h => ?_)
    · refine tc_iload_n tc_d1_placesOf_39 2 rfl ?_
      exact tc_iret tc_d1_placesOf_40 rfl (tc_riS h)
    · refine tc_aload_n tc_d1_placesOf_12 0 rfl ?_
      refine tc_g1_1 tc_d1_placesOf_13 tc_w96 ht ?_
      refine tc_iload_n tc_d1_placesOf_16 3 rfl ?_
      obtain ⟨hi1, h⟩ := tc_ckS h
      refine tc_iald tc_d1_placesOf_17 (tc_a5_8 ht) hi1 ?_
      refine tc_iload_n tc_d1_placesOf_18 1 rfl ?_
      refine tc_icmp_ne (tgt := 33) tc_d1_placesOf_19 (by decide) h (fun h => ?_) (fun h => ?_)
      · refine tc_iinc (v := (x3 + 1)) (L' := [(3, .int (x3 + 1)), (0, .ref (tc_ad G (t + 7))), (1, .int x1), (2, .int x2)]) tc_d1_placesOf_33 3 rfl rfl (by decide) rfl ?_
        refine tc_goto (tgt := 4) tc_d1_placesOf_36 (by decide) ?_
        refine tc_sub [1, 2, 3, 0] rfl ?_
        exact (ih _ _ _ _ _) h
      · refine tc_iload_n tc_d1_placesOf_22 2 rfl ?_
        refine tc_iconst (v := 1) tc_d1_placesOf_23 (by decide) ?_
        refine tc_aload_n tc_d1_placesOf_24 0 rfl ?_
        refine tc_g1_2 tc_d1_placesOf_25 tc_w98 ht ?_
        refine tc_iload_n tc_d1_placesOf_28 3 rfl ?_
        obtain ⟨hi2, h⟩ := tc_ckS h
        refine tc_iald tc_d1_placesOf_29 (tc_a5_9 ht) hi2 ?_
        refine tc_ishl tc_d1_placesOf_30 ?_
        refine tc_ior tc_d1_placesOf_31 ?_
        refine tc_ltI h (fun v3 h => ?_)
        refine tc_istore_n (L' := [(2, .int v3), (0, .ref (tc_ad G (t + 7))), (1, .int x1), (3, .int x3)]) tc_d1_placesOf_32 (by decide) rfl ?_
        refine tc_iinc (v := (x3 + 1)) (L' := [(3, .int (x3 + 1)), (2, .int v3), (0, .ref (tc_ad G (t + 7))), (1, .int x1)]) tc_d1_placesOf_33 3 rfl rfl (by decide) rfl ?_
        refine tc_goto (tgt := 4) tc_d1_placesOf_36 (by decide) ?_
        refine tc_sub [2, 3, 1, 0] rfl ?_
        exact (ih _ _ _ _ _) h
def tc_f1_placesOf (N : Nat) (t : Nat) (x1 : Int32) (μ : tc_Mem) : Option (Int32 × tc_Mem) :=
  tc_f1_placesOf_4 N t N x1 0 0 μ
theorem tc_b1_placesOf_0 (N : Nat) {t : Nat} (ht : tc_Yd t) (x1 : Int32) (μ : tc_Mem) (z : Int32 × tc_Mem) (h : tc_f1_placesOf N t x1 μ = some z) : tc_At l G tc_i1_placesOf (some (.int z.1)) z.2 X 0 [(0, .ref (tc_ad G (t + 7))), (1, .int x1)] [] μ := by
  unfold tc_f1_placesOf at h
  refine tc_iconst (v := 0) tc_d1_placesOf_0 (by decide) ?_
  refine tc_istore_n (L' := [(2, .int 0), (0, .ref (tc_ad G (t + 7))), (1, .int x1)]) tc_d1_placesOf_1 (by decide) rfl ?_
  refine tc_iconst (v := 0) tc_d1_placesOf_2 (by decide) ?_
  refine tc_istore_n (L' := [(3, .int 0), (2, .int 0), (0, .ref (tc_ad G (t + 7))), (1, .int x1)]) tc_d1_placesOf_3 (by decide) rfl ?_
  refine tc_sub [2, 3, 1, 0] rfl ?_
  exact (tc_b1_placesOf_4 N ht N _ _ _ _ _) h
theorem tc_c1_placesOf (N : Nat) {t : Nat} {x1 : Int32} {μ : tc_Mem} {z : Int32 × tc_Mem} (ht : tc_Yd t) (h : tc_f1_placesOf N t x1 μ = some z) : tc_Con l G tc_i1_placesOf [.ref (tc_ad G (t + 7)), .int x1] μ (some (.int z.1)) z.2 :=
  tc_Con.of (L := [(0, .ref (tc_ad G (t + 7))), (1, .int x1)]) (by decide) (Nat.le_of_ble_eq_true rfl) rfl (fun X => tc_b1_placesOf_0 N ht _ _ _ h)
def tc_f1_add (N : Nat) (t : Nat) (x1 : Int32) (x2 : Int32) (x3 : Int32) (μ : tc_Mem) : Option (Int32 × tc_Mem) :=
  if (μ (t + 7) 0) < 15 then
    tc_ck (μ (t + 7) 0) 15 (
    tc_lt (tc_wr μ (t + 8) (μ (t + 7) 0).toNatClampNeg x1) fun μ2 =>
    tc_ck (μ2 (t + 7) 0) 15 (
    tc_lt (tc_wr μ2 (t + 9) (μ2 (t + 7) 0).toNatClampNeg x2) fun μ4 =>
    tc_ck (μ4 (t + 7) 0) 15 (
    tc_lt (tc_wr μ4 (t + 10) (μ4 (t + 7) 0).toNatClampNeg x3) fun μ6 =>
    tc_lt (tc_wr μ6 (t + 7) 0 ((μ6 (t + 7) 0) + 1)) fun μ7 =>
    some (0, μ7))))
  else
    some (0, μ)
theorem tc_b1_add_0 (N : Nat) {t : Nat} (ht : tc_Yd t) (x1 : Int32) (x2 : Int32) (x3 : Int32) (μ : tc_Mem) (z : Int32 × tc_Mem) (h : tc_f1_add N t x1 x2 x3 μ = some z) : tc_At l G tc_i1_add none z.2 X 0 [(0, .ref (tc_ad G (t + 7))), (1, .int x1), (2, .int x2), (3, .int x3)] [] μ := by
  unfold tc_f1_add at h
  refine tc_aload_n tc_d1_add_0 0 rfl ?_
  refine tc_g1_0 tc_d1_add_1 tc_w92 ht ?_
  refine tc_aload_n tc_d1_add_4 0 rfl ?_
  refine tc_g1_1 tc_d1_add_5 tc_w96 ht ?_
  refine tc_alen (v := 15) tc_d1_add_8 (tc_a5_8 ht) (by decide) (by decide) ?_
  refine tc_icmp_lt (tgt := 13) tc_d1_add_9 (by decide) h (fun h => ?_) (fun h => ?_)
  · refine tc_aload_n tc_d1_add_13 0 rfl ?_
    refine tc_g1_1 tc_d1_add_14 tc_w96 ht ?_
    refine tc_aload_n tc_d1_add_17 0 rfl ?_
    refine tc_g1_0 tc_d1_add_18 tc_w92 ht ?_
    refine tc_iload_n tc_d1_add_21 1 rfl ?_
    obtain ⟨hi1, h⟩ := tc_ckS h
    refine tc_iastL tc_d1_add_22 (tc_a5_8 ht) hi1 h (fun μ2 h => ?_)
    refine tc_aload_n tc_d1_add_23 0 rfl ?_
    refine tc_g1_2 tc_d1_add_24 tc_w98 ht ?_
    refine tc_aload_n tc_d1_add_27 0 rfl ?_
    refine tc_g1_0 tc_d1_add_28 tc_w92 ht ?_
    refine tc_iload_n tc_d1_add_31 2 rfl ?_
    obtain ⟨hi3, h⟩ := tc_ckS h
    refine tc_iastL tc_d1_add_32 (tc_a5_9 ht) hi3 h (fun μ4 h => ?_)
    refine tc_aload_n tc_d1_add_33 0 rfl ?_
    refine tc_g1_3 tc_d1_add_34 tc_w101 ht ?_
    refine tc_aload_n tc_d1_add_37 0 rfl ?_
    refine tc_g1_0 tc_d1_add_38 tc_w92 ht ?_
    refine tc_iload_n tc_d1_add_41 3 rfl ?_
    obtain ⟨hi5, h⟩ := tc_ckS h
    refine tc_iastL tc_d1_add_42 (tc_a5_10 ht) hi5 h (fun μ6 h => ?_)
    refine tc_aload_n tc_d1_add_43 0 rfl ?_
    refine tc_dup tc_d1_add_44 rfl ?_
    refine tc_g1_0 tc_d1_add_45 tc_w92 ht ?_
    refine tc_iconst (v := 1) tc_d1_add_48 (by decide) ?_
    refine tc_iadd tc_d1_add_49 ?_
    refine tc_p1_0 tc_d1_add_50 tc_w92 ht h (fun μ7 h => ?_)
    exact tc_vret tc_d1_add_53 rfl (tc_rvS h)
  · exact tc_vret tc_d1_add_12 rfl (tc_rvS h)
theorem tc_c1_add (N : Nat) {t : Nat} {x1 : Int32} {x2 : Int32} {x3 : Int32} {μ : tc_Mem} {z : Int32 × tc_Mem} (ht : tc_Yd t) (h : tc_f1_add N t x1 x2 x3 μ = some z) : tc_Con l G tc_i1_add [.ref (tc_ad G (t + 7)), .int x1, .int x2, .int x3] μ none z.2 :=
  tc_Con.of (L := [(0, .ref (tc_ad G (t + 7))), (1, .int x1), (2, .int x2), (3, .int x3)]) (by decide) (Nat.le_of_ble_eq_true rfl) rfl (fun X => tc_b1_add_0 N ht _ _ _ _ _ h)
def tc_f1_bringTo (N : Nat) (t : Nat) (x1 : Int32) (u : Nat) (x3 : Int32) (μ : tc_Mem) : Option (Int32 × tc_Mem) :=
  tc_ck x3 15 (
  tc_ck x1 15 (
  tc_lt (tc_wr μ (t + 8) x1.toNatClampNeg (μ (u + 8) x3.toNatClampNeg)) fun μ3 =>
  tc_ck x3 15 (
  tc_ck x1 15 (
  tc_lt (tc_wr μ3 (t + 9) x1.toNatClampNeg (μ3 (u + 9) x3.toNatClampNeg)) fun μ6 =>
  tc_ck x3 15 (
  tc_ck x1 15 (
  tc_lt (tc_wr μ6 (t + 10) x1.toNatClampNeg (μ6 (u + 10) x3.toNatClampNeg)) fun μ9 =>
  some (0, μ9)))))))
theorem tc_b1_bringTo_0 (N : Nat) {t : Nat} {u : Nat} (ht : tc_Yd t) (hu : tc_Yd u) (x1 : Int32) (x3 : Int32) (μ : tc_Mem) (z : Int32 × tc_Mem) (h : tc_f1_bringTo N t x1 u x3 μ = some z) : tc_At l G tc_i1_bringTo none z.2 X 0 [(0, .ref (tc_ad G (t + 7))), (1, .int x1), (2, .ref (tc_ad G (u + 7))), (3, .int x3)] [] μ := by
  unfold tc_f1_bringTo at h
  refine tc_aload_n tc_d1_bringTo_0 0 rfl ?_
  refine tc_g1_1 tc_d1_bringTo_1 tc_w96 ht ?_
  refine tc_iload_n tc_d1_bringTo_4 1 rfl ?_
  refine tc_aload_n tc_d1_bringTo_5 2 rfl ?_
  refine tc_g1_1 tc_d1_bringTo_6 tc_w96 hu ?_
  refine tc_iload_n tc_d1_bringTo_9 3 rfl ?_
  obtain ⟨hi1, h⟩ := tc_ckS h
  refine tc_iald tc_d1_bringTo_10 (tc_a5_8 hu) hi1 ?_
  obtain ⟨hi2, h⟩ := tc_ckS h
  refine tc_iastL tc_d1_bringTo_11 (tc_a5_8 ht) hi2 h (fun μ3 h => ?_)
  refine tc_aload_n tc_d1_bringTo_12 0 rfl ?_
  refine tc_g1_2 tc_d1_bringTo_13 tc_w98 ht ?_
  refine tc_iload_n tc_d1_bringTo_16 1 rfl ?_
  refine tc_aload_n tc_d1_bringTo_17 2 rfl ?_
  refine tc_g1_2 tc_d1_bringTo_18 tc_w98 hu ?_
  refine tc_iload_n tc_d1_bringTo_21 3 rfl ?_
  obtain ⟨hi4, h⟩ := tc_ckS h
  refine tc_iald tc_d1_bringTo_22 (tc_a5_9 hu) hi4 ?_
  obtain ⟨hi5, h⟩ := tc_ckS h
  refine tc_iastL tc_d1_bringTo_23 (tc_a5_9 ht) hi5 h (fun μ6 h => ?_)
  refine tc_aload_n tc_d1_bringTo_24 0 rfl ?_
  refine tc_g1_3 tc_d1_bringTo_25 tc_w101 ht ?_
  refine tc_iload_n tc_d1_bringTo_28 1 rfl ?_
  refine tc_aload_n tc_d1_bringTo_29 2 rfl ?_
  refine tc_g1_3 tc_d1_bringTo_30 tc_w101 hu ?_
  refine tc_iload_n tc_d1_bringTo_33 3 rfl ?_
  obtain ⟨hi7, h⟩ := tc_ckS h
  refine tc_iald tc_d1_bringTo_34 (tc_a5_10 hu) hi7 ?_
  obtain ⟨hi8, h⟩ := tc_ckS h
  refine tc_iastL tc_d1_bringTo_35 (tc_a5_10 ht) hi8 h (fun μ9 h => ?_)
  exact tc_vret tc_d1_bringTo_36 rfl (tc_rvS h)
theorem tc_c1_bringTo (N : Nat) {t : Nat} {x1 : Int32} {u : Nat} {x3 : Int32} {μ : tc_Mem} {z : Int32 × tc_Mem} (ht : tc_Yd t) (hu : tc_Yd u) (h : tc_f1_bringTo N t x1 u x3 μ = some z) : tc_Con l G tc_i1_bringTo [.ref (tc_ad G (t + 7)), .int x1, .ref (tc_ad G (u + 7)), .int x3] μ none z.2 :=
  tc_Con.of (L := [(0, .ref (tc_ad G (t + 7))), (1, .int x1), (2, .ref (tc_ad G (u + 7))), (3, .int x3)]) (by decide) (Nat.le_of_ble_eq_true rfl) rfl (fun X => tc_b1_bringTo_0 N ht hu _ _ _ _ h)
def tc_f1_become_10 (N : Nat) (t : Nat) (u : Nat) : Nat → Int32 → tc_Mem → Option (Int32 × tc_Mem)
  | 0 => fun _ _ => none
  | n + 1 => fun x2 μ => 
    if (μ (t + 7) 0) ≤ x2 then
      some (0, μ)
    else
      tc_bd (tc_f1_bringTo N t x2 u x2 μ) fun _ μ2 =>
      tc_f1_become_10 N t u n (x2 + 1) μ2
theorem tc_b1_become_10 (N : Nat) {t : Nat} {u : Nat} (ht : tc_Yd t) (hu : tc_Yd u) : ∀ (n : Nat) (x2 : Int32) (μ : tc_Mem) (z : Int32 × tc_Mem), tc_f1_become_10 N t u n x2 μ = some z → tc_At l G tc_i1_become none z.2 X 10 [(0, .ref (tc_ad G (t + 7))), (1, .ref (tc_ad G (u + 7))), (2, .int x2)] [] μ := by
  intro n
  induction n with
  | zero => intro x2 μ z h; cases h
  | succ n ih =>
    intro x2 μ z h
    rw [tc_f1_become_10] at h
    refine tc_iload_n tc_d1_become_10 2 rfl ?_
    refine tc_aload_n tc_d1_become_11 0 rfl ?_
    refine tc_g1_0 tc_d1_become_12 tc_w92 ht ?_
    refine tc_icmp_ge (tgt := 31) tc_d1_become_15 (by decide) h (fun h => ?_) (fun h => ?_)
    · exact tc_vret tc_d1_become_31 rfl (tc_rvS h)
    · refine tc_aload_n tc_d1_become_18 0 rfl ?_
      refine tc_iload_n tc_d1_become_19 2 rfl ?_
      refine tc_aload_n tc_d1_become_20 1 rfl ?_
      refine tc_iload_n tc_d1_become_21 2 rfl ?_
      obtain ⟨r1, μ2, e1, h⟩ := tc_bdS h
      have c1 := tc_c1_bringTo (l := l) (G := G) N ht hu e1
      refine tc_callVv (As := [.int x2, .ref (tc_ad G (u + 7)), .int x2]) (rest := []) (μ1 := μ2) tc_d1_become_22 tc_ok1_bringTo tc_w325 ⟨Nat.le_of_ble_eq_true rfl, Nat.le_of_ble_eq_true rfl⟩ (tc_s1 ht) rfl c1 rfl rfl (Nat.le_of_ble_eq_true rfl) ?_
      refine tc_iinc (v := (x2 + 1)) (L' := [(2, .int (x2 + 1)), (0, .ref (tc_ad G (t + 7))), (1, .ref (tc_ad G (u + 7)))]) tc_d1_become_25 2 rfl rfl (by decide) rfl ?_
      refine tc_goto (tgt := 10) tc_d1_become_28 (by decide) ?_
      refine tc_sub [1, 2, 0] rfl ?_
      exact (ih _ _ _) h
def tc_f1_become (N : Nat) (t : Nat) (u : Nat) (μ : tc_Mem) : Option (Int32 × tc_Mem) :=
  tc_lt (tc_wr μ (t + 7) 0 (μ (u + 7) 0)) fun μ1 =>
  tc_f1_become_10 N t u N 0 μ1
theorem tc_b1_become_0 (N : Nat) {t : Nat} {u : Nat} (ht : tc_Yd t) (hu : tc_Yd u) (μ : tc_Mem) (z : Int32 × tc_Mem) (h : tc_f1_become N t u μ = some z) : tc_At l G tc_i1_become none z.2 X 0 [(0, .ref (tc_ad G (t + 7))), (1, .ref (tc_ad G (u + 7)))] [] μ := by
  unfold tc_f1_become at h
  refine tc_aload_n tc_d1_become_0 0 rfl ?_
  refine tc_aload_n tc_d1_become_1 1 rfl ?_
  refine tc_g1_0 tc_d1_become_2 tc_w92 hu ?_
  refine tc_p1_0 tc_d1_become_5 tc_w92 ht h (fun μ1 h => ?_)
  refine tc_iconst (v := 0) tc_d1_become_8 (by decide) ?_
  refine tc_istore_n (L' := [(2, .int 0), (0, .ref (tc_ad G (t + 7))), (1, .ref (tc_ad G (u + 7)))]) tc_d1_become_9 (by decide) rfl ?_
  refine tc_sub [1, 2, 0] rfl ?_
  exact (tc_b1_become_10 N ht hu N _ _ _) h
theorem tc_c1_become (N : Nat) {t : Nat} {u : Nat} {μ : tc_Mem} {z : Int32 × tc_Mem} (ht : tc_Yd t) (hu : tc_Yd u) (h : tc_f1_become N t u μ = some z) : tc_Con l G tc_i1_become [.ref (tc_ad G (t + 7)), .ref (tc_ad G (u + 7))] μ none z.2 :=
  tc_Con.of (L := [(0, .ref (tc_ad G (t + 7))), (1, .ref (tc_ad G (u + 7)))]) (by decide) (Nat.le_of_ble_eq_true rfl) rfl (fun X => tc_b1_become_0 N ht hu _ _ h)
def tc_f1_remove_40 (N : Nat) (t : Nat) (μ : tc_Mem) : Option (Int32 × tc_Mem) :=
  tc_lt (tc_wr μ (t + 7) 0 ((μ (t + 7) 0) - 1)) fun μ1 =>
  some (0, μ1)
theorem tc_b1_remove_40 (N : Nat) {t : Nat} (ht : tc_Yd t) (μ : tc_Mem) (z : Int32 × tc_Mem) (h : tc_f1_remove_40 N t μ = some z) : tc_At l G tc_i1_remove none z.2 X 40 [(0, .ref (tc_ad G (t + 7)))] [] μ := by
  unfold tc_f1_remove_40 at h
  refine tc_aload_n tc_d1_remove_40 0 rfl ?_
  refine tc_dup tc_d1_remove_41 rfl ?_
  refine tc_g1_0 tc_d1_remove_42 tc_w92 ht ?_
  refine tc_iconst (v := 1) tc_d1_remove_45 (by decide) ?_
  refine tc_isub tc_d1_remove_46 ?_
  refine tc_p1_0 tc_d1_remove_47 tc_w92 ht h (fun μ1 h => ?_)
  exact tc_vret tc_d1_remove_50 rfl (tc_rvS h)
def tc_f1_remove_17 (N : Nat) (t : Nat) : Nat → Int32 → tc_Mem → Option (Int32 × tc_Mem)
  | 0 => fun _ _ => none
  | n + 1 => fun x2 μ => 
    if (μ (t + 7) 0) ≤ x2 then
      tc_f1_remove_40 N t μ
    else
      tc_bd (tc_f1_bringTo N t (x2 - 1) t x2 μ) fun _ μ2 =>
      tc_f1_remove_17 N t n (x2 + 1) μ2
theorem tc_b1_remove_17 (N : Nat) {t : Nat} (ht : tc_Yd t) : ∀ (n : Nat) (x2 : Int32) (μ : tc_Mem) (z : Int32 × tc_Mem), tc_f1_remove_17 N t n x2 μ = some z → tc_At l G tc_i1_remove none z.2 X 17 [(0, .ref (tc_ad G (t + 7))), (2, .int x2)] [] μ := by
  intro n
  induction n with
  | zero => intro x2 μ z h; cases h
  | succ n ih =>
    intro x2 μ z h
    rw [tc_f1_remove_17] at h
    refine tc_iload_n tc_d1_remove_17 1 rfl ?_
    refine tc_aload_n tc_d1_remove_18 0 rfl ?_
    refine tc_g1_0 tc_d1_remove_19 tc_w92 ht ?_
    refine tc_icmp_ge (tgt := 40) tc_d1_remove_22 (by decide) h (fun h => ?_) (fun h => ?_)
    · refine tc_sub [0] rfl ?_
      exact (tc_b1_remove_40 N ht _ _) h
    · refine tc_aload_n tc_d1_remove_25 0 rfl ?_
      refine tc_iload_n tc_d1_remove_26 1 rfl ?_
      refine tc_iconst (v := 1) tc_d1_remove_27 (by decide) ?_
      refine tc_isub tc_d1_remove_28 ?_
      refine tc_aload_n tc_d1_remove_29 0 rfl ?_
      refine tc_iload_n tc_d1_remove_30 1 rfl ?_
      obtain ⟨r1, μ2, e1, h⟩ := tc_bdS h
      have c1 := tc_c1_bringTo (l := l) (G := G) N ht ht e1
      refine tc_callVv (As := [.int (x2 - 1), .ref (tc_ad G (t + 7)), .int x2]) (rest := []) (μ1 := μ2) tc_d1_remove_31 tc_ok1_bringTo tc_w325 ⟨Nat.le_of_ble_eq_true rfl, Nat.le_of_ble_eq_true rfl⟩ (tc_s1 ht) rfl c1 rfl rfl (Nat.le_of_ble_eq_true rfl) ?_
      refine tc_iinc (v := (x2 + 1)) (L' := [(2, .int (x2 + 1)), (0, .ref (tc_ad G (t + 7)))]) tc_d1_remove_34 1 rfl rfl (by decide) rfl ?_
      refine tc_goto (tgt := 17) tc_d1_remove_37 (by decide) ?_
      refine tc_sub [1, 0] rfl ?_
      exact (ih _ _ _) h
def tc_f1_remove (N : Nat) (t : Nat) (x1 : Int32) (μ : tc_Mem) : Option (Int32 × tc_Mem) :=
  if x1 < 0 then
    some (0, μ)
  else
    if x1 < (μ (t + 7) 0) then
      tc_lt (x1 + 1) fun v1 =>
      tc_f1_remove_17 N t N v1 μ
    else
      some (0, μ)
theorem tc_b1_remove_0 (N : Nat) {t : Nat} (ht : tc_Yd t) (x1 : Int32) (μ : tc_Mem) (z : Int32 × tc_Mem) (h : tc_f1_remove N t x1 μ = some z) : tc_At l G tc_i1_remove none z.2 X 0 [(0, .ref (tc_ad G (t + 7))), (1, .int x1)] [] μ := by
  unfold tc_f1_remove at h
  refine tc_iload_n tc_d1_remove_0 1 rfl ?_
  refine tc_if_lt (tgt := 12) tc_d1_remove_1 (by decide) h (fun h => ?_) (fun h => ?_)
  · exact tc_vret tc_d1_remove_12 rfl (tc_rvS h)
  · refine tc_iload_n tc_d1_remove_4 1 rfl ?_
    refine tc_aload_n tc_d1_remove_5 0 rfl ?_
    refine tc_g1_0 tc_d1_remove_6 tc_w92 ht ?_
    refine tc_icmp_lt (tgt := 13) tc_d1_remove_9 (by decide) h (fun h => ?_) (fun h => ?_)
    · refine tc_iload_n tc_d1_remove_13 1 rfl ?_
      refine tc_iconst (v := 1) tc_d1_remove_14 (by decide) ?_
      refine tc_iadd tc_d1_remove_15 ?_
      refine tc_ltI h (fun v1 h => ?_)
      refine tc_istore_n (L' := [(2, .int v1), (0, .ref (tc_ad G (t + 7))), (1, .int x1)]) tc_d1_remove_16 (by decide) rfl ?_
      refine tc_sub [1, 0] rfl ?_
      exact (tc_b1_remove_17 N ht N _ _ _) h
    · exact tc_vret tc_d1_remove_12 rfl (tc_rvS h)
theorem tc_c1_remove (N : Nat) {t : Nat} {x1 : Int32} {μ : tc_Mem} {z : Int32 × tc_Mem} (ht : tc_Yd t) (h : tc_f1_remove N t x1 μ = some z) : tc_Con l G tc_i1_remove [.ref (tc_ad G (t + 7)), .int x1] μ none z.2 :=
  tc_Con.of (L := [(0, .ref (tc_ad G (t + 7))), (1, .int x1)]) (by decide) (Nat.le_of_ble_eq_true rfl) rfl (fun X => tc_b1_remove_0 N ht _ _ _ h)
def tc_f1_removeAt_38 (N : Nat) (t : Nat) (x2 : Int32) (μ : tc_Mem) : Option (Int32 × tc_Mem) :=
  tc_lt ((μ (t + 7) 0) - x2) fun v1 =>
  tc_lt (tc_wr μ (t + 7) 0 x2) fun μ2 =>
  some (v1, μ2)
theorem tc_b1_removeAt_38 (N : Nat) {t : Nat} (ht : tc_Yd t) (x2 : Int32) (μ : tc_Mem) (z : Int32 × tc_Mem) (h : tc_f1_removeAt_38 N t x2 μ = some z) : tc_At l G tc_i1_removeAt (some (.int z.1)) z.2 X 38 [(0, .ref (tc_ad G (t + 7))), (2, .int x2)] [] μ := by
  unfold tc_f1_removeAt_38 at h
  refine tc_aload_n tc_d1_removeAt_38 0 rfl ?_
  refine tc_g1_0 tc_d1_removeAt_39 tc_w92 ht ?_
  refine tc_iload_n tc_d1_removeAt_42 1 rfl ?_
  refine tc_isub tc_d1_removeAt_43 ?_
  refine tc_ltI h (fun v1 h => ?_)
  refine tc_istore_n (L' := [(3, .int v1), (0, .ref (tc_ad G (t + 7))), (2, .int x2)]) tc_d1_removeAt_44 (by decide) rfl ?_
  refine tc_aload_n tc_d1_removeAt_45 1 rfl ?_
  refine tc_iload_n tc_d1_removeAt_46 2 rfl ?_
  refine tc_p1_0 tc_d1_removeAt_47 tc_w92 ht h (fun μ2 h => ?_)
  refine tc_iload_n tc_d1_removeAt_50 0 rfl ?_
  exact tc_iret tc_d1_removeAt_51 rfl (tc_riS h)
def tc_f1_removeAt_4 (N : Nat) (t : Nat) : Nat → Int32 → Int32 → Int32 → tc_Mem → Option (Int32 × tc_Mem)
  | 0 => fun _ _ _ _ => none
  | n + 1 => fun x1 x2 x3 μ => 
    if (μ (t + 7) 0) ≤ x3 then
      tc_f1_removeAt_38 N t x2 μ
    else
      tc_ck x3 15 (
      if (μ (t + 9) x3.toNatClampNeg) = x1 then
        tc_f1_removeAt_4 N t n x1 x2 (x3 + 1) μ
      else
        tc_bd (tc_f1_bringTo N t x2 t x3 μ) fun _ μ3 =>
        tc_f1_removeAt_4 N t n x1 (x2 + 1) (x3 + 1) μ3)
theorem tc_b1_removeAt_4 (N : Nat) {t : Nat} (ht : tc_Yd t) : ∀ (n : Nat) (x1 : Int32) (x2 : Int32) (x3 : Int32) (μ : tc_Mem) (z : Int32 × tc_Mem), tc_f1_removeAt_4 N t n x1 x2 x3 μ = some z → tc_At l G tc_i1_removeAt (some (.int z.1)) z.2 X 4 [(0, .ref (tc_ad G (t + 7))), (1, .int x1), (2, .int x2), (3, .int x3)] [] μ := by
  intro n
  induction n with
  | zero => intro x1 x2 x3 μ z h; cases h
  | succ n ih =>
    intro x1 x2 x3 μ z h
    rw [tc_f1_removeAt_4] at h
    refine tc_iload_n tc_d1_removeAt_4 3 rfl ?_
    refine tc_aload_n tc_d1_removeAt_5 0 rfl ?_
    refine tc_g1_0 tc_d1_removeAt_6 tc_w92 ht ?_
    refine tc_icmp_ge (tgt := 38) tc_d1_removeAt_9 (by decide) h (fun h => ?_) (fun h => ?_)
    · refine tc_sub [0, 2] rfl ?_
      exact (tc_b1_removeAt_38 N ht _ _ _) h
    · refine tc_aload_n tc_d1_removeAt_12 0 rfl ?_
      refine tc_g1_2 tc_d1_removeAt_13 tc_w98 ht ?_
      refine tc_iload_n tc_d1_removeAt_16 3 rfl ?_
      obtain ⟨hi1, h⟩ := tc_ckS h
      refine tc_iald tc_d1_removeAt_17 (tc_a5_9 ht) hi1 ?_
      refine tc_iload_n tc_d1_removeAt_18 1 rfl ?_
      refine tc_icmp_eq (tgt := 32) tc_d1_removeAt_19 (by decide) h (fun h => ?_) (fun h => ?_)
      · refine tc_iinc (v := (x3 + 1)) (L' := [(3, .int (x3 + 1)), (0, .ref (tc_ad G (t + 7))), (1, .int x1), (2, .int x2)]) tc_d1_removeAt_32 3 rfl rfl (by decide) rfl ?_
        refine tc_goto (tgt := 4) tc_d1_removeAt_35 (by decide) ?_
        refine tc_sub [1, 2, 3, 0] rfl ?_
        exact (ih _ _ _ _ _) h
      · refine tc_aload_n tc_d1_removeAt_22 0 rfl ?_
        refine tc_iload_n tc_d1_removeAt_23 2 rfl ?_
        refine tc_aload_n tc_d1_removeAt_24 0 rfl ?_
        refine tc_iload_n tc_d1_removeAt_25 3 rfl ?_
        obtain ⟨r2, μ3, e2, h⟩ := tc_bdS h
        have c2 := tc_c1_bringTo (l := l) (G := G) N ht ht e2
        refine tc_callVv (As := [.int x2, .ref (tc_ad G (t + 7)), .int x3]) (rest := []) (μ1 := μ3) tc_d1_removeAt_26 tc_ok1_bringTo tc_w325 ⟨Nat.le_of_ble_eq_true rfl, Nat.le_of_ble_eq_true rfl⟩ (tc_s1 ht) rfl c2 rfl rfl (Nat.le_of_ble_eq_true rfl) ?_
        refine tc_iinc (v := (x2 + 1)) (L' := [(2, .int (x2 + 1)), (0, .ref (tc_ad G (t + 7))), (1, .int x1), (3, .int x3)]) tc_d1_removeAt_29 2 rfl rfl (by decide) rfl ?_
        refine tc_iinc (v := (x3 + 1)) (L' := [(3, .int (x3 + 1)), (2, .int (x2 + 1)), (0, .ref (tc_ad G (t + 7))), (1, .int x1)]) tc_d1_removeAt_32 3 rfl rfl (by decide) rfl ?_
        refine tc_goto (tgt := 4) tc_d1_removeAt_35 (by decide) ?_
        refine tc_sub [2, 3, 1, 0] rfl ?_
        exact (ih _ _ _ _ _) h
def tc_f1_removeAt (N : Nat) (t : Nat) (x1 : Int32) (μ : tc_Mem) : Option (Int32 × tc_Mem) :=
  tc_f1_removeAt_4 N t N x1 0 0 μ
theorem tc_b1_removeAt_0 (N : Nat) {t : Nat} (ht : tc_Yd t) (x1 : Int32) (μ : tc_Mem) (z : Int32 × tc_Mem) (h : tc_f1_removeAt N t x1 μ = some z) : tc_At l G tc_i1_removeAt (some (.int z.1)) z.2 X 0 [(0, .ref (tc_ad G (t + 7))), (1, .int x1)] [] μ := by
  unfold tc_f1_removeAt at h
  refine tc_iconst (v := 0) tc_d1_removeAt_0 (by decide) ?_
  refine tc_istore_n (L' := [(2, .int 0), (0, .ref (tc_ad G (t + 7))), (1, .int x1)]) tc_d1_removeAt_1 (by decide) rfl ?_
  refine tc_iconst (v := 0) tc_d1_removeAt_2 (by decide) ?_
  refine tc_istore_n (L' := [(3, .int 0), (2, .int 0), (0, .ref (tc_ad G (t + 7))), (1, .int x1)]) tc_d1_removeAt_3 (by decide) rfl ?_
  refine tc_sub [2, 3, 1, 0] rfl ?_
  exact (tc_b1_removeAt_4 N ht N _ _ _ _ _) h
theorem tc_c1_removeAt (N : Nat) {t : Nat} {x1 : Int32} {μ : tc_Mem} {z : Int32 × tc_Mem} (ht : tc_Yd t) (h : tc_f1_removeAt N t x1 μ = some z) : tc_Con l G tc_i1_removeAt [.ref (tc_ad G (t + 7)), .int x1] μ (some (.int z.1)) z.2 :=
  tc_Con.of (L := [(0, .ref (tc_ad G (t + 7))), (1, .int x1)]) (by decide) (Nat.le_of_ble_eq_true rfl) rfl (fun X => tc_b1_removeAt_0 N ht _ _ _ h)
end WALK
