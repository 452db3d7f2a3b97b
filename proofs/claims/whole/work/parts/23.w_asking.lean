section WALK
variable {l : Launch} {G : tc_G} {X : tc_X}
def tc_f0_enter (N : Nat) (t : Nat) (x1 : Int32) (μ : tc_Mem) : Option (Int32 × tc_Mem) :=
  if ((μ t 5) &&& (1 <<< (x1 &&& 31))) = 0 then
    if (μ t 4) < 8 then
      tc_ck (((μ t 3) + (μ t 4)) - ((μ t 3) + (μ t 4)) / 8 * 8) 8 (
      tc_lt (tc_wr μ (t + 2) (((μ t 3) + (μ t 4)) - ((μ t 3) + (μ t 4)) / 8 * 8).toNatClampNeg x1) fun μ2 =>
      tc_lt (tc_wr μ2 t 4 ((μ2 t 4) + 1)) fun μ3 =>
      tc_lt (tc_wr μ3 t 5 ((μ3 t 5) ||| (1 <<< (x1 &&& 31)))) fun μ4 =>
      some (0, μ4))
    else
      some (0, μ)
  else
    some (0, μ)
theorem tc_b0_enter_0 (N : Nat) {t : Nat} (ht : tc_Ak t) (x1 : Int32) (μ : tc_Mem) (z : Int32 × tc_Mem) (h : tc_f0_enter N t x1 μ = some z) : tc_At l G tc_i0_enter none z.2 X 0 [(0, .ref (tc_ad G t)), (1, .int x1)] [] μ := by
  unfold tc_f0_enter at h
  refine tc_aload_n tc_d0_enter_0 0 rfl ?_
  refine tc_g0_5 tc_d0_enter_1 tc_w187 ht ?_
  refine tc_iconst (v := 1) tc_d0_enter_4 (by decide) ?_
  refine tc_iload_n tc_d0_enter_5 1 rfl ?_
  refine tc_ishl tc_d0_enter_6 ?_
  refine tc_iand tc_d0_enter_7 ?_
  refine tc_if_ne (tgt := 20) tc_d0_enter_8 (by decide) h (fun h => ?_) (fun h => ?_)
  · exact tc_vret tc_d0_enter_20 rfl (tc_rvS h)
  · refine tc_aload_n tc_d0_enter_11 0 rfl ?_
    refine tc_g0_4 tc_d0_enter_12 tc_w186 ht ?_
    refine tc_bipush (v := 8) tc_d0_enter_15 (by decide) ?_
    refine tc_icmp_lt (tgt := 21) tc_d0_enter_17 (by decide) h (fun h => ?_) (fun h => ?_)
    · refine tc_aload_n tc_d0_enter_21 0 rfl ?_
      refine tc_g0_2 tc_d0_enter_22 tc_w184 ht ?_
      refine tc_aload_n tc_d0_enter_25 0 rfl ?_
      refine tc_g0_3 tc_d0_enter_26 tc_w185 ht ?_
      refine tc_aload_n tc_d0_enter_29 0 rfl ?_
      refine tc_g0_4 tc_d0_enter_30 tc_w186 ht ?_
      refine tc_iadd tc_d0_enter_33 ?_
      refine tc_bipush (v := 8) tc_d0_enter_34 (by decide) ?_
      refine tc_irem tc_d0_enter_36 (by decide) ?_
      refine tc_iload_n tc_d0_enter_37 1 rfl ?_
      obtain ⟨hi1, h⟩ := tc_ckS h
      refine tc_iastL tc_d0_enter_38 (tc_a0_2 ht) hi1 h (fun μ2 h => ?_)
      refine tc_aload_n tc_d0_enter_39 0 rfl ?_
      refine tc_dup tc_d0_enter_40 rfl ?_
      refine tc_g0_4 tc_d0_enter_41 tc_w186 ht ?_
      refine tc_iconst (v := 1) tc_d0_enter_44 (by decide) ?_
      refine tc_iadd tc_d0_enter_45 ?_
      refine tc_p0_4 tc_d0_enter_46 tc_w186 ht h (fun μ3 h => ?_)
      refine tc_aload_n tc_d0_enter_49 0 rfl ?_
      refine tc_dup tc_d0_enter_50 rfl ?_
      refine tc_g0_5 tc_d0_enter_51 tc_w187 ht ?_
      refine tc_iconst (v := 1) tc_d0_enter_54 (by decide) ?_
      refine tc_iload_n tc_d0_enter_55 1 rfl ?_
      refine tc_ishl tc_d0_enter_56 ?_
      refine tc_ior tc_d0_enter_57 ?_
      refine tc_p0_5 tc_d0_enter_58 tc_w187 ht h (fun μ4 h => ?_)
      exact tc_vret tc_d0_enter_61 rfl (tc_rvS h)
    · exact tc_vret tc_d0_enter_20 rfl (tc_rvS h)
theorem tc_c0_enter (N : Nat) {t : Nat} {x1 : Int32} {μ : tc_Mem} {z : Int32 × tc_Mem} (ht : tc_Ak t) (h : tc_f0_enter N t x1 μ = some z) : tc_Con l G tc_i0_enter [.ref (tc_ad G t), .int x1] μ none z.2 :=
  tc_Con.of (L := [(0, .ref (tc_ad G t)), (1, .int x1)]) (by decide) (Nat.le_of_ble_eq_true rfl) rfl (fun X => tc_b0_enter_0 N ht _ _ _ h)
def tc_f0_enterAll_36 (N : Nat) (t : Nat) (k17 : Int32 → Int32 → Int32 → tc_Mem → Option (Int32 × tc_Mem)) (x1 : Int32) (x2 : Int32) (x3 : Int32) (s1 : Int32) (μ : tc_Mem) : Option (Int32 × tc_Mem) :=
  tc_bd (tc_f0_enter N t s1 μ) fun _ μ2 =>
  k17 x1 x2 (x3 + 1) μ2
theorem tc_b0_enterAll_36 (N : Nat) {t : Nat} (ht : tc_Ak t) {k17 : Int32 → Int32 → Int32 → tc_Mem → Option (Int32 × tc_Mem)} (H17 : ∀ (x1 : Int32) (x2 : Int32) (x3 : Int32) (μ : tc_Mem) (z : Int32 × tc_Mem), k17 x1 x2 x3 μ = some z → tc_At l G tc_i0_enterAll none z.2 X 17 [(0, .ref (tc_ad G t)), (1, .int x1), (2, .int x2), (3, .int x3)] [] μ) (x1 : Int32) (x2 : Int32) (x3 : Int32) (s1 : Int32) (μ : tc_Mem) (z : Int32 × tc_Mem) (h : tc_f0_enterAll_36 N t k17 x1 x2 x3 s1 μ = some z) : tc_At l G tc_i0_enterAll none z.2 X 36 [(0, .ref (tc_ad G t)), (1, .int x1), (2, .int x2), (3, .int x3)] [.int s1, .ref (tc_ad G t)] μ := by
  unfold tc_f0_enterAll_36 at h
  obtain ⟨r1, μ2, e1, h⟩ := tc_bdS h
  have c1 := tc_c0_enter (l := l) (G := G) N ht e1
  refine tc_callVv (As := [.int s1]) (rest := []) (μ1 := μ2) tc_d0_enterAll_36 tc_ok0_enter tc_w455 ⟨Nat.le_of_ble_eq_true rfl, Nat.le_of_ble_eq_true rfl⟩ (tc_s0 ht) rfl c1 rfl rfl (Nat.le_of_ble_eq_true rfl) ?_
  refine tc_iinc (v := (x3 + 1)) (L' := [(3, .int (x3 + 1)), (0, .ref (tc_ad G t)), (1, .int x1), (2, .int x2)]) tc_d0_enterAll_39 3 rfl rfl (by decide) rfl ?_
  refine tc_goto (tgt := 17) tc_d0_enterAll_42 (by decide) ?_
  refine tc_sub [1, 2, 3, 0] rfl ?_
  exact (H17 _ _ _ _ _) h
def tc_f0_enterAll_17 (N : Nat) (t : Nat) : Nat → Int32 → Int32 → Int32 → tc_Mem → Option (Int32 × tc_Mem)
  | 0 => fun _ _ _ _ => none
  | n + 1 => fun x1 x2 x3 μ => 
    if x1 ≤ x3 then
      some (0, μ)
    else
      if x2 = 0 then
        tc_f0_enterAll_36 N t (tc_f0_enterAll_17 N t n) x1 x2 x3 x3 μ
      else
        tc_f0_enterAll_36 N t (tc_f0_enterAll_17 N t n) x1 x2 x3 ((x1 - 1) - x3) μ
theorem tc_b0_enterAll_17 (N : Nat) {t : Nat} (ht : tc_Ak t) : ∀ (n : Nat) (x1 : Int32) (x2 : Int32) (x3 : Int32) (μ : tc_Mem) (z : Int32 × tc_Mem), tc_f0_enterAll_17 N t n x1 x2 x3 μ = some z → tc_At l G tc_i0_enterAll none z.2 X 17 [(0, .ref (tc_ad G t)), (1, .int x1), (2, .int x2), (3, .int x3)] [] μ := by
  intro n
  induction n with
  | zero => intro x1 x2 x3 μ z h; cases h
  | succ n ih =>
    intro x1 x2 x3 μ z h
    rw [tc_f0_enterAll_17] at h
    refine tc_iload_n tc_d0_enterAll_17 3 rfl ?_
    refine tc_iload_n tc_d0_enterAll_18 1 rfl ?_
    refine tc_icmp_ge (tgt := 45) tc_d0_enterAll_19 (by decide) h (fun h => ?_) (fun h => ?_)
    · exact tc_vret tc_d0_enterAll_45 rfl (tc_rvS h)
    · refine tc_aload_n tc_d0_enterAll_22 0 rfl ?_
      refine tc_iload_n tc_d0_enterAll_23 2 rfl ?_
      refine tc_if_eq (tgt := 35) tc_d0_enterAll_24 (by decide) h (fun h => ?_) (fun h => ?_)
      · refine tc_iload_n tc_d0_enterAll_35 3 rfl ?_
        exact (tc_b0_enterAll_36 N ht ih _ _ _ _ _ _) h
      · refine tc_iload_n tc_d0_enterAll_27 1 rfl ?_
        refine tc_iconst (v := 1) tc_d0_enterAll_28 (by decide) ?_
        refine tc_isub tc_d0_enterAll_29 ?_
        refine tc_iload_n tc_d0_enterAll_30 3 rfl ?_
        refine tc_isub tc_d0_enterAll_31 ?_
        refine tc_goto (tgt := 36) tc_d0_enterAll_32 (by decide) ?_
        exact (tc_b0_enterAll_36 N ht ih _ _ _ _ _ _) h
def tc_f0_enterAll (N : Nat) (t : Nat) (x1 : Int32) (x2 : Int32) (μ : tc_Mem) : Option (Int32 × tc_Mem) :=
  tc_lt (tc_wr μ t 3 0) fun μ1 =>
  tc_lt (tc_wr μ1 t 4 0) fun μ2 =>
  tc_lt (tc_wr μ2 t 5 0) fun μ3 =>
  tc_f0_enterAll_17 N t N x1 x2 0 μ3
theorem tc_b0_enterAll_0 (N : Nat) {t : Nat} (ht : tc_Ak t) (x1 : Int32) (x2 : Int32) (μ : tc_Mem) (z : Int32 × tc_Mem) (h : tc_f0_enterAll N t x1 x2 μ = some z) : tc_At l G tc_i0_enterAll none z.2 X 0 [(0, .ref (tc_ad G t)), (1, .int x1), (2, .int x2)] [] μ := by
  unfold tc_f0_enterAll at h
  refine tc_aload_n tc_d0_enterAll_0 0 rfl ?_
  refine tc_iconst (v := 0) tc_d0_enterAll_1 (by decide) ?_
  refine tc_p0_3 tc_d0_enterAll_2 tc_w185 ht h (fun μ1 h => ?_)
  refine tc_aload_n tc_d0_enterAll_5 0 rfl ?_
  refine tc_iconst (v := 0) tc_d0_enterAll_6 (by decide) ?_
  refine tc_p0_4 tc_d0_enterAll_7 tc_w186 ht h (fun μ2 h => ?_)
  refine tc_aload_n tc_d0_enterAll_10 0 rfl ?_
  refine tc_iconst (v := 0) tc_d0_enterAll_11 (by decide) ?_
  refine tc_p0_5 tc_d0_enterAll_12 tc_w187 ht h (fun μ3 h => ?_)
  refine tc_iconst (v := 0) tc_d0_enterAll_15 (by decide) ?_
  refine tc_istore_n (L' := [(3, .int 0), (0, .ref (tc_ad G t)), (1, .int x1), (2, .int x2)]) tc_d0_enterAll_16 (by decide) rfl ?_
  refine tc_sub [1, 2, 3, 0] rfl ?_
  exact (tc_b0_enterAll_17 N ht N _ _ _ _ _) h
theorem tc_c0_enterAll (N : Nat) {t : Nat} {x1 : Int32} {x2 : Int32} {μ : tc_Mem} {z : Int32 × tc_Mem} (ht : tc_Ak t) (h : tc_f0_enterAll N t x1 x2 μ = some z) : tc_Con l G tc_i0_enterAll [.ref (tc_ad G t), .int x1, .int x2] μ none z.2 :=
  tc_Con.of (L := [(0, .ref (tc_ad G t)), (1, .int x1), (2, .int x2)]) (by decide) (Nat.le_of_ble_eq_true rfl) rfl (fun X => tc_b0_enterAll_0 N ht _ _ _ _ h)
def tc_f0_enterBeside_18 (N : Nat) (t : Nat) (u : Nat) (x2 : Int32) (μ : tc_Mem) : Option (Int32 × tc_Mem) :=
  tc_bd (tc_f5_looks N u (x2 + 1) 1 μ) fun r1 μ2 =>
  if r1 = 0 then
    some (0, μ2)
  else
    tc_bd (tc_f0_enter N t (x2 + 1) μ2) fun _ μ4 =>
    some (0, μ4)
theorem tc_b0_enterBeside_18 (N : Nat) {t : Nat} {u : Nat} (ht : tc_Ak t) (hu : tc_Yd u) (x2 : Int32) (μ : tc_Mem) (z : Int32 × tc_Mem) (h : tc_f0_enterBeside_18 N t u x2 μ = some z) : tc_At l G tc_i0_enterBeside none z.2 X 18 [(0, .ref (tc_ad G t)), (1, .ref (tc_ad G u)), (2, .int x2)] [] μ := by
  unfold tc_f0_enterBeside_18 at h
  refine tc_aload_n tc_d0_enterBeside_18 1 rfl ?_
  refine tc_iload_n tc_d0_enterBeside_19 2 rfl ?_
  refine tc_iconst (v := 1) tc_d0_enterBeside_20 (by decide) ?_
  refine tc_iadd tc_d0_enterBeside_21 ?_
  refine tc_iconst (v := 1) tc_d0_enterBeside_22 (by decide) ?_
  obtain ⟨r1, μ2, e1, h⟩ := tc_bdS h
  have c1 := tc_c5_looks (l := l) (G := G) N hu e1
  refine tc_callVi (As := [.int (x2 + 1), .int 1]) (rest := []) (r1 := r1) (μ1 := μ2) tc_d0_enterBeside_23 tc_ok5_looks tc_w481 ⟨Nat.le_of_ble_eq_true rfl, Nat.le_of_ble_eq_true rfl⟩ (tc_s5 hu) rfl c1 rfl rfl (Nat.le_of_ble_eq_true rfl) ?_
  refine tc_if_eq (tgt := 36) tc_d0_enterBeside_26 (by decide) h (fun h => ?_) (fun h => ?_)
  · exact tc_vret tc_d0_enterBeside_36 rfl (tc_rvS h)
  · refine tc_aload_n tc_d0_enterBeside_29 0 rfl ?_
    refine tc_iload_n tc_d0_enterBeside_30 2 rfl ?_
    refine tc_iconst (v := 1) tc_d0_enterBeside_31 (by decide) ?_
    refine tc_iadd tc_d0_enterBeside_32 ?_
    obtain ⟨r3, μ4, e3, h⟩ := tc_bdS h
    have c3 := tc_c0_enter (l := l) (G := G) N ht e3
    refine tc_callVv (As := [.int (x2 + 1)]) (rest := []) (μ1 := μ4) tc_d0_enterBeside_33 tc_ok0_enter tc_w455 ⟨Nat.le_of_ble_eq_true rfl, Nat.le_of_ble_eq_true rfl⟩ (tc_s0 ht) rfl c3 rfl rfl (Nat.le_of_ble_eq_true rfl) ?_
    exact tc_vret tc_d0_enterBeside_36 rfl (tc_rvS h)
def tc_f0_enterBeside (N : Nat) (t : Nat) (u : Nat) (x2 : Int32) (μ : tc_Mem) : Option (Int32 × tc_Mem) :=
  tc_bd (tc_f5_looks N u (x2 - 1) 2 μ) fun r1 μ2 =>
  if r1 = 0 then
    tc_f0_enterBeside_18 N t u x2 μ2
  else
    tc_bd (tc_f0_enter N t (x2 - 1) μ2) fun _ μ4 =>
    tc_f0_enterBeside_18 N t u x2 μ4
theorem tc_b0_enterBeside_0 (N : Nat) {t : Nat} {u : Nat} (ht : tc_Ak t) (hu : tc_Yd u) (x2 : Int32) (μ : tc_Mem) (z : Int32 × tc_Mem) (h : tc_f0_enterBeside N t u x2 μ = some z) : tc_At l G tc_i0_enterBeside none z.2 X 0 [(0, .ref (tc_ad G t)), (1, .ref (tc_ad G u)), (2, .int x2)] [] μ := by
  unfold tc_f0_enterBeside at h
  refine tc_aload_n tc_d0_enterBeside_0 1 rfl ?_
  refine tc_iload_n tc_d0_enterBeside_1 2 rfl ?_
  refine tc_iconst (v := 1) tc_d0_enterBeside_2 (by decide) ?_
  refine tc_isub tc_d0_enterBeside_3 ?_
  refine tc_iconst (v := 2) tc_d0_enterBeside_4 (by decide) ?_
  obtain ⟨r1, μ2, e1, h⟩ := tc_bdS h
  have c1 := tc_c5_looks (l := l) (G := G) N hu e1
  refine tc_callVi (As := [.int (x2 - 1), .int 2]) (rest := []) (r1 := r1) (μ1 := μ2) tc_d0_enterBeside_5 tc_ok5_looks tc_w481 ⟨Nat.le_of_ble_eq_true rfl, Nat.le_of_ble_eq_true rfl⟩ (tc_s5 hu) rfl c1 rfl rfl (Nat.le_of_ble_eq_true rfl) ?_
  refine tc_if_eq (tgt := 18) tc_d0_enterBeside_8 (by decide) h (fun h => ?_) (fun h => ?_)
  · exact (tc_b0_enterBeside_18 N ht hu _ _ _) h
  · refine tc_aload_n tc_d0_enterBeside_11 0 rfl ?_
    refine tc_iload_n tc_d0_enterBeside_12 2 rfl ?_
    refine tc_iconst (v := 1) tc_d0_enterBeside_13 (by decide) ?_
    refine tc_isub tc_d0_enterBeside_14 ?_
    obtain ⟨r3, μ4, e3, h⟩ := tc_bdS h
    have c3 := tc_c0_enter (l := l) (G := G) N ht e3
    refine tc_callVv (As := [.int (x2 - 1)]) (rest := []) (μ1 := μ4) tc_d0_enterBeside_15 tc_ok0_enter tc_w455 ⟨Nat.le_of_ble_eq_true rfl, Nat.le_of_ble_eq_true rfl⟩ (tc_s0 ht) rfl c3 rfl rfl (Nat.le_of_ble_eq_true rfl) ?_
    exact (tc_b0_enterBeside_18 N ht hu _ _ _) h
theorem tc_c0_enterBeside (N : Nat) {t : Nat} {u : Nat} {x2 : Int32} {μ : tc_Mem} {z : Int32 × tc_Mem} (ht : tc_Ak t) (hu : tc_Yd u) (h : tc_f0_enterBeside N t u x2 μ = some z) : tc_Con l G tc_i0_enterBeside [.ref (tc_ad G t), .ref (tc_ad G u), .int x2] μ none z.2 :=
  tc_Con.of (L := [(0, .ref (tc_ad G t)), (1, .ref (tc_ad G u)), (2, .int x2)]) (by decide) (Nat.le_of_ble_eq_true rfl) rfl (fun X => tc_b0_enterBeside_0 N ht hu _ _ _ h)
def tc_f0_takeFirst (N : Nat) (t : Nat) (μ : tc_Mem) : Option (Int32 × tc_Mem) :=
  tc_ck (μ t 3) 8 (
  tc_lt (μ (t + 2) (μ t 3).toNatClampNeg) fun v2 =>
  tc_lt (tc_wr μ t 3 (((μ t 3) + 1) - ((μ t 3) + 1) / 8 * 8)) fun μ3 =>
  tc_lt (tc_wr μ3 t 4 ((μ3 t 4) - 1)) fun μ4 =>
  tc_lt (tc_wr μ4 t 5 ((μ4 t 5) &&& ((1 <<< (v2 &&& 31)) ^^^ (-1)))) fun μ5 =>
  some (v2, μ5))
theorem tc_b0_takeFirst_0 (N : Nat) {t : Nat} (ht : tc_Ak t) (μ : tc_Mem) (z : Int32 × tc_Mem) (h : tc_f0_takeFirst N t μ = some z) : tc_At l G tc_i0_takeFirst (some (.int z.1)) z.2 X 0 [(0, .ref (tc_ad G t))] [] μ := by
  unfold tc_f0_takeFirst at h
  refine tc_aload_n tc_d0_takeFirst_0 0 rfl ?_
  refine tc_g0_2 tc_d0_takeFirst_1 tc_w184 ht ?_
  refine tc_aload_n tc_d0_takeFirst_4 0 rfl ?_
  refine tc_g0_3 tc_d0_takeFirst_5 tc_w185 ht ?_
  obtain ⟨hi1, h⟩ := tc_ckS h
  refine tc_iald tc_d0_takeFirst_8 (tc_a0_2 ht) hi1 ?_
  refine tc_ltI h (fun v2 h => ?_)
  refine tc_istore_n (L' := [(1, .int v2), (0, .ref (tc_ad G t))]) tc_d0_takeFirst_9 (by decide) rfl ?_
  refine tc_aload_n tc_d0_takeFirst_10 1 rfl ?_
  refine tc_aload_n tc_d0_takeFirst_11 1 rfl ?_
  refine tc_g0_3 tc_d0_takeFirst_12 tc_w185 ht ?_
  refine tc_iconst (v := 1) tc_d0_takeFirst_15 (by decide) ?_
  refine tc_iadd tc_d0_takeFirst_16 ?_
  refine tc_bipush (v := 8) tc_d0_takeFirst_17 (by decide) ?_
  refine tc_irem tc_d0_takeFirst_19 (by decide) ?_
  refine tc_p0_3 tc_d0_takeFirst_20 tc_w185 ht h (fun μ3 h => ?_)
  refine tc_aload_n tc_d0_takeFirst_23 1 rfl ?_
  refine tc_dup tc_d0_takeFirst_24 rfl ?_
  refine tc_g0_4 tc_d0_takeFirst_25 tc_w186 ht ?_
  refine tc_iconst (v := 1) tc_d0_takeFirst_28 (by decide) ?_
  refine tc_isub tc_d0_takeFirst_29 ?_
  refine tc_p0_4 tc_d0_takeFirst_30 tc_w186 ht h (fun μ4 h => ?_)
  refine tc_aload_n tc_d0_takeFirst_33 1 rfl ?_
  refine tc_dup tc_d0_takeFirst_34 rfl ?_
  refine tc_g0_5 tc_d0_takeFirst_35 tc_w187 ht ?_
  refine tc_iconst (v := 1) tc_d0_takeFirst_38 (by decide) ?_
  refine tc_iload_n tc_d0_takeFirst_39 0 rfl ?_
  refine tc_ishl tc_d0_takeFirst_40 ?_
  refine tc_iconst (v := (-1)) tc_d0_takeFirst_41 (by decide) ?_
  refine tc_ixor tc_d0_takeFirst_42 ?_
  refine tc_iand tc_d0_takeFirst_43 ?_
  refine tc_p0_5 tc_d0_takeFirst_44 tc_w187 ht h (fun μ5 h => ?_)
  refine tc_iload_n tc_d0_takeFirst_47 0 rfl ?_
  exact tc_iret tc_d0_takeFirst_48 rfl (tc_riS h)
theorem tc_c0_takeFirst (N : Nat) {t : Nat} {μ : tc_Mem} {z : Int32 × tc_Mem} (ht : tc_Ak t) (h : tc_f0_takeFirst N t μ = some z) : tc_Con l G tc_i0_takeFirst [.ref (tc_ad G t)] μ (some (.int z.1)) z.2 :=
  tc_Con.of (L := [(0, .ref (tc_ad G t))]) (by decide) (Nat.le_of_ble_eq_true rfl) rfl (fun X => tc_b0_takeFirst_0 N ht _ _ h)
def tc_f0_settles_132 (N : Nat) (t : Nat) (u : Nat) (k26 : Int32 → Int32 → tc_Mem → Option (Int32 × tc_Mem)) (x3 : Int32) (x4 : Int32) (x5 : Int32) (s1 : Int32) (s2 : Int32) (s3 : Int32) (μ : tc_Mem) : Option (Int32 × tc_Mem) :=
  tc_ck s1 40 (
  tc_lt (tc_wr μ (t + 1) s1.toNatClampNeg (s2 + s3)) fun μ2 =>
  tc_lt (tc_wr μ2 t 1 ((μ2 t 1) + 1)) fun μ3 =>
  tc_bd (tc_f0_enterBeside N t u x5 μ3) fun _ μ5 =>
  k26 x3 (x4 + 1) μ5)
theorem tc_b0_settles_132 (N : Nat) {t : Nat} {u : Nat} (ht : tc_Ak t) (hu : tc_Yd u) {k26 : Int32 → Int32 → tc_Mem → Option (Int32 × tc_Mem)} (H26 : ∀ (x3 : Int32) (x4 : Int32) (μ : tc_Mem) (z : Int32 × tc_Mem), k26 x3 x4 μ = some z → tc_At l G tc_i0_settles (some (.int z.1)) z.2 X 26 [(0, .ref (tc_ad G t)), (1, .ref (tc_ad G u)), (3, .int x3), (4, .int x4)] [] μ) (x3 : Int32) (x4 : Int32) (x5 : Int32) (s1 : Int32) (s2 : Int32) (s3 : Int32) (μ : tc_Mem) (z : Int32 × tc_Mem) (h : tc_f0_settles_132 N t u k26 x3 x4 x5 s1 s2 s3 μ = some z) : tc_At l G tc_i0_settles (some (.int z.1)) z.2 X 132 [(0, .ref (tc_ad G t)), (1, .ref (tc_ad G u)), (3, .int x3), (4, .int x4), (5, .int x5)] [.int s3, .int s2, .int s1, .ref (tc_ad G (t + 1))] μ := by
  unfold tc_f0_settles_132 at h
  refine tc_iadd tc_d0_settles_132 ?_
  obtain ⟨hi1, h⟩ := tc_ckS h
  refine tc_iastL tc_d0_settles_133 (tc_a0_1 ht) hi1 h (fun μ2 h => ?_)
  refine tc_aload_n tc_d0_settles_134 0 rfl ?_
  refine tc_dup tc_d0_settles_135 rfl ?_
  refine tc_g0_1 tc_d0_settles_136 tc_w182 ht ?_
  refine tc_iconst (v := 1) tc_d0_settles_139 (by decide) ?_
  refine tc_iadd tc_d0_settles_140 ?_
  refine tc_p0_1 tc_d0_settles_141 tc_w182 ht h (fun μ3 h => ?_)
  refine tc_aload_n tc_d0_settles_144 0 rfl ?_
  refine tc_aload_n tc_d0_settles_145 1 rfl ?_
  refine tc_iload tc_d0_settles_146 4 rfl ?_
  obtain ⟨r4, μ5, e4, h⟩ := tc_bdS h
  have c4 := tc_c0_enterBeside (l := l) (G := G) N ht hu e4
  refine tc_callVv (As := [.ref (tc_ad G u), .int x5]) (rest := []) (μ1 := μ5) tc_d0_settles_148 tc_ok0_enterBeside tc_w477 ⟨Nat.le_of_ble_eq_true rfl, Nat.le_of_ble_eq_true rfl⟩ (tc_s0 ht) rfl c4 rfl rfl (Nat.le_of_ble_eq_true rfl) ?_
  refine tc_iinc (v := (x4 + 1)) (L' := [(4, .int (x4 + 1)), (0, .ref (tc_ad G t)), (1, .ref (tc_ad G u)), (3, .int x3), (5, .int x5)]) tc_d0_settles_151 3 rfl rfl (by decide) rfl ?_
  refine tc_goto (tgt := 26) tc_d0_settles_154 (by decide) ?_
  refine tc_sub [1, 2, 3, 0] rfl ?_
  exact (H26 _ _ _ _) h
def tc_f0_settles_87 (N : Nat) (t : Nat) (u : Nat) (x3 : Int32) (μ : tc_Mem) : Option (Int32 × tc_Mem) :=
  tc_lt (tc_wr μ u 8 x3) fun μ1 =>
  some (0, μ1)
theorem tc_b0_settles_87 (N : Nat) {t : Nat} {u : Nat} (ht : tc_Ak t) (hu : tc_Yd u) (x3 : Int32) (μ : tc_Mem) (z : Int32 × tc_Mem) (h : tc_f0_settles_87 N t u x3 μ = some z) : tc_At l G tc_i0_settles (some (.int z.1)) z.2 X 87 [(1, .ref (tc_ad G u)), (3, .int x3)] [] μ := by
  unfold tc_f0_settles_87 at h
  refine tc_aload_n tc_d0_settles_87 0 rfl ?_
  refine tc_iload_n tc_d0_settles_88 1 rfl ?_
  refine tc_p5_8 tc_d0_settles_89 tc_w135 hu h (fun μ1 h => ?_)
  refine tc_iconst (v := 0) tc_d0_settles_92 (by decide) ?_
  exact tc_zret tc_d0_settles_93 rfl (by decide) (tc_riS h)
def tc_f0_settles_72 (N : Nat) (t : Nat) (u : Nat) (k26 : Int32 → Int32 → tc_Mem → Option (Int32 × tc_Mem)) (x3 : Int32) (x4 : Int32) (x5 : Int32) (x6 : Int32) (s0 : Int32) (s1 : Int32) (μ : tc_Mem) : Option (Int32 × tc_Mem) :=
  if s0 = s1 then
    k26 x3 (x4 + 1) μ
  else
    if (μ t 1) < 40 then
      tc_bd (tc_f6_withBit N (μ u 8) x5 x6 μ) fun r1 μ2 =>
      tc_lt (tc_wr μ2 u 8 r1) fun μ3 =>
      if x6 = 0 then
        tc_f0_settles_132 N t u k26 x3 x4 x5 (μ3 t 1) (10 * x5) 0 μ3
      else
        tc_f0_settles_132 N t u k26 x3 x4 x5 (μ3 t 1) (10 * x5) 1 μ3
    else
      tc_f0_settles_87 N t u x3 μ
theorem tc_b0_settles_72 (N : Nat) {t : Nat} {u : Nat} (ht : tc_Ak t) (hu : tc_Yd u) {k26 : Int32 → Int32 → tc_Mem → Option (Int32 × tc_Mem)} (H26 : ∀ (x3 : Int32) (x4 : Int32) (μ : tc_Mem) (z : Int32 × tc_Mem), k26 x3 x4 μ = some z → tc_At l G tc_i0_settles (some (.int z.1)) z.2 X 26 [(0, .ref (tc_ad G t)), (1, .ref (tc_ad G u)), (3, .int x3), (4, .int x4)] [] μ) (x3 : Int32) (x4 : Int32) (x5 : Int32) (x6 : Int32) (s0 : Int32) (s1 : Int32) (μ : tc_Mem) (z : Int32 × tc_Mem) (h : tc_f0_settles_72 N t u k26 x3 x4 x5 x6 s0 s1 μ = some z) : tc_At l G tc_i0_settles (some (.int z.1)) z.2 X 72 [(0, .ref (tc_ad G t)), (1, .ref (tc_ad G u)), (3, .int x3), (4, .int x4), (5, .int x5), (6, .int x6)] [.int s1, .int s0] μ := by
  unfold tc_f0_settles_72 at h
  refine tc_icmp_ne (tgt := 78) tc_d0_settles_72 (by decide) h (fun h => ?_) (fun h => ?_)
  · refine tc_aload_n tc_d0_settles_78 0 rfl ?_
    refine tc_g0_1 tc_d0_settles_79 tc_w182 ht ?_
    refine tc_bipush (v := 40) tc_d0_settles_82 (by decide) ?_
    refine tc_icmp_lt (tgt := 94) tc_d0_settles_84 (by decide) h (fun h => ?_) (fun h => ?_)
    · refine tc_aload_n tc_d0_settles_94 1 rfl ?_
      refine tc_aload_n tc_d0_settles_95 1 rfl ?_
      refine tc_g5_8 tc_d0_settles_96 tc_w135 hu ?_
      refine tc_iload tc_d0_settles_99 4 rfl ?_
      refine tc_iload tc_d0_settles_101 5 rfl ?_
      obtain ⟨r1, μ2, e1, h⟩ := tc_bdS h
      have c1 := tc_c6_withBit (l := l) (G := G) N e1
      refine tc_callNi (host := "TrackCircuits") (As := [.int (μ u 8), .int x5, .int x6]) (rest := [.ref (tc_ad G u)]) (r1 := r1) (μ1 := μ2) tc_d0_settles_103 tc_ok6_withBit (fun U h9 => h9.2.1) ⟨Nat.le_of_ble_eq_true rfl, Nat.le_of_ble_eq_true rfl⟩ c1 rfl rfl (Nat.le_of_ble_eq_true rfl) ?_
      refine tc_p5_8 tc_d0_settles_106 tc_w135 hu h (fun μ3 h => ?_)
      refine tc_aload_n tc_d0_settles_109 0 rfl ?_
      refine tc_g0_0 tc_d0_settles_110 tc_w179 ht ?_
      refine tc_aload_n tc_d0_settles_113 0 rfl ?_
      refine tc_g0_1 tc_d0_settles_114 tc_w182 ht ?_
      refine tc_bipush (v := 10) tc_d0_settles_117 (by decide) ?_
      refine tc_iload tc_d0_settles_119 4 rfl ?_
      refine tc_imul tc_d0_settles_121 ?_
      refine tc_iload tc_d0_settles_122 5 rfl ?_
      refine tc_if_eq (tgt := 131) tc_d0_settles_124 (by decide) h (fun h => ?_) (fun h => ?_)
      · refine tc_iconst (v := 0) tc_d0_settles_131 (by decide) ?_
        refine tc_sub [0, 1, 2, 3, 4] rfl ?_
        exact (tc_b0_settles_132 N ht hu H26 _ _ _ _ _ _ _ _) h
      · refine tc_iconst (v := 1) tc_d0_settles_127 (by decide) ?_
        refine tc_goto (tgt := 132) tc_d0_settles_128 (by decide) ?_
        refine tc_sub [0, 1, 2, 3, 4] rfl ?_
        exact (tc_b0_settles_132 N ht hu H26 _ _ _ _ _ _ _ _) h
    · refine tc_sub [1, 2] rfl ?_
      exact (tc_b0_settles_87 N ht hu _ _ _) h
  · refine tc_goto (tgt := 151) tc_d0_settles_75 (by decide) ?_
    refine tc_iinc (v := (x4 + 1)) (L' := [(4, .int (x4 + 1)), (0, .ref (tc_ad G t)), (1, .ref (tc_ad G u)), (3, .int x3), (5, .int x5), (6, .int x6)]) tc_d0_settles_151 3 rfl rfl (by decide) rfl ?_
    refine tc_goto (tgt := 26) tc_d0_settles_154 (by decide) ?_
    refine tc_sub [1, 2, 3, 0] rfl ?_
    exact (H26 _ _ _ _) h
def tc_f0_settles_26 (N : Nat) (t : Nat) (u : Nat) : Nat → Int32 → Int32 → tc_Mem → Option (Int32 × tc_Mem)
  | 0 => fun _ _ _ => none
  | n + 1 => fun x3 x4 μ => 
    if (1000 : Int32) ≤ x4 then
      some (1, μ)
    else
      if (μ t 4) ≤ 0 then
        some (1, μ)
      else
        tc_bd (tc_f0_takeFirst N t μ) fun r1 μ2 =>
        tc_bd (tc_f5_goesUp N u r1 μ2) fun r3 μ4 =>
        tc_bd (tc_f5_relay N u r1 μ4) fun r5 μ6 =>
        if r5 = 1 then
          tc_f0_settles_72 N t u (tc_f0_settles_26 N t u n) x3 x4 r1 r3 r3 1 μ6
        else
          tc_f0_settles_72 N t u (tc_f0_settles_26 N t u n) x3 x4 r1 r3 r3 0 μ6
theorem tc_b0_settles_26 (N : Nat) {t : Nat} {u : Nat} (ht : tc_Ak t) (hu : tc_Yd u) : ∀ (n : Nat) (x3 : Int32) (x4 : Int32) (μ : tc_Mem) (z : Int32 × tc_Mem), tc_f0_settles_26 N t u n x3 x4 μ = some z → tc_At l G tc_i0_settles (some (.int z.1)) z.2 X 26 [(0, .ref (tc_ad G t)), (1, .ref (tc_ad G u)), (3, .int x3), (4, .int x4)] [] μ := by
  intro n
  induction n with
  | zero => intro x3 x4 μ z h; cases h
  | succ n ih =>
    intro x3 x4 μ z h
    rw [tc_f0_settles_26] at h
    refine tc_iload tc_d0_settles_26 3 rfl ?_
    refine tc_sipush (v := 1000) tc_d0_settles_28 (by decide) ?_
    refine tc_icmp_ge (tgt := 157) tc_d0_settles_31 (by decide) h (fun h => ?_) (fun h => ?_)
    · refine tc_iconst (v := 1) tc_d0_settles_157 (by decide) ?_
      exact tc_zret tc_d0_settles_158 rfl (by decide) (tc_riS h)
    · refine tc_aload_n tc_d0_settles_34 0 rfl ?_
      refine tc_g0_4 tc_d0_settles_35 tc_w186 ht ?_
      refine tc_if_le (tgt := 157) tc_d0_settles_38 (by decide) h (fun h => ?_) (fun h => ?_)
      · refine tc_iconst (v := 1) tc_d0_settles_157 (by decide) ?_
        exact tc_zret tc_d0_settles_158 rfl (by decide) (tc_riS h)
      · refine tc_aload_n tc_d0_settles_41 0 rfl ?_
        obtain ⟨r1, μ2, e1, h⟩ := tc_bdS h
        have c1 := tc_c0_takeFirst (l := l) (G := G) N ht e1
        refine tc_callVi (As := []) (rest := []) (r1 := r1) (μ1 := μ2) tc_d0_settles_42 tc_ok0_takeFirst tc_w459 ⟨Nat.le_of_ble_eq_true rfl, Nat.le_of_ble_eq_true rfl⟩ (tc_s0 ht) rfl c1 rfl rfl (Nat.le_of_ble_eq_true rfl) ?_
        refine tc_istore (L' := [(5, .int r1), (0, .ref (tc_ad G t)), (1, .ref (tc_ad G u)), (3, .int x3), (4, .int x4)]) tc_d0_settles_45 (by decide) rfl ?_
        refine tc_aload_n tc_d0_settles_47 2 rfl ?_
        refine tc_iload tc_d0_settles_48 0 rfl ?_
        obtain ⟨r3, μ4, e3, h⟩ := tc_bdS h
        have c3 := tc_c5_goesUp (l := l) (G := G) N hu e3
        refine tc_callVi (As := [.int r1]) (rest := []) (r1 := r3) (μ1 := μ4) tc_d0_settles_50 tc_ok5_goesUp tc_w463 ⟨Nat.le_of_ble_eq_true rfl, Nat.le_of_ble_eq_true rfl⟩ (tc_s5 hu) rfl c3 rfl rfl (Nat.le_of_ble_eq_true rfl) ?_
        refine tc_istore (L' := [(6, .int r3), (5, .int r1), (0, .ref (tc_ad G t)), (1, .ref (tc_ad G u)), (3, .int x3), (4, .int x4)]) tc_d0_settles_53 (by decide) rfl ?_
        refine tc_iload tc_d0_settles_55 0 rfl ?_
        refine tc_aload_n tc_d0_settles_57 3 rfl ?_
        refine tc_iload tc_d0_settles_58 1 rfl ?_
        obtain ⟨r5, μ6, e5, h⟩ := tc_bdS h
        have c5 := tc_c5_relay (l := l) (G := G) N hu e5
        refine tc_callVi (As := [.int r1]) (rest := [.int r3]) (r1 := r5) (μ1 := μ6) tc_d0_settles_60 tc_ok5_relay tc_w475 ⟨Nat.le_of_ble_eq_true rfl, Nat.le_of_ble_eq_true rfl⟩ (tc_s5 hu) rfl c5 rfl rfl (Nat.le_of_ble_eq_true rfl) ?_
        refine tc_iconst (v := 1) tc_d0_settles_63 (by decide) ?_
        refine tc_icmp_ne (tgt := 71) tc_d0_settles_64 (by decide) h (fun h => ?_) (fun h => ?_)
        · refine tc_iconst (v := 0) tc_d0_settles_71 (by decide) ?_
          refine tc_sub [2, 3, 4, 5, 1, 0] rfl ?_
          exact (tc_b0_settles_72 N ht hu ih _ _ _ _ _ _ _ _) h
        · refine tc_iconst (v := 1) tc_d0_settles_67 (by decide) ?_
          refine tc_goto (tgt := 72) tc_d0_settles_68 (by decide) ?_
          refine tc_sub [2, 3, 4, 5, 1, 0] rfl ?_
          exact (tc_b0_settles_72 N ht hu ih _ _ _ _ _ _ _ _) h
def tc_f0_settles (N : Nat) (t : Nat) (u : Nat) (x2 : Int32) (μ : tc_Mem) : Option (Int32 × tc_Mem) :=
  tc_lt (μ u 8) fun v1 =>
  tc_bd (tc_f5_measure N u μ) fun _ μ3 =>
  tc_lt (tc_wr μ3 t 1 0) fun μ4 =>
  tc_bd (tc_f0_enterAll N t (μ4 u 0) x2 μ4) fun _ μ6 =>
  tc_f0_settles_26 N t u N v1 0 μ6
theorem tc_b0_settles_0 (N : Nat) {t : Nat} {u : Nat} (ht : tc_Ak t) (hu : tc_Yd u) (x2 : Int32) (μ : tc_Mem) (z : Int32 × tc_Mem) (h : tc_f0_settles N t u x2 μ = some z) : tc_At l G tc_i0_settles (some (.int z.1)) z.2 X 0 [(0, .ref (tc_ad G t)), (1, .ref (tc_ad G u)), (2, .int x2)] [] μ := by
  unfold tc_f0_settles at h
  refine tc_aload_n tc_d0_settles_0 1 rfl ?_
  refine tc_g5_8 tc_d0_settles_1 tc_w135 hu ?_
  refine tc_ltI h (fun v1 h => ?_)
  refine tc_istore_n (L' := [(3, .int v1), (0, .ref (tc_ad G t)), (1, .ref (tc_ad G u)), (2, .int x2)]) tc_d0_settles_4 (by decide) rfl ?_
  refine tc_aload_n tc_d0_settles_5 2 rfl ?_
  obtain ⟨r2, μ3, e2, h⟩ := tc_bdS h
  have c2 := tc_c5_measure (l := l) (G := G) N hu e2
  refine tc_callVv (As := []) (rest := []) (μ1 := μ3) tc_d0_settles_6 tc_ok5_measure tc_w450 ⟨Nat.le_of_ble_eq_true rfl, Nat.le_of_ble_eq_true rfl⟩ (tc_s5 hu) rfl c2 rfl rfl (Nat.le_of_ble_eq_true rfl) ?_
  refine tc_aload_n tc_d0_settles_9 1 rfl ?_
  refine tc_iconst (v := 0) tc_d0_settles_10 (by decide) ?_
  refine tc_p0_1 tc_d0_settles_11 tc_w182 ht h (fun μ4 h => ?_)
  refine tc_aload_n tc_d0_settles_14 1 rfl ?_
  refine tc_aload_n tc_d0_settles_15 2 rfl ?_
  refine tc_g5_0 tc_d0_settles_16 tc_w115 hu ?_
  refine tc_iload_n tc_d0_settles_19 3 rfl ?_
  obtain ⟨r5, μ6, e5, h⟩ := tc_bdS h
  have c5 := tc_c0_enterAll (l := l) (G := G) N ht e5
  refine tc_callVv (As := [.int (μ4 u 0), .int x2]) (rest := []) (μ1 := μ6) tc_d0_settles_20 tc_ok0_enterAll tc_w451 ⟨Nat.le_of_ble_eq_true rfl, Nat.le_of_ble_eq_true rfl⟩ (tc_s0 ht) rfl c5 rfl rfl (Nat.le_of_ble_eq_true rfl) ?_
  refine tc_iconst (v := 0) tc_d0_settles_23 (by decide) ?_
  refine tc_istore (L' := [(4, .int 0), (3, .int v1), (0, .ref (tc_ad G t)), (1, .ref (tc_ad G u)), (2, .int x2)]) tc_d0_settles_24 (by decide) rfl ?_
  refine tc_sub [2, 3, 1, 0] rfl ?_
  exact (tc_b0_settles_26 N ht hu N _ _ _ _) h
theorem tc_c0_settles (N : Nat) {t : Nat} {u : Nat} {x2 : Int32} {μ : tc_Mem} {z : Int32 × tc_Mem} (ht : tc_Ak t) (hu : tc_Yd u) (h : tc_f0_settles N t u x2 μ = some z) : tc_Con l G tc_i0_settles [.ref (tc_ad G t), .ref (tc_ad G u), .int x2] μ (some (.int z.1)) z.2 :=
  tc_Con.of (L := [(0, .ref (tc_ad G t)), (1, .ref (tc_ad G u)), (2, .int x2)]) (by decide) (Nat.le_of_ble_eq_true rfl) rfl (fun X => tc_b0_settles_0 N ht hu _ _ _ h)
def tc_f0_passes (N : Nat) (t : Nat) (u : Nat) (μ : tc_Mem) : Option (Int32 × tc_Mem) :=
  tc_bd (tc_f0_settles N t u 0 μ) fun r1 μ2 =>
  if r1 = 0 then
    some (0, μ2)
  else
    tc_bd (tc_f5_countWaits N u μ2) fun _ μ4 =>
    some (1, μ4)
theorem tc_b0_passes_0 (N : Nat) {t : Nat} {u : Nat} (ht : tc_Ak t) (hu : tc_Yd u) (μ : tc_Mem) (z : Int32 × tc_Mem) (h : tc_f0_passes N t u μ = some z) : tc_At l G tc_i0_passes (some (.int z.1)) z.2 X 0 [(0, .ref (tc_ad G t)), (1, .ref (tc_ad G u))] [] μ := by
  unfold tc_f0_passes at h
  refine tc_aload_n tc_d0_passes_0 0 rfl ?_
  refine tc_aload_n tc_d0_passes_1 1 rfl ?_
  refine tc_iconst (v := 0) tc_d0_passes_2 (by decide) ?_
  obtain ⟨r1, μ2, e1, h⟩ := tc_bdS h
  have c1 := tc_c0_settles (l := l) (G := G) N ht hu e1
  refine tc_callVi (As := [.ref (tc_ad G u), .int 0]) (rest := []) (r1 := r1) (μ1 := μ2) tc_d0_passes_3 tc_ok0_settles tc_w446 ⟨Nat.le_of_ble_eq_true rfl, Nat.le_of_ble_eq_true rfl⟩ (tc_s0 ht) rfl c1 rfl rfl (Nat.le_of_ble_eq_true rfl) ?_
  refine tc_if_ne (tgt := 11) tc_d0_passes_6 (by decide) h (fun h => ?_) (fun h => ?_)
  · refine tc_aload_n tc_d0_passes_11 1 rfl ?_
    obtain ⟨r3, μ4, e3, h⟩ := tc_bdS h
    have c3 := tc_c5_countWaits (l := l) (G := G) N hu e3
    refine tc_callVv (As := []) (rest := []) (μ1 := μ4) tc_d0_passes_12 tc_ok5_countWaits tc_w486 ⟨Nat.le_of_ble_eq_true rfl, Nat.le_of_ble_eq_true rfl⟩ (tc_s5 hu) rfl c3 rfl rfl (Nat.le_of_ble_eq_true rfl) ?_
    refine tc_iconst (v := 1) tc_d0_passes_15 (by decide) ?_
    exact tc_zret tc_d0_passes_16 rfl (by decide) (tc_riS h)
  · refine tc_iconst (v := 0) tc_d0_passes_9 (by decide) ?_
    exact tc_zret tc_d0_passes_10 rfl (by decide) (tc_riS h)
theorem tc_c0_passes (N : Nat) {t : Nat} {u : Nat} {μ : tc_Mem} {z : Int32 × tc_Mem} (ht : tc_Ak t) (hu : tc_Yd u) (h : tc_f0_passes N t u μ = some z) : tc_Con l G tc_i0_passes [.ref (tc_ad G t), .ref (tc_ad G u)] μ (some (.int z.1)) z.2 :=
  tc_Con.of (L := [(0, .ref (tc_ad G t)), (1, .ref (tc_ad G u))]) (by decide) (Nat.le_of_ble_eq_true rfl) rfl (fun X => tc_b0_passes_0 N ht hu _ _ h)
end WALK
