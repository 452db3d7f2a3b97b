section WALK
variable {l : Launch} {G : tc_G} {X : tc_X}
def tc_f5_looks (N : Nat) (t : Nat) (x1 : Int32) (x2 : Int32) (μ : tc_Mem) : Option (Int32 × tc_Mem) :=
  if x1 < 0 then
    some (0, μ)
  else
    if (μ t 0) ≤ x1 then
      some (0, μ)
    else
      tc_ck x1 8 (
      tc_ck (μ (t + 1) x1.toNatClampNeg) 6 (
      if ((tc_LOOKS (μ (t + 1) x1.toNatClampNeg).toNatClampNeg) &&& x2) = 0 then
        some (0, μ)
      else
        some (1, μ)))
theorem tc_b5_looks_0 (N : Nat) {t : Nat} (ht : tc_Yd t) (x1 : Int32) (x2 : Int32) (μ : tc_Mem) (z : Int32 × tc_Mem) (h : tc_f5_looks N t x1 x2 μ = some z) : tc_At l G tc_i5_looks (some (.int z.1)) z.2 X 0 [(0, .ref (tc_ad G t)), (1, .int x1), (2, .int x2)] [] μ := by
  unfold tc_f5_looks at h
  refine tc_iload_n tc_d5_looks_0 1 rfl ?_
  refine tc_if_lt (tgt := 31) tc_d5_looks_1 (by decide) h (fun h => ?_) (fun h => ?_)
  · refine tc_iconst (v := 0) tc_d5_looks_31 (by decide) ?_
    exact tc_zret tc_d5_looks_32 rfl (by decide) (tc_riS h)
  · refine tc_iload_n tc_d5_looks_4 1 rfl ?_
    refine tc_aload_n tc_d5_looks_5 0 rfl ?_
    refine tc_g5_0 tc_d5_looks_6 tc_w113 ht ?_
    refine tc_icmp_ge (tgt := 31) tc_d5_looks_9 (by decide) h (fun h => ?_) (fun h => ?_)
    · refine tc_iconst (v := 0) tc_d5_looks_31 (by decide) ?_
      exact tc_zret tc_d5_looks_32 rfl (by decide) (tc_riS h)
    · refine tc_getsN (host := "TrackCircuits") tc_d5_looks_12 (fun U h9 => h9.2.2.2.2.1) tc_tab0 ?_
      refine tc_aload_n tc_d5_looks_15 0 rfl ?_
      refine tc_g5_1 tc_d5_looks_16 tc_w117 ht ?_
      refine tc_iload_n tc_d5_looks_19 1 rfl ?_
      obtain ⟨hi1, h⟩ := tc_ckS h
      refine tc_iald tc_d5_looks_20 (tc_a5_1 ht) hi1 ?_
      obtain ⟨hi2, h⟩ := tc_ckS h
      refine tc_tld tc_d5_looks_21 tc_tab0 hi2 ?_
      refine tc_iload_n tc_d5_looks_22 2 rfl ?_
      refine tc_iand tc_d5_looks_23 ?_
      refine tc_if_eq (tgt := 31) tc_d5_looks_24 (by decide) h (fun h => ?_) (fun h => ?_)
      · refine tc_iconst (v := 0) tc_d5_looks_31 (by decide) ?_
        exact tc_zret tc_d5_looks_32 rfl (by decide) (tc_riS h)
      · refine tc_iconst (v := 1) tc_d5_looks_27 (by decide) ?_
        refine tc_goto (tgt := 32) tc_d5_looks_28 (by decide) ?_
        exact tc_zret tc_d5_looks_32 rfl (by decide) (tc_riS h)
theorem tc_c5_looks (N : Nat) {t : Nat} {x1 : Int32} {x2 : Int32} {μ : tc_Mem} {z : Int32 × tc_Mem} (ht : tc_Yd t) (h : tc_f5_looks N t x1 x2 μ = some z) : tc_Con l G tc_i5_looks [.ref (tc_ad G t), .int x1, .int x2] μ (some (.int z.1)) z.2 :=
  tc_Con.of (L := [(0, .ref (tc_ad G t)), (1, .int x1), (2, .int x2)]) (by decide) (Nat.le_of_ble_eq_true rfl) rfl (fun X => tc_b5_looks_0 N ht _ _ _ _ h)
def tc_f5_leak (N : Nat) (t : Nat) (x1 : Int32) (μ : tc_Mem) : Option (Int32 × tc_Mem) :=
  tc_ck x1 8 (
  tc_ck x1 8 (
  some (((((μ (t + 3) x1.toNatClampNeg) * (μ (t + 4) x1.toNatClampNeg)) * (μ t 12)) / 10), μ)))
theorem tc_b5_leak_0 (N : Nat) {t : Nat} (ht : tc_Yd t) (x1 : Int32) (μ : tc_Mem) (z : Int32 × tc_Mem) (h : tc_f5_leak N t x1 μ = some z) : tc_At l G tc_i5_leak (some (.int z.1)) z.2 X 0 [(0, .ref (tc_ad G t)), (1, .int x1)] [] μ := by
  unfold tc_f5_leak at h
  refine tc_aload_n tc_d5_leak_0 0 rfl ?_
  refine tc_g5_3 tc_d5_leak_1 tc_w122 ht ?_
  refine tc_iload_n tc_d5_leak_4 1 rfl ?_
  obtain ⟨hi1, h⟩ := tc_ckS h
  refine tc_iald tc_d5_leak_5 (tc_a5_3 ht) hi1 ?_
  refine tc_aload_n tc_d5_leak_6 0 rfl ?_
  refine tc_g5_4 tc_d5_leak_7 tc_w124 ht ?_
  refine tc_iload_n tc_d5_leak_10 1 rfl ?_
  obtain ⟨hi2, h⟩ := tc_ckS h
  refine tc_iald tc_d5_leak_11 (tc_a5_4 ht) hi2 ?_
  refine tc_imul tc_d5_leak_12 ?_
  refine tc_aload_n tc_d5_leak_13 0 rfl ?_
  refine tc_g5_12 tc_d5_leak_14 tc_w144 ht ?_
  refine tc_imul tc_d5_leak_17 ?_
  refine tc_bipush (v := 10) tc_d5_leak_18 (by decide) ?_
  refine tc_idiv tc_d5_leak_20 (by decide) ?_
  exact tc_iret tc_d5_leak_21 rfl (tc_riS h)
theorem tc_c5_leak (N : Nat) {t : Nat} {x1 : Int32} {μ : tc_Mem} {z : Int32 × tc_Mem} (ht : tc_Yd t) (h : tc_f5_leak N t x1 μ = some z) : tc_Con l G tc_i5_leak [.ref (tc_ad G t), .int x1] μ (some (.int z.1)) z.2 :=
  tc_Con.of (L := [(0, .ref (tc_ad G t)), (1, .int x1)]) (by decide) (Nat.le_of_ble_eq_true rfl) rfl (fun X => tc_b5_leak_0 N ht _ _ _ h)
def tc_f5_has (N : Nat) (t : Nat) (x1 : Int32) (μ : tc_Mem) : Option (Int32 × tc_Mem) :=
  if x1 < 0 then
    some (0, μ)
  else
    if (μ t 0) ≤ x1 then
      some (0, μ)
    else
      some (1, μ)
theorem tc_b5_has_0 (N : Nat) {t : Nat} (ht : tc_Yd t) (x1 : Int32) (μ : tc_Mem) (z : Int32 × tc_Mem) (h : tc_f5_has N t x1 μ = some z) : tc_At l G tc_i5_has (some (.int z.1)) z.2 X 0 [(0, .ref (tc_ad G t)), (1, .int x1)] [] μ := by
  unfold tc_f5_has at h
  refine tc_iload_n tc_d5_has_0 1 rfl ?_
  refine tc_if_lt (tgt := 16) tc_d5_has_1 (by decide) h (fun h => ?_) (fun h => ?_)
  · refine tc_iconst (v := 0) tc_d5_has_16 (by decide) ?_
    exact tc_zret tc_d5_has_17 rfl (by decide) (tc_riS h)
  · refine tc_iload_n tc_d5_has_4 1 rfl ?_
    refine tc_aload_n tc_d5_has_5 0 rfl ?_
    refine tc_g5_0 tc_d5_has_6 tc_w113 ht ?_
    refine tc_icmp_ge (tgt := 16) tc_d5_has_9 (by decide) h (fun h => ?_) (fun h => ?_)
    · refine tc_iconst (v := 0) tc_d5_has_16 (by decide) ?_
      exact tc_zret tc_d5_has_17 rfl (by decide) (tc_riS h)
    · refine tc_iconst (v := 1) tc_d5_has_12 (by decide) ?_
      refine tc_goto (tgt := 17) tc_d5_has_13 (by decide) ?_
      exact tc_zret tc_d5_has_17 rfl (by decide) (tc_riS h)
theorem tc_c5_has (N : Nat) {t : Nat} {x1 : Int32} {μ : tc_Mem} {z : Int32 × tc_Mem} (ht : tc_Yd t) (h : tc_f5_has N t x1 μ = some z) : tc_Con l G tc_i5_has [.ref (tc_ad G t), .int x1] μ (some (.int z.1)) z.2 :=
  tc_Con.of (L := [(0, .ref (tc_ad G t)), (1, .int x1)]) (by decide) (Nat.le_of_ble_eq_true rfl) rfl (fun X => tc_b5_has_0 N ht _ _ _ h)
def tc_f5_shunt_46 (N : Nat) (t : Nat) (k2 : Int32 → Int32 → tc_Mem → Option (Int32 × tc_Mem)) (x1 : Int32) (x2 : Int32) (s1 : Int32) (s2 : Int32) (μ : tc_Mem) : Option (Int32 × tc_Mem) :=
  tc_ck s1 8 (
  tc_lt (tc_wr μ (t + 6) s1.toNatClampNeg s2) fun μ2 =>
  k2 x1 (x2 + 1) μ2)
theorem tc_b5_shunt_46 (N : Nat) {t : Nat} (ht : tc_Yd t) {k2 : Int32 → Int32 → tc_Mem → Option (Int32 × tc_Mem)} (H2 : ∀ (x1 : Int32) (x2 : Int32) (μ : tc_Mem) (z : Int32 × tc_Mem), k2 x1 x2 μ = some z → tc_At l G tc_i5_shunt none z.2 X 2 [(0, .ref (tc_ad G t)), (1, .int x1), (2, .int x2)] [] μ) (x1 : Int32) (x2 : Int32) (s1 : Int32) (s2 : Int32) (μ : tc_Mem) (z : Int32 × tc_Mem) (h : tc_f5_shunt_46 N t k2 x1 x2 s1 s2 μ = some z) : tc_At l G tc_i5_shunt none z.2 X 46 [(0, .ref (tc_ad G t)), (1, .int x1), (2, .int x2)] [.int s2, .int s1, .ref (tc_ad G (t + 6))] μ := by
  unfold tc_f5_shunt_46 at h
  obtain ⟨hi1, h⟩ := tc_ckS h
  refine tc_iastL tc_d5_shunt_46 (tc_a5_6 ht) hi1 h (fun μ2 h => ?_)
  refine tc_iinc (v := (x2 + 1)) (L' := [(2, .int (x2 + 1)), (0, .ref (tc_ad G t)), (1, .int x1)]) tc_d5_shunt_47 2 rfl rfl (by decide) rfl ?_
  refine tc_goto (tgt := 2) tc_d5_shunt_50 (by decide) ?_
  refine tc_sub [1, 2, 0] rfl ?_
  exact (H2 _ _ _ _) h
def tc_f5_shunt_2 (N : Nat) (t : Nat) : Nat → Int32 → Int32 → tc_Mem → Option (Int32 × tc_Mem)
  | 0 => fun _ _ _ => none
  | n + 1 => fun x1 x2 μ => 
    if (μ t 0) ≤ x2 then
      some (0, μ)
    else
      tc_lt (1 <<< (x2 &&& 31)) fun v1 =>
      if ((μ t 9) &&& v1) = 0 then
        tc_f5_shunt_2 N t n x1 (x2 + 1) μ
      else
        if (x1 &&& v1) = 0 then
          tc_f5_shunt_46 N t (tc_f5_shunt_2 N t n) x1 x2 x2 0 μ
        else
          tc_ck x2 8 (
          tc_f5_shunt_46 N t (tc_f5_shunt_2 N t n) x1 x2 x2 ((μ (t + 6) x2.toNatClampNeg) / 4) μ)
theorem tc_b5_shunt_2 (N : Nat) {t : Nat} (ht : tc_Yd t) : ∀ (n : Nat) (x1 : Int32) (x2 : Int32) (μ : tc_Mem) (z : Int32 × tc_Mem), tc_f5_shunt_2 N t n x1 x2 μ = some z → tc_At l G tc_i5_shunt none z.2 X 2 [(0, .ref (tc_ad G t)), (1, .int x1), (2, .int x2)] [] μ := by
  intro n
  induction n with
  | zero => intro x1 x2 μ z h; cases h
  | succ n ih =>
    intro x1 x2 μ z h
    rw [tc_f5_shunt_2] at h
    refine tc_iload_n tc_d5_shunt_2 2 rfl ?_
    refine tc_aload_n tc_d5_shunt_3 0 rfl ?_
    refine tc_g5_0 tc_d5_shunt_4 tc_w113 ht ?_
    refine tc_icmp_ge (tgt := 53) tc_d5_shunt_7 (by decide) h (fun h => ?_) (fun h => ?_)
    · exact tc_vret tc_d5_shunt_53 rfl (tc_rvS h)
    · refine tc_iconst (v := 1) tc_d5_shunt_10 (by decide) ?_
      refine tc_iload_n tc_d5_shunt_11 2 rfl ?_
      refine tc_ishl tc_d5_shunt_12 ?_
      refine tc_ltI h (fun v1 h => ?_)
      refine tc_istore_n (L' := [(3, .int v1), (0, .ref (tc_ad G t)), (1, .int x1), (2, .int x2)]) tc_d5_shunt_13 (by decide) rfl ?_
      refine tc_aload_n tc_d5_shunt_14 1 rfl ?_
      refine tc_g5_9 tc_d5_shunt_15 tc_w137 ht ?_
      refine tc_iload_n tc_d5_shunt_18 0 rfl ?_
      refine tc_iand tc_d5_shunt_19 ?_
      refine tc_if_eq (tgt := 47) tc_d5_shunt_20 (by decide) h (fun h => ?_) (fun h => ?_)
      · refine tc_iinc (v := (x2 + 1)) (L' := [(2, .int (x2 + 1)), (3, .int v1), (0, .ref (tc_ad G t)), (1, .int x1)]) tc_d5_shunt_47 3 rfl rfl (by decide) rfl ?_
        refine tc_goto (tgt := 2) tc_d5_shunt_50 (by decide) ?_
        refine tc_sub [2, 3, 0] rfl ?_
        exact (ih _ _ _ _) h
      · refine tc_aload_n tc_d5_shunt_23 1 rfl ?_
        refine tc_g5_6 tc_d5_shunt_24 tc_w128 ht ?_
        refine tc_iload_n tc_d5_shunt_27 3 rfl ?_
        refine tc_iload_n tc_d5_shunt_28 2 rfl ?_
        refine tc_iload_n tc_d5_shunt_29 0 rfl ?_
        refine tc_iand tc_d5_shunt_30 ?_
        refine tc_if_eq (tgt := 45) tc_d5_shunt_31 (by decide) h (fun h => ?_) (fun h => ?_)
        · refine tc_iconst (v := 0) tc_d5_shunt_45 (by decide) ?_
          refine tc_sub [1, 2, 3] rfl ?_
          exact (tc_b5_shunt_46 N ht ih _ _ _ _ _ _) h
        · refine tc_aload_n tc_d5_shunt_34 1 rfl ?_
          refine tc_g5_6 tc_d5_shunt_35 tc_w128 ht ?_
          refine tc_iload_n tc_d5_shunt_38 3 rfl ?_
          obtain ⟨hi2, h⟩ := tc_ckS h
          refine tc_iald tc_d5_shunt_39 (tc_a5_6 ht) hi2 ?_
          refine tc_iconst (v := 4) tc_d5_shunt_40 (by decide) ?_
          refine tc_idiv tc_d5_shunt_41 (by decide) ?_
          refine tc_goto (tgt := 46) tc_d5_shunt_42 (by decide) ?_
          refine tc_sub [1, 2, 3] rfl ?_
          exact (tc_b5_shunt_46 N ht ih _ _ _ _ _ _) h
def tc_f5_shunt (N : Nat) (t : Nat) (x1 : Int32) (μ : tc_Mem) : Option (Int32 × tc_Mem) :=
  tc_f5_shunt_2 N t N x1 0 μ
theorem tc_b5_shunt_0 (N : Nat) {t : Nat} (ht : tc_Yd t) (x1 : Int32) (μ : tc_Mem) (z : Int32 × tc_Mem) (h : tc_f5_shunt N t x1 μ = some z) : tc_At l G tc_i5_shunt none z.2 X 0 [(0, .ref (tc_ad G t)), (1, .int x1)] [] μ := by
  unfold tc_f5_shunt at h
  refine tc_iconst (v := 0) tc_d5_shunt_0 (by decide) ?_
  refine tc_istore_n (L' := [(2, .int 0), (0, .ref (tc_ad G t)), (1, .int x1)]) tc_d5_shunt_1 (by decide) rfl ?_
  refine tc_sub [1, 2, 0] rfl ?_
  exact (tc_b5_shunt_2 N ht N _ _ _ _) h
theorem tc_c5_shunt (N : Nat) {t : Nat} {x1 : Int32} {μ : tc_Mem} {z : Int32 × tc_Mem} (ht : tc_Yd t) (h : tc_f5_shunt N t x1 μ = some z) : tc_Con l G tc_i5_shunt [.ref (tc_ad G t), .int x1] μ none z.2 :=
  tc_Con.of (L := [(0, .ref (tc_ad G t)), (1, .int x1)]) (by decide) (Nat.le_of_ble_eq_true rfl) rfl (fun X => tc_b5_shunt_0 N ht _ _ _ h)
def tc_f5_measure_100 (N : Nat) (t : Nat) (μ : tc_Mem) : Option (Int32 × tc_Mem) :=
  if (μ t 9) = 0 then
    some (0, μ)
  else
    tc_bd (tc_f1_placesOf N t 3 μ) fun r1 μ2 =>
    tc_bd (tc_f5_shunt N t r1 μ2) fun _ μ4 =>
    some (0, μ4)
theorem tc_b5_measure_100 (N : Nat) {t : Nat} (ht : tc_Yd t) (μ : tc_Mem) (z : Int32 × tc_Mem) (h : tc_f5_measure_100 N t μ = some z) : tc_At l G tc_i5_measure none z.2 X 100 [(0, .ref (tc_ad G t))] [] μ := by
  unfold tc_f5_measure_100 at h
  refine tc_aload_n tc_d5_measure_100 0 rfl ?_
  refine tc_g5_9 tc_d5_measure_101 tc_w137 ht ?_
  refine tc_if_eq (tgt := 119) tc_d5_measure_104 (by decide) h (fun h => ?_) (fun h => ?_)
  · exact tc_vret tc_d5_measure_119 rfl (tc_rvS h)
  · refine tc_aload_n tc_d5_measure_107 0 rfl ?_
    refine tc_aload_n tc_d5_measure_108 0 rfl ?_
    refine tc_g5_7 tc_d5_measure_109 tc_w130 ht ?_
    refine tc_iconst (v := 3) tc_d5_measure_112 (by decide) ?_
    obtain ⟨r1, μ2, e1, h⟩ := tc_bdS h
    have c1 := tc_c1_placesOf (l := l) (G := G) N ht e1
    refine tc_callVi (As := [.int 3]) (rest := [.ref (tc_ad G t)]) (r1 := r1) (μ1 := μ2) tc_d5_measure_113 tc_ok1_placesOf tc_w361 ⟨Nat.le_of_ble_eq_true rfl, Nat.le_of_ble_eq_true rfl⟩ (tc_s1 ht) rfl c1 rfl rfl (Nat.le_of_ble_eq_true rfl) ?_
    obtain ⟨r3, μ4, e3, h⟩ := tc_bdS h
    have c3 := tc_c5_shunt (l := l) (G := G) N ht e3
    refine tc_callVv (As := [.int r1]) (rest := []) (μ1 := μ4) tc_d5_measure_116 tc_ok5_shunt tc_w365 ⟨Nat.le_of_ble_eq_true rfl, Nat.le_of_ble_eq_true rfl⟩ (tc_s5 ht) rfl c3 rfl rfl (Nat.le_of_ble_eq_true rfl) ?_
    exact tc_vret tc_d5_measure_119 rfl (tc_rvS h)
def tc_f5_measure_40 (N : Nat) (t : Nat) : Nat → Int32 → tc_Mem → Option (Int32 × tc_Mem)
  | 0 => fun _ _ => none
  | n + 1 => fun x1 μ => 
    if (μ (t + 7) 0) ≤ x1 then
      tc_f5_measure_100 N t μ
    else
      tc_ck x1 15 (
      tc_lt (μ (t + 9) x1.toNatClampNeg) fun v2 =>
      tc_bd (tc_f5_has N t v2 μ) fun r3 μ4 =>
      if r3 = 0 then
        tc_f5_measure_40 N t n (x1 + 1) μ4
      else
        tc_ck v2 8 (
        tc_bd (tc_f5_leak N t v2 μ4) fun r6 μ7 =>
        tc_bd (tc_f1_change N t x1 (μ4 (t + 6) v2.toNatClampNeg) r6 μ7) fun r8 μ9 =>
        tc_ck v2 8 (
        tc_lt (tc_wr μ9 (t + 6) v2.toNatClampNeg r8) fun μ11 =>
        tc_f5_measure_40 N t n (x1 + 1) μ11)))
theorem tc_b5_measure_40 (N : Nat) {t : Nat} (ht : tc_Yd t) : ∀ (n : Nat) (x1 : Int32) (μ : tc_Mem) (z : Int32 × tc_Mem), tc_f5_measure_40 N t n x1 μ = some z → tc_At l G tc_i5_measure none z.2 X 40 [(0, .ref (tc_ad G t)), (1, .int x1)] [] μ := by
  intro n
  induction n with
  | zero => intro x1 μ z h; cases h
  | succ n ih =>
    intro x1 μ z h
    rw [tc_f5_measure_40] at h
    refine tc_iload_n tc_d5_measure_40 1 rfl ?_
    refine tc_aload_n tc_d5_measure_41 0 rfl ?_
    refine tc_g5_7 tc_d5_measure_42 tc_w130 ht ?_
    refine tc_g1_0 tc_d5_measure_45 tc_w94 ht ?_
    refine tc_icmp_ge (tgt := 100) tc_d5_measure_48 (by decide) h (fun h => ?_) (fun h => ?_)
    · refine tc_sub [0] rfl ?_
      exact (tc_b5_measure_100 N ht _ _) h
    · refine tc_aload_n tc_d5_measure_51 0 rfl ?_
      refine tc_g5_7 tc_d5_measure_52 tc_w130 ht ?_
      refine tc_g1_2 tc_d5_measure_55 tc_w99 ht ?_
      refine tc_iload_n tc_d5_measure_58 1 rfl ?_
      obtain ⟨hi1, h⟩ := tc_ckS h
      refine tc_iald tc_d5_measure_59 (tc_a5_9 ht) hi1 ?_
      refine tc_ltI h (fun v2 h => ?_)
      refine tc_istore_n (L' := [(2, .int v2), (0, .ref (tc_ad G t)), (1, .int x1)]) tc_d5_measure_60 (by decide) rfl ?_
      refine tc_aload_n tc_d5_measure_61 1 rfl ?_
      refine tc_iload_n tc_d5_measure_62 0 rfl ?_
      obtain ⟨r3, μ4, e3, h⟩ := tc_bdS h
      have c3 := tc_c5_has (l := l) (G := G) N ht e3
      refine tc_callVi (As := [.int v2]) (rest := []) (r1 := r3) (μ1 := μ4) tc_d5_measure_63 tc_ok5_has tc_w353 ⟨Nat.le_of_ble_eq_true rfl, Nat.le_of_ble_eq_true rfl⟩ (tc_s5 ht) rfl c3 rfl rfl (Nat.le_of_ble_eq_true rfl) ?_
      refine tc_if_eq (tgt := 94) tc_d5_measure_66 (by decide) h (fun h => ?_) (fun h => ?_)
      · refine tc_iinc (v := (x1 + 1)) (L' := [(1, .int (x1 + 1)), (2, .int v2), (0, .ref (tc_ad G t))]) tc_d5_measure_94 2 rfl rfl (by decide) rfl ?_
        refine tc_goto (tgt := 40) tc_d5_measure_97 (by decide) ?_
        refine tc_sub [2, 0] rfl ?_
        exact (ih _ _ _) h
      · refine tc_aload_n tc_d5_measure_69 1 rfl ?_
        refine tc_g5_6 tc_d5_measure_70 tc_w128 ht ?_
        refine tc_iload_n tc_d5_measure_73 0 rfl ?_
        refine tc_aload_n tc_d5_measure_74 1 rfl ?_
        refine tc_g5_7 tc_d5_measure_75 tc_w130 ht ?_
        refine tc_iload_n tc_d5_measure_78 2 rfl ?_
        refine tc_aload_n tc_d5_measure_79 1 rfl ?_
        refine tc_g5_6 tc_d5_measure_80 tc_w128 ht ?_
        refine tc_iload_n tc_d5_measure_83 0 rfl ?_
        obtain ⟨hi5, h⟩ := tc_ckS h
        refine tc_iald tc_d5_measure_84 (tc_a5_6 ht) hi5 ?_
        refine tc_aload_n tc_d5_measure_85 1 rfl ?_
        refine tc_iload_n tc_d5_measure_86 0 rfl ?_
        obtain ⟨r6, μ7, e6, h⟩ := tc_bdS h
        have c6 := tc_c5_leak (l := l) (G := G) N ht e6
        refine tc_callVi (As := [.int v2]) (rest := [.int (μ4 (t + 6) v2.toNatClampNeg), .int x1, .ref (tc_ad G (t + 7)), .int v2, .ref (tc_ad G (t + 6))]) (r1 := r6) (μ1 := μ7) tc_d5_measure_87 tc_ok5_leak tc_w349 ⟨Nat.le_of_ble_eq_true rfl, Nat.le_of_ble_eq_true rfl⟩ (tc_s5 ht) rfl c6 rfl rfl (Nat.le_of_ble_eq_true rfl) ?_
        obtain ⟨r8, μ9, e8, h⟩ := tc_bdS h
        have c8 := tc_c1_change (l := l) (G := G) N ht e8
        refine tc_callVi (As := [.int x1, .int (μ4 (t + 6) v2.toNatClampNeg), .int r6]) (rest := [.int v2, .ref (tc_ad G (t + 6))]) (r1 := r8) (μ1 := μ9) tc_d5_measure_90 tc_ok1_change tc_w354 ⟨Nat.le_of_ble_eq_true rfl, Nat.le_of_ble_eq_true rfl⟩ (tc_s1 ht) rfl c8 rfl rfl (Nat.le_of_ble_eq_true rfl) ?_
        obtain ⟨hi10, h⟩ := tc_ckS h
        refine tc_iastL tc_d5_measure_93 (tc_a5_6 ht) hi10 h (fun μ11 h => ?_)
        refine tc_iinc (v := (x1 + 1)) (L' := [(1, .int (x1 + 1)), (2, .int v2), (0, .ref (tc_ad G t))]) tc_d5_measure_94 2 rfl rfl (by decide) rfl ?_
        refine tc_goto (tgt := 40) tc_d5_measure_97 (by decide) ?_
        refine tc_sub [2, 0] rfl ?_
        exact (ih _ _ _) h
def tc_f5_measure_38 (N : Nat) (t : Nat) (μ : tc_Mem) : Option (Int32 × tc_Mem) :=
  tc_f5_measure_40 N t N 0 μ
theorem tc_b5_measure_38 (N : Nat) {t : Nat} (ht : tc_Yd t) (μ : tc_Mem) (z : Int32 × tc_Mem) (h : tc_f5_measure_38 N t μ = some z) : tc_At l G tc_i5_measure none z.2 X 38 [(0, .ref (tc_ad G t))] [] μ := by
  unfold tc_f5_measure_38 at h
  refine tc_iconst (v := 0) tc_d5_measure_38 (by decide) ?_
  refine tc_istore_n (L' := [(1, .int 0), (0, .ref (tc_ad G t))]) tc_d5_measure_39 (by decide) rfl ?_
  refine tc_sub [1, 0] rfl ?_
  exact (tc_b5_measure_40 N ht N _ _ _) h
def tc_f5_measure_2 (N : Nat) (t : Nat) : Nat → Int32 → tc_Mem → Option (Int32 × tc_Mem)
  | 0 => fun _ _ => none
  | n + 1 => fun x1 μ => 
    if (μ t 0) ≤ x1 then
      tc_f5_measure_38 N t μ
    else
      tc_ck x1 8 (
      tc_bd (tc_f5_leak N t x1 μ) fun r2 μ3 =>
      tc_ck x1 8 (
      tc_lt (tc_wr μ3 (t + 6) x1.toNatClampNeg (if (0 : Int32) < ((μ (t + 2) x1.toNatClampNeg) - r2) then ((μ (t + 2) x1.toNatClampNeg) - r2) else 0)) fun μ5 =>
      tc_f5_measure_2 N t n (x1 + 1) μ5))
theorem tc_b5_measure_2 (N : Nat) {t : Nat} (ht : tc_Yd t) : ∀ (n : Nat) (x1 : Int32) (μ : tc_Mem) (z : Int32 × tc_Mem), tc_f5_measure_2 N t n x1 μ = some z → tc_At l G tc_i5_measure none z.2 X 2 [(0, .ref (tc_ad G t)), (1, .int x1)] [] μ := by
  intro n
  induction n with
  | zero => intro x1 μ z h; cases h
  | succ n ih =>
    intro x1 μ z h
    rw [tc_f5_measure_2] at h
    refine tc_iload_n tc_d5_measure_2 1 rfl ?_
    refine tc_aload_n tc_d5_measure_3 0 rfl ?_
    refine tc_g5_0 tc_d5_measure_4 tc_w113 ht ?_
    refine tc_icmp_ge (tgt := 38) tc_d5_measure_7 (by decide) h (fun h => ?_) (fun h => ?_)
    · refine tc_sub [0] rfl ?_
      exact (tc_b5_measure_38 N ht _ _) h
    · refine tc_aload_n tc_d5_measure_10 0 rfl ?_
      refine tc_g5_6 tc_d5_measure_11 tc_w128 ht ?_
      refine tc_iload_n tc_d5_measure_14 1 rfl ?_
      refine tc_iconst (v := 0) tc_d5_measure_15 (by decide) ?_
      refine tc_aload_n tc_d5_measure_16 0 rfl ?_
      refine tc_g5_2 tc_d5_measure_17 tc_w120 ht ?_
      refine tc_iload_n tc_d5_measure_20 1 rfl ?_
      obtain ⟨hi1, h⟩ := tc_ckS h
      refine tc_iald tc_d5_measure_21 (tc_a5_2 ht) hi1 ?_
      refine tc_aload_n tc_d5_measure_22 0 rfl ?_
      refine tc_iload_n tc_d5_measure_23 1 rfl ?_
      obtain ⟨r2, μ3, e2, h⟩ := tc_bdS h
      have c2 := tc_c5_leak (l := l) (G := G) N ht e2
      refine tc_callVi (As := [.int x1]) (rest := [.int (μ (t + 2) x1.toNatClampNeg), .int 0, .int x1, .ref (tc_ad G (t + 6))]) (r1 := r2) (μ1 := μ3) tc_d5_measure_24 tc_ok5_leak tc_w349 ⟨Nat.le_of_ble_eq_true rfl, Nat.le_of_ble_eq_true rfl⟩ (tc_s5 ht) rfl c2 rfl rfl (Nat.le_of_ble_eq_true rfl) ?_
      refine tc_isub tc_d5_measure_27 ?_
      refine tc_mmax tc_d5_measure_28 tc_w350 tc_okmmax ⟨Nat.le_of_ble_eq_true rfl, Nat.le_of_ble_eq_true rfl⟩ ?_
      obtain ⟨hi4, h⟩ := tc_ckS h
      refine tc_iastL tc_d5_measure_31 (tc_a5_6 ht) hi4 h (fun μ5 h => ?_)
      refine tc_iinc (v := (x1 + 1)) (L' := [(1, .int (x1 + 1)), (0, .ref (tc_ad G t))]) tc_d5_measure_32 1 rfl rfl (by decide) rfl ?_
      refine tc_goto (tgt := 2) tc_d5_measure_35 (by decide) ?_
      refine tc_sub [1, 0] rfl ?_
      exact (ih _ _ _) h
def tc_f5_measure (N : Nat) (t : Nat) (μ : tc_Mem) : Option (Int32 × tc_Mem) :=
  tc_f5_measure_2 N t N 0 μ
theorem tc_b5_measure_0 (N : Nat) {t : Nat} (ht : tc_Yd t) (μ : tc_Mem) (z : Int32 × tc_Mem) (h : tc_f5_measure N t μ = some z) : tc_At l G tc_i5_measure none z.2 X 0 [(0, .ref (tc_ad G t))] [] μ := by
  unfold tc_f5_measure at h
  refine tc_iconst (v := 0) tc_d5_measure_0 (by decide) ?_
  refine tc_istore_n (L' := [(1, .int 0), (0, .ref (tc_ad G t))]) tc_d5_measure_1 (by decide) rfl ?_
  refine tc_sub [1, 0] rfl ?_
  exact (tc_b5_measure_2 N ht N _ _ _) h
theorem tc_c5_measure (N : Nat) {t : Nat} {μ : tc_Mem} {z : Int32 × tc_Mem} (ht : tc_Yd t) (h : tc_f5_measure N t μ = some z) : tc_Con l G tc_i5_measure [.ref (tc_ad G t)] μ none z.2 :=
  tc_Con.of (L := [(0, .ref (tc_ad G t))]) (by decide) (Nat.le_of_ble_eq_true rfl) rfl (fun X => tc_b5_measure_0 N ht _ _ h)
def tc_f5_relay (N : Nat) (t : Nat) (x1 : Int32) (μ : tc_Mem) : Option (Int32 × tc_Mem) :=
  if x1 < 0 then
    some ((-1), μ)
  else
    if (μ t 0) ≤ x1 then
      some ((-1), μ)
    else
      some ((((μ t 8) >>> (x1 &&& 31)) &&& 1), μ)
theorem tc_b5_relay_0 (N : Nat) {t : Nat} (ht : tc_Yd t) (x1 : Int32) (μ : tc_Mem) (z : Int32 × tc_Mem) (h : tc_f5_relay N t x1 μ = some z) : tc_At l G tc_i5_relay (some (.int z.1)) z.2 X 0 [(0, .ref (tc_ad G t)), (1, .int x1)] [] μ := by
  unfold tc_f5_relay at h
  refine tc_iload_n tc_d5_relay_0 1 rfl ?_
  refine tc_if_lt (tgt := 23) tc_d5_relay_1 (by decide) h (fun h => ?_) (fun h => ?_)
  · refine tc_iconst (v := (-1)) tc_d5_relay_23 (by decide) ?_
    exact tc_iret tc_d5_relay_24 rfl (tc_riS h)
  · refine tc_iload_n tc_d5_relay_4 1 rfl ?_
    refine tc_aload_n tc_d5_relay_5 0 rfl ?_
    refine tc_g5_0 tc_d5_relay_6 tc_w113 ht ?_
    refine tc_icmp_ge (tgt := 23) tc_d5_relay_9 (by decide) h (fun h => ?_) (fun h => ?_)
    · refine tc_iconst (v := (-1)) tc_d5_relay_23 (by decide) ?_
      exact tc_iret tc_d5_relay_24 rfl (tc_riS h)
    · refine tc_aload_n tc_d5_relay_12 0 rfl ?_
      refine tc_g5_8 tc_d5_relay_13 tc_w133 ht ?_
      refine tc_iload_n tc_d5_relay_16 1 rfl ?_
      refine tc_ishr tc_d5_relay_17 ?_
      refine tc_iconst (v := 1) tc_d5_relay_18 (by decide) ?_
      refine tc_iand tc_d5_relay_19 ?_
      refine tc_goto (tgt := 24) tc_d5_relay_20 (by decide) ?_
      exact tc_iret tc_d5_relay_24 rfl (tc_riS h)
theorem tc_c5_relay (N : Nat) {t : Nat} {x1 : Int32} {μ : tc_Mem} {z : Int32 × tc_Mem} (ht : tc_Yd t) (h : tc_f5_relay N t x1 μ = some z) : tc_Con l G tc_i5_relay [.ref (tc_ad G t), .int x1] μ (some (.int z.1)) z.2 :=
  tc_Con.of (L := [(0, .ref (tc_ad G t)), (1, .int x1)]) (by decide) (Nat.le_of_ble_eq_true rfl) rfl (fun X => tc_b5_relay_0 N ht _ _ _ h)
def tc_f5_isEnough_20 (N : Nat) (t : Nat) (μ : tc_Mem) : Option (Int32 × tc_Mem) :=
  some (1, μ)
theorem tc_b5_isEnough_20 (N : Nat) {t : Nat} (ht : tc_Yd t) (μ : tc_Mem) (z : Int32 × tc_Mem) (h : tc_f5_isEnough_20 N t μ = some z) : tc_At l G tc_i5_isEnough (some (.int z.1)) z.2 X 20 [] [] μ := by
  unfold tc_f5_isEnough_20 at h
  refine tc_iconst (v := 1) tc_d5_isEnough_20 (by decide) ?_
  refine tc_goto (tgt := 25) tc_d5_isEnough_21 (by decide) ?_
  exact tc_zret tc_d5_isEnough_25 rfl (by decide) (tc_riS h)
def tc_f5_isEnough (N : Nat) (t : Nat) (x1 : Int32) (x2 : Int32) (μ : tc_Mem) : Option (Int32 × tc_Mem) :=
  if (μ t 10) ≤ x1 then
    tc_f5_isEnough_20 N t μ
  else
    if x1 < (μ t 11) then
      some (0, μ)
    else
      if x2 = 0 then
        some (0, μ)
      else
        tc_f5_isEnough_20 N t μ
theorem tc_b5_isEnough_0 (N : Nat) {t : Nat} (ht : tc_Yd t) (x1 : Int32) (x2 : Int32) (μ : tc_Mem) (z : Int32 × tc_Mem) (h : tc_f5_isEnough N t x1 x2 μ = some z) : tc_At l G tc_i5_isEnough (some (.int z.1)) z.2 X 0 [(0, .ref (tc_ad G t)), (1, .int x1), (2, .int x2)] [] μ := by
  unfold tc_f5_isEnough at h
  refine tc_iload_n tc_d5_isEnough_0 1 rfl ?_
  refine tc_aload_n tc_d5_isEnough_1 0 rfl ?_
  refine tc_g5_10 tc_d5_isEnough_2 tc_w140 ht ?_
  refine tc_icmp_ge (tgt := 20) tc_d5_isEnough_5 (by decide) h (fun h => ?_) (fun h => ?_)
  · refine tc_sub [] rfl ?_
    exact (tc_b5_isEnough_20 N ht _ _) h
  · refine tc_iload_n tc_d5_isEnough_8 1 rfl ?_
    refine tc_aload_n tc_d5_isEnough_9 0 rfl ?_
    refine tc_g5_11 tc_d5_isEnough_10 tc_w143 ht ?_
    refine tc_icmp_lt (tgt := 24) tc_d5_isEnough_13 (by decide) h (fun h => ?_) (fun h => ?_)
    · refine tc_iconst (v := 0) tc_d5_isEnough_24 (by decide) ?_
      exact tc_zret tc_d5_isEnough_25 rfl (by decide) (tc_riS h)
    · refine tc_iload_n tc_d5_isEnough_16 2 rfl ?_
      refine tc_if_eq (tgt := 24) tc_d5_isEnough_17 (by decide) h (fun h => ?_) (fun h => ?_)
      · refine tc_iconst (v := 0) tc_d5_isEnough_24 (by decide) ?_
        exact tc_zret tc_d5_isEnough_25 rfl (by decide) (tc_riS h)
      · refine tc_sub [] rfl ?_
        exact (tc_b5_isEnough_20 N ht _ _) h
theorem tc_c5_isEnough (N : Nat) {t : Nat} {x1 : Int32} {x2 : Int32} {μ : tc_Mem} {z : Int32 × tc_Mem} (ht : tc_Yd t) (h : tc_f5_isEnough N t x1 x2 μ = some z) : tc_Con l G tc_i5_isEnough [.ref (tc_ad G t), .int x1, .int x2] μ (some (.int z.1)) z.2 :=
  tc_Con.of (L := [(0, .ref (tc_ad G t)), (1, .int x1), (2, .int x2)]) (by decide) (Nat.le_of_ble_eq_true rfl) rfl (fun X => tc_b5_isEnough_0 N ht _ _ _ _ h)
def tc_f5_goesUp_118 (N : Nat) (t : Nat) (x2 : Int32) (x5 : Int32) (μ : tc_Mem) : Option (Int32 × tc_Mem) :=
  tc_bd (tc_f5_isEnough N t x5 x2 μ) fun r1 μ2 =>
  if r1 = 0 then
    some (0, μ2)
  else
    some (1, μ2)
theorem tc_b5_goesUp_118 (N : Nat) {t : Nat} (ht : tc_Yd t) (x2 : Int32) (x5 : Int32) (μ : tc_Mem) (z : Int32 × tc_Mem) (h : tc_f5_goesUp_118 N t x2 x5 μ = some z) : tc_At l G tc_i5_goesUp (some (.int z.1)) z.2 X 118 [(0, .ref (tc_ad G t)), (2, .int x2), (5, .int x5)] [] μ := by
  unfold tc_f5_goesUp_118 at h
  refine tc_aload_n tc_d5_goesUp_118 0 rfl ?_
  refine tc_iload tc_d5_goesUp_119 2 rfl ?_
  refine tc_iload_n tc_d5_goesUp_121 1 rfl ?_
  obtain ⟨r1, μ2, e1, h⟩ := tc_bdS h
  have c1 := tc_c5_isEnough (l := l) (G := G) N ht e1
  refine tc_callVi (As := [.int x5, .int x2]) (rest := []) (r1 := r1) (μ1 := μ2) tc_d5_goesUp_122 tc_ok5_isEnough tc_w471 ⟨Nat.le_of_ble_eq_true rfl, Nat.le_of_ble_eq_true rfl⟩ (tc_s5 ht) rfl c1 rfl rfl (Nat.le_of_ble_eq_true rfl) ?_
  refine tc_if_eq (tgt := 132) tc_d5_goesUp_125 (by decide) h (fun h => ?_) (fun h => ?_)
  · refine tc_iconst (v := 0) tc_d5_goesUp_132 (by decide) ?_
    exact tc_zret tc_d5_goesUp_133 rfl (by decide) (tc_riS h)
  · refine tc_iconst (v := 1) tc_d5_goesUp_128 (by decide) ?_
    refine tc_goto (tgt := 133) tc_d5_goesUp_129 (by decide) ?_
    exact tc_zret tc_d5_goesUp_133 rfl (by decide) (tc_riS h)
def tc_f5_goesUp_164 (N : Nat) (t : Nat) (x2 : Int32) (x5 : Int32) (μ : tc_Mem) : Option (Int32 × tc_Mem) :=
  tc_bd (tc_f5_isEnough N t x5 x2 μ) fun r1 μ2 =>
  if r1 = 0 then
    some (0, μ2)
  else
    some (1, μ2)
theorem tc_b5_goesUp_164 (N : Nat) {t : Nat} (ht : tc_Yd t) (x2 : Int32) (x5 : Int32) (μ : tc_Mem) (z : Int32 × tc_Mem) (h : tc_f5_goesUp_164 N t x2 x5 μ = some z) : tc_At l G tc_i5_goesUp (some (.int z.1)) z.2 X 164 [(0, .ref (tc_ad G t)), (2, .int x2), (5, .int x5)] [] μ := by
  unfold tc_f5_goesUp_164 at h
  refine tc_aload_n tc_d5_goesUp_164 0 rfl ?_
  refine tc_iload tc_d5_goesUp_165 2 rfl ?_
  refine tc_iload_n tc_d5_goesUp_167 1 rfl ?_
  obtain ⟨r1, μ2, e1, h⟩ := tc_bdS h
  have c1 := tc_c5_isEnough (l := l) (G := G) N ht e1
  refine tc_callVi (As := [.int x5, .int x2]) (rest := []) (r1 := r1) (μ1 := μ2) tc_d5_goesUp_168 tc_ok5_isEnough tc_w471 ⟨Nat.le_of_ble_eq_true rfl, Nat.le_of_ble_eq_true rfl⟩ (tc_s5 ht) rfl c1 rfl rfl (Nat.le_of_ble_eq_true rfl) ?_
  refine tc_if_eq (tgt := 178) tc_d5_goesUp_171 (by decide) h (fun h => ?_) (fun h => ?_)
  · refine tc_iconst (v := 0) tc_d5_goesUp_178 (by decide) ?_
    exact tc_zret tc_d5_goesUp_179 rfl (by decide) (tc_riS h)
  · refine tc_iconst (v := 1) tc_d5_goesUp_174 (by decide) ?_
    refine tc_goto (tgt := 179) tc_d5_goesUp_175 (by decide) ?_
    exact tc_zret tc_d5_goesUp_179 rfl (by decide) (tc_riS h)
def tc_f5_goesUp_148 (N : Nat) (t : Nat) (x1 : Int32) (x2 : Int32) (s0 : Int32) (μ : tc_Mem) : Option (Int32 × tc_Mem) :=
  if x2 = 0 then
    tc_ck x1 8 (
    if (μ (t + 5) x1.toNatClampNeg) < 2 then
      some (0, μ)
    else
      tc_f5_goesUp_164 N t x2 s0 μ)
  else
    tc_f5_goesUp_164 N t x2 s0 μ
theorem tc_b5_goesUp_148 (N : Nat) {t : Nat} (ht : tc_Yd t) (x1 : Int32) (x2 : Int32) (s0 : Int32) (μ : tc_Mem) (z : Int32 × tc_Mem) (h : tc_f5_goesUp_148 N t x1 x2 s0 μ = some z) : tc_At l G tc_i5_goesUp (some (.int z.1)) z.2 X 148 [(0, .ref (tc_ad G t)), (1, .int x1), (2, .int x2)] [.int s0] μ := by
  unfold tc_f5_goesUp_148 at h
  refine tc_istore (L' := [(5, .int s0), (0, .ref (tc_ad G t)), (1, .int x1), (2, .int x2)]) tc_d5_goesUp_148 (by decide) rfl ?_
  refine tc_iload_n tc_d5_goesUp_150 3 rfl ?_
  refine tc_if_ne (tgt := 164) tc_d5_goesUp_151 (by decide) h (fun h => ?_) (fun h => ?_)
  · refine tc_sub [1, 3, 0] rfl ?_
    exact (tc_b5_goesUp_164 N ht _ _ _ _) h
  · refine tc_aload_n tc_d5_goesUp_154 1 rfl ?_
    refine tc_g5_5 tc_d5_goesUp_155 tc_w126 ht ?_
    refine tc_iload_n tc_d5_goesUp_158 2 rfl ?_
    obtain ⟨hi1, h⟩ := tc_ckS h
    refine tc_iald tc_d5_goesUp_159 (tc_a5_5 ht) hi1 ?_
    refine tc_iconst (v := 2) tc_d5_goesUp_160 (by decide) ?_
    refine tc_icmp_lt (tgt := 178) tc_d5_goesUp_161 (by decide) h (fun h => ?_) (fun h => ?_)
    · refine tc_iconst (v := 0) tc_d5_goesUp_178 (by decide) ?_
      exact tc_zret tc_d5_goesUp_179 rfl (by decide) (tc_riS h)
    · refine tc_sub [1, 3, 0] rfl ?_
      exact (tc_b5_goesUp_164 N ht _ _ _ _) h
def tc_f5_goesUp_221 (N : Nat) (t : Nat) (x2 : Int32) (x5 : Int32) (μ : tc_Mem) : Option (Int32 × tc_Mem) :=
  tc_bd (tc_f5_isEnough N t x5 x2 μ) fun r1 μ2 =>
  if r1 = 0 then
    some (0, μ2)
  else
    some (1, μ2)
theorem tc_b5_goesUp_221 (N : Nat) {t : Nat} (ht : tc_Yd t) (x2 : Int32) (x5 : Int32) (μ : tc_Mem) (z : Int32 × tc_Mem) (h : tc_f5_goesUp_221 N t x2 x5 μ = some z) : tc_At l G tc_i5_goesUp (some (.int z.1)) z.2 X 221 [(0, .ref (tc_ad G t)), (2, .int x2), (5, .int x5)] [] μ := by
  unfold tc_f5_goesUp_221 at h
  refine tc_aload_n tc_d5_goesUp_221 0 rfl ?_
  refine tc_iload tc_d5_goesUp_222 2 rfl ?_
  refine tc_iload_n tc_d5_goesUp_224 1 rfl ?_
  obtain ⟨r1, μ2, e1, h⟩ := tc_bdS h
  have c1 := tc_c5_isEnough (l := l) (G := G) N ht e1
  refine tc_callVi (As := [.int x5, .int x2]) (rest := []) (r1 := r1) (μ1 := μ2) tc_d5_goesUp_225 tc_ok5_isEnough tc_w471 ⟨Nat.le_of_ble_eq_true rfl, Nat.le_of_ble_eq_true rfl⟩ (tc_s5 ht) rfl c1 rfl rfl (Nat.le_of_ble_eq_true rfl) ?_
  refine tc_if_eq (tgt := 235) tc_d5_goesUp_228 (by decide) h (fun h => ?_) (fun h => ?_)
  · refine tc_iconst (v := 0) tc_d5_goesUp_235 (by decide) ?_
    exact tc_zret tc_d5_goesUp_236 rfl (by decide) (tc_riS h)
  · refine tc_iconst (v := 1) tc_d5_goesUp_231 (by decide) ?_
    refine tc_goto (tgt := 236) tc_d5_goesUp_232 (by decide) ?_
    exact tc_zret tc_d5_goesUp_236 rfl (by decide) (tc_riS h)
def tc_f5_goesUp_94 (N : Nat) (t : Nat) (x2 : Int32) (x5 : Int32) (μ : tc_Mem) : Option (Int32 × tc_Mem) :=
  tc_bd (tc_f5_isEnough N t x5 x2 μ) fun r1 μ2 =>
  if r1 = 0 then
    some (0, μ2)
  else
    some (1, μ2)
theorem tc_b5_goesUp_94 (N : Nat) {t : Nat} (ht : tc_Yd t) (x2 : Int32) (x5 : Int32) (μ : tc_Mem) (z : Int32 × tc_Mem) (h : tc_f5_goesUp_94 N t x2 x5 μ = some z) : tc_At l G tc_i5_goesUp (some (.int z.1)) z.2 X 94 [(0, .ref (tc_ad G t)), (2, .int x2), (5, .int x5)] [] μ := by
  unfold tc_f5_goesUp_94 at h
  refine tc_aload_n tc_d5_goesUp_94 0 rfl ?_
  refine tc_iload tc_d5_goesUp_95 2 rfl ?_
  refine tc_iload_n tc_d5_goesUp_97 1 rfl ?_
  obtain ⟨r1, μ2, e1, h⟩ := tc_bdS h
  have c1 := tc_c5_isEnough (l := l) (G := G) N ht e1
  refine tc_callVi (As := [.int x5, .int x2]) (rest := []) (r1 := r1) (μ1 := μ2) tc_d5_goesUp_98 tc_ok5_isEnough tc_w471 ⟨Nat.le_of_ble_eq_true rfl, Nat.le_of_ble_eq_true rfl⟩ (tc_s5 ht) rfl c1 rfl rfl (Nat.le_of_ble_eq_true rfl) ?_
  refine tc_if_eq (tgt := 108) tc_d5_goesUp_101 (by decide) h (fun h => ?_) (fun h => ?_)
  · refine tc_iconst (v := 0) tc_d5_goesUp_108 (by decide) ?_
    exact tc_zret tc_d5_goesUp_109 rfl (by decide) (tc_riS h)
  · refine tc_iconst (v := 1) tc_d5_goesUp_104 (by decide) ?_
    refine tc_goto (tgt := 109) tc_d5_goesUp_105 (by decide) ?_
    exact tc_zret tc_d5_goesUp_109 rfl (by decide) (tc_riS h)
def tc_f5_goesUp_14 (N : Nat) (t : Nat) (x1 : Int32) (s0 : Int32) (μ : tc_Mem) : Option (Int32 × tc_Mem) :=
  tc_bd (tc_f5_relay N t (x1 - 1) μ) fun r1 μ2 =>
  tc_bd (tc_f5_relay N t (x1 + 1) μ2) fun r3 μ4 =>
  tc_ck x1 8 (
  tc_lt (μ4 (t + 6) x1.toNatClampNeg) fun v6 =>
  tc_ck x1 8 (
  tc_lt (μ4 (t + 1) x1.toNatClampNeg) fun v8 =>
  if v8 < 1 ∨ 5 < v8 then
    tc_bd (tc_f5_isEnough N t v6 s0 μ4) fun r9 μ10 =>
    tc_zr r9 μ10
  else if v8 = 1 then
    if s0 = 0 then
      tc_ck x1 8 (
      if (μ4 (t + 5) x1.toNatClampNeg) < 2 then
        some (0, μ4)
      else
        tc_f5_goesUp_94 N t s0 v6 μ4)
    else
      tc_f5_goesUp_94 N t s0 v6 μ4
  else if v8 = 2 then
    if s0 = 0 then
      if r1 = 0 then
        some (0, μ4)
      else
        tc_f5_goesUp_118 N t s0 v6 μ4
    else
      tc_f5_goesUp_118 N t s0 v6 μ4
  else if v8 = 3 then
    if r3 = 0 then
      tc_f5_goesUp_148 N t x1 s0 (v6 / 2) μ4
    else
      tc_f5_goesUp_148 N t x1 s0 v6 μ4
  else if v8 = 4 then
    if r3 = 1 then
      some (0, μ4)
    else
      tc_bd (tc_f5_isEnough N t v6 s0 μ4) fun r12 μ13 =>
      if r12 = 0 then
        some (0, μ13)
      else
        some (1, μ13)
  else if v8 = 5 then
    if (if r1 < r3 then r3 else r1) = 0 then
      some (0, μ4)
    else
      if s0 = 0 then
        if r1 = 0 then
          some (0, μ4)
        else
          tc_f5_goesUp_221 N t s0 v6 μ4
      else
        tc_f5_goesUp_221 N t s0 v6 μ4
  else none))
theorem tc_b5_goesUp_14 (N : Nat) {t : Nat} (ht : tc_Yd t) (x1 : Int32) (s0 : Int32) (μ : tc_Mem) (z : Int32 × tc_Mem) (h : tc_f5_goesUp_14 N t x1 s0 μ = some z) : tc_At l G tc_i5_goesUp (some (.int z.1)) z.2 X 14 [(0, .ref (tc_ad G t)), (1, .int x1)] [.int s0] μ := by
  unfold tc_f5_goesUp_14 at h
  refine tc_istore_n (L' := [(2, .int s0), (0, .ref (tc_ad G t)), (1, .int x1)]) tc_d5_goesUp_14 (by decide) rfl ?_
  refine tc_aload_n tc_d5_goesUp_15 1 rfl ?_
  refine tc_iload_n tc_d5_goesUp_16 2 rfl ?_
  refine tc_iconst (v := 1) tc_d5_goesUp_17 (by decide) ?_
  refine tc_isub tc_d5_goesUp_18 ?_
  obtain ⟨r1, μ2, e1, h⟩ := tc_bdS h
  have c1 := tc_c5_relay (l := l) (G := G) N ht e1
  refine tc_callVi (As := [.int (x1 - 1)]) (rest := []) (r1 := r1) (μ1 := μ2) tc_d5_goesUp_19 tc_ok5_relay tc_w467 ⟨Nat.le_of_ble_eq_true rfl, Nat.le_of_ble_eq_true rfl⟩ (tc_s5 ht) rfl c1 rfl rfl (Nat.le_of_ble_eq_true rfl) ?_
  refine tc_istore_n (L' := [(3, .int r1), (2, .int s0), (0, .ref (tc_ad G t)), (1, .int x1)]) tc_d5_goesUp_22 (by decide) rfl ?_
  refine tc_aload_n tc_d5_goesUp_23 2 rfl ?_
  refine tc_iload_n tc_d5_goesUp_24 3 rfl ?_
  refine tc_iconst (v := 1) tc_d5_goesUp_25 (by decide) ?_
  refine tc_iadd tc_d5_goesUp_26 ?_
  obtain ⟨r3, μ4, e3, h⟩ := tc_bdS h
  have c3 := tc_c5_relay (l := l) (G := G) N ht e3
  refine tc_callVi (As := [.int (x1 + 1)]) (rest := []) (r1 := r3) (μ1 := μ4) tc_d5_goesUp_27 tc_ok5_relay tc_w467 ⟨Nat.le_of_ble_eq_true rfl, Nat.le_of_ble_eq_true rfl⟩ (tc_s5 ht) rfl c3 rfl rfl (Nat.le_of_ble_eq_true rfl) ?_
  refine tc_istore (L' := [(4, .int r3), (3, .int r1), (2, .int s0), (0, .ref (tc_ad G t)), (1, .int x1)]) tc_d5_goesUp_30 (by decide) rfl ?_
  refine tc_aload_n tc_d5_goesUp_32 3 rfl ?_
  refine tc_g5_6 tc_d5_goesUp_33 tc_w128 ht ?_
  refine tc_iload_n tc_d5_goesUp_36 4 rfl ?_
  obtain ⟨hi5, h⟩ := tc_ckS h
  refine tc_iald tc_d5_goesUp_37 (tc_a5_6 ht) hi5 ?_
  refine tc_ltI h (fun v6 h => ?_)
  refine tc_istore (L' := [(5, .int v6), (4, .int r3), (3, .int r1), (2, .int s0), (0, .ref (tc_ad G t)), (1, .int x1)]) tc_d5_goesUp_38 (by decide) rfl ?_
  refine tc_aload_n tc_d5_goesUp_40 4 rfl ?_
  refine tc_g5_1 tc_d5_goesUp_41 tc_w117 ht ?_
  refine tc_iload_n tc_d5_goesUp_44 5 rfl ?_
  obtain ⟨hi7, h⟩ := tc_ckS h
  refine tc_iald tc_d5_goesUp_45 (tc_a5_1 ht) hi7 ?_
  refine tc_ltI h (fun v8 h => ?_)
  by_cases hq : v8 < 1 ∨ 5 < v8
  · rw [if_pos hq] at h
    refine tc_tswD (a := 1) (b := 5) (tgt := 237) tc_d5_goesUp_46 ⟨by decide, by decide⟩ hq (by decide) ?_
    refine tc_aload_n tc_d5_goesUp_237 4 rfl ?_
    refine tc_iload tc_d5_goesUp_238 0 rfl ?_
    refine tc_iload_n tc_d5_goesUp_240 3 rfl ?_
    obtain ⟨r9, μ10, e9, h⟩ := tc_bdS h
    have c9 := tc_c5_isEnough (l := l) (G := G) N ht e9
    refine tc_callVi (As := [.int v6, .int s0]) (rest := []) (r1 := r9) (μ1 := μ10) tc_d5_goesUp_241 tc_ok5_isEnough tc_w471 ⟨Nat.le_of_ble_eq_true rfl, Nat.le_of_ble_eq_true rfl⟩ (tc_s5 ht) rfl c9 rfl rfl (Nat.le_of_ble_eq_true rfl) ?_
    exact tc_zret tc_d5_goesUp_244 rfl (tc_zrS h).1 (tc_zrS h).2
  · rw [if_neg hq] at h
    by_cases hq : v8 = 1
    · rw [if_pos hq] at h
      refine tc_tswK (k := 1) (off := 34) (tgt := 80) tc_d5_goesUp_46 hq (by decide) (by decide) rfl (by decide) ?_
      refine tc_iload_n tc_d5_goesUp_80 3 rfl ?_
      refine tc_if_ne (tgt := 94) tc_d5_goesUp_81 (by decide) h (fun h => ?_) (fun h => ?_)
      · refine tc_sub [4, 3, 0] rfl ?_
        exact (tc_b5_goesUp_94 N ht _ _ _ _) h
      · refine tc_aload_n tc_d5_goesUp_84 4 rfl ?_
        refine tc_g5_5 tc_d5_goesUp_85 tc_w126 ht ?_
        refine tc_iload_n tc_d5_goesUp_88 5 rfl ?_
        obtain ⟨hi11, h⟩ := tc_ckS h
        refine tc_iald tc_d5_goesUp_89 (tc_a5_5 ht) hi11 ?_
        refine tc_iconst (v := 2) tc_d5_goesUp_90 (by decide) ?_
        refine tc_icmp_lt (tgt := 108) tc_d5_goesUp_91 (by decide) h (fun h => ?_) (fun h => ?_)
        · refine tc_iconst (v := 0) tc_d5_goesUp_108 (by decide) ?_
          exact tc_zret tc_d5_goesUp_109 rfl (by decide) (tc_riS h)
        · refine tc_sub [4, 3, 0] rfl ?_
          exact (tc_b5_goesUp_94 N ht _ _ _ _) h
    · rw [if_neg hq] at h
      by_cases hq : v8 = 2
      · rw [if_pos hq] at h
        refine tc_tswK (k := 2) (off := 64) (tgt := 110) tc_d5_goesUp_46 hq (by decide) (by decide) rfl (by decide) ?_
        refine tc_iload_n tc_d5_goesUp_110 3 rfl ?_
        refine tc_if_ne (tgt := 118) tc_d5_goesUp_111 (by decide) h (fun h => ?_) (fun h => ?_)
        · refine tc_sub [4, 3, 0] rfl ?_
          exact (tc_b5_goesUp_118 N ht _ _ _ _) h
        · refine tc_iload_n tc_d5_goesUp_114 2 rfl ?_
          refine tc_if_eq (tgt := 132) tc_d5_goesUp_115 (by decide) h (fun h => ?_) (fun h => ?_)
          · refine tc_iconst (v := 0) tc_d5_goesUp_132 (by decide) ?_
            exact tc_zret tc_d5_goesUp_133 rfl (by decide) (tc_riS h)
          · refine tc_sub [4, 3, 0] rfl ?_
            exact (tc_b5_goesUp_118 N ht _ _ _ _) h
      · rw [if_neg hq] at h
        by_cases hq : v8 = 3
        · rw [if_pos hq] at h
          refine tc_tswK (k := 3) (off := 88) (tgt := 134) tc_d5_goesUp_46 hq (by decide) (by decide) rfl (by decide) ?_
          refine tc_iload tc_d5_goesUp_134 1 rfl ?_
          refine tc_if_ne (tgt := 146) tc_d5_goesUp_136 (by decide) h (fun h => ?_) (fun h => ?_)
          · refine tc_iload tc_d5_goesUp_146 0 rfl ?_
            refine tc_sub [4, 5, 3] rfl ?_
            exact (tc_b5_goesUp_148 N ht _ _ _ _ _) h
          · refine tc_iload tc_d5_goesUp_139 0 rfl ?_
            refine tc_iconst (v := 2) tc_d5_goesUp_141 (by decide) ?_
            refine tc_idiv tc_d5_goesUp_142 (by decide) ?_
            refine tc_goto (tgt := 148) tc_d5_goesUp_143 (by decide) ?_
            refine tc_sub [4, 5, 3] rfl ?_
            exact (tc_b5_goesUp_148 N ht _ _ _ _ _) h
        · rw [if_neg hq] at h
          by_cases hq : v8 = 4
          · rw [if_pos hq] at h
            refine tc_tswK (k := 4) (off := 134) (tgt := 180) tc_d5_goesUp_46 hq (by decide) (by decide) rfl (by decide) ?_
            refine tc_iload tc_d5_goesUp_180 1 rfl ?_
            refine tc_iconst (v := 1) tc_d5_goesUp_182 (by decide) ?_
            refine tc_icmp_eq (tgt := 200) tc_d5_goesUp_183 (by decide) h (fun h => ?_) (fun h => ?_)
            · refine tc_iconst (v := 0) tc_d5_goesUp_200 (by decide) ?_
              exact tc_zret tc_d5_goesUp_201 rfl (by decide) (tc_riS h)
            · refine tc_aload_n tc_d5_goesUp_186 4 rfl ?_
              refine tc_iload tc_d5_goesUp_187 0 rfl ?_
              refine tc_iload_n tc_d5_goesUp_189 3 rfl ?_
              obtain ⟨r12, μ13, e12, h⟩ := tc_bdS h
              have c12 := tc_c5_isEnough (l := l) (G := G) N ht e12
              refine tc_callVi (As := [.int v6, .int s0]) (rest := []) (r1 := r12) (μ1 := μ13) tc_d5_goesUp_190 tc_ok5_isEnough tc_w471 ⟨Nat.le_of_ble_eq_true rfl, Nat.le_of_ble_eq_true rfl⟩ (tc_s5 ht) rfl c12 rfl rfl (Nat.le_of_ble_eq_true rfl) ?_
              refine tc_if_eq (tgt := 200) tc_d5_goesUp_193 (by decide) h (fun h => ?_) (fun h => ?_)
              · refine tc_iconst (v := 0) tc_d5_goesUp_200 (by decide) ?_
                exact tc_zret tc_d5_goesUp_201 rfl (by decide) (tc_riS h)
              · refine tc_iconst (v := 1) tc_d5_goesUp_196 (by decide) ?_
                refine tc_goto (tgt := 201) tc_d5_goesUp_197 (by decide) ?_
                exact tc_zret tc_d5_goesUp_201 rfl (by decide) (tc_riS h)
          · rw [if_neg hq] at h
            by_cases hq : v8 = 5
            · rw [if_pos hq] at h
              refine tc_tswK (k := 5) (off := 156) (tgt := 202) tc_d5_goesUp_46 hq (by decide) (by decide) rfl (by decide) ?_
              refine tc_iload_n tc_d5_goesUp_202 2 rfl ?_
              refine tc_iload tc_d5_goesUp_203 1 rfl ?_
              refine tc_mmax tc_d5_goesUp_205 tc_w350 tc_okmmax ⟨Nat.le_of_ble_eq_true rfl, Nat.le_of_ble_eq_true rfl⟩ ?_
              refine tc_if_ne (tgt := 213) tc_d5_goesUp_208 (by decide) h (fun h => ?_) (fun h => ?_)
              · refine tc_iload_n tc_d5_goesUp_213 3 rfl ?_
                refine tc_if_ne (tgt := 221) tc_d5_goesUp_214 (by decide) h (fun h => ?_) (fun h => ?_)
                · refine tc_sub [4, 3, 0] rfl ?_
                  exact (tc_b5_goesUp_221 N ht _ _ _ _) h
                · refine tc_iload_n tc_d5_goesUp_217 2 rfl ?_
                  refine tc_if_eq (tgt := 235) tc_d5_goesUp_218 (by decide) h (fun h => ?_) (fun h => ?_)
                  · refine tc_iconst (v := 0) tc_d5_goesUp_235 (by decide) ?_
                    exact tc_zret tc_d5_goesUp_236 rfl (by decide) (tc_riS h)
                  · refine tc_sub [4, 3, 0] rfl ?_
                    exact (tc_b5_goesUp_221 N ht _ _ _ _) h
              · refine tc_iconst (v := 0) tc_d5_goesUp_211 (by decide) ?_
                exact tc_zret tc_d5_goesUp_212 rfl (by decide) (tc_riS h)
            · rw [if_neg hq] at h
              cases h
def tc_f5_goesUp (N : Nat) (t : Nat) (x1 : Int32) (μ : tc_Mem) : Option (Int32 × tc_Mem) :=
  tc_bd (tc_f5_relay N t x1 μ) fun r1 μ2 =>
  if r1 = 1 then
    tc_f5_goesUp_14 N t x1 1 μ2
  else
    tc_f5_goesUp_14 N t x1 0 μ2
theorem tc_b5_goesUp_0 (N : Nat) {t : Nat} (ht : tc_Yd t) (x1 : Int32) (μ : tc_Mem) (z : Int32 × tc_Mem) (h : tc_f5_goesUp N t x1 μ = some z) : tc_At l G tc_i5_goesUp (some (.int z.1)) z.2 X 0 [(0, .ref (tc_ad G t)), (1, .int x1)] [] μ := by
  unfold tc_f5_goesUp at h
  refine tc_aload_n tc_d5_goesUp_0 0 rfl ?_
  refine tc_iload_n tc_d5_goesUp_1 1 rfl ?_
  obtain ⟨r1, μ2, e1, h⟩ := tc_bdS h
  have c1 := tc_c5_relay (l := l) (G := G) N ht e1
  refine tc_callVi (As := [.int x1]) (rest := []) (r1 := r1) (μ1 := μ2) tc_d5_goesUp_2 tc_ok5_relay tc_w467 ⟨Nat.le_of_ble_eq_true rfl, Nat.le_of_ble_eq_true rfl⟩ (tc_s5 ht) rfl c1 rfl rfl (Nat.le_of_ble_eq_true rfl) ?_
  refine tc_iconst (v := 1) tc_d5_goesUp_5 (by decide) ?_
  refine tc_icmp_ne (tgt := 13) tc_d5_goesUp_6 (by decide) h (fun h => ?_) (fun h => ?_)
  · refine tc_iconst (v := 0) tc_d5_goesUp_13 (by decide) ?_
    exact (tc_b5_goesUp_14 N ht _ _ _ _) h
  · refine tc_iconst (v := 1) tc_d5_goesUp_9 (by decide) ?_
    refine tc_goto (tgt := 14) tc_d5_goesUp_10 (by decide) ?_
    exact (tc_b5_goesUp_14 N ht _ _ _ _) h
theorem tc_c5_goesUp (N : Nat) {t : Nat} {x1 : Int32} {μ : tc_Mem} {z : Int32 × tc_Mem} (ht : tc_Yd t) (h : tc_f5_goesUp N t x1 μ = some z) : tc_Con l G tc_i5_goesUp [.ref (tc_ad G t), .int x1] μ (some (.int z.1)) z.2 :=
  tc_Con.of (L := [(0, .ref (tc_ad G t)), (1, .int x1)]) (by decide) (Nat.le_of_ble_eq_true rfl) rfl (fun X => tc_b5_goesUp_0 N ht _ _ _ h)
def tc_f5_countWaits_44 (N : Nat) (t : Nat) (k2 : Int32 → tc_Mem → Option (Int32 × tc_Mem)) (x1 : Int32) (s1 : Int32) (s2 : Int32) (μ : tc_Mem) : Option (Int32 × tc_Mem) :=
  tc_ck s1 8 (
  tc_lt (tc_wr μ (t + 5) s1.toNatClampNeg s2) fun μ2 =>
  k2 (x1 + 1) μ2)
theorem tc_b5_countWaits_44 (N : Nat) {t : Nat} (ht : tc_Yd t) {k2 : Int32 → tc_Mem → Option (Int32 × tc_Mem)} (H2 : ∀ (x1 : Int32) (μ : tc_Mem) (z : Int32 × tc_Mem), k2 x1 μ = some z → tc_At l G tc_i5_countWaits none z.2 X 2 [(0, .ref (tc_ad G t)), (1, .int x1)] [] μ) (x1 : Int32) (s1 : Int32) (s2 : Int32) (μ : tc_Mem) (z : Int32 × tc_Mem) (h : tc_f5_countWaits_44 N t k2 x1 s1 s2 μ = some z) : tc_At l G tc_i5_countWaits none z.2 X 44 [(0, .ref (tc_ad G t)), (1, .int x1)] [.int s2, .int s1, .ref (tc_ad G (t + 5))] μ := by
  unfold tc_f5_countWaits_44 at h
  obtain ⟨hi1, h⟩ := tc_ckS h
  refine tc_iastL tc_d5_countWaits_44 (tc_a5_5 ht) hi1 h (fun μ2 h => ?_)
  refine tc_iinc (v := (x1 + 1)) (L' := [(1, .int (x1 + 1)), (0, .ref (tc_ad G t))]) tc_d5_countWaits_45 1 rfl rfl (by decide) rfl ?_
  refine tc_goto (tgt := 2) tc_d5_countWaits_48 (by decide) ?_
  refine tc_sub [1, 0] rfl ?_
  exact (H2 _ _ _) h
def tc_f5_countWaits_2 (N : Nat) (t : Nat) : Nat → Int32 → tc_Mem → Option (Int32 × tc_Mem)
  | 0 => fun _ _ => none
  | n + 1 => fun x1 μ => 
    if (μ t 0) ≤ x1 then
      some (0, μ)
    else
      tc_ck x1 8 (
      if (μ (t + 6) x1.toNatClampNeg) < (μ t 10) then
        tc_f5_countWaits_44 N t (tc_f5_countWaits_2 N t n) x1 x1 0 μ
      else
        tc_ck x1 8 (
        tc_f5_countWaits_44 N t (tc_f5_countWaits_2 N t n) x1 x1 (if ((μ (t + 5) x1.toNatClampNeg) + 1) < 3 then ((μ (t + 5) x1.toNatClampNeg) + 1) else 3) μ))
theorem tc_b5_countWaits_2 (N : Nat) {t : Nat} (ht : tc_Yd t) : ∀ (n : Nat) (x1 : Int32) (μ : tc_Mem) (z : Int32 × tc_Mem), tc_f5_countWaits_2 N t n x1 μ = some z → tc_At l G tc_i5_countWaits none z.2 X 2 [(0, .ref (tc_ad G t)), (1, .int x1)] [] μ := by
  intro n
  induction n with
  | zero => intro x1 μ z h; cases h
  | succ n ih =>
    intro x1 μ z h
    rw [tc_f5_countWaits_2] at h
    refine tc_iload_n tc_d5_countWaits_2 1 rfl ?_
    refine tc_aload_n tc_d5_countWaits_3 0 rfl ?_
    refine tc_g5_0 tc_d5_countWaits_4 tc_w113 ht ?_
    refine tc_icmp_ge (tgt := 51) tc_d5_countWaits_7 (by decide) h (fun h => ?_) (fun h => ?_)
    · exact tc_vret tc_d5_countWaits_51 rfl (tc_rvS h)
    · refine tc_aload_n tc_d5_countWaits_10 0 rfl ?_
      refine tc_g5_5 tc_d5_countWaits_11 tc_w126 ht ?_
      refine tc_iload_n tc_d5_countWaits_14 1 rfl ?_
      refine tc_aload_n tc_d5_countWaits_15 0 rfl ?_
      refine tc_g5_6 tc_d5_countWaits_16 tc_w128 ht ?_
      refine tc_iload_n tc_d5_countWaits_19 1 rfl ?_
      obtain ⟨hi1, h⟩ := tc_ckS h
      refine tc_iald tc_d5_countWaits_20 (tc_a5_6 ht) hi1 ?_
      refine tc_aload_n tc_d5_countWaits_21 0 rfl ?_
      refine tc_g5_10 tc_d5_countWaits_22 tc_w140 ht ?_
      refine tc_icmp_lt (tgt := 43) tc_d5_countWaits_25 (by decide) h (fun h => ?_) (fun h => ?_)
      · refine tc_iconst (v := 0) tc_d5_countWaits_43 (by decide) ?_
        exact (tc_b5_countWaits_44 N ht ih _ _ _ _ _) h
      · refine tc_iconst (v := 3) tc_d5_countWaits_28 (by decide) ?_
        refine tc_aload_n tc_d5_countWaits_29 0 rfl ?_
        refine tc_g5_5 tc_d5_countWaits_30 tc_w126 ht ?_
        refine tc_iload_n tc_d5_countWaits_33 1 rfl ?_
        obtain ⟨hi2, h⟩ := tc_ckS h
        refine tc_iald tc_d5_countWaits_34 (tc_a5_5 ht) hi2 ?_
        refine tc_iconst (v := 1) tc_d5_countWaits_35 (by decide) ?_
        refine tc_iadd tc_d5_countWaits_36 ?_
        refine tc_mmin tc_d5_countWaits_37 tc_w490 tc_okmmin ⟨Nat.le_of_ble_eq_true rfl, Nat.le_of_ble_eq_true rfl⟩ ?_
        refine tc_goto (tgt := 44) tc_d5_countWaits_40 (by decide) ?_
        exact (tc_b5_countWaits_44 N ht ih _ _ _ _ _) h
def tc_f5_countWaits (N : Nat) (t : Nat) (μ : tc_Mem) : Option (Int32 × tc_Mem) :=
  tc_f5_countWaits_2 N t N 0 μ
theorem tc_b5_countWaits_0 (N : Nat) {t : Nat} (ht : tc_Yd t) (μ : tc_Mem) (z : Int32 × tc_Mem) (h : tc_f5_countWaits N t μ = some z) : tc_At l G tc_i5_countWaits none z.2 X 0 [(0, .ref (tc_ad G t))] [] μ := by
  unfold tc_f5_countWaits at h
  refine tc_iconst (v := 0) tc_d5_countWaits_0 (by decide) ?_
  refine tc_istore_n (L' := [(1, .int 0), (0, .ref (tc_ad G t))]) tc_d5_countWaits_1 (by decide) rfl ?_
  refine tc_sub [1, 0] rfl ?_
  exact (tc_b5_countWaits_2 N ht N _ _ _) h
theorem tc_c5_countWaits (N : Nat) {t : Nat} {μ : tc_Mem} {z : Int32 × tc_Mem} (ht : tc_Yd t) (h : tc_f5_countWaits N t μ = some z) : tc_Con l G tc_i5_countWaits [.ref (tc_ad G t)] μ none z.2 :=
  tc_Con.of (L := [(0, .ref (tc_ad G t))]) (by decide) (Nat.le_of_ble_eq_true rfl) rfl (fun X => tc_b5_countWaits_0 N ht _ _ h)
def tc_f5_become (N : Nat) (t : Nat) (u : Nat) (μ : tc_Mem) : Option (Int32 × tc_Mem) :=
  tc_lt (tc_wr μ t 0 (μ u 0)) fun μ1 =>
  tc_cp μ1 (u + 1) 8 (t + 1) 8 0 0 (μ1 t 0) fun μ2 =>
  tc_cp μ2 (u + 2) 8 (t + 2) 8 0 0 (μ2 t 0) fun μ3 =>
  tc_cp μ3 (u + 3) 8 (t + 3) 8 0 0 (μ3 t 0) fun μ4 =>
  tc_cp μ4 (u + 4) 8 (t + 4) 8 0 0 (μ4 t 0) fun μ5 =>
  tc_cp μ5 (u + 5) 8 (t + 5) 8 0 0 (μ5 t 0) fun μ6 =>
  tc_bd (tc_f1_become N t u μ6) fun _ μ8 =>
  tc_lt (tc_wr μ8 t 8 (μ8 u 8)) fun μ9 =>
  tc_lt (tc_wr μ9 t 9 (μ9 u 9)) fun μ10 =>
  tc_lt (tc_wr μ10 t 10 (μ10 u 10)) fun μ11 =>
  tc_lt (tc_wr μ11 t 11 (μ11 u 11)) fun μ12 =>
  tc_lt (tc_wr μ12 t 12 (μ12 u 12)) fun μ13 =>
  some (0, μ13)
theorem tc_b5_become_0 (N : Nat) {t : Nat} {u : Nat} (ht : tc_Yd t) (hu : tc_Yd u) (μ : tc_Mem) (z : Int32 × tc_Mem) (h : tc_f5_become N t u μ = some z) : tc_At l G tc_i5_become none z.2 X 0 [(0, .ref (tc_ad G t)), (1, .ref (tc_ad G u))] [] μ := by
  unfold tc_f5_become at h
  refine tc_aload_n tc_d5_become_0 0 rfl ?_
  refine tc_aload_n tc_d5_become_1 1 rfl ?_
  refine tc_g5_0 tc_d5_become_2 tc_w113 hu ?_
  refine tc_p5_0 tc_d5_become_5 tc_w113 ht h (fun μ1 h => ?_)
  refine tc_aload_n tc_d5_become_8 1 rfl ?_
  refine tc_g5_1 tc_d5_become_9 tc_w117 hu ?_
  refine tc_iconst (v := 0) tc_d5_become_12 (by decide) ?_
  refine tc_aload_n tc_d5_become_13 0 rfl ?_
  refine tc_g5_1 tc_d5_become_14 tc_w117 ht ?_
  refine tc_iconst (v := 0) tc_d5_become_17 (by decide) ?_
  refine tc_aload_n tc_d5_become_18 0 rfl ?_
  refine tc_g5_0 tc_d5_become_19 tc_w113 ht ?_
  refine tc_acpyL tc_d5_become_22 tc_w532 tc_okcp ⟨Nat.le_of_ble_eq_true rfl, Nat.le_of_ble_eq_true rfl⟩ (tc_a5_1 hu) (tc_a5_1 ht) h (fun μ2 h => ?_)
  refine tc_aload_n tc_d5_become_25 1 rfl ?_
  refine tc_g5_2 tc_d5_become_26 tc_w120 hu ?_
  refine tc_iconst (v := 0) tc_d5_become_29 (by decide) ?_
  refine tc_aload_n tc_d5_become_30 0 rfl ?_
  refine tc_g5_2 tc_d5_become_31 tc_w120 ht ?_
  refine tc_iconst (v := 0) tc_d5_become_34 (by decide) ?_
  refine tc_aload_n tc_d5_become_35 0 rfl ?_
  refine tc_g5_0 tc_d5_become_36 tc_w113 ht ?_
  refine tc_acpyL tc_d5_become_39 tc_w532 tc_okcp ⟨Nat.le_of_ble_eq_true rfl, Nat.le_of_ble_eq_true rfl⟩ (tc_a5_2 hu) (tc_a5_2 ht) h (fun μ3 h => ?_)
  refine tc_aload_n tc_d5_become_42 1 rfl ?_
  refine tc_g5_3 tc_d5_become_43 tc_w122 hu ?_
  refine tc_iconst (v := 0) tc_d5_become_46 (by decide) ?_
  refine tc_aload_n tc_d5_become_47 0 rfl ?_
  refine tc_g5_3 tc_d5_become_48 tc_w122 ht ?_
  refine tc_iconst (v := 0) tc_d5_become_51 (by decide) ?_
  refine tc_aload_n tc_d5_become_52 0 rfl ?_
  refine tc_g5_0 tc_d5_become_53 tc_w113 ht ?_
  refine tc_acpyL tc_d5_become_56 tc_w532 tc_okcp ⟨Nat.le_of_ble_eq_true rfl, Nat.le_of_ble_eq_true rfl⟩ (tc_a5_3 hu) (tc_a5_3 ht) h (fun μ4 h => ?_)
  refine tc_aload_n tc_d5_become_59 1 rfl ?_
  refine tc_g5_4 tc_d5_become_60 tc_w124 hu ?_
  refine tc_iconst (v := 0) tc_d5_become_63 (by decide) ?_
  refine tc_aload_n tc_d5_become_64 0 rfl ?_
  refine tc_g5_4 tc_d5_become_65 tc_w124 ht ?_
  refine tc_iconst (v := 0) tc_d5_become_68 (by decide) ?_
  refine tc_aload_n tc_d5_become_69 0 rfl ?_
  refine tc_g5_0 tc_d5_become_70 tc_w113 ht ?_
  refine tc_acpyL tc_d5_become_73 tc_w532 tc_okcp ⟨Nat.le_of_ble_eq_true rfl, Nat.le_of_ble_eq_true rfl⟩ (tc_a5_4 hu) (tc_a5_4 ht) h (fun μ5 h => ?_)
  refine tc_aload_n tc_d5_become_76 1 rfl ?_
  refine tc_g5_5 tc_d5_become_77 tc_w126 hu ?_
  refine tc_iconst (v := 0) tc_d5_become_80 (by decide) ?_
  refine tc_aload_n tc_d5_become_81 0 rfl ?_
  refine tc_g5_5 tc_d5_become_82 tc_w126 ht ?_
  refine tc_iconst (v := 0) tc_d5_become_85 (by decide) ?_
  refine tc_aload_n tc_d5_become_86 0 rfl ?_
  refine tc_g5_0 tc_d5_become_87 tc_w113 ht ?_
  refine tc_acpyL tc_d5_become_90 tc_w532 tc_okcp ⟨Nat.le_of_ble_eq_true rfl, Nat.le_of_ble_eq_true rfl⟩ (tc_a5_5 hu) (tc_a5_5 ht) h (fun μ6 h => ?_)
  refine tc_aload_n tc_d5_become_93 0 rfl ?_
  refine tc_g5_7 tc_d5_become_94 tc_w130 ht ?_
  refine tc_aload_n tc_d5_become_97 1 rfl ?_
  refine tc_g5_7 tc_d5_become_98 tc_w130 hu ?_
  obtain ⟨r7, μ8, e7, h⟩ := tc_bdS h
  have c7 := tc_c1_become (l := l) (G := G) N ht hu e7
  refine tc_callVv (As := [.ref (tc_ad G (u + 7))]) (rest := []) (μ1 := μ8) tc_d5_become_101 tc_ok1_become tc_w533 ⟨Nat.le_of_ble_eq_true rfl, Nat.le_of_ble_eq_true rfl⟩ (tc_s1 ht) rfl c7 rfl rfl (Nat.le_of_ble_eq_true rfl) ?_
  refine tc_aload_n tc_d5_become_104 0 rfl ?_
  refine tc_aload_n tc_d5_become_105 1 rfl ?_
  refine tc_g5_8 tc_d5_become_106 tc_w133 hu ?_
  refine tc_p5_8 tc_d5_become_109 tc_w133 ht h (fun μ9 h => ?_)
  refine tc_aload_n tc_d5_become_112 0 rfl ?_
  refine tc_aload_n tc_d5_become_113 1 rfl ?_
  refine tc_g5_9 tc_d5_become_114 tc_w137 hu ?_
  refine tc_p5_9 tc_d5_become_117 tc_w137 ht h (fun μ10 h => ?_)
  refine tc_aload_n tc_d5_become_120 0 rfl ?_
  refine tc_aload_n tc_d5_become_121 1 rfl ?_
  refine tc_g5_10 tc_d5_become_122 tc_w140 hu ?_
  refine tc_p5_10 tc_d5_become_125 tc_w140 ht h (fun μ11 h => ?_)
  refine tc_aload_n tc_d5_become_128 0 rfl ?_
  refine tc_aload_n tc_d5_become_129 1 rfl ?_
  refine tc_g5_11 tc_d5_become_130 tc_w143 hu ?_
  refine tc_p5_11 tc_d5_become_133 tc_w143 ht h (fun μ12 h => ?_)
  refine tc_aload_n tc_d5_become_136 0 rfl ?_
  refine tc_aload_n tc_d5_become_137 1 rfl ?_
  refine tc_g5_12 tc_d5_become_138 tc_w144 hu ?_
  refine tc_p5_12 tc_d5_become_141 tc_w144 ht h (fun μ13 h => ?_)
  exact tc_vret tc_d5_become_144 rfl (tc_rvS h)
theorem tc_c5_become (N : Nat) {t : Nat} {u : Nat} {μ : tc_Mem} {z : Int32 × tc_Mem} (ht : tc_Yd t) (hu : tc_Yd u) (h : tc_f5_become N t u μ = some z) : tc_Con l G tc_i5_become [.ref (tc_ad G t), .ref (tc_ad G u)] μ none z.2 :=
  tc_Con.of (L := [(0, .ref (tc_ad G t)), (1, .ref (tc_ad G u))]) (by decide) (Nat.le_of_ble_eq_true rfl) rfl (fun X => tc_b5_become_0 N ht hu _ _ h)
def tc_f5_addFault_29 (N : Nat) (t : Nat) (x1 : Int32) (x2 : Int32) (s0 : Int32) (μ : tc_Mem) : Option (Int32 × tc_Mem) :=
  tc_bd (tc_f1_add N t x1 x2 s0 μ) fun _ μ2 =>
  some (0, μ2)
theorem tc_b5_addFault_29 (N : Nat) {t : Nat} (ht : tc_Yd t) (x1 : Int32) (x2 : Int32) (s0 : Int32) (μ : tc_Mem) (z : Int32 × tc_Mem) (h : tc_f5_addFault_29 N t x1 x2 s0 μ = some z) : tc_At l G tc_i5_addFault none z.2 X 29 [(0, .ref (tc_ad G t)), (1, .int x1), (2, .int x2)] [.int s0] μ := by
  unfold tc_f5_addFault_29 at h
  refine tc_istore_n (L' := [(3, .int s0), (0, .ref (tc_ad G t)), (1, .int x1), (2, .int x2)]) tc_d5_addFault_29 (by decide) rfl ?_
  refine tc_aload_n tc_d5_addFault_30 1 rfl ?_
  refine tc_g5_7 tc_d5_addFault_31 tc_w130 ht ?_
  refine tc_iload_n tc_d5_addFault_34 2 rfl ?_
  refine tc_iload_n tc_d5_addFault_35 3 rfl ?_
  refine tc_iload_n tc_d5_addFault_36 0 rfl ?_
  obtain ⟨r1, μ2, e1, h⟩ := tc_bdS h
  have c1 := tc_c1_add (l := l) (G := G) N ht e1
  refine tc_callVv (As := [.int x1, .int x2, .int s0]) (rest := []) (μ1 := μ2) tc_d5_addFault_37 tc_ok1_add tc_w425 ⟨Nat.le_of_ble_eq_true rfl, Nat.le_of_ble_eq_true rfl⟩ (tc_s1 ht) rfl c1 rfl rfl (Nat.le_of_ble_eq_true rfl) ?_
  exact tc_vret tc_d5_addFault_40 rfl (tc_rvS h)
def tc_f5_addFault_28 (N : Nat) (t : Nat) (x1 : Int32) (x2 : Int32) (μ : tc_Mem) : Option (Int32 × tc_Mem) :=
  tc_f5_addFault_29 N t x1 x2 0 μ
theorem tc_b5_addFault_28 (N : Nat) {t : Nat} (ht : tc_Yd t) (x1 : Int32) (x2 : Int32) (μ : tc_Mem) (z : Int32 × tc_Mem) (h : tc_f5_addFault_28 N t x1 x2 μ = some z) : tc_At l G tc_i5_addFault none z.2 X 28 [(0, .ref (tc_ad G t)), (1, .int x1), (2, .int x2)] [] μ := by
  unfold tc_f5_addFault_28 at h
  refine tc_iconst (v := 0) tc_d5_addFault_28 (by decide) ?_
  exact (tc_b5_addFault_29 N ht _ _ _ _ _) h
def tc_f5_addFault (N : Nat) (t : Nat) (x1 : Int32) (x2 : Int32) (μ : tc_Mem) : Option (Int32 × tc_Mem) :=
  if x1 = 2 then
    tc_bd (tc_f5_has N t (x2 + 1) μ) fun r1 μ2 =>
    if r1 = 0 then
      tc_f5_addFault_28 N t x1 x2 μ2
    else
      tc_ck (x2 + 1) 8 (
      tc_f5_addFault_29 N t x1 x2 ((μ2 (t + 2) (x2 + 1).toNatClampNeg) / 2) μ2)
  else
    tc_f5_addFault_28 N t x1 x2 μ
theorem tc_b5_addFault_0 (N : Nat) {t : Nat} (ht : tc_Yd t) (x1 : Int32) (x2 : Int32) (μ : tc_Mem) (z : Int32 × tc_Mem) (h : tc_f5_addFault N t x1 x2 μ = some z) : tc_At l G tc_i5_addFault none z.2 X 0 [(0, .ref (tc_ad G t)), (1, .int x1), (2, .int x2)] [] μ := by
  unfold tc_f5_addFault at h
  refine tc_iload_n tc_d5_addFault_0 1 rfl ?_
  refine tc_iconst (v := 2) tc_d5_addFault_1 (by decide) ?_
  refine tc_icmp_ne (tgt := 28) tc_d5_addFault_2 (by decide) h (fun h => ?_) (fun h => ?_)
  · exact (tc_b5_addFault_28 N ht _ _ _ _) h
  · refine tc_aload_n tc_d5_addFault_5 0 rfl ?_
    refine tc_iload_n tc_d5_addFault_6 2 rfl ?_
    refine tc_iconst (v := 1) tc_d5_addFault_7 (by decide) ?_
    refine tc_iadd tc_d5_addFault_8 ?_
    obtain ⟨r1, μ2, e1, h⟩ := tc_bdS h
    have c1 := tc_c5_has (l := l) (G := G) N ht e1
    refine tc_callVi (As := [.int (x2 + 1)]) (rest := []) (r1 := r1) (μ1 := μ2) tc_d5_addFault_9 tc_ok5_has tc_w353 ⟨Nat.le_of_ble_eq_true rfl, Nat.le_of_ble_eq_true rfl⟩ (tc_s5 ht) rfl c1 rfl rfl (Nat.le_of_ble_eq_true rfl) ?_
    refine tc_if_eq (tgt := 28) tc_d5_addFault_12 (by decide) h (fun h => ?_) (fun h => ?_)
    · exact (tc_b5_addFault_28 N ht _ _ _ _) h
    · refine tc_aload_n tc_d5_addFault_15 0 rfl ?_
      refine tc_g5_2 tc_d5_addFault_16 tc_w120 ht ?_
      refine tc_iload_n tc_d5_addFault_19 2 rfl ?_
      refine tc_iconst (v := 1) tc_d5_addFault_20 (by decide) ?_
      refine tc_iadd tc_d5_addFault_21 ?_
      obtain ⟨hi3, h⟩ := tc_ckS h
      refine tc_iald tc_d5_addFault_22 (tc_a5_2 ht) hi3 ?_
      refine tc_iconst (v := 2) tc_d5_addFault_23 (by decide) ?_
      refine tc_idiv tc_d5_addFault_24 (by decide) ?_
      refine tc_goto (tgt := 29) tc_d5_addFault_25 (by decide) ?_
      exact (tc_b5_addFault_29 N ht _ _ _ _ _) h
theorem tc_c5_addFault (N : Nat) {t : Nat} {x1 : Int32} {x2 : Int32} {μ : tc_Mem} {z : Int32 × tc_Mem} (ht : tc_Yd t) (h : tc_f5_addFault N t x1 x2 μ = some z) : tc_Con l G tc_i5_addFault [.ref (tc_ad G t), .int x1, .int x2] μ none z.2 :=
  tc_Con.of (L := [(0, .ref (tc_ad G t)), (1, .int x1), (2, .int x2)]) (by decide) (Nat.le_of_ble_eq_true rfl) rfl (fun X => tc_b5_addFault_0 N ht _ _ _ _ h)
def tc_f5_troubled (N : Nat) (t : Nat) (μ : tc_Mem) : Option (Int32 × tc_Mem) :=
  tc_bd (tc_f1_placesOf N t 0 μ) fun r1 μ2 =>
  some (((μ t 9) ||| r1), μ2)
theorem tc_b5_troubled_0 (N : Nat) {t : Nat} (ht : tc_Yd t) (μ : tc_Mem) (z : Int32 × tc_Mem) (h : tc_f5_troubled N t μ = some z) : tc_At l G tc_i5_troubled (some (.int z.1)) z.2 X 0 [(0, .ref (tc_ad G t))] [] μ := by
  unfold tc_f5_troubled at h
  refine tc_aload_n tc_d5_troubled_0 0 rfl ?_
  refine tc_g5_9 tc_d5_troubled_1 tc_w137 ht ?_
  refine tc_aload_n tc_d5_troubled_4 0 rfl ?_
  refine tc_g5_7 tc_d5_troubled_5 tc_w130 ht ?_
  refine tc_iconst (v := 0) tc_d5_troubled_8 (by decide) ?_
  obtain ⟨r1, μ2, e1, h⟩ := tc_bdS h
  have c1 := tc_c1_placesOf (l := l) (G := G) N ht e1
  refine tc_callVi (As := [.int 0]) (rest := [.int (μ t 9)]) (r1 := r1) (μ1 := μ2) tc_d5_troubled_9 tc_ok1_placesOf tc_w361 ⟨Nat.le_of_ble_eq_true rfl, Nat.le_of_ble_eq_true rfl⟩ (tc_s1 ht) rfl c1 rfl rfl (Nat.le_of_ble_eq_true rfl) ?_
  refine tc_ior tc_d5_troubled_12 ?_
  exact tc_iret tc_d5_troubled_13 rfl (tc_riS h)
theorem tc_c5_troubled (N : Nat) {t : Nat} {μ : tc_Mem} {z : Int32 × tc_Mem} (ht : tc_Yd t) (h : tc_f5_troubled N t μ = some z) : tc_Con l G tc_i5_troubled [.ref (tc_ad G t)] μ (some (.int z.1)) z.2 :=
  tc_Con.of (L := [(0, .ref (tc_ad G t))]) (by decide) (Nat.le_of_ble_eq_true rfl) rfl (fun X => tc_b5_troubled_0 N ht _ _ h)
def tc_f5_unsafe (N : Nat) (t : Nat) (μ : tc_Mem) : Option (Int32 × tc_Mem) :=
  tc_bd (tc_f5_troubled N t μ) fun r1 μ2 =>
  some ((r1 &&& (μ2 t 8)), μ2)
theorem tc_b5_unsafe_0 (N : Nat) {t : Nat} (ht : tc_Yd t) (μ : tc_Mem) (z : Int32 × tc_Mem) (h : tc_f5_unsafe N t μ = some z) : tc_At l G tc_i5_unsafe (some (.int z.1)) z.2 X 0 [(0, .ref (tc_ad G t))] [] μ := by
  unfold tc_f5_unsafe at h
  refine tc_aload_n tc_d5_unsafe_0 0 rfl ?_
  obtain ⟨r1, μ2, e1, h⟩ := tc_bdS h
  have c1 := tc_c5_troubled (l := l) (G := G) N ht e1
  refine tc_callVi (As := []) (rest := []) (r1 := r1) (μ1 := μ2) tc_d5_unsafe_1 tc_ok5_troubled tc_w506 ⟨Nat.le_of_ble_eq_true rfl, Nat.le_of_ble_eq_true rfl⟩ (tc_s5 ht) rfl c1 rfl rfl (Nat.le_of_ble_eq_true rfl) ?_
  refine tc_aload_n tc_d5_unsafe_4 0 rfl ?_
  refine tc_g5_8 tc_d5_unsafe_5 tc_w133 ht ?_
  refine tc_iand tc_d5_unsafe_8 ?_
  exact tc_iret tc_d5_unsafe_9 rfl (tc_riS h)
theorem tc_c5_unsafe (N : Nat) {t : Nat} {μ : tc_Mem} {z : Int32 × tc_Mem} (ht : tc_Yd t) (h : tc_f5_unsafe N t μ = some z) : tc_Con l G tc_i5_unsafe [.ref (tc_ad G t)] μ (some (.int z.1)) z.2 :=
  tc_Con.of (L := [(0, .ref (tc_ad G t))]) (by decide) (Nat.le_of_ble_eq_true rfl) rfl (fun X => tc_b5_unsafe_0 N ht _ _ h)
def tc_f5_all (N : Nat) (t : Nat) (μ : tc_Mem) : Option (Int32 × tc_Mem) :=
  some (((1 <<< ((μ t 0) &&& 31)) - 1), μ)
theorem tc_b5_all_0 (N : Nat) {t : Nat} (ht : tc_Yd t) (μ : tc_Mem) (z : Int32 × tc_Mem) (h : tc_f5_all N t μ = some z) : tc_At l G tc_i5_all (some (.int z.1)) z.2 X 0 [(0, .ref (tc_ad G t))] [] μ := by
  unfold tc_f5_all at h
  refine tc_iconst (v := 1) tc_d5_all_0 (by decide) ?_
  refine tc_aload_n tc_d5_all_1 0 rfl ?_
  refine tc_g5_0 tc_d5_all_2 tc_w113 ht ?_
  refine tc_ishl tc_d5_all_5 ?_
  refine tc_iconst (v := 1) tc_d5_all_6 (by decide) ?_
  refine tc_isub tc_d5_all_7 ?_
  exact tc_iret tc_d5_all_8 rfl (tc_riS h)
theorem tc_c5_all (N : Nat) {t : Nat} {μ : tc_Mem} {z : Int32 × tc_Mem} (ht : tc_Yd t) (h : tc_f5_all N t μ = some z) : tc_Con l G tc_i5_all [.ref (tc_ad G t)] μ (some (.int z.1)) z.2 :=
  tc_Con.of (L := [(0, .ref (tc_ad G t))]) (by decide) (Nat.le_of_ble_eq_true rfl) rfl (fun X => tc_b5_all_0 N ht _ _ h)
def tc_f5_wrong (N : Nat) (t : Nat) (μ : tc_Mem) : Option (Int32 × tc_Mem) :=
  tc_bd (tc_f5_all N t μ) fun r1 μ2 =>
  tc_bd (tc_f5_troubled N t μ2) fun r3 μ4 =>
  some (((r1 &&& (r3 ^^^ (-1))) &&& ((μ4 t 8) ^^^ (-1))), μ4)
theorem tc_b5_wrong_0 (N : Nat) {t : Nat} (ht : tc_Yd t) (μ : tc_Mem) (z : Int32 × tc_Mem) (h : tc_f5_wrong N t μ = some z) : tc_At l G tc_i5_wrong (some (.int z.1)) z.2 X 0 [(0, .ref (tc_ad G t))] [] μ := by
  unfold tc_f5_wrong at h
  refine tc_aload_n tc_d5_wrong_0 0 rfl ?_
  obtain ⟨r1, μ2, e1, h⟩ := tc_bdS h
  have c1 := tc_c5_all (l := l) (G := G) N ht e1
  refine tc_callVi (As := []) (rest := []) (r1 := r1) (μ1 := μ2) tc_d5_wrong_1 tc_ok5_all tc_w409 ⟨Nat.le_of_ble_eq_true rfl, Nat.le_of_ble_eq_true rfl⟩ (tc_s5 ht) rfl c1 rfl rfl (Nat.le_of_ble_eq_true rfl) ?_
  refine tc_aload_n tc_d5_wrong_4 0 rfl ?_
  obtain ⟨r3, μ4, e3, h⟩ := tc_bdS h
  have c3 := tc_c5_troubled (l := l) (G := G) N ht e3
  refine tc_callVi (As := []) (rest := [.int r1]) (r1 := r3) (μ1 := μ4) tc_d5_wrong_5 tc_ok5_troubled tc_w506 ⟨Nat.le_of_ble_eq_true rfl, Nat.le_of_ble_eq_true rfl⟩ (tc_s5 ht) rfl c3 rfl rfl (Nat.le_of_ble_eq_true rfl) ?_
  refine tc_iconst (v := (-1)) tc_d5_wrong_8 (by decide) ?_
  refine tc_ixor tc_d5_wrong_9 ?_
  refine tc_iand tc_d5_wrong_10 ?_
  refine tc_aload_n tc_d5_wrong_11 0 rfl ?_
  refine tc_g5_8 tc_d5_wrong_12 tc_w133 ht ?_
  refine tc_iconst (v := (-1)) tc_d5_wrong_15 (by decide) ?_
  refine tc_ixor tc_d5_wrong_16 ?_
  refine tc_iand tc_d5_wrong_17 ?_
  exact tc_iret tc_d5_wrong_18 rfl (tc_riS h)
theorem tc_c5_wrong (N : Nat) {t : Nat} {μ : tc_Mem} {z : Int32 × tc_Mem} (ht : tc_Yd t) (h : tc_f5_wrong N t μ = some z) : tc_Con l G tc_i5_wrong [.ref (tc_ad G t)] μ (some (.int z.1)) z.2 :=
  tc_Con.of (L := [(0, .ref (tc_ad G t))]) (by decide) (Nat.le_of_ble_eq_true rfl) rfl (fun X => tc_b5_wrong_0 N ht _ _ h)
def tc_f5_moveTrains (N : Nat) (t : Nat) (μ : tc_Mem) : Option (Int32 × tc_Mem) :=
  tc_bd (tc_f5_all N t μ) fun r1 μ2 =>
  tc_lt (tc_wr μ2 t 9 (((μ t 9) <<< (1 &&& 31)) &&& r1)) fun μ3 =>
  some (0, μ3)
theorem tc_b5_moveTrains_0 (N : Nat) {t : Nat} (ht : tc_Yd t) (μ : tc_Mem) (z : Int32 × tc_Mem) (h : tc_f5_moveTrains N t μ = some z) : tc_At l G tc_i5_moveTrains none z.2 X 0 [(0, .ref (tc_ad G t))] [] μ := by
  unfold tc_f5_moveTrains at h
  refine tc_aload_n tc_d5_moveTrains_0 0 rfl ?_
  refine tc_aload_n tc_d5_moveTrains_1 0 rfl ?_
  refine tc_g5_9 tc_d5_moveTrains_2 tc_w137 ht ?_
  refine tc_iconst (v := 1) tc_d5_moveTrains_5 (by decide) ?_
  refine tc_ishl tc_d5_moveTrains_6 ?_
  refine tc_aload_n tc_d5_moveTrains_7 0 rfl ?_
  obtain ⟨r1, μ2, e1, h⟩ := tc_bdS h
  have c1 := tc_c5_all (l := l) (G := G) N ht e1
  refine tc_callVi (As := []) (rest := [.int ((μ t 9) <<< (1 &&& 31)), .ref (tc_ad G t)]) (r1 := r1) (μ1 := μ2) tc_d5_moveTrains_8 tc_ok5_all tc_w409 ⟨Nat.le_of_ble_eq_true rfl, Nat.le_of_ble_eq_true rfl⟩ (tc_s5 ht) rfl c1 rfl rfl (Nat.le_of_ble_eq_true rfl) ?_
  refine tc_iand tc_d5_moveTrains_11 ?_
  refine tc_p5_9 tc_d5_moveTrains_12 tc_w137 ht h (fun μ3 h => ?_)
  exact tc_vret tc_d5_moveTrains_15 rfl (tc_rvS h)
theorem tc_c5_moveTrains (N : Nat) {t : Nat} {μ : tc_Mem} {z : Int32 × tc_Mem} (ht : tc_Yd t) (h : tc_f5_moveTrains N t μ = some z) : tc_Con l G tc_i5_moveTrains [.ref (tc_ad G t)] μ none z.2 :=
  tc_Con.of (L := [(0, .ref (tc_ad G t))]) (by decide) (Nat.le_of_ble_eq_true rfl) rfl (fun X => tc_b5_moveTrains_0 N ht _ _ h)
def tc_f5_addSection (N : Nat) (t : Nat) (x1 : Int32) (x2 : Int32) (x3 : Int32) (x4 : Int32) (μ : tc_Mem) : Option (Int32 × tc_Mem) :=
  if (μ t 0) < 8 then
    tc_ck (μ t 0) 8 (
    tc_lt (tc_wr μ (t + 1) (μ t 0).toNatClampNeg x1) fun μ2 =>
    tc_ck (μ2 t 0) 8 (
    tc_lt (tc_wr μ2 (t + 2) (μ2 t 0).toNatClampNeg x2) fun μ4 =>
    tc_ck (μ4 t 0) 8 (
    tc_lt (tc_wr μ4 (t + 3) (μ4 t 0).toNatClampNeg x3) fun μ6 =>
    tc_ck (μ6 t 0) 8 (
    tc_lt (tc_wr μ6 (t + 4) (μ6 t 0).toNatClampNeg x4) fun μ8 =>
    tc_ck (μ8 t 0) 8 (
    tc_lt (tc_wr μ8 (t + 5) (μ8 t 0).toNatClampNeg 0) fun μ10 =>
    tc_lt (tc_wr μ10 t 0 ((μ10 t 0) + 1)) fun μ11 =>
    some (0, μ11))))))
  else
    some (0, μ)
theorem tc_b5_addSection_0 (N : Nat) {t : Nat} (ht : tc_Yd t) (x1 : Int32) (x2 : Int32) (x3 : Int32) (x4 : Int32) (μ : tc_Mem) (z : Int32 × tc_Mem) (h : tc_f5_addSection N t x1 x2 x3 x4 μ = some z) : tc_At l G tc_i5_addSection none z.2 X 0 [(0, .ref (tc_ad G t)), (1, .int x1), (2, .int x2), (3, .int x3), (4, .int x4)] [] μ := by
  unfold tc_f5_addSection at h
  refine tc_aload_n tc_d5_addSection_0 0 rfl ?_
  refine tc_g5_0 tc_d5_addSection_1 tc_w113 ht ?_
  refine tc_bipush (v := 8) tc_d5_addSection_4 (by decide) ?_
  refine tc_icmp_lt (tgt := 10) tc_d5_addSection_6 (by decide) h (fun h => ?_) (fun h => ?_)
  · refine tc_aload_n tc_d5_addSection_10 0 rfl ?_
    refine tc_g5_1 tc_d5_addSection_11 tc_w117 ht ?_
    refine tc_aload_n tc_d5_addSection_14 0 rfl ?_
    refine tc_g5_0 tc_d5_addSection_15 tc_w113 ht ?_
    refine tc_iload_n tc_d5_addSection_18 1 rfl ?_
    obtain ⟨hi1, h⟩ := tc_ckS h
    refine tc_iastL tc_d5_addSection_19 (tc_a5_1 ht) hi1 h (fun μ2 h => ?_)
    refine tc_aload_n tc_d5_addSection_20 0 rfl ?_
    refine tc_g5_2 tc_d5_addSection_21 tc_w120 ht ?_
    refine tc_aload_n tc_d5_addSection_24 0 rfl ?_
    refine tc_g5_0 tc_d5_addSection_25 tc_w113 ht ?_
    refine tc_iload_n tc_d5_addSection_28 2 rfl ?_
    obtain ⟨hi3, h⟩ := tc_ckS h
    refine tc_iastL tc_d5_addSection_29 (tc_a5_2 ht) hi3 h (fun μ4 h => ?_)
    refine tc_aload_n tc_d5_addSection_30 0 rfl ?_
    refine tc_g5_3 tc_d5_addSection_31 tc_w122 ht ?_
    refine tc_aload_n tc_d5_addSection_34 0 rfl ?_
    refine tc_g5_0 tc_d5_addSection_35 tc_w113 ht ?_
    refine tc_iload_n tc_d5_addSection_38 3 rfl ?_
    obtain ⟨hi5, h⟩ := tc_ckS h
    refine tc_iastL tc_d5_addSection_39 (tc_a5_3 ht) hi5 h (fun μ6 h => ?_)
    refine tc_aload_n tc_d5_addSection_40 0 rfl ?_
    refine tc_g5_4 tc_d5_addSection_41 tc_w124 ht ?_
    refine tc_aload_n tc_d5_addSection_44 0 rfl ?_
    refine tc_g5_0 tc_d5_addSection_45 tc_w113 ht ?_
    refine tc_iload tc_d5_addSection_48 4 rfl ?_
    obtain ⟨hi7, h⟩ := tc_ckS h
    refine tc_iastL tc_d5_addSection_50 (tc_a5_4 ht) hi7 h (fun μ8 h => ?_)
    refine tc_aload_n tc_d5_addSection_51 0 rfl ?_
    refine tc_g5_5 tc_d5_addSection_52 tc_w126 ht ?_
    refine tc_aload_n tc_d5_addSection_55 0 rfl ?_
    refine tc_g5_0 tc_d5_addSection_56 tc_w113 ht ?_
    refine tc_iconst (v := 0) tc_d5_addSection_59 (by decide) ?_
    obtain ⟨hi9, h⟩ := tc_ckS h
    refine tc_iastL tc_d5_addSection_60 (tc_a5_5 ht) hi9 h (fun μ10 h => ?_)
    refine tc_aload_n tc_d5_addSection_61 0 rfl ?_
    refine tc_dup tc_d5_addSection_62 rfl ?_
    refine tc_g5_0 tc_d5_addSection_63 tc_w113 ht ?_
    refine tc_iconst (v := 1) tc_d5_addSection_66 (by decide) ?_
    refine tc_iadd tc_d5_addSection_67 ?_
    refine tc_p5_0 tc_d5_addSection_68 tc_w113 ht h (fun μ11 h => ?_)
    exact tc_vret tc_d5_addSection_71 rfl (tc_rvS h)
  · exact tc_vret tc_d5_addSection_9 rfl (tc_rvS h)
theorem tc_c5_addSection (N : Nat) {t : Nat} {x1 : Int32} {x2 : Int32} {x3 : Int32} {x4 : Int32} {μ : tc_Mem} {z : Int32 × tc_Mem} (ht : tc_Yd t) (h : tc_f5_addSection N t x1 x2 x3 x4 μ = some z) : tc_Con l G tc_i5_addSection [.ref (tc_ad G t), .int x1, .int x2, .int x3, .int x4] μ none z.2 :=
  tc_Con.of (L := [(0, .ref (tc_ad G t)), (1, .int x1), (2, .int x2), (3, .int x3), (4, .int x4)]) (by decide) (Nat.le_of_ble_eq_true rfl) rfl (fun X => tc_b5_addSection_0 N ht _ _ _ _ _ _ h)
def tc_f5_allCurrents_8 (N : Nat) (t : Nat) : Nat → Int32 → Int32 → tc_Mem → Option (Int32 × tc_Mem)
  | 0 => fun _ _ _ => none
  | n + 1 => fun x1 x2 μ => 
    if (μ t 0) ≤ x2 then
      some (x1, μ)
    else
      tc_ck x2 8 (
      tc_lt (x1 + (μ (t + 6) x2.toNatClampNeg)) fun v2 =>
      tc_f5_allCurrents_8 N t n v2 (x2 + 1) μ)
theorem tc_b5_allCurrents_8 (N : Nat) {t : Nat} (ht : tc_Yd t) : ∀ (n : Nat) (x1 : Int32) (x2 : Int32) (μ : tc_Mem) (z : Int32 × tc_Mem), tc_f5_allCurrents_8 N t n x1 x2 μ = some z → tc_At l G tc_i5_allCurrents (some (.int z.1)) z.2 X 8 [(0, .ref (tc_ad G t)), (1, .int x1), (2, .int x2)] [] μ := by
  intro n
  induction n with
  | zero => intro x1 x2 μ z h; cases h
  | succ n ih =>
    intro x1 x2 μ z h
    rw [tc_f5_allCurrents_8] at h
    refine tc_iload_n tc_d5_allCurrents_8 2 rfl ?_
    refine tc_aload_n tc_d5_allCurrents_9 0 rfl ?_
    refine tc_g5_0 tc_d5_allCurrents_10 tc_w113 ht ?_
    refine tc_icmp_ge (tgt := 31) tc_d5_allCurrents_13 (by decide) h (fun h => ?_) (fun h => ?_)
    · refine tc_iload_n tc_d5_allCurrents_31 1 rfl ?_
      exact tc_iret tc_d5_allCurrents_32 rfl (tc_riS h)
    · refine tc_iload_n tc_d5_allCurrents_16 1 rfl ?_
      refine tc_aload_n tc_d5_allCurrents_17 0 rfl ?_
      refine tc_g5_6 tc_d5_allCurrents_18 tc_w128 ht ?_
      refine tc_iload_n tc_d5_allCurrents_21 2 rfl ?_
      obtain ⟨hi1, h⟩ := tc_ckS h
      refine tc_iald tc_d5_allCurrents_22 (tc_a5_6 ht) hi1 ?_
      refine tc_iadd tc_d5_allCurrents_23 ?_
      refine tc_ltI h (fun v2 h => ?_)
      refine tc_istore_n (L' := [(1, .int v2), (0, .ref (tc_ad G t)), (2, .int x2)]) tc_d5_allCurrents_24 (by decide) rfl ?_
      refine tc_iinc (v := (x2 + 1)) (L' := [(2, .int (x2 + 1)), (1, .int v2), (0, .ref (tc_ad G t))]) tc_d5_allCurrents_25 2 rfl rfl (by decide) rfl ?_
      refine tc_goto (tgt := 8) tc_d5_allCurrents_28 (by decide) ?_
      refine tc_sub [2, 1, 0] rfl ?_
      exact (ih _ _ _ _) h
def tc_f5_allCurrents (N : Nat) (t : Nat) (μ : tc_Mem) : Option (Int32 × tc_Mem) :=
  tc_bd (tc_f5_measure N t μ) fun _ μ2 =>
  tc_f5_allCurrents_8 N t N 0 0 μ2
theorem tc_b5_allCurrents_0 (N : Nat) {t : Nat} (ht : tc_Yd t) (μ : tc_Mem) (z : Int32 × tc_Mem) (h : tc_f5_allCurrents N t μ = some z) : tc_At l G tc_i5_allCurrents (some (.int z.1)) z.2 X 0 [(0, .ref (tc_ad G t))] [] μ := by
  unfold tc_f5_allCurrents at h
  refine tc_aload_n tc_d5_allCurrents_0 0 rfl ?_
  obtain ⟨r1, μ2, e1, h⟩ := tc_bdS h
  have c1 := tc_c5_measure (l := l) (G := G) N ht e1
  refine tc_callVv (As := []) (rest := []) (μ1 := μ2) tc_d5_allCurrents_1 tc_ok5_measure tc_w854 ⟨Nat.le_of_ble_eq_true rfl, Nat.le_of_ble_eq_true rfl⟩ (tc_s5 ht) rfl c1 rfl rfl (Nat.le_of_ble_eq_true rfl) ?_
  refine tc_iconst (v := 0) tc_d5_allCurrents_4 (by decide) ?_
  refine tc_istore_n (L' := [(1, .int 0), (0, .ref (tc_ad G t))]) tc_d5_allCurrents_5 (by decide) rfl ?_
  refine tc_iconst (v := 0) tc_d5_allCurrents_6 (by decide) ?_
  refine tc_istore_n (L' := [(2, .int 0), (1, .int 0), (0, .ref (tc_ad G t))]) tc_d5_allCurrents_7 (by decide) rfl ?_
  refine tc_sub [2, 1, 0] rfl ?_
  exact (tc_b5_allCurrents_8 N ht N _ _ _ _) h
theorem tc_c5_allCurrents (N : Nat) {t : Nat} {μ : tc_Mem} {z : Int32 × tc_Mem} (ht : tc_Yd t) (h : tc_f5_allCurrents N t μ = some z) : tc_Con l G tc_i5_allCurrents [.ref (tc_ad G t)] μ (some (.int z.1)) z.2 :=
  tc_Con.of (L := [(0, .ref (tc_ad G t))]) (by decide) (Nat.le_of_ble_eq_true rfl) rfl (fun X => tc_b5_allCurrents_0 N ht _ _ h)
def tc_f5_lay (N : Nat) (t : Nat) (x1 : Int32) (x2 : Int32) (x3 : Int32) (μ : tc_Mem) : Option (Int32 × tc_Mem) :=
  if x2 < 0 ∨ 2 < x2 then
    tc_ck x1 8 (
    tc_lt (tc_wr μ (t + 1) x1.toNatClampNeg x3) fun μ2 =>
    some (0, μ2))
  else if x2 = 0 then
    tc_ck x1 8 (
    tc_lt (tc_wr μ (t + 2) x1.toNatClampNeg x3) fun μ4 =>
    some (0, μ4))
  else if x2 = 1 then
    tc_ck x1 8 (
    tc_lt (tc_wr μ (t + 3) x1.toNatClampNeg x3) fun μ6 =>
    some (0, μ6))
  else if x2 = 2 then
    tc_ck x1 8 (
    tc_lt (tc_wr μ (t + 4) x1.toNatClampNeg x3) fun μ8 =>
    some (0, μ8))
  else none
theorem tc_b5_lay_0 (N : Nat) {t : Nat} (ht : tc_Yd t) (x1 : Int32) (x2 : Int32) (x3 : Int32) (μ : tc_Mem) (z : Int32 × tc_Mem) (h : tc_f5_lay N t x1 x2 x3 μ = some z) : tc_At l G tc_i5_lay none z.2 X 0 [(0, .ref (tc_ad G t)), (1, .int x1), (2, .int x2), (3, .int x3)] [] μ := by
  unfold tc_f5_lay at h
  refine tc_iload_n tc_d5_lay_0 2 rfl ?_
  by_cases hq : x2 < 0 ∨ 2 < x2
  · rw [if_pos hq] at h
    refine tc_tswD (a := 0) (b := 2) (tgt := 58) tc_d5_lay_1 ⟨by decide, by decide⟩ hq (by decide) ?_
    refine tc_aload_n tc_d5_lay_58 0 rfl ?_
    refine tc_g5_1 tc_d5_lay_59 tc_w117 ht ?_
    refine tc_iload_n tc_d5_lay_62 1 rfl ?_
    refine tc_iload_n tc_d5_lay_63 3 rfl ?_
    obtain ⟨hi1, h⟩ := tc_ckS h
    refine tc_iastL tc_d5_lay_64 (tc_a5_1 ht) hi1 h (fun μ2 h => ?_)
    exact tc_vret tc_d5_lay_65 rfl (tc_rvS h)
  · rw [if_neg hq] at h
    by_cases hq : x2 = 0
    · rw [if_pos hq] at h
      refine tc_tswK (k := 0) (off := 27) (tgt := 28) tc_d5_lay_1 hq (by decide) (by decide) rfl (by decide) ?_
      refine tc_aload_n tc_d5_lay_28 0 rfl ?_
      refine tc_g5_2 tc_d5_lay_29 tc_w120 ht ?_
      refine tc_iload_n tc_d5_lay_32 1 rfl ?_
      refine tc_iload_n tc_d5_lay_33 3 rfl ?_
      obtain ⟨hi3, h⟩ := tc_ckS h
      refine tc_iastL tc_d5_lay_34 (tc_a5_2 ht) hi3 h (fun μ4 h => ?_)
      refine tc_goto (tgt := 65) tc_d5_lay_35 (by decide) ?_
      exact tc_vret tc_d5_lay_65 rfl (tc_rvS h)
    · rw [if_neg hq] at h
      by_cases hq : x2 = 1
      · rw [if_pos hq] at h
        refine tc_tswK (k := 1) (off := 37) (tgt := 38) tc_d5_lay_1 hq (by decide) (by decide) rfl (by decide) ?_
        refine tc_aload_n tc_d5_lay_38 0 rfl ?_
        refine tc_g5_3 tc_d5_lay_39 tc_w122 ht ?_
        refine tc_iload_n tc_d5_lay_42 1 rfl ?_
        refine tc_iload_n tc_d5_lay_43 3 rfl ?_
        obtain ⟨hi5, h⟩ := tc_ckS h
        refine tc_iastL tc_d5_lay_44 (tc_a5_3 ht) hi5 h (fun μ6 h => ?_)
        refine tc_goto (tgt := 65) tc_d5_lay_45 (by decide) ?_
        exact tc_vret tc_d5_lay_65 rfl (tc_rvS h)
      · rw [if_neg hq] at h
        by_cases hq : x2 = 2
        · rw [if_pos hq] at h
          refine tc_tswK (k := 2) (off := 47) (tgt := 48) tc_d5_lay_1 hq (by decide) (by decide) rfl (by decide) ?_
          refine tc_aload_n tc_d5_lay_48 0 rfl ?_
          refine tc_g5_4 tc_d5_lay_49 tc_w124 ht ?_
          refine tc_iload_n tc_d5_lay_52 1 rfl ?_
          refine tc_iload_n tc_d5_lay_53 3 rfl ?_
          obtain ⟨hi7, h⟩ := tc_ckS h
          refine tc_iastL tc_d5_lay_54 (tc_a5_4 ht) hi7 h (fun μ8 h => ?_)
          refine tc_goto (tgt := 65) tc_d5_lay_55 (by decide) ?_
          exact tc_vret tc_d5_lay_65 rfl (tc_rvS h)
        · rw [if_neg hq] at h
          cases h
theorem tc_c5_lay (N : Nat) {t : Nat} {x1 : Int32} {x2 : Int32} {x3 : Int32} {μ : tc_Mem} {z : Int32 × tc_Mem} (ht : tc_Yd t) (h : tc_f5_lay N t x1 x2 x3 μ = some z) : tc_Con l G tc_i5_lay [.ref (tc_ad G t), .int x1, .int x2, .int x3] μ none z.2 :=
  tc_Con.of (L := [(0, .ref (tc_ad G t)), (1, .int x1), (2, .int x2), (3, .int x3)]) (by decide) (Nat.le_of_ble_eq_true rfl) rfl (fun X => tc_b5_lay_0 N ht _ _ _ _ _ h)
def tc_f5_layRule (N : Nat) (t : Nat) (x1 : Int32) (x2 : Int32) (μ : tc_Mem) : Option (Int32 × tc_Mem) :=
  if x1 = 0 then
    tc_lt (μ t 10) fun v1 =>
    tc_lt (tc_wr μ t 10 x2) fun μ2 =>
    some (v1, μ2)
  else if x1 = 1 then
    tc_lt (μ t 11) fun v3 =>
    tc_lt (tc_wr μ t 11 x2) fun μ4 =>
    some (v3, μ4)
  else tc_lt (μ t 12) fun v5 =>
  tc_lt (tc_wr μ t 12 x2) fun μ6 =>
  some (v5, μ6)
theorem tc_b5_layRule_0 (N : Nat) {t : Nat} (ht : tc_Yd t) (x1 : Int32) (x2 : Int32) (μ : tc_Mem) (z : Int32 × tc_Mem) (h : tc_f5_layRule N t x1 x2 μ = some z) : tc_At l G tc_i5_layRule (some (.int z.1)) z.2 X 0 [(0, .ref (tc_ad G t)), (1, .int x1), (2, .int x2)] [] μ := by
  unfold tc_f5_layRule at h
  refine tc_iload_n tc_d5_layRule_0 1 rfl ?_
  by_cases h0 : x1 = 0
  · rw [if_pos h0] at h
    refine tc_lsw (off := 27) (tgt := 28) tc_d5_layRule_1 (by decide) (by rw [h0]; decide) (by decide) ?_
    refine tc_aload_n tc_d5_layRule_28 0 rfl ?_
    refine tc_g5_10 tc_d5_layRule_29 tc_w140 ht ?_
    refine tc_ltI h (fun v1 h => ?_)
    refine tc_istore_n (L' := [(3, .int v1), (0, .ref (tc_ad G t)), (1, .int x1), (2, .int x2)]) tc_d5_layRule_32 (by decide) rfl ?_
    refine tc_aload_n tc_d5_layRule_33 1 rfl ?_
    refine tc_iload_n tc_d5_layRule_34 3 rfl ?_
    refine tc_p5_10 tc_d5_layRule_35 tc_w140 ht h (fun μ2 h => ?_)
    refine tc_iload_n tc_d5_layRule_38 0 rfl ?_
    exact tc_iret tc_d5_layRule_39 rfl (tc_riS h)
  · rw [if_neg h0] at h
    by_cases h1 : x1 = 1
    · rw [if_pos h1] at h
      refine tc_lsw (off := 39) (tgt := 40) tc_d5_layRule_1 (by decide) (by rw [h1]; decide) (by decide) ?_
      refine tc_aload_n tc_d5_layRule_40 0 rfl ?_
      refine tc_g5_11 tc_d5_layRule_41 tc_w143 ht ?_
      refine tc_ltI h (fun v3 h => ?_)
      refine tc_istore_n (L' := [(3, .int v3), (0, .ref (tc_ad G t)), (1, .int x1), (2, .int x2)]) tc_d5_layRule_44 (by decide) rfl ?_
      refine tc_aload_n tc_d5_layRule_45 1 rfl ?_
      refine tc_iload_n tc_d5_layRule_46 3 rfl ?_
      refine tc_p5_11 tc_d5_layRule_47 tc_w143 ht h (fun μ4 h => ?_)
      refine tc_iload_n tc_d5_layRule_50 0 rfl ?_
      exact tc_iret tc_d5_layRule_51 rfl (tc_riS h)
    · rw [if_neg h1] at h
      refine tc_lsw (off := 51) (tgt := 52) tc_d5_layRule_1 (by decide) (by simp [Op.lookupswitch.offset, tc_neI (a := 0) h0 (by decide), tc_neI (a := 1) h1 (by decide)]) (by decide) ?_
      refine tc_aload_n tc_d5_layRule_52 0 rfl ?_
      refine tc_g5_12 tc_d5_layRule_53 tc_w144 ht ?_
      refine tc_ltI h (fun v5 h => ?_)
      refine tc_istore_n (L' := [(3, .int v5), (0, .ref (tc_ad G t)), (1, .int x1), (2, .int x2)]) tc_d5_layRule_56 (by decide) rfl ?_
      refine tc_aload_n tc_d5_layRule_57 1 rfl ?_
      refine tc_iload_n tc_d5_layRule_58 3 rfl ?_
      refine tc_p5_12 tc_d5_layRule_59 tc_w144 ht h (fun μ6 h => ?_)
      refine tc_iload_n tc_d5_layRule_62 0 rfl ?_
      exact tc_iret tc_d5_layRule_63 rfl (tc_riS h)
theorem tc_c5_layRule (N : Nat) {t : Nat} {x1 : Int32} {x2 : Int32} {μ : tc_Mem} {z : Int32 × tc_Mem} (ht : tc_Yd t) (h : tc_f5_layRule N t x1 x2 μ = some z) : tc_Con l G tc_i5_layRule [.ref (tc_ad G t), .int x1, .int x2] μ (some (.int z.1)) z.2 :=
  tc_Con.of (L := [(0, .ref (tc_ad G t)), (1, .int x1), (2, .int x2)]) (by decide) (Nat.le_of_ble_eq_true rfl) rfl (fun X => tc_b5_layRule_0 N ht _ _ _ _ h)
def tc_f5_removeLast (N : Nat) (t : Nat) (μ : tc_Mem) : Option (Int32 × tc_Mem) :=
  if (μ t 0) = 0 then
    some (0, μ)
  else
    tc_lt (tc_wr μ t 0 ((μ t 0) - 1)) fun μ1 =>
    tc_bd (tc_f6_withBit N (μ1 t 8) (μ1 t 0) 0 μ1) fun r2 μ3 =>
    tc_lt (tc_wr μ3 t 8 r2) fun μ4 =>
    tc_bd (tc_f6_withBit N (μ4 t 9) (μ4 t 0) 0 μ4) fun r5 μ6 =>
    tc_lt (tc_wr μ6 t 9 r5) fun μ7 =>
    tc_bd (tc_f1_removeAt N t (μ7 t 0) μ7) fun r8 μ9 =>
    some (0, μ9)
theorem tc_b5_removeLast_0 (N : Nat) {t : Nat} (ht : tc_Yd t) (μ : tc_Mem) (z : Int32 × tc_Mem) (h : tc_f5_removeLast N t μ = some z) : tc_At l G tc_i5_removeLast none z.2 X 0 [(0, .ref (tc_ad G t))] [] μ := by
  unfold tc_f5_removeLast at h
  refine tc_aload_n tc_d5_removeLast_0 0 rfl ?_
  refine tc_g5_0 tc_d5_removeLast_1 tc_w113 ht ?_
  refine tc_if_ne (tgt := 8) tc_d5_removeLast_4 (by decide) h (fun h => ?_) (fun h => ?_)
  · refine tc_aload_n tc_d5_removeLast_8 0 rfl ?_
    refine tc_dup tc_d5_removeLast_9 rfl ?_
    refine tc_g5_0 tc_d5_removeLast_10 tc_w113 ht ?_
    refine tc_iconst (v := 1) tc_d5_removeLast_13 (by decide) ?_
    refine tc_isub tc_d5_removeLast_14 ?_
    refine tc_p5_0 tc_d5_removeLast_15 tc_w113 ht h (fun μ1 h => ?_)
    refine tc_aload_n tc_d5_removeLast_18 0 rfl ?_
    refine tc_aload_n tc_d5_removeLast_19 0 rfl ?_
    refine tc_g5_8 tc_d5_removeLast_20 tc_w133 ht ?_
    refine tc_aload_n tc_d5_removeLast_23 0 rfl ?_
    refine tc_g5_0 tc_d5_removeLast_24 tc_w113 ht ?_
    refine tc_iconst (v := 0) tc_d5_removeLast_27 (by decide) ?_
    obtain ⟨r2, μ3, e2, h⟩ := tc_bdS h
    have c2 := tc_c6_withBit (l := l) (G := G) N e2
    refine tc_callNi (host := "TrackCircuits") (As := [.int (μ1 t 8), .int (μ1 t 0), .int 0]) (rest := [.ref (tc_ad G t)]) (r1 := r2) (μ1 := μ3) tc_d5_removeLast_28 tc_ok6_withBit (fun U h9 => h9.1) ⟨Nat.le_of_ble_eq_true rfl, Nat.le_of_ble_eq_true rfl⟩ c2 rfl rfl (Nat.le_of_ble_eq_true rfl) ?_
    refine tc_p5_8 tc_d5_removeLast_31 tc_w133 ht h (fun μ4 h => ?_)
    refine tc_aload_n tc_d5_removeLast_34 0 rfl ?_
    refine tc_aload_n tc_d5_removeLast_35 0 rfl ?_
    refine tc_g5_9 tc_d5_removeLast_36 tc_w137 ht ?_
    refine tc_aload_n tc_d5_removeLast_39 0 rfl ?_
    refine tc_g5_0 tc_d5_removeLast_40 tc_w113 ht ?_
    refine tc_iconst (v := 0) tc_d5_removeLast_43 (by decide) ?_
    obtain ⟨r5, μ6, e5, h⟩ := tc_bdS h
    have c5 := tc_c6_withBit (l := l) (G := G) N e5
    refine tc_callNi (host := "TrackCircuits") (As := [.int (μ4 t 9), .int (μ4 t 0), .int 0]) (rest := [.ref (tc_ad G t)]) (r1 := r5) (μ1 := μ6) tc_d5_removeLast_44 tc_ok6_withBit (fun U h9 => h9.1) ⟨Nat.le_of_ble_eq_true rfl, Nat.le_of_ble_eq_true rfl⟩ c5 rfl rfl (Nat.le_of_ble_eq_true rfl) ?_
    refine tc_p5_9 tc_d5_removeLast_47 tc_w137 ht h (fun μ7 h => ?_)
    refine tc_aload_n tc_d5_removeLast_50 0 rfl ?_
    refine tc_g5_7 tc_d5_removeLast_51 tc_w130 ht ?_
    refine tc_aload_n tc_d5_removeLast_54 0 rfl ?_
    refine tc_g5_0 tc_d5_removeLast_55 tc_w113 ht ?_
    obtain ⟨r8, μ9, e8, h⟩ := tc_bdS h
    have c8 := tc_c1_removeAt (l := l) (G := G) N ht e8
    refine tc_callVi (As := [.int (μ7 t 0)]) (rest := []) (r1 := r8) (μ1 := μ9) tc_d5_removeLast_58 tc_ok1_removeAt tc_w321 ⟨Nat.le_of_ble_eq_true rfl, Nat.le_of_ble_eq_true rfl⟩ (tc_s1 ht) rfl c8 rfl rfl (Nat.le_of_ble_eq_true rfl) ?_
    refine tc_pop tc_d5_removeLast_61 rfl ?_
    exact tc_vret tc_d5_removeLast_62 rfl (tc_rvS h)
  · exact tc_vret tc_d5_removeLast_7 rfl (tc_rvS h)
theorem tc_c5_removeLast (N : Nat) {t : Nat} {μ : tc_Mem} {z : Int32 × tc_Mem} (ht : tc_Yd t) (h : tc_f5_removeLast N t μ = some z) : tc_Con l G tc_i5_removeLast [.ref (tc_ad G t)] μ none z.2 :=
  tc_Con.of (L := [(0, .ref (tc_ad G t))]) (by decide) (Nat.le_of_ble_eq_true rfl) rfl (fun X => tc_b5_removeLast_0 N ht _ _ h)
end WALK
