section WALK
variable {l : Launch} {G : tc_G} {X : tc_X}
def tc_f3_item (N : Nat) (x1 : Int32) (x2 : Int32) (μ : tc_Mem) : Option (Int32 × tc_Mem) :=
  tc_ck ((x1 * 40) + x2) 160 (
  some ((μ 49 ((x1 * 40) + x2).toNatClampNeg), μ))
theorem tc_b3_item_0 (N : Nat) (x1 : Int32) (x2 : Int32) (μ : tc_Mem) (z : Int32 × tc_Mem) (h : tc_f3_item N x1 x2 μ = some z) : tc_At l G tc_i3_item (some (.int z.1)) z.2 X 0 [(0, .ref (tc_ad G 46)), (1, .int x1), (2, .int x2)] [] μ := by
  unfold tc_f3_item at h
  refine tc_aload_n tc_d3_item_0 0 rfl ?_
  refine tc_g3_2 tc_d3_item_1 tc_w260 ?_
  refine tc_iload_n tc_d3_item_4 1 rfl ?_
  refine tc_bipush (v := 40) tc_d3_item_5 (by decide) ?_
  refine tc_imul tc_d3_item_7 ?_
  refine tc_iload_n tc_d3_item_8 2 rfl ?_
  refine tc_iadd tc_d3_item_9 ?_
  obtain ⟨hi1, h⟩ := tc_ckS h
  refine tc_iald tc_d3_item_10 tc_aL49 hi1 ?_
  exact tc_iret tc_d3_item_11 rfl (tc_riS h)
theorem tc_c3_item (N : Nat) {x1 : Int32} {x2 : Int32} {μ : tc_Mem} {z : Int32 × tc_Mem} (h : tc_f3_item N x1 x2 μ = some z) : tc_Con l G tc_i3_item [.ref (tc_ad G 46), .int x1, .int x2] μ (some (.int z.1)) z.2 :=
  tc_Con.of (L := [(0, .ref (tc_ad G 46)), (1, .int x1), (2, .int x2)]) (by decide) (Nat.le_of_ble_eq_true rfl) rfl (fun X => tc_b3_item_0 N  _ _ _ _ h)
def tc_f3_become_17 (N : Nat) : Nat → Int32 → Int32 → Int32 → tc_Mem → Option (Int32 × tc_Mem)
  | 0 => fun _ _ _ _ => none
  | n + 1 => fun x1 x3 x4 μ => 
    if x3 ≤ x4 then
      some (0, μ)
    else
      tc_ck ((x1 * 40) + x4) 160 (
      tc_lt (tc_wr μ 49 ((x1 * 40) + x4).toNatClampNeg 0) fun μ2 =>
      tc_f3_become_17 N  n x1 x3 (x4 + 1) μ2)
theorem tc_b3_become_17 (N : Nat) : ∀ (n : Nat) (x1 : Int32) (x3 : Int32) (x4 : Int32) (μ : tc_Mem) (z : Int32 × tc_Mem), tc_f3_become_17 N n x1 x3 x4 μ = some z → tc_At l G tc_i3_become none z.2 X 17 [(0, .ref (tc_ad G 46)), (1, .int x1), (3, .int x3), (4, .int x4)] [] μ := by
  intro n
  induction n with
  | zero => intro x1 x3 x4 μ z h; cases h
  | succ n ih =>
    intro x1 x3 x4 μ z h
    rw [tc_f3_become_17] at h
    refine tc_iload tc_d3_become_17 3 rfl ?_
    refine tc_iload_n tc_d3_become_19 2 rfl ?_
    refine tc_icmp_ge (tgt := 42) tc_d3_become_20 (by decide) h (fun h => ?_) (fun h => ?_)
    · exact tc_vret tc_d3_become_42 rfl (tc_rvS h)
    · refine tc_aload_n tc_d3_become_23 0 rfl ?_
      refine tc_g3_2 tc_d3_become_24 tc_w260 ?_
      refine tc_iload_n tc_d3_become_27 1 rfl ?_
      refine tc_bipush (v := 40) tc_d3_become_28 (by decide) ?_
      refine tc_imul tc_d3_become_30 ?_
      refine tc_iload tc_d3_become_31 3 rfl ?_
      refine tc_iadd tc_d3_become_33 ?_
      refine tc_iconst (v := 0) tc_d3_become_34 (by decide) ?_
      obtain ⟨hi1, h⟩ := tc_ckS h
      refine tc_iastL tc_d3_become_35 tc_aL49 hi1 h (fun μ2 h => ?_)
      refine tc_iinc (v := (x4 + 1)) (L' := [(4, .int (x4 + 1)), (0, .ref (tc_ad G 46)), (1, .int x1), (3, .int x3)]) tc_d3_become_36 3 rfl rfl (by decide) rfl ?_
      refine tc_goto (tgt := 17) tc_d3_become_39 (by decide) ?_
      refine tc_sub [1, 2, 3, 0] rfl ?_
      exact (ih _ _ _ _ _) h
def tc_f3_become (N : Nat) (x1 : Int32) (x2 : Int32) (x3 : Int32) (μ : tc_Mem) : Option (Int32 × tc_Mem) :=
  tc_ck x1 4 (
  tc_lt (tc_wr μ 47 x1.toNatClampNeg x2) fun μ2 =>
  tc_ck x1 4 (
  tc_lt (tc_wr μ2 48 x1.toNatClampNeg x3) fun μ4 =>
  tc_f3_become_17 N N x1 x3 0 μ4))
theorem tc_b3_become_0 (N : Nat) (x1 : Int32) (x2 : Int32) (x3 : Int32) (μ : tc_Mem) (z : Int32 × tc_Mem) (h : tc_f3_become N x1 x2 x3 μ = some z) : tc_At l G tc_i3_become none z.2 X 0 [(0, .ref (tc_ad G 46)), (1, .int x1), (2, .int x2), (3, .int x3)] [] μ := by
  unfold tc_f3_become at h
  refine tc_aload_n tc_d3_become_0 0 rfl ?_
  refine tc_g3_0 tc_d3_become_1 tc_w255 ?_
  refine tc_iload_n tc_d3_become_4 1 rfl ?_
  refine tc_iload_n tc_d3_become_5 2 rfl ?_
  obtain ⟨hi1, h⟩ := tc_ckS h
  refine tc_iastL tc_d3_become_6 tc_aL47 hi1 h (fun μ2 h => ?_)
  refine tc_aload_n tc_d3_become_7 0 rfl ?_
  refine tc_g3_1 tc_d3_become_8 tc_w257 ?_
  refine tc_iload_n tc_d3_become_11 1 rfl ?_
  refine tc_iload_n tc_d3_become_12 3 rfl ?_
  obtain ⟨hi3, h⟩ := tc_ckS h
  refine tc_iastL tc_d3_become_13 tc_aL48 hi3 h (fun μ4 h => ?_)
  refine tc_iconst (v := 0) tc_d3_become_14 (by decide) ?_
  refine tc_istore (L' := [(4, .int 0), (0, .ref (tc_ad G 46)), (1, .int x1), (2, .int x2), (3, .int x3)]) tc_d3_become_15 (by decide) rfl ?_
  refine tc_sub [1, 2, 4, 0] rfl ?_
  exact (tc_b3_become_17 N N _ _ _ _ _) h
theorem tc_c3_become (N : Nat) {x1 : Int32} {x2 : Int32} {x3 : Int32} {μ : tc_Mem} {z : Int32 × tc_Mem} (h : tc_f3_become N x1 x2 x3 μ = some z) : tc_Con l G tc_i3_become [.ref (tc_ad G 46), .int x1, .int x2, .int x3] μ none z.2 :=
  tc_Con.of (L := [(0, .ref (tc_ad G 46)), (1, .int x1), (2, .int x2), (3, .int x3)]) (by decide) (Nat.le_of_ble_eq_true rfl) rfl (fun X => tc_b3_become_0 N  _ _ _ _ _ h)
def tc_f3_bring (N : Nat) (x1 : Int32) (x2 : Int32) (x3 : Int32) (x4 : Int32) (x5 : Int32) (μ : tc_Mem) : Option (Int32 × tc_Mem) :=
  tc_cp μ 49 160 49 160 ((x1 * 40) + x2) ((x3 * 40) + x4) x5 fun μ1 =>
  some (0, μ1)
theorem tc_b3_bring_0 (N : Nat) (x1 : Int32) (x2 : Int32) (x3 : Int32) (x4 : Int32) (x5 : Int32) (μ : tc_Mem) (z : Int32 × tc_Mem) (h : tc_f3_bring N x1 x2 x3 x4 x5 μ = some z) : tc_At l G tc_i3_bring none z.2 X 0 [(0, .ref (tc_ad G 46)), (1, .int x1), (2, .int x2), (3, .int x3), (4, .int x4), (5, .int x5)] [] μ := by
  unfold tc_f3_bring at h
  refine tc_aload_n tc_d3_bring_0 0 rfl ?_
  refine tc_g3_2 tc_d3_bring_1 tc_w260 ?_
  refine tc_iload_n tc_d3_bring_4 1 rfl ?_
  refine tc_bipush (v := 40) tc_d3_bring_5 (by decide) ?_
  refine tc_imul tc_d3_bring_7 ?_
  refine tc_iload_n tc_d3_bring_8 2 rfl ?_
  refine tc_iadd tc_d3_bring_9 ?_
  refine tc_aload_n tc_d3_bring_10 0 rfl ?_
  refine tc_g3_2 tc_d3_bring_11 tc_w260 ?_
  refine tc_iload_n tc_d3_bring_14 3 rfl ?_
  refine tc_bipush (v := 40) tc_d3_bring_15 (by decide) ?_
  refine tc_imul tc_d3_bring_17 ?_
  refine tc_iload tc_d3_bring_18 4 rfl ?_
  refine tc_iadd tc_d3_bring_20 ?_
  refine tc_iload tc_d3_bring_21 5 rfl ?_
  refine tc_acpyL tc_d3_bring_23 tc_w871 tc_okcp ⟨Nat.le_of_ble_eq_true rfl, Nat.le_of_ble_eq_true rfl⟩ tc_aL49 tc_aL49 h (fun μ1 h => ?_)
  exact tc_vret tc_d3_bring_26 rfl (tc_rvS h)
theorem tc_c3_bring (N : Nat) {x1 : Int32} {x2 : Int32} {x3 : Int32} {x4 : Int32} {x5 : Int32} {μ : tc_Mem} {z : Int32 × tc_Mem} (h : tc_f3_bring N x1 x2 x3 x4 x5 μ = some z) : tc_Con l G tc_i3_bring [.ref (tc_ad G 46), .int x1, .int x2, .int x3, .int x4, .int x5] μ none z.2 :=
  tc_Con.of (L := [(0, .ref (tc_ad G 46)), (1, .int x1), (2, .int x2), (3, .int x3), (4, .int x4), (5, .int x5)]) (by decide) (Nat.le_of_ble_eq_true rfl) rfl (fun X => tc_b3_bring_0 N  _ _ _ _ _ _ _ h)
def tc_f3_has (N : Nat) (x1 : Int32) (μ : tc_Mem) : Option (Int32 × tc_Mem) :=
  tc_bd (tc_f6_isWithin N x1 0 3 μ) fun r1 μ2 =>
  tc_zr r1 μ2
theorem tc_b3_has_0 (N : Nat) (x1 : Int32) (μ : tc_Mem) (z : Int32 × tc_Mem) (h : tc_f3_has N x1 μ = some z) : tc_At l G tc_i3_has (some (.int z.1)) z.2 X 0 [(0, .ref (tc_ad G 46)), (1, .int x1)] [] μ := by
  unfold tc_f3_has at h
  refine tc_iload_n tc_d3_has_0 1 rfl ?_
  refine tc_iconst (v := 0) tc_d3_has_1 (by decide) ?_
  refine tc_iconst (v := 3) tc_d3_has_2 (by decide) ?_
  obtain ⟨r1, μ2, e1, h⟩ := tc_bdS h
  have c1 := tc_c6_isWithin (l := l) (G := G) N e1
  refine tc_callNi (host := "TrackCircuits") (As := [.int x1, .int 0, .int 3]) (rest := []) (r1 := r1) (μ1 := μ2) tc_d3_has_3 tc_ok6_isWithin (fun U h9 => h9.2.2.2.1) ⟨Nat.le_of_ble_eq_true rfl, Nat.le_of_ble_eq_true rfl⟩ c1 rfl rfl (Nat.le_of_ble_eq_true rfl) ?_
  exact tc_zret tc_d3_has_6 rfl (tc_zrS h).1 (tc_zrS h).2
theorem tc_c3_has (N : Nat) {x1 : Int32} {μ : tc_Mem} {z : Int32 × tc_Mem} (h : tc_f3_has N x1 μ = some z) : tc_Con l G tc_i3_has [.ref (tc_ad G 46), .int x1] μ (some (.int z.1)) z.2 :=
  tc_Con.of (L := [(0, .ref (tc_ad G 46)), (1, .int x1)]) (by decide) (Nat.le_of_ble_eq_true rfl) rfl (fun X => tc_b3_has_0 N  _ _ _ h)
def tc_f3_holds (N : Nat) (x1 : Int32) (x2 : Int64) (x4 : Int64) (μ : tc_Mem) : Option (Int32 × tc_Mem) :=
  if (lg_cmp x2 0) < 0 then
    some (0, μ)
  else
    if (lg_cmp x4 0) < 0 then
      some (0, μ)
    else
      tc_ck x1 4 (
      if (0 : Int32) < (lg_cmp (x2 + x4) ((μ 48 x1.toNatClampNeg).toInt64)) then
        some (0, μ)
      else
        some (1, μ))
theorem tc_b3_holds_0 (N : Nat) (x1 : Int32) (x2 : Int64) (x4 : Int64) (μ : tc_Mem) (z : Int32 × tc_Mem) (h : tc_f3_holds N x1 x2 x4 μ = some z) : tc_At l G tc_i3_holds (some (.int z.1)) z.2 X 0 [(0, .ref (tc_ad G 46)), (1, .int x1), (2, .long x2), (4, .long x4)] [] μ := by
  unfold tc_f3_holds at h
  refine tc_lload_n tc_d3_holds_0 2 rfl ?_
  refine tc_lconst (v := 0) tc_d3_holds_1 (by decide) ?_
  refine tc_lcmp tc_d3_holds_2 ?_
  refine tc_if_lt (tgt := 32) tc_d3_holds_3 (by decide) h (fun h => ?_) (fun h => ?_)
  · refine tc_iconst (v := 0) tc_d3_holds_32 (by decide) ?_
    exact tc_zret tc_d3_holds_33 rfl (by decide) (tc_riS h)
  · refine tc_lload tc_d3_holds_6 3 rfl ?_
    refine tc_lconst (v := 0) tc_d3_holds_8 (by decide) ?_
    refine tc_lcmp tc_d3_holds_9 ?_
    refine tc_if_lt (tgt := 32) tc_d3_holds_10 (by decide) h (fun h => ?_) (fun h => ?_)
    · refine tc_iconst (v := 0) tc_d3_holds_32 (by decide) ?_
      exact tc_zret tc_d3_holds_33 rfl (by decide) (tc_riS h)
    · refine tc_lload_n tc_d3_holds_13 2 rfl ?_
      refine tc_lload tc_d3_holds_14 3 rfl ?_
      refine tc_ladd tc_d3_holds_16 ?_
      refine tc_aload_n tc_d3_holds_17 0 rfl ?_
      refine tc_g3_1 tc_d3_holds_18 tc_w257 ?_
      refine tc_iload_n tc_d3_holds_21 1 rfl ?_
      obtain ⟨hi1, h⟩ := tc_ckS h
      refine tc_iald tc_d3_holds_22 tc_aL48 hi1 ?_
      refine tc_i2l tc_d3_holds_23 ?_
      refine tc_lcmp tc_d3_holds_24 ?_
      refine tc_if_gt (tgt := 32) tc_d3_holds_25 (by decide) h (fun h => ?_) (fun h => ?_)
      · refine tc_iconst (v := 0) tc_d3_holds_32 (by decide) ?_
        exact tc_zret tc_d3_holds_33 rfl (by decide) (tc_riS h)
      · refine tc_iconst (v := 1) tc_d3_holds_28 (by decide) ?_
        refine tc_goto (tgt := 33) tc_d3_holds_29 (by decide) ?_
        exact tc_zret tc_d3_holds_33 rfl (by decide) (tc_riS h)
theorem tc_c3_holds (N : Nat) {x1 : Int32} {x2 : Int64} {x4 : Int64} {μ : tc_Mem} {z : Int32 × tc_Mem} (h : tc_f3_holds N x1 x2 x4 μ = some z) : tc_Con l G tc_i3_holds [.ref (tc_ad G 46), .int x1, .long x2, .long x4] μ (some (.int z.1)) z.2 :=
  tc_Con.of (L := [(0, .ref (tc_ad G 46)), (1, .int x1), (2, .long x2), (4, .long x4)]) (by decide) (Nat.le_of_ble_eq_true rfl) rfl (fun X => tc_b3_holds_0 N  _ _ _ _ _ h)
def tc_f3_isMissing (N : Nat) (x1 : Int32) (μ : tc_Mem) : Option (Int32 × tc_Mem) :=
  tc_ck x1 4 (
  if (μ 47 x1.toNatClampNeg) = (-1) then
    some (1, μ)
  else
    some (0, μ))
theorem tc_b3_isMissing_0 (N : Nat) (x1 : Int32) (μ : tc_Mem) (z : Int32 × tc_Mem) (h : tc_f3_isMissing N x1 μ = some z) : tc_At l G tc_i3_isMissing (some (.int z.1)) z.2 X 0 [(0, .ref (tc_ad G 46)), (1, .int x1)] [] μ := by
  unfold tc_f3_isMissing at h
  refine tc_aload_n tc_d3_isMissing_0 0 rfl ?_
  refine tc_g3_0 tc_d3_isMissing_1 tc_w255 ?_
  refine tc_iload_n tc_d3_isMissing_4 1 rfl ?_
  obtain ⟨hi1, h⟩ := tc_ckS h
  refine tc_iald tc_d3_isMissing_5 tc_aL47 hi1 ?_
  refine tc_iconst (v := (-1)) tc_d3_isMissing_6 (by decide) ?_
  refine tc_icmp_ne (tgt := 14) tc_d3_isMissing_7 (by decide) h (fun h => ?_) (fun h => ?_)
  · refine tc_iconst (v := 0) tc_d3_isMissing_14 (by decide) ?_
    exact tc_zret tc_d3_isMissing_15 rfl (by decide) (tc_riS h)
  · refine tc_iconst (v := 1) tc_d3_isMissing_10 (by decide) ?_
    refine tc_goto (tgt := 15) tc_d3_isMissing_11 (by decide) ?_
    exact tc_zret tc_d3_isMissing_15 rfl (by decide) (tc_riS h)
theorem tc_c3_isMissing (N : Nat) {x1 : Int32} {μ : tc_Mem} {z : Int32 × tc_Mem} (h : tc_f3_isMissing N x1 μ = some z) : tc_Con l G tc_i3_isMissing [.ref (tc_ad G 46), .int x1] μ (some (.int z.1)) z.2 :=
  tc_Con.of (L := [(0, .ref (tc_ad G 46)), (1, .int x1)]) (by decide) (Nat.le_of_ble_eq_true rfl) rfl (fun X => tc_b3_isMissing_0 N  _ _ _ h)
def tc_f3_lay_25 (N : Nat) (s1 : Int32) (s2 : Int32) (μ : tc_Mem) : Option (Int32 × tc_Mem) :=
  tc_ck s1 160 (
  tc_lt (tc_wr μ 49 s1.toNatClampNeg s2) fun μ2 =>
  some (0, μ2))
theorem tc_b3_lay_25 (N : Nat) (s1 : Int32) (s2 : Int32) (μ : tc_Mem) (z : Int32 × tc_Mem) (h : tc_f3_lay_25 N s1 s2 μ = some z) : tc_At l G tc_i3_lay none z.2 X 25 [] [.int s2, .int s1, .ref (tc_ad G 49)] μ := by
  unfold tc_f3_lay_25 at h
  obtain ⟨hi1, h⟩ := tc_ckS h
  refine tc_iastL tc_d3_lay_25 tc_aL49 hi1 h (fun μ2 h => ?_)
  exact tc_vret tc_d3_lay_26 rfl (tc_rvS h)
def tc_f3_lay (N : Nat) (x1 : Int32) (x2 : Int32) (x3 : Int32) (μ : tc_Mem) : Option (Int32 × tc_Mem) :=
  tc_ck x1 4 (
  if (μ 47 x1.toNatClampNeg) = 0 then
    tc_f3_lay_25 N ((x1 * 40) + x2) x3.toInt16.toInt32 μ
  else
    tc_f3_lay_25 N ((x1 * 40) + x2) x3 μ)
theorem tc_b3_lay_0 (N : Nat) (x1 : Int32) (x2 : Int32) (x3 : Int32) (μ : tc_Mem) (z : Int32 × tc_Mem) (h : tc_f3_lay N x1 x2 x3 μ = some z) : tc_At l G tc_i3_lay none z.2 X 0 [(0, .ref (tc_ad G 46)), (1, .int x1), (2, .int x2), (3, .int x3)] [] μ := by
  unfold tc_f3_lay at h
  refine tc_aload_n tc_d3_lay_0 0 rfl ?_
  refine tc_g3_2 tc_d3_lay_1 tc_w260 ?_
  refine tc_iload_n tc_d3_lay_4 1 rfl ?_
  refine tc_bipush (v := 40) tc_d3_lay_5 (by decide) ?_
  refine tc_imul tc_d3_lay_7 ?_
  refine tc_iload_n tc_d3_lay_8 2 rfl ?_
  refine tc_iadd tc_d3_lay_9 ?_
  refine tc_aload_n tc_d3_lay_10 0 rfl ?_
  refine tc_g3_0 tc_d3_lay_11 tc_w255 ?_
  refine tc_iload_n tc_d3_lay_14 1 rfl ?_
  obtain ⟨hi1, h⟩ := tc_ckS h
  refine tc_iald tc_d3_lay_15 tc_aL47 hi1 ?_
  refine tc_if_ne (tgt := 24) tc_d3_lay_16 (by decide) h (fun h => ?_) (fun h => ?_)
  · refine tc_iload_n tc_d3_lay_24 3 rfl ?_
    refine tc_sub [] rfl ?_
    exact (tc_b3_lay_25 N _ _ _ _) h
  · refine tc_iload_n tc_d3_lay_19 3 rfl ?_
    refine tc_i2s tc_d3_lay_20 ?_
    refine tc_goto (tgt := 25) tc_d3_lay_21 (by decide) ?_
    refine tc_sub [] rfl ?_
    exact (tc_b3_lay_25 N _ _ _ _) h
theorem tc_c3_lay (N : Nat) {x1 : Int32} {x2 : Int32} {x3 : Int32} {μ : tc_Mem} {z : Int32 × tc_Mem} (h : tc_f3_lay N x1 x2 x3 μ = some z) : tc_Con l G tc_i3_lay [.ref (tc_ad G 46), .int x1, .int x2, .int x3] μ none z.2 :=
  tc_Con.of (L := [(0, .ref (tc_ad G 46)), (1, .int x1), (2, .int x2), (3, .int x3)]) (by decide) (Nat.le_of_ble_eq_true rfl) rfl (fun X => tc_b3_lay_0 N  _ _ _ _ _ h)
end WALK
