section WALK
variable {l : Launch} {G : tc_G} {X : tc_X}
def tc_f7_adds (N : Nat) (x1 : Int32) (μ : tc_Mem) : Option (Int32 × tc_Mem) :=
  tc_ck (μ 50 17) 60 (
  tc_lt (tc_wr μ 63 (μ 50 17).toNatClampNeg x1) fun μ2 =>
  tc_lt (tc_wr μ2 50 17 ((μ2 50 17) + 1)) fun μ3 =>
  some (0, μ3))
theorem tc_b7_adds_0 (N : Nat) (x1 : Int32) (μ : tc_Mem) (z : Int32 × tc_Mem) (h : tc_f7_adds N x1 μ = some z) : tc_At l G tc_i7_adds none z.2 X 0 [(0, .ref (tc_ad G 50)), (1, .int x1)] [] μ := by
  unfold tc_f7_adds at h
  refine tc_aload_n tc_d7_adds_0 0 rfl ?_
  refine tc_g7_16 tc_d7_adds_1 tc_w894 ?_
  refine tc_aload_n tc_d7_adds_4 0 rfl ?_
  refine tc_g7_17 tc_d7_adds_5 tc_w895 ?_
  refine tc_iload_n tc_d7_adds_8 1 rfl ?_
  obtain ⟨hi1, h⟩ := tc_ckS h
  refine tc_iastL tc_d7_adds_9 tc_aL63 hi1 h (fun μ2 h => ?_)
  refine tc_aload_n tc_d7_adds_10 0 rfl ?_
  refine tc_dup tc_d7_adds_11 rfl ?_
  refine tc_g7_17 tc_d7_adds_12 tc_w895 ?_
  refine tc_iconst (v := 1) tc_d7_adds_15 (by decide) ?_
  refine tc_iadd tc_d7_adds_16 ?_
  refine tc_p7_17 tc_d7_adds_17 tc_w895 h (fun μ3 h => ?_)
  exact tc_vret tc_d7_adds_20 rfl (tc_rvS h)
theorem tc_c7_adds (N : Nat) {x1 : Int32} {μ : tc_Mem} {z : Int32 × tc_Mem} (h : tc_f7_adds N x1 μ = some z) : tc_Con l G tc_i7_adds [.ref (tc_ad G 50), .int x1] μ none z.2 :=
  tc_Con.of (L := [(0, .ref (tc_ad G 50)), (1, .int x1)]) (by decide) (Nat.le_of_ble_eq_true rfl) rfl (fun X => tc_b7_adds_0 N  _ _ _ h)
def tc_f7_amiss_34 (N : Nat) (s0 : Int32) (μ : tc_Mem) : Option (Int32 × tc_Mem) :=
  tc_bd (tc_f7_laysBack N μ) fun _ μ2 =>
  some (s0, μ2)
theorem tc_b7_amiss_34 (N : Nat) (s0 : Int32) (μ : tc_Mem) (z : Int32 × tc_Mem) (h : tc_f7_amiss_34 N s0 μ = some z) : tc_At l G tc_i7_amiss (some (.int z.1)) z.2 X 34 [(0, .ref (tc_ad G 50))] [.int s0] μ := by
  unfold tc_f7_amiss_34 at h
  refine tc_istore_n (L' := [(1, .int s0), (0, .ref (tc_ad G 50))]) tc_d7_amiss_34 (by decide) rfl ?_
  refine tc_aload_n tc_d7_amiss_35 1 rfl ?_
  obtain ⟨r1, μ2, e1, h⟩ := tc_bdS h
  have c1 := tc_c7_laysBack (l := l) (G := G) N e1
  refine tc_callVv (As := []) (rest := []) (μ1 := μ2) tc_d7_amiss_36 tc_ok7_laysBack tc_w1150 ⟨Nat.le_of_ble_eq_true rfl, Nat.le_of_ble_eq_true rfl⟩ tc_s7 rfl c1 rfl rfl (Nat.le_of_ble_eq_true rfl) ?_
  refine tc_iload_n tc_d7_amiss_39 0 rfl ?_
  exact tc_iret tc_d7_amiss_40 rfl (tc_riS h)
def tc_f7_amiss (N : Nat) (μ : tc_Mem) : Option (Int32 × tc_Mem) :=
  tc_bd (tc_f7_keepsNow N μ) fun _ μ2 =>
  tc_bd (tc_f7_goes N 0 μ2) fun r3 μ4 =>
  if (0 : Int32) ≤ r3 then
    tc_bd (tc_f7_bitsOf N 1 μ4) fun r5 μ6 =>
    tc_bd (tc_f8_bitCount N r5 μ6) fun r7 μ8 =>
    tc_bd (tc_f7_bitsOf N 2 μ8) fun r9 μ10 =>
    tc_bd (tc_f8_bitCount N r9 μ10) fun r11 μ12 =>
    tc_f7_amiss_34 N (r7 + r11) μ12
  else
    tc_f7_amiss_34 N 16 μ4
theorem tc_b7_amiss_0 (N : Nat) (μ : tc_Mem) (z : Int32 × tc_Mem) (h : tc_f7_amiss N μ = some z) : tc_At l G tc_i7_amiss (some (.int z.1)) z.2 X 0 [(0, .ref (tc_ad G 50))] [] μ := by
  unfold tc_f7_amiss at h
  refine tc_aload_n tc_d7_amiss_0 0 rfl ?_
  obtain ⟨r1, μ2, e1, h⟩ := tc_bdS h
  have c1 := tc_c7_keepsNow (l := l) (G := G) N e1
  refine tc_callVv (As := []) (rest := []) (μ1 := μ2) tc_d7_amiss_1 tc_ok7_keepsNow tc_w1145 ⟨Nat.le_of_ble_eq_true rfl, Nat.le_of_ble_eq_true rfl⟩ tc_s7 rfl c1 rfl rfl (Nat.le_of_ble_eq_true rfl) ?_
  refine tc_aload_n tc_d7_amiss_4 0 rfl ?_
  refine tc_iconst (v := 0) tc_d7_amiss_5 (by decide) ?_
  obtain ⟨r3, μ4, e3, h⟩ := tc_bdS h
  have c3 := tc_c7_goes (l := l) (G := G) N e3
  refine tc_callVi (As := [.int 0]) (rest := []) (r1 := r3) (μ1 := μ4) tc_d7_amiss_6 tc_ok7_goes tc_w1097 ⟨Nat.le_of_ble_eq_true rfl, Nat.le_of_ble_eq_true rfl⟩ tc_s7 rfl c3 rfl rfl (Nat.le_of_ble_eq_true rfl) ?_
  refine tc_if_ge (tgt := 17) tc_d7_amiss_9 (by decide) h (fun h => ?_) (fun h => ?_)
  · refine tc_aload_n tc_d7_amiss_17 0 rfl ?_
    refine tc_iconst (v := 1) tc_d7_amiss_18 (by decide) ?_
    obtain ⟨r5, μ6, e5, h⟩ := tc_bdS h
    have c5 := tc_c7_bitsOf (l := l) (G := G) N e5
    refine tc_callVi (As := [.int 1]) (rest := []) (r1 := r5) (μ1 := μ6) tc_d7_amiss_19 tc_ok7_bitsOf tc_w1061 ⟨Nat.le_of_ble_eq_true rfl, Nat.le_of_ble_eq_true rfl⟩ tc_s7 rfl c5 rfl rfl (Nat.le_of_ble_eq_true rfl) ?_
    obtain ⟨r7, μ8, e7, h⟩ := tc_bdS h
    have c7 := tc_c8_bitCount (l := l) (G := G) N e7
    refine tc_callSi (As := [.int r5]) (rest := []) (r1 := r7) (μ1 := μ8) tc_d7_amiss_22 tc_ok8_bitCount tc_w1149 ⟨Nat.le_of_ble_eq_true rfl, Nat.le_of_ble_eq_true rfl⟩ c7 rfl rfl (Nat.le_of_ble_eq_true rfl) ?_
    refine tc_aload_n tc_d7_amiss_25 0 rfl ?_
    refine tc_iconst (v := 2) tc_d7_amiss_26 (by decide) ?_
    obtain ⟨r9, μ10, e9, h⟩ := tc_bdS h
    have c9 := tc_c7_bitsOf (l := l) (G := G) N e9
    refine tc_callVi (As := [.int 2]) (rest := [.int r7]) (r1 := r9) (μ1 := μ10) tc_d7_amiss_27 tc_ok7_bitsOf tc_w1061 ⟨Nat.le_of_ble_eq_true rfl, Nat.le_of_ble_eq_true rfl⟩ tc_s7 rfl c9 rfl rfl (Nat.le_of_ble_eq_true rfl) ?_
    obtain ⟨r11, μ12, e11, h⟩ := tc_bdS h
    have c11 := tc_c8_bitCount (l := l) (G := G) N e11
    refine tc_callSi (As := [.int r9]) (rest := [.int r7]) (r1 := r11) (μ1 := μ12) tc_d7_amiss_30 tc_ok8_bitCount tc_w1149 ⟨Nat.le_of_ble_eq_true rfl, Nat.le_of_ble_eq_true rfl⟩ c11 rfl rfl (Nat.le_of_ble_eq_true rfl) ?_
    refine tc_iadd tc_d7_amiss_33 ?_
    exact (tc_b7_amiss_34 N _ _ _) h
  · refine tc_bipush (v := 16) tc_d7_amiss_12 (by decide) ?_
    refine tc_goto (tgt := 34) tc_d7_amiss_14 (by decide) ?_
    exact (tc_b7_amiss_34 N _ _ _) h
theorem tc_c7_amiss (N : Nat) {μ : tc_Mem} {z : Int32 × tc_Mem} (h : tc_f7_amiss N μ = some z) : tc_Con l G tc_i7_amiss [.ref (tc_ad G 50)] μ (some (.int z.1)) z.2 :=
  tc_Con.of (L := [(0, .ref (tc_ad G 50))]) (by decide) (Nat.le_of_ble_eq_true rfl) rfl (fun X => tc_b7_amiss_0 N  _ _ h)
def tc_f7_aspect_45 (N : Nat) (μ : tc_Mem) : Option (Int32 × tc_Mem) :=
  some (2, μ)
theorem tc_b7_aspect_45 (N : Nat) (μ : tc_Mem) (z : Int32 × tc_Mem) (h : tc_f7_aspect_45 N μ = some z) : tc_At l G tc_i7_aspect (some (.int z.1)) z.2 X 45 [] [] μ := by
  unfold tc_f7_aspect_45 at h
  refine tc_iconst (v := 2) tc_d7_aspect_45 (by decide) ?_
  refine tc_goto (tgt := 50) tc_d7_aspect_46 (by decide) ?_
  exact tc_iret tc_d7_aspect_50 rfl (tc_riS h)
def tc_f7_aspect (N : Nat) (x1 : Int32) (μ : tc_Mem) : Option (Int32 × tc_Mem) :=
  tc_bd (tc_f7_isSection N x1 μ) fun r1 μ2 =>
  if r1 = 0 then
    some ((-2), μ2)
  else
    tc_ck x1 8 (
    if (μ2 56 x1.toNatClampNeg) = 0 then
      some (0, μ2)
    else
      if x1 = ((μ2 50 0) - 1) then
        tc_f7_aspect_45 N μ2
      else
        tc_ck (x1 + 1) 8 (
        if (μ2 56 (x1 + 1).toNatClampNeg) = 0 then
          some (1, μ2)
        else
          tc_f7_aspect_45 N μ2))
theorem tc_b7_aspect_0 (N : Nat) (x1 : Int32) (μ : tc_Mem) (z : Int32 × tc_Mem) (h : tc_f7_aspect N x1 μ = some z) : tc_At l G tc_i7_aspect (some (.int z.1)) z.2 X 0 [(0, .ref (tc_ad G 50)), (1, .int x1)] [] μ := by
  unfold tc_f7_aspect at h
  refine tc_aload_n tc_d7_aspect_0 0 rfl ?_
  refine tc_iload_n tc_d7_aspect_1 1 rfl ?_
  obtain ⟨r1, μ2, e1, h⟩ := tc_bdS h
  have c1 := tc_c7_isSection (l := l) (G := G) N e1
  refine tc_callVi (As := [.int x1]) (rest := []) (r1 := r1) (μ1 := μ2) tc_d7_aspect_2 tc_ok7_isSection tc_w1016 ⟨Nat.le_of_ble_eq_true rfl, Nat.le_of_ble_eq_true rfl⟩ tc_s7 rfl c1 rfl rfl (Nat.le_of_ble_eq_true rfl) ?_
  refine tc_if_ne (tgt := 11) tc_d7_aspect_5 (by decide) h (fun h => ?_) (fun h => ?_)
  · refine tc_aload_n tc_d7_aspect_11 0 rfl ?_
    refine tc_g7_6 tc_d7_aspect_12 tc_w884 ?_
    refine tc_iload_n tc_d7_aspect_15 1 rfl ?_
    obtain ⟨hi3, h⟩ := tc_ckS h
    refine tc_zald tc_d7_aspect_16 tc_aL56 hi3 ?_
    refine tc_if_ne (tgt := 24) tc_d7_aspect_17 (by decide) h (fun h => ?_) (fun h => ?_)
    · refine tc_iload_n tc_d7_aspect_24 1 rfl ?_
      refine tc_aload_n tc_d7_aspect_25 0 rfl ?_
      refine tc_g7_0 tc_d7_aspect_26 tc_w878 ?_
      refine tc_iconst (v := 1) tc_d7_aspect_29 (by decide) ?_
      refine tc_isub tc_d7_aspect_30 ?_
      refine tc_icmp_eq (tgt := 45) tc_d7_aspect_31 (by decide) h (fun h => ?_) (fun h => ?_)
      · refine tc_sub [] rfl ?_
        exact (tc_b7_aspect_45 N _ _) h
      · refine tc_aload_n tc_d7_aspect_34 0 rfl ?_
        refine tc_g7_6 tc_d7_aspect_35 tc_w884 ?_
        refine tc_iload_n tc_d7_aspect_38 1 rfl ?_
        refine tc_iconst (v := 1) tc_d7_aspect_39 (by decide) ?_
        refine tc_iadd tc_d7_aspect_40 ?_
        obtain ⟨hi4, h⟩ := tc_ckS h
        refine tc_zald tc_d7_aspect_41 tc_aL56 hi4 ?_
        refine tc_if_eq (tgt := 49) tc_d7_aspect_42 (by decide) h (fun h => ?_) (fun h => ?_)
        · refine tc_iconst (v := 1) tc_d7_aspect_49 (by decide) ?_
          exact tc_iret tc_d7_aspect_50 rfl (tc_riS h)
        · refine tc_sub [] rfl ?_
          exact (tc_b7_aspect_45 N _ _) h
    · refine tc_iconst (v := 0) tc_d7_aspect_20 (by decide) ?_
      refine tc_goto (tgt := 50) tc_d7_aspect_21 (by decide) ?_
      exact tc_iret tc_d7_aspect_50 rfl (tc_riS h)
  · refine tc_bipush (v := (-2)) tc_d7_aspect_8 (by decide) ?_
    exact tc_iret tc_d7_aspect_10 rfl (tc_riS h)
theorem tc_c7_aspect (N : Nat) {x1 : Int32} {μ : tc_Mem} {z : Int32 × tc_Mem} (h : tc_f7_aspect N x1 μ = some z) : tc_Con l G tc_i7_aspect [.ref (tc_ad G 50), .int x1] μ (some (.int z.1)) z.2 :=
  tc_Con.of (L := [(0, .ref (tc_ad G 50)), (1, .int x1)]) (by decide) (Nat.le_of_ble_eq_true rfl) rfl (fun X => tc_b7_aspect_0 N  _ _ _ h)
def tc_f7_back_231 (N : Nat) (μ : tc_Mem) : Option (Int32 × tc_Mem) :=
  tc_ck 77 90 (
  tc_lt (tc_wr μ 50 0 (μ 76 (77 : Int32).toNatClampNeg)) fun μ2 =>
  tc_ck 78 90 (
  tc_lt (tc_wr μ2 50 9 (μ2 76 (78 : Int32).toNatClampNeg)) fun μ4 =>
  some ((μ4 50 0), μ4)))
theorem tc_b7_back_231 (N : Nat) (μ : tc_Mem) (z : Int32 × tc_Mem) (h : tc_f7_back_231 N μ = some z) : tc_At l G tc_i7_back (some (.int z.1)) z.2 X 231 [(0, .ref (tc_ad G 50))] [] μ := by
  unfold tc_f7_back_231 at h
  refine tc_aload_n tc_d7_back_231 0 rfl ?_
  refine tc_aload_n tc_d7_back_232 0 rfl ?_
  refine tc_g7_38 tc_d7_back_233 tc_w916 ?_
  refine tc_bipush (v := 77) tc_d7_back_236 (by decide) ?_
  obtain ⟨hi1, h⟩ := tc_ckS h
  refine tc_iald tc_d7_back_238 tc_aL76 hi1 ?_
  refine tc_p7_0 tc_d7_back_239 tc_w878 h (fun μ2 h => ?_)
  refine tc_aload_n tc_d7_back_242 0 rfl ?_
  refine tc_aload_n tc_d7_back_243 0 rfl ?_
  refine tc_g7_38 tc_d7_back_244 tc_w916 ?_
  refine tc_bipush (v := 78) tc_d7_back_247 (by decide) ?_
  obtain ⟨hi3, h⟩ := tc_ckS h
  refine tc_iald tc_d7_back_249 tc_aL76 hi3 ?_
  refine tc_p7_9 tc_d7_back_250 tc_w887 h (fun μ4 h => ?_)
  refine tc_aload_n tc_d7_back_253 0 rfl ?_
  refine tc_g7_0 tc_d7_back_254 tc_w878 ?_
  exact tc_iret tc_d7_back_257 rfl (tc_riS h)
def tc_f7_back_205 (N : Nat) : Nat → Int32 → tc_Mem → Option (Int32 × tc_Mem)
  | 0 => fun _ _ => none
  | n + 1 => fun x1 μ => 
    if (3 : Int32) ≤ x1 then
      tc_f7_back_231 N μ
    else
      tc_ck (74 + x1) 90 (
      tc_ck x1 3 (
      tc_lt (tc_wr μ 58 x1.toNatClampNeg (μ 76 (74 + x1).toNatClampNeg)) fun μ3 =>
      tc_f7_back_205 N  n (x1 + 1) μ3))
theorem tc_b7_back_205 (N : Nat) : ∀ (n : Nat) (x1 : Int32) (μ : tc_Mem) (z : Int32 × tc_Mem), tc_f7_back_205 N n x1 μ = some z → tc_At l G tc_i7_back (some (.int z.1)) z.2 X 205 [(0, .ref (tc_ad G 50)), (1, .int x1)] [] μ := by
  intro n
  induction n with
  | zero => intro x1 μ z h; cases h
  | succ n ih =>
    intro x1 μ z h
    rw [tc_f7_back_205] at h
    refine tc_iload_n tc_d7_back_205 1 rfl ?_
    refine tc_iconst (v := 3) tc_d7_back_206 (by decide) ?_
    refine tc_icmp_ge (tgt := 231) tc_d7_back_207 (by decide) h (fun h => ?_) (fun h => ?_)
    · refine tc_sub [0] rfl ?_
      exact (tc_b7_back_231 N _ _) h
    · refine tc_aload_n tc_d7_back_210 0 rfl ?_
      refine tc_g7_8 tc_d7_back_211 tc_w886 ?_
      refine tc_iload_n tc_d7_back_214 1 rfl ?_
      refine tc_aload_n tc_d7_back_215 0 rfl ?_
      refine tc_g7_38 tc_d7_back_216 tc_w916 ?_
      refine tc_bipush (v := 74) tc_d7_back_219 (by decide) ?_
      refine tc_iload_n tc_d7_back_221 1 rfl ?_
      refine tc_iadd tc_d7_back_222 ?_
      obtain ⟨hi1, h⟩ := tc_ckS h
      refine tc_iald tc_d7_back_223 tc_aL76 hi1 ?_
      obtain ⟨hi2, h⟩ := tc_ckS h
      refine tc_iastL tc_d7_back_224 tc_aL58 hi2 h (fun μ3 h => ?_)
      refine tc_iinc (v := (x1 + 1)) (L' := [(1, .int (x1 + 1)), (0, .ref (tc_ad G 50))]) tc_d7_back_225 1 rfl rfl (by decide) rfl ?_
      refine tc_goto (tgt := 205) tc_d7_back_228 (by decide) ?_
      refine tc_sub [1, 0] rfl ?_
      exact (ih _ _ _) h
def tc_f7_back_203 (N : Nat) (μ : tc_Mem) : Option (Int32 × tc_Mem) :=
  tc_f7_back_205 N N 0 μ
theorem tc_b7_back_203 (N : Nat) (μ : tc_Mem) (z : Int32 × tc_Mem) (h : tc_f7_back_203 N μ = some z) : tc_At l G tc_i7_back (some (.int z.1)) z.2 X 203 [(0, .ref (tc_ad G 50))] [] μ := by
  unfold tc_f7_back_203 at h
  refine tc_iconst (v := 0) tc_d7_back_203 (by decide) ?_
  refine tc_istore_n (L' := [(1, .int 0), (0, .ref (tc_ad G 50))]) tc_d7_back_204 (by decide) rfl ?_
  refine tc_sub [1, 0] rfl ?_
  exact (tc_b7_back_205 N N _ _ _) h
def tc_f7_back_146 (N : Nat) : Nat → Int32 → tc_Mem → Option (Int32 × tc_Mem)
  | 0 => fun _ _ => none
  | n + 1 => fun x1 μ => 
    if (6 : Int32) ≤ x1 then
      tc_f7_back_203 N μ
    else
      tc_ck (56 + x1) 90 (
      tc_ck x1 20 (
      tc_lt (tc_wr μ 59 x1.toNatClampNeg (μ 76 (56 + x1).toNatClampNeg)) fun μ3 =>
      tc_ck (62 + x1) 90 (
      tc_ck x1 20 (
      tc_lt (tc_wr μ3 60 x1.toNatClampNeg (μ3 76 (62 + x1).toNatClampNeg)) fun μ6 =>
      tc_ck (68 + x1) 90 (
      tc_ck x1 20 (
      tc_lt (tc_wr μ6 61 x1.toNatClampNeg (μ6 76 (68 + x1).toNatClampNeg)) fun μ9 =>
      tc_f7_back_146 N  n (x1 + 1) μ9))))))
theorem tc_b7_back_146 (N : Nat) : ∀ (n : Nat) (x1 : Int32) (μ : tc_Mem) (z : Int32 × tc_Mem), tc_f7_back_146 N n x1 μ = some z → tc_At l G tc_i7_back (some (.int z.1)) z.2 X 146 [(0, .ref (tc_ad G 50)), (1, .int x1)] [] μ := by
  intro n
  induction n with
  | zero => intro x1 μ z h; cases h
  | succ n ih =>
    intro x1 μ z h
    rw [tc_f7_back_146] at h
    refine tc_iload_n tc_d7_back_146 1 rfl ?_
    refine tc_bipush (v := 6) tc_d7_back_147 (by decide) ?_
    refine tc_icmp_ge (tgt := 203) tc_d7_back_149 (by decide) h (fun h => ?_) (fun h => ?_)
    · refine tc_sub [0] rfl ?_
      exact (tc_b7_back_203 N _ _) h
    · refine tc_aload_n tc_d7_back_152 0 rfl ?_
      refine tc_g7_10 tc_d7_back_153 tc_w888 ?_
      refine tc_iload_n tc_d7_back_156 1 rfl ?_
      refine tc_aload_n tc_d7_back_157 0 rfl ?_
      refine tc_g7_38 tc_d7_back_158 tc_w916 ?_
      refine tc_bipush (v := 56) tc_d7_back_161 (by decide) ?_
      refine tc_iload_n tc_d7_back_163 1 rfl ?_
      refine tc_iadd tc_d7_back_164 ?_
      obtain ⟨hi1, h⟩ := tc_ckS h
      refine tc_iald tc_d7_back_165 tc_aL76 hi1 ?_
      obtain ⟨hi2, h⟩ := tc_ckS h
      refine tc_iastL tc_d7_back_166 tc_aL59 hi2 h (fun μ3 h => ?_)
      refine tc_aload_n tc_d7_back_167 0 rfl ?_
      refine tc_g7_11 tc_d7_back_168 tc_w889 ?_
      refine tc_iload_n tc_d7_back_171 1 rfl ?_
      refine tc_aload_n tc_d7_back_172 0 rfl ?_
      refine tc_g7_38 tc_d7_back_173 tc_w916 ?_
      refine tc_bipush (v := 62) tc_d7_back_176 (by decide) ?_
      refine tc_iload_n tc_d7_back_178 1 rfl ?_
      refine tc_iadd tc_d7_back_179 ?_
      obtain ⟨hi4, h⟩ := tc_ckS h
      refine tc_iald tc_d7_back_180 tc_aL76 hi4 ?_
      obtain ⟨hi5, h⟩ := tc_ckS h
      refine tc_iastL tc_d7_back_181 tc_aL60 hi5 h (fun μ6 h => ?_)
      refine tc_aload_n tc_d7_back_182 0 rfl ?_
      refine tc_g7_12 tc_d7_back_183 tc_w890 ?_
      refine tc_iload_n tc_d7_back_186 1 rfl ?_
      refine tc_aload_n tc_d7_back_187 0 rfl ?_
      refine tc_g7_38 tc_d7_back_188 tc_w916 ?_
      refine tc_bipush (v := 68) tc_d7_back_191 (by decide) ?_
      refine tc_iload_n tc_d7_back_193 1 rfl ?_
      refine tc_iadd tc_d7_back_194 ?_
      obtain ⟨hi7, h⟩ := tc_ckS h
      refine tc_iald tc_d7_back_195 tc_aL76 hi7 ?_
      obtain ⟨hi8, h⟩ := tc_ckS h
      refine tc_iastL tc_d7_back_196 tc_aL61 hi8 h (fun μ9 h => ?_)
      refine tc_iinc (v := (x1 + 1)) (L' := [(1, .int (x1 + 1)), (0, .ref (tc_ad G 50))]) tc_d7_back_197 1 rfl rfl (by decide) rfl ?_
      refine tc_goto (tgt := 146) tc_d7_back_200 (by decide) ?_
      refine tc_sub [1, 0] rfl ?_
      exact (ih _ _ _) h
def tc_f7_back_144 (N : Nat) (μ : tc_Mem) : Option (Int32 × tc_Mem) :=
  tc_f7_back_146 N N 0 μ
theorem tc_b7_back_144 (N : Nat) (μ : tc_Mem) (z : Int32 × tc_Mem) (h : tc_f7_back_144 N μ = some z) : tc_At l G tc_i7_back (some (.int z.1)) z.2 X 144 [(0, .ref (tc_ad G 50))] [] μ := by
  unfold tc_f7_back_144 at h
  refine tc_iconst (v := 0) tc_d7_back_144 (by decide) ?_
  refine tc_istore_n (L' := [(1, .int 0), (0, .ref (tc_ad G 50))]) tc_d7_back_145 (by decide) rfl ?_
  refine tc_sub [1, 0] rfl ?_
  exact (tc_b7_back_146 N N _ _ _) h
def tc_f7_back_137 (N : Nat) (k12 : Int32 → tc_Mem → Option (Int32 × tc_Mem)) (x1 : Int32) (s1 : Int32) (s2 : Int32) (μ : tc_Mem) : Option (Int32 × tc_Mem) :=
  tc_ck s1 8 (
  tc_lt (tc_wr μ 57 s1.toNatClampNeg (vp_nar .boolean s2)) fun μ2 =>
  k12 (x1 + 1) μ2)
theorem tc_b7_back_137 (N : Nat) {k12 : Int32 → tc_Mem → Option (Int32 × tc_Mem)} (H12 : ∀ (x1 : Int32) (μ : tc_Mem) (z : Int32 × tc_Mem), k12 x1 μ = some z → tc_At l G tc_i7_back (some (.int z.1)) z.2 X 12 [(0, .ref (tc_ad G 50)), (1, .int x1)] [] μ) (x1 : Int32) (s1 : Int32) (s2 : Int32) (μ : tc_Mem) (z : Int32 × tc_Mem) (h : tc_f7_back_137 N k12 x1 s1 s2 μ = some z) : tc_At l G tc_i7_back (some (.int z.1)) z.2 X 137 [(0, .ref (tc_ad G 50)), (1, .int x1)] [.int s2, .int s1, .ref (tc_ad G 57)] μ := by
  unfold tc_f7_back_137 at h
  obtain ⟨hi1, h⟩ := tc_ckS h
  refine tc_zastL tc_d7_back_137 tc_aL57 hi1 h (fun μ2 h => ?_)
  refine tc_iinc (v := (x1 + 1)) (L' := [(1, .int (x1 + 1)), (0, .ref (tc_ad G 50))]) tc_d7_back_138 1 rfl rfl (by decide) rfl ?_
  refine tc_goto (tgt := 12) tc_d7_back_141 (by decide) ?_
  refine tc_sub [1, 0] rfl ?_
  exact (H12 _ _ _) h
def tc_f7_back_113 (N : Nat) (k12 : Int32 → tc_Mem → Option (Int32 × tc_Mem)) (x1 : Int32) (s1 : Int32) (s2 : Int32) (μ : tc_Mem) : Option (Int32 × tc_Mem) :=
  tc_ck s1 8 (
  tc_lt (tc_wr μ 56 s1.toNatClampNeg (vp_nar .boolean s2)) fun μ2 =>
  tc_ck (48 + x1) 90 (
  if (μ2 76 (48 + x1).toNatClampNeg) = 1 then
    tc_f7_back_137 N k12 x1 x1 1 μ2
  else
    tc_f7_back_137 N k12 x1 x1 0 μ2))
theorem tc_b7_back_113 (N : Nat) {k12 : Int32 → tc_Mem → Option (Int32 × tc_Mem)} (H12 : ∀ (x1 : Int32) (μ : tc_Mem) (z : Int32 × tc_Mem), k12 x1 μ = some z → tc_At l G tc_i7_back (some (.int z.1)) z.2 X 12 [(0, .ref (tc_ad G 50)), (1, .int x1)] [] μ) (x1 : Int32) (s1 : Int32) (s2 : Int32) (μ : tc_Mem) (z : Int32 × tc_Mem) (h : tc_f7_back_113 N k12 x1 s1 s2 μ = some z) : tc_At l G tc_i7_back (some (.int z.1)) z.2 X 113 [(0, .ref (tc_ad G 50)), (1, .int x1)] [.int s2, .int s1, .ref (tc_ad G 56)] μ := by
  unfold tc_f7_back_113 at h
  obtain ⟨hi1, h⟩ := tc_ckS h
  refine tc_zastL tc_d7_back_113 tc_aL56 hi1 h (fun μ2 h => ?_)
  refine tc_aload_n tc_d7_back_114 0 rfl ?_
  refine tc_g7_7 tc_d7_back_115 tc_w885 ?_
  refine tc_iload_n tc_d7_back_118 1 rfl ?_
  refine tc_aload_n tc_d7_back_119 0 rfl ?_
  refine tc_g7_38 tc_d7_back_120 tc_w916 ?_
  refine tc_bipush (v := 48) tc_d7_back_123 (by decide) ?_
  refine tc_iload_n tc_d7_back_125 1 rfl ?_
  refine tc_iadd tc_d7_back_126 ?_
  obtain ⟨hi3, h⟩ := tc_ckS h
  refine tc_iald tc_d7_back_127 tc_aL76 hi3 ?_
  refine tc_iconst (v := 1) tc_d7_back_128 (by decide) ?_
  refine tc_icmp_ne (tgt := 136) tc_d7_back_129 (by decide) h (fun h => ?_) (fun h => ?_)
  · refine tc_iconst (v := 0) tc_d7_back_136 (by decide) ?_
    exact (tc_b7_back_137 N H12 _ _ _ _ _) h
  · refine tc_iconst (v := 1) tc_d7_back_132 (by decide) ?_
    refine tc_goto (tgt := 137) tc_d7_back_133 (by decide) ?_
    exact (tc_b7_back_137 N H12 _ _ _ _ _) h
def tc_f7_back_12 (N : Nat) : Nat → Int32 → tc_Mem → Option (Int32 × tc_Mem)
  | 0 => fun _ _ => none
  | n + 1 => fun x1 μ => 
    if (8 : Int32) ≤ x1 then
      tc_f7_back_144 N μ
    else
      tc_ck x1 90 (
      tc_ck x1 8 (
      tc_lt (tc_wr μ 51 x1.toNatClampNeg (μ 76 x1.toNatClampNeg)) fun μ3 =>
      tc_ck (8 + x1) 90 (
      tc_ck x1 8 (
      tc_lt (tc_wr μ3 52 x1.toNatClampNeg (μ3 76 (8 + x1).toNatClampNeg)) fun μ6 =>
      tc_ck (16 + x1) 90 (
      tc_ck x1 8 (
      tc_lt (tc_wr μ6 53 x1.toNatClampNeg (μ6 76 (16 + x1).toNatClampNeg)) fun μ9 =>
      tc_ck (24 + x1) 90 (
      tc_ck x1 8 (
      tc_lt (tc_wr μ9 54 x1.toNatClampNeg (μ9 76 (24 + x1).toNatClampNeg)) fun μ12 =>
      tc_ck (32 + x1) 90 (
      tc_ck x1 8 (
      tc_lt (tc_wr μ12 55 x1.toNatClampNeg (μ12 76 (32 + x1).toNatClampNeg)) fun μ15 =>
      tc_ck (40 + x1) 90 (
      if (μ15 76 (40 + x1).toNatClampNeg) = 1 then
        tc_f7_back_113 N (tc_f7_back_12 N n) x1 x1 1 μ15
      else
        tc_f7_back_113 N (tc_f7_back_12 N n) x1 x1 0 μ15)))))))))))
theorem tc_b7_back_12 (N : Nat) : ∀ (n : Nat) (x1 : Int32) (μ : tc_Mem) (z : Int32 × tc_Mem), tc_f7_back_12 N n x1 μ = some z → tc_At l G tc_i7_back (some (.int z.1)) z.2 X 12 [(0, .ref (tc_ad G 50)), (1, .int x1)] [] μ := by
  intro n
  induction n with
  | zero => intro x1 μ z h; cases h
  | succ n ih =>
    intro x1 μ z h
    rw [tc_f7_back_12] at h
    refine tc_iload_n tc_d7_back_12 1 rfl ?_
    refine tc_bipush (v := 8) tc_d7_back_13 (by decide) ?_
    refine tc_icmp_ge (tgt := 144) tc_d7_back_15 (by decide) h (fun h => ?_) (fun h => ?_)
    · refine tc_sub [0] rfl ?_
      exact (tc_b7_back_144 N _ _) h
    · refine tc_aload_n tc_d7_back_18 0 rfl ?_
      refine tc_g7_1 tc_d7_back_19 tc_w879 ?_
      refine tc_iload_n tc_d7_back_22 1 rfl ?_
      refine tc_aload_n tc_d7_back_23 0 rfl ?_
      refine tc_g7_38 tc_d7_back_24 tc_w916 ?_
      refine tc_iload_n tc_d7_back_27 1 rfl ?_
      obtain ⟨hi1, h⟩ := tc_ckS h
      refine tc_iald tc_d7_back_28 tc_aL76 hi1 ?_
      obtain ⟨hi2, h⟩ := tc_ckS h
      refine tc_iastL tc_d7_back_29 tc_aL51 hi2 h (fun μ3 h => ?_)
      refine tc_aload_n tc_d7_back_30 0 rfl ?_
      refine tc_g7_2 tc_d7_back_31 tc_w880 ?_
      refine tc_iload_n tc_d7_back_34 1 rfl ?_
      refine tc_aload_n tc_d7_back_35 0 rfl ?_
      refine tc_g7_38 tc_d7_back_36 tc_w916 ?_
      refine tc_bipush (v := 8) tc_d7_back_39 (by decide) ?_
      refine tc_iload_n tc_d7_back_41 1 rfl ?_
      refine tc_iadd tc_d7_back_42 ?_
      obtain ⟨hi4, h⟩ := tc_ckS h
      refine tc_iald tc_d7_back_43 tc_aL76 hi4 ?_
      obtain ⟨hi5, h⟩ := tc_ckS h
      refine tc_iastL tc_d7_back_44 tc_aL52 hi5 h (fun μ6 h => ?_)
      refine tc_aload_n tc_d7_back_45 0 rfl ?_
      refine tc_g7_3 tc_d7_back_46 tc_w881 ?_
      refine tc_iload_n tc_d7_back_49 1 rfl ?_
      refine tc_aload_n tc_d7_back_50 0 rfl ?_
      refine tc_g7_38 tc_d7_back_51 tc_w916 ?_
      refine tc_bipush (v := 16) tc_d7_back_54 (by decide) ?_
      refine tc_iload_n tc_d7_back_56 1 rfl ?_
      refine tc_iadd tc_d7_back_57 ?_
      obtain ⟨hi7, h⟩ := tc_ckS h
      refine tc_iald tc_d7_back_58 tc_aL76 hi7 ?_
      obtain ⟨hi8, h⟩ := tc_ckS h
      refine tc_iastL tc_d7_back_59 tc_aL53 hi8 h (fun μ9 h => ?_)
      refine tc_aload_n tc_d7_back_60 0 rfl ?_
      refine tc_g7_4 tc_d7_back_61 tc_w882 ?_
      refine tc_iload_n tc_d7_back_64 1 rfl ?_
      refine tc_aload_n tc_d7_back_65 0 rfl ?_
      refine tc_g7_38 tc_d7_back_66 tc_w916 ?_
      refine tc_bipush (v := 24) tc_d7_back_69 (by decide) ?_
      refine tc_iload_n tc_d7_back_71 1 rfl ?_
      refine tc_iadd tc_d7_back_72 ?_
      obtain ⟨hi10, h⟩ := tc_ckS h
      refine tc_iald tc_d7_back_73 tc_aL76 hi10 ?_
      obtain ⟨hi11, h⟩ := tc_ckS h
      refine tc_iastL tc_d7_back_74 tc_aL54 hi11 h (fun μ12 h => ?_)
      refine tc_aload_n tc_d7_back_75 0 rfl ?_
      refine tc_g7_5 tc_d7_back_76 tc_w883 ?_
      refine tc_iload_n tc_d7_back_79 1 rfl ?_
      refine tc_aload_n tc_d7_back_80 0 rfl ?_
      refine tc_g7_38 tc_d7_back_81 tc_w916 ?_
      refine tc_bipush (v := 32) tc_d7_back_84 (by decide) ?_
      refine tc_iload_n tc_d7_back_86 1 rfl ?_
      refine tc_iadd tc_d7_back_87 ?_
      obtain ⟨hi13, h⟩ := tc_ckS h
      refine tc_iald tc_d7_back_88 tc_aL76 hi13 ?_
      obtain ⟨hi14, h⟩ := tc_ckS h
      refine tc_iastL tc_d7_back_89 tc_aL55 hi14 h (fun μ15 h => ?_)
      refine tc_aload_n tc_d7_back_90 0 rfl ?_
      refine tc_g7_6 tc_d7_back_91 tc_w884 ?_
      refine tc_iload_n tc_d7_back_94 1 rfl ?_
      refine tc_aload_n tc_d7_back_95 0 rfl ?_
      refine tc_g7_38 tc_d7_back_96 tc_w916 ?_
      refine tc_bipush (v := 40) tc_d7_back_99 (by decide) ?_
      refine tc_iload_n tc_d7_back_101 1 rfl ?_
      refine tc_iadd tc_d7_back_102 ?_
      obtain ⟨hi16, h⟩ := tc_ckS h
      refine tc_iald tc_d7_back_103 tc_aL76 hi16 ?_
      refine tc_iconst (v := 1) tc_d7_back_104 (by decide) ?_
      refine tc_icmp_ne (tgt := 112) tc_d7_back_105 (by decide) h (fun h => ?_) (fun h => ?_)
      · refine tc_iconst (v := 0) tc_d7_back_112 (by decide) ?_
        exact (tc_b7_back_113 N ih _ _ _ _ _) h
      · refine tc_iconst (v := 1) tc_d7_back_108 (by decide) ?_
        refine tc_goto (tgt := 113) tc_d7_back_109 (by decide) ?_
        exact (tc_b7_back_113 N ih _ _ _ _ _) h
def tc_f7_back (N : Nat) (μ : tc_Mem) : Option (Int32 × tc_Mem) :=
  if (μ 50 37) = 0 then
    some ((-3), μ)
  else
    tc_f7_back_12 N N 0 μ
theorem tc_b7_back_0 (N : Nat) (μ : tc_Mem) (z : Int32 × tc_Mem) (h : tc_f7_back N μ = some z) : tc_At l G tc_i7_back (some (.int z.1)) z.2 X 0 [(0, .ref (tc_ad G 50))] [] μ := by
  unfold tc_f7_back at h
  refine tc_aload_n tc_d7_back_0 0 rfl ?_
  refine tc_g7_37 tc_d7_back_1 tc_w915 ?_
  refine tc_if_ne (tgt := 10) tc_d7_back_4 (by decide) h (fun h => ?_) (fun h => ?_)
  · refine tc_iconst (v := 0) tc_d7_back_10 (by decide) ?_
    refine tc_istore_n (L' := [(1, .int 0), (0, .ref (tc_ad G 50))]) tc_d7_back_11 (by decide) rfl ?_
    refine tc_sub [1, 0] rfl ?_
    exact (tc_b7_back_12 N N _ _ _) h
  · refine tc_bipush (v := (-3)) tc_d7_back_7 (by decide) ?_
    exact tc_iret tc_d7_back_9 rfl (tc_riS h)
theorem tc_c7_back (N : Nat) {μ : tc_Mem} {z : Int32 × tc_Mem} (h : tc_f7_back N μ = some z) : tc_Con l G tc_i7_back [.ref (tc_ad G 50)] μ (some (.int z.1)) z.2 :=
  tc_Con.of (L := [(0, .ref (tc_ad G 50))]) (by decide) (Nat.le_of_ble_eq_true rfl) rfl (fun X => tc_b7_back_0 N  _ _ h)
def tc_f7_isRight_25 (N : Nat) (s0 : Int32) (μ : tc_Mem) : Option (Int32 × tc_Mem) :=
  tc_bd (tc_f7_laysBack N μ) fun _ μ2 =>
  tc_zr s0 μ2
theorem tc_b7_isRight_25 (N : Nat) (s0 : Int32) (μ : tc_Mem) (z : Int32 × tc_Mem) (h : tc_f7_isRight_25 N s0 μ = some z) : tc_At l G tc_i7_isRight (some (.int z.1)) z.2 X 25 [(0, .ref (tc_ad G 50))] [.int s0] μ := by
  unfold tc_f7_isRight_25 at h
  refine tc_istore_n (L' := [(1, .int s0), (0, .ref (tc_ad G 50))]) tc_d7_isRight_25 (by decide) rfl ?_
  refine tc_aload_n tc_d7_isRight_26 1 rfl ?_
  obtain ⟨r1, μ2, e1, h⟩ := tc_bdS h
  have c1 := tc_c7_laysBack (l := l) (G := G) N e1
  refine tc_callVv (As := []) (rest := []) (μ1 := μ2) tc_d7_isRight_27 tc_ok7_laysBack tc_w1150 ⟨Nat.le_of_ble_eq_true rfl, Nat.le_of_ble_eq_true rfl⟩ tc_s7 rfl c1 rfl rfl (Nat.le_of_ble_eq_true rfl) ?_
  refine tc_iload_n tc_d7_isRight_30 0 rfl ?_
  exact tc_zret tc_d7_isRight_31 rfl (tc_zrS h).1 (tc_zrS h).2
def tc_f7_isRight_24 (N : Nat) (μ : tc_Mem) : Option (Int32 × tc_Mem) :=
  tc_f7_isRight_25 N 0 μ
theorem tc_b7_isRight_24 (N : Nat) (μ : tc_Mem) (z : Int32 × tc_Mem) (h : tc_f7_isRight_24 N μ = some z) : tc_At l G tc_i7_isRight (some (.int z.1)) z.2 X 24 [(0, .ref (tc_ad G 50))] [] μ := by
  unfold tc_f7_isRight_24 at h
  refine tc_iconst (v := 0) tc_d7_isRight_24 (by decide) ?_
  exact (tc_b7_isRight_25 N _ _ _) h
def tc_f7_isRight (N : Nat) (μ : tc_Mem) : Option (Int32 × tc_Mem) :=
  tc_bd (tc_f7_keepsNow N μ) fun _ μ2 =>
  tc_bd (tc_f7_goes N 0 μ2) fun r3 μ4 =>
  if r3 < 0 then
    tc_f7_isRight_24 N μ4
  else
    tc_bd (tc_f7_bitsOf N 2 μ4) fun r5 μ6 =>
    if r5 = 0 then
      tc_f7_isRight_25 N 1 μ6
    else
      tc_f7_isRight_24 N μ6
theorem tc_b7_isRight_0 (N : Nat) (μ : tc_Mem) (z : Int32 × tc_Mem) (h : tc_f7_isRight N μ = some z) : tc_At l G tc_i7_isRight (some (.int z.1)) z.2 X 0 [(0, .ref (tc_ad G 50))] [] μ := by
  unfold tc_f7_isRight at h
  refine tc_aload_n tc_d7_isRight_0 0 rfl ?_
  obtain ⟨r1, μ2, e1, h⟩ := tc_bdS h
  have c1 := tc_c7_keepsNow (l := l) (G := G) N e1
  refine tc_callVv (As := []) (rest := []) (μ1 := μ2) tc_d7_isRight_1 tc_ok7_keepsNow tc_w1145 ⟨Nat.le_of_ble_eq_true rfl, Nat.le_of_ble_eq_true rfl⟩ tc_s7 rfl c1 rfl rfl (Nat.le_of_ble_eq_true rfl) ?_
  refine tc_aload_n tc_d7_isRight_4 0 rfl ?_
  refine tc_iconst (v := 0) tc_d7_isRight_5 (by decide) ?_
  obtain ⟨r3, μ4, e3, h⟩ := tc_bdS h
  have c3 := tc_c7_goes (l := l) (G := G) N e3
  refine tc_callVi (As := [.int 0]) (rest := []) (r1 := r3) (μ1 := μ4) tc_d7_isRight_6 tc_ok7_goes tc_w1097 ⟨Nat.le_of_ble_eq_true rfl, Nat.le_of_ble_eq_true rfl⟩ tc_s7 rfl c3 rfl rfl (Nat.le_of_ble_eq_true rfl) ?_
  refine tc_if_lt (tgt := 24) tc_d7_isRight_9 (by decide) h (fun h => ?_) (fun h => ?_)
  · exact (tc_b7_isRight_24 N _ _) h
  · refine tc_aload_n tc_d7_isRight_12 0 rfl ?_
    refine tc_iconst (v := 2) tc_d7_isRight_13 (by decide) ?_
    obtain ⟨r5, μ6, e5, h⟩ := tc_bdS h
    have c5 := tc_c7_bitsOf (l := l) (G := G) N e5
    refine tc_callVi (As := [.int 2]) (rest := []) (r1 := r5) (μ1 := μ6) tc_d7_isRight_14 tc_ok7_bitsOf tc_w1061 ⟨Nat.le_of_ble_eq_true rfl, Nat.le_of_ble_eq_true rfl⟩ tc_s7 rfl c5 rfl rfl (Nat.le_of_ble_eq_true rfl) ?_
    refine tc_if_ne (tgt := 24) tc_d7_isRight_17 (by decide) h (fun h => ?_) (fun h => ?_)
    · exact (tc_b7_isRight_24 N _ _) h
    · refine tc_iconst (v := 1) tc_d7_isRight_20 (by decide) ?_
      refine tc_goto (tgt := 25) tc_d7_isRight_21 (by decide) ?_
      exact (tc_b7_isRight_25 N _ _ _) h
theorem tc_c7_isRight (N : Nat) {μ : tc_Mem} {z : Int32 × tc_Mem} (h : tc_f7_isRight N μ = some z) : tc_Con l G tc_i7_isRight [.ref (tc_ad G 50)] μ (some (.int z.1)) z.2 :=
  tc_Con.of (L := [(0, .ref (tc_ad G 50))]) (by decide) (Nat.le_of_ble_eq_true rfl) rfl (fun X => tc_b7_isRight_0 N  _ _ h)
def tc_f7_broken_38 (N : Nat) (s0 : Int32) (μ : tc_Mem) : Option (Int32 × tc_Mem) :=
  tc_bd (tc_f7_laysBack N μ) fun _ μ2 =>
  some (s0, μ2)
theorem tc_b7_broken_38 (N : Nat) (s0 : Int32) (μ : tc_Mem) (z : Int32 × tc_Mem) (h : tc_f7_broken_38 N s0 μ = some z) : tc_At l G tc_i7_broken (some (.int z.1)) z.2 X 38 [(0, .ref (tc_ad G 50))] [.int s0] μ := by
  unfold tc_f7_broken_38 at h
  refine tc_istore_n (L' := [(3, .int s0), (0, .ref (tc_ad G 50))]) tc_d7_broken_38 (by decide) rfl ?_
  refine tc_aload_n tc_d7_broken_39 1 rfl ?_
  obtain ⟨r1, μ2, e1, h⟩ := tc_bdS h
  have c1 := tc_c7_laysBack (l := l) (G := G) N e1
  refine tc_callVv (As := []) (rest := []) (μ1 := μ2) tc_d7_broken_40 tc_ok7_laysBack tc_w1150 ⟨Nat.le_of_ble_eq_true rfl, Nat.le_of_ble_eq_true rfl⟩ tc_s7 rfl c1 rfl rfl (Nat.le_of_ble_eq_true rfl) ?_
  refine tc_iload_n tc_d7_broken_43 0 rfl ?_
  exact tc_iret tc_d7_broken_44 rfl (tc_riS h)
def tc_f7_broken (N : Nat) (x1 : Int32) (μ : tc_Mem) : Option (Int32 × tc_Mem) :=
  tc_bd (tc_f7_keepsNow N μ) fun _ μ2 =>
  tc_bd (tc_f7_addFault N 0 x1 μ2) fun _ μ4 =>
  tc_bd (tc_f7_goes N 0 μ4) fun r5 μ6 =>
  if (0 : Int32) ≤ r5 then
    tc_ck x1 8 (
    if (μ6 56 x1.toNatClampNeg) = 0 then
      tc_f7_broken_38 N 0 μ6
    else
      tc_f7_broken_38 N 1 μ6)
  else
    tc_f7_broken_38 N (-1) μ6
theorem tc_b7_broken_0 (N : Nat) (x1 : Int32) (μ : tc_Mem) (z : Int32 × tc_Mem) (h : tc_f7_broken N x1 μ = some z) : tc_At l G tc_i7_broken (some (.int z.1)) z.2 X 0 [(0, .ref (tc_ad G 50)), (1, .int x1)] [] μ := by
  unfold tc_f7_broken at h
  refine tc_aload_n tc_d7_broken_0 0 rfl ?_
  obtain ⟨r1, μ2, e1, h⟩ := tc_bdS h
  have c1 := tc_c7_keepsNow (l := l) (G := G) N e1
  refine tc_callVv (As := []) (rest := []) (μ1 := μ2) tc_d7_broken_1 tc_ok7_keepsNow tc_w1145 ⟨Nat.le_of_ble_eq_true rfl, Nat.le_of_ble_eq_true rfl⟩ tc_s7 rfl c1 rfl rfl (Nat.le_of_ble_eq_true rfl) ?_
  refine tc_aload_n tc_d7_broken_4 0 rfl ?_
  refine tc_iconst (v := 0) tc_d7_broken_5 (by decide) ?_
  refine tc_iload_n tc_d7_broken_6 1 rfl ?_
  obtain ⟨r3, μ4, e3, h⟩ := tc_bdS h
  have c3 := tc_c7_addFault (l := l) (G := G) N e3
  refine tc_callVv (As := [.int 0, .int x1]) (rest := []) (μ1 := μ4) tc_d7_broken_7 tc_ok7_addFault tc_w1077 ⟨Nat.le_of_ble_eq_true rfl, Nat.le_of_ble_eq_true rfl⟩ tc_s7 rfl c3 rfl rfl (Nat.le_of_ble_eq_true rfl) ?_
  refine tc_aload_n tc_d7_broken_10 0 rfl ?_
  refine tc_iconst (v := 0) tc_d7_broken_11 (by decide) ?_
  obtain ⟨r5, μ6, e5, h⟩ := tc_bdS h
  have c5 := tc_c7_goes (l := l) (G := G) N e5
  refine tc_callVi (As := [.int 0]) (rest := []) (r1 := r5) (μ1 := μ6) tc_d7_broken_12 tc_ok7_goes tc_w1097 ⟨Nat.le_of_ble_eq_true rfl, Nat.le_of_ble_eq_true rfl⟩ tc_s7 rfl c5 rfl rfl (Nat.le_of_ble_eq_true rfl) ?_
  refine tc_istore_n (L' := [(2, .int r5), (0, .ref (tc_ad G 50)), (1, .int x1)]) tc_d7_broken_15 (by decide) rfl ?_
  refine tc_iload_n tc_d7_broken_16 0 rfl ?_
  refine tc_if_ge (tgt := 24) tc_d7_broken_17 (by decide) h (fun h => ?_) (fun h => ?_)
  · refine tc_aload_n tc_d7_broken_24 1 rfl ?_
    refine tc_g7_6 tc_d7_broken_25 tc_w884 ?_
    refine tc_iload_n tc_d7_broken_28 2 rfl ?_
    obtain ⟨hi7, h⟩ := tc_ckS h
    refine tc_zald tc_d7_broken_29 tc_aL56 hi7 ?_
    refine tc_if_eq (tgt := 37) tc_d7_broken_30 (by decide) h (fun h => ?_) (fun h => ?_)
    · refine tc_iconst (v := 0) tc_d7_broken_37 (by decide) ?_
      refine tc_sub [1] rfl ?_
      exact (tc_b7_broken_38 N _ _ _) h
    · refine tc_iconst (v := 1) tc_d7_broken_33 (by decide) ?_
      refine tc_goto (tgt := 38) tc_d7_broken_34 (by decide) ?_
      refine tc_sub [1] rfl ?_
      exact (tc_b7_broken_38 N _ _ _) h
  · refine tc_iconst (v := (-1)) tc_d7_broken_20 (by decide) ?_
    refine tc_goto (tgt := 38) tc_d7_broken_21 (by decide) ?_
    refine tc_sub [1] rfl ?_
    exact (tc_b7_broken_38 N _ _ _) h
theorem tc_c7_broken (N : Nat) {x1 : Int32} {μ : tc_Mem} {z : Int32 × tc_Mem} (h : tc_f7_broken N x1 μ = some z) : tc_Con l G tc_i7_broken [.ref (tc_ad G 50), .int x1] μ (some (.int z.1)) z.2 :=
  tc_Con.of (L := [(0, .ref (tc_ad G 50)), (1, .int x1)]) (by decide) (Nat.le_of_ble_eq_true rfl) rfl (fun X => tc_b7_broken_0 N  _ _ _ h)
def tc_f7_isUnseen_2 (N : Nat) : Nat → Int32 → tc_Mem → Option (Int32 × tc_Mem)
  | 0 => fun _ _ => none
  | n + 1 => fun x1 μ => 
    if (μ 50 0) ≤ x1 then
      some (0, μ)
    else
      tc_bd (tc_f7_broken N x1 μ) fun r1 μ2 =>
      if r1 = 1 then
        some (1, μ2)
      else
        tc_f7_isUnseen_2 N  n (x1 + 1) μ2
theorem tc_b7_isUnseen_2 (N : Nat) : ∀ (n : Nat) (x1 : Int32) (μ : tc_Mem) (z : Int32 × tc_Mem), tc_f7_isUnseen_2 N n x1 μ = some z → tc_At l G tc_i7_isUnseen (some (.int z.1)) z.2 X 2 [(0, .ref (tc_ad G 50)), (1, .int x1)] [] μ := by
  intro n
  induction n with
  | zero => intro x1 μ z h; cases h
  | succ n ih =>
    intro x1 μ z h
    rw [tc_f7_isUnseen_2] at h
    refine tc_iload_n tc_d7_isUnseen_2 1 rfl ?_
    refine tc_aload_n tc_d7_isUnseen_3 0 rfl ?_
    refine tc_g7_0 tc_d7_isUnseen_4 tc_w878 ?_
    refine tc_icmp_ge (tgt := 27) tc_d7_isUnseen_7 (by decide) h (fun h => ?_) (fun h => ?_)
    · refine tc_iconst (v := 0) tc_d7_isUnseen_27 (by decide) ?_
      exact tc_zret tc_d7_isUnseen_28 rfl (by decide) (tc_riS h)
    · refine tc_aload_n tc_d7_isUnseen_10 0 rfl ?_
      refine tc_iload_n tc_d7_isUnseen_11 1 rfl ?_
      obtain ⟨r1, μ2, e1, h⟩ := tc_bdS h
      have c1 := tc_c7_broken (l := l) (G := G) N e1
      refine tc_callVi (As := [.int x1]) (rest := []) (r1 := r1) (μ1 := μ2) tc_d7_isUnseen_12 tc_ok7_broken tc_w1166 ⟨Nat.le_of_ble_eq_true rfl, Nat.le_of_ble_eq_true rfl⟩ tc_s7 rfl c1 rfl rfl (Nat.le_of_ble_eq_true rfl) ?_
      refine tc_iconst (v := 1) tc_d7_isUnseen_15 (by decide) ?_
      refine tc_icmp_ne (tgt := 21) tc_d7_isUnseen_16 (by decide) h (fun h => ?_) (fun h => ?_)
      · refine tc_iinc (v := (x1 + 1)) (L' := [(1, .int (x1 + 1)), (0, .ref (tc_ad G 50))]) tc_d7_isUnseen_21 1 rfl rfl (by decide) rfl ?_
        refine tc_goto (tgt := 2) tc_d7_isUnseen_24 (by decide) ?_
        refine tc_sub [1, 0] rfl ?_
        exact (ih _ _ _) h
      · refine tc_iconst (v := 1) tc_d7_isUnseen_19 (by decide) ?_
        exact tc_zret tc_d7_isUnseen_20 rfl (by decide) (tc_riS h)
def tc_f7_isUnseen (N : Nat) (μ : tc_Mem) : Option (Int32 × tc_Mem) :=
  tc_f7_isUnseen_2 N N 0 μ
theorem tc_b7_isUnseen_0 (N : Nat) (μ : tc_Mem) (z : Int32 × tc_Mem) (h : tc_f7_isUnseen N μ = some z) : tc_At l G tc_i7_isUnseen (some (.int z.1)) z.2 X 0 [(0, .ref (tc_ad G 50))] [] μ := by
  unfold tc_f7_isUnseen at h
  refine tc_iconst (v := 0) tc_d7_isUnseen_0 (by decide) ?_
  refine tc_istore_n (L' := [(1, .int 0), (0, .ref (tc_ad G 50))]) tc_d7_isUnseen_1 (by decide) rfl ?_
  refine tc_sub [1, 0] rfl ?_
  exact (tc_b7_isUnseen_2 N N _ _ _) h
theorem tc_c7_isUnseen (N : Nat) {μ : tc_Mem} {z : Int32 × tc_Mem} (h : tc_f7_isUnseen N μ = some z) : tc_Con l G tc_i7_isUnseen [.ref (tc_ad G 50)] μ (some (.int z.1)) z.2 :=
  tc_Con.of (L := [(0, .ref (tc_ad G 50))]) (by decide) (Nat.le_of_ble_eq_true rfl) rfl (fun X => tc_b7_isUnseen_0 N  _ _ h)
def tc_f7_bound_89 (N : Nat) (x2 : Int32) (x3 : Int32) (μ : tc_Mem) : Option (Int32 × tc_Mem) :=
  tc_ck 2 3 (
  tc_lt (tc_wr μ 58 (2 : Int32).toNatClampNeg x2) fun μ2 =>
  some (x3, μ2))
theorem tc_b7_bound_89 (N : Nat) (x2 : Int32) (x3 : Int32) (μ : tc_Mem) (z : Int32 × tc_Mem) (h : tc_f7_bound_89 N x2 x3 μ = some z) : tc_At l G tc_i7_bound (some (.int z.1)) z.2 X 89 [(0, .ref (tc_ad G 50)), (2, .int x2), (3, .int x3)] [] μ := by
  unfold tc_f7_bound_89 at h
  refine tc_aload_n tc_d7_bound_89 0 rfl ?_
  refine tc_g7_8 tc_d7_bound_90 tc_w886 ?_
  refine tc_iconst (v := 2) tc_d7_bound_93 (by decide) ?_
  refine tc_iload_n tc_d7_bound_94 1 rfl ?_
  obtain ⟨hi1, h⟩ := tc_ckS h
  refine tc_iastL tc_d7_bound_95 tc_aL58 hi1 h (fun μ2 h => ?_)
  refine tc_iload_n tc_d7_bound_96 2 rfl ?_
  exact tc_iret tc_d7_bound_97 rfl (tc_riS h)
def tc_f7_bound_76 (N : Nat) (k24 : Int32 → Int32 → Int32 → Int32 → tc_Mem → Option (Int32 × tc_Mem)) (x1 : Int32) (x2 : Int32) (x4 : Int32) (μ : tc_Mem) : Option (Int32 × tc_Mem) :=
  tc_ck 2 3 (
  tc_lt (μ 58 (2 : Int32).toNatClampNeg) fun v2 =>
  k24 x1 x2 v2 (x4 + 1) μ)
theorem tc_b7_bound_76 (N : Nat) {k24 : Int32 → Int32 → Int32 → Int32 → tc_Mem → Option (Int32 × tc_Mem)} (H24 : ∀ (x1 : Int32) (x2 : Int32) (x3 : Int32) (x4 : Int32) (μ : tc_Mem) (z : Int32 × tc_Mem), k24 x1 x2 x3 x4 μ = some z → tc_At l G tc_i7_bound (some (.int z.1)) z.2 X 24 [(0, .ref (tc_ad G 50)), (1, .int x1), (2, .int x2), (3, .int x3), (4, .int x4)] [] μ) (x1 : Int32) (x2 : Int32) (x4 : Int32) (μ : tc_Mem) (z : Int32 × tc_Mem) (h : tc_f7_bound_76 N k24 x1 x2 x4 μ = some z) : tc_At l G tc_i7_bound (some (.int z.1)) z.2 X 76 [(0, .ref (tc_ad G 50)), (1, .int x1), (2, .int x2), (4, .int x4)] [] μ := by
  unfold tc_f7_bound_76 at h
  refine tc_aload_n tc_d7_bound_76 0 rfl ?_
  refine tc_g7_8 tc_d7_bound_77 tc_w886 ?_
  refine tc_iconst (v := 2) tc_d7_bound_80 (by decide) ?_
  obtain ⟨hi1, h⟩ := tc_ckS h
  refine tc_iald tc_d7_bound_81 tc_aL58 hi1 ?_
  refine tc_ltI h (fun v2 h => ?_)
  refine tc_istore_n (L' := [(3, .int v2), (0, .ref (tc_ad G 50)), (1, .int x1), (2, .int x2), (4, .int x4)]) tc_d7_bound_82 (by decide) rfl ?_
  refine tc_iinc (v := (x4 + 1)) (L' := [(4, .int (x4 + 1)), (3, .int v2), (0, .ref (tc_ad G 50)), (1, .int x1), (2, .int x2)]) tc_d7_bound_83 4 rfl rfl (by decide) rfl ?_
  refine tc_goto (tgt := 24) tc_d7_bound_86 (by decide) ?_
  refine tc_sub [2, 3, 4, 1, 0] rfl ?_
  exact (H24 _ _ _ _ _ _) h
def tc_f7_bound_54 (N : Nat) (k24 : Int32 → Int32 → Int32 → Int32 → tc_Mem → Option (Int32 × tc_Mem)) (x1 : Int32) (x2 : Int32) (x3 : Int32) (x4 : Int32) (s1 : Int32) (s2 : Int32) (μ : tc_Mem) : Option (Int32 × tc_Mem) :=
  tc_ck s1 3 (
  tc_lt (tc_wr μ 58 s1.toNatClampNeg s2) fun μ2 =>
  if x1 = 0 then
    tc_bd (tc_f7_isRight N μ2) fun r5 μ6 =>
    if r5 = 0 then
      k24 x1 x2 x3 (x4 + 1) μ6
    else
      tc_f7_bound_76 N k24 x1 x2 x4 μ6
  else
    tc_bd (tc_f7_isUnseen N μ2) fun r3 μ4 =>
    if r3 = 0 then
      k24 x1 x2 x3 (x4 + 1) μ4
    else
      tc_f7_bound_76 N k24 x1 x2 x4 μ4)
theorem tc_b7_bound_54 (N : Nat) {k24 : Int32 → Int32 → Int32 → Int32 → tc_Mem → Option (Int32 × tc_Mem)} (H24 : ∀ (x1 : Int32) (x2 : Int32) (x3 : Int32) (x4 : Int32) (μ : tc_Mem) (z : Int32 × tc_Mem), k24 x1 x2 x3 x4 μ = some z → tc_At l G tc_i7_bound (some (.int z.1)) z.2 X 24 [(0, .ref (tc_ad G 50)), (1, .int x1), (2, .int x2), (3, .int x3), (4, .int x4)] [] μ) (x1 : Int32) (x2 : Int32) (x3 : Int32) (x4 : Int32) (s1 : Int32) (s2 : Int32) (μ : tc_Mem) (z : Int32 × tc_Mem) (h : tc_f7_bound_54 N k24 x1 x2 x3 x4 s1 s2 μ = some z) : tc_At l G tc_i7_bound (some (.int z.1)) z.2 X 54 [(0, .ref (tc_ad G 50)), (1, .int x1), (2, .int x2), (3, .int x3), (4, .int x4)] [.int s2, .int s1, .ref (tc_ad G 58)] μ := by
  unfold tc_f7_bound_54 at h
  obtain ⟨hi1, h⟩ := tc_ckS h
  refine tc_iastL tc_d7_bound_54 tc_aL58 hi1 h (fun μ2 h => ?_)
  refine tc_iload_n tc_d7_bound_55 1 rfl ?_
  refine tc_if_ne (tgt := 69) tc_d7_bound_56 (by decide) h (fun h => ?_) (fun h => ?_)
  · refine tc_aload_n tc_d7_bound_69 0 rfl ?_
    obtain ⟨r3, μ4, e3, h⟩ := tc_bdS h
    have c3 := tc_c7_isUnseen (l := l) (G := G) N e3
    refine tc_callVi (As := []) (rest := []) (r1 := r3) (μ1 := μ4) tc_d7_bound_70 tc_ok7_isUnseen tc_w1178 ⟨Nat.le_of_ble_eq_true rfl, Nat.le_of_ble_eq_true rfl⟩ tc_s7 rfl c3 rfl rfl (Nat.le_of_ble_eq_true rfl) ?_
    refine tc_if_eq (tgt := 83) tc_d7_bound_73 (by decide) h (fun h => ?_) (fun h => ?_)
    · refine tc_iinc (v := (x4 + 1)) (L' := [(4, .int (x4 + 1)), (0, .ref (tc_ad G 50)), (1, .int x1), (2, .int x2), (3, .int x3)]) tc_d7_bound_83 4 rfl rfl (by decide) rfl ?_
      refine tc_goto (tgt := 24) tc_d7_bound_86 (by decide) ?_
      refine tc_sub [1, 2, 3, 4, 0] rfl ?_
      exact (H24 _ _ _ _ _ _) h
    · refine tc_sub [0, 1, 2, 4] rfl ?_
      exact (tc_b7_bound_76 N H24 _ _ _ _ _) h
  · refine tc_aload_n tc_d7_bound_59 0 rfl ?_
    obtain ⟨r5, μ6, e5, h⟩ := tc_bdS h
    have c5 := tc_c7_isRight (l := l) (G := G) N e5
    refine tc_callVi (As := []) (rest := []) (r1 := r5) (μ1 := μ6) tc_d7_bound_60 tc_ok7_isRight tc_w1174 ⟨Nat.le_of_ble_eq_true rfl, Nat.le_of_ble_eq_true rfl⟩ tc_s7 rfl c5 rfl rfl (Nat.le_of_ble_eq_true rfl) ?_
    refine tc_if_eq (tgt := 83) tc_d7_bound_63 (by decide) h (fun h => ?_) (fun h => ?_)
    · refine tc_iinc (v := (x4 + 1)) (L' := [(4, .int (x4 + 1)), (0, .ref (tc_ad G 50)), (1, .int x1), (2, .int x2), (3, .int x3)]) tc_d7_bound_83 4 rfl rfl (by decide) rfl ?_
      refine tc_goto (tgt := 24) tc_d7_bound_86 (by decide) ?_
      refine tc_sub [1, 2, 3, 4, 0] rfl ?_
      exact (H24 _ _ _ _ _ _) h
    · refine tc_goto (tgt := 76) tc_d7_bound_66 (by decide) ?_
      refine tc_sub [0, 1, 2, 4] rfl ?_
      exact (tc_b7_bound_76 N H24 _ _ _ _ _) h
def tc_f7_bound_24 (N : Nat) : Nat → Int32 → Int32 → Int32 → Int32 → tc_Mem → Option (Int32 × tc_Mem)
  | 0 => fun _ _ _ _ _ => none
  | n + 1 => fun x1 x2 x3 x4 μ => 
    if (10 : Int32) ≤ x4 then
      tc_f7_bound_89 N x2 x3 μ
    else
      if (0 : Int32) ≤ x3 then
        tc_f7_bound_89 N x2 x3 μ
      else
        if x1 = 0 then
          tc_f7_bound_54 N (tc_f7_bound_24 N n) x1 x2 x3 x4 2 (9 - x4) μ
        else
          tc_f7_bound_54 N (tc_f7_bound_24 N n) x1 x2 x3 x4 2 x4 μ
theorem tc_b7_bound_24 (N : Nat) : ∀ (n : Nat) (x1 : Int32) (x2 : Int32) (x3 : Int32) (x4 : Int32) (μ : tc_Mem) (z : Int32 × tc_Mem), tc_f7_bound_24 N n x1 x2 x3 x4 μ = some z → tc_At l G tc_i7_bound (some (.int z.1)) z.2 X 24 [(0, .ref (tc_ad G 50)), (1, .int x1), (2, .int x2), (3, .int x3), (4, .int x4)] [] μ := by
  intro n
  induction n with
  | zero => intro x1 x2 x3 x4 μ z h; cases h
  | succ n ih =>
    intro x1 x2 x3 x4 μ z h
    rw [tc_f7_bound_24] at h
    refine tc_iload tc_d7_bound_24 4 rfl ?_
    refine tc_bipush (v := 10) tc_d7_bound_26 (by decide) ?_
    refine tc_icmp_ge (tgt := 89) tc_d7_bound_28 (by decide) h (fun h => ?_) (fun h => ?_)
    · refine tc_sub [0, 2, 3] rfl ?_
      exact (tc_b7_bound_89 N _ _ _ _) h
    · refine tc_iload_n tc_d7_bound_31 3 rfl ?_
      refine tc_if_ge (tgt := 89) tc_d7_bound_32 (by decide) h (fun h => ?_) (fun h => ?_)
      · refine tc_sub [0, 2, 3] rfl ?_
        exact (tc_b7_bound_89 N _ _ _ _) h
      · refine tc_aload_n tc_d7_bound_35 0 rfl ?_
        refine tc_g7_8 tc_d7_bound_36 tc_w886 ?_
        refine tc_iconst (v := 2) tc_d7_bound_39 (by decide) ?_
        refine tc_iload_n tc_d7_bound_40 1 rfl ?_
        refine tc_if_ne (tgt := 52) tc_d7_bound_41 (by decide) h (fun h => ?_) (fun h => ?_)
        · refine tc_iload tc_d7_bound_52 4 rfl ?_
          exact (tc_b7_bound_54 N ih _ _ _ _ _ _ _ _) h
        · refine tc_bipush (v := 9) tc_d7_bound_44 (by decide) ?_
          refine tc_iload tc_d7_bound_46 4 rfl ?_
          refine tc_isub tc_d7_bound_48 ?_
          refine tc_goto (tgt := 54) tc_d7_bound_49 (by decide) ?_
          exact (tc_b7_bound_54 N ih _ _ _ _ _ _ _ _) h
def tc_f7_bound (N : Nat) (x1 : Int32) (μ : tc_Mem) : Option (Int32 × tc_Mem) :=
  tc_bd (tc_f7_in N x1 0 1 μ) fun r1 μ2 =>
  if r1 = 0 then
    some ((-2), μ2)
  else
    tc_ck 2 3 (
    tc_lt (μ2 58 (2 : Int32).toNatClampNeg) fun v4 =>
    tc_f7_bound_24 N N x1 v4 (-1) 0 μ2)
theorem tc_b7_bound_0 (N : Nat) (x1 : Int32) (μ : tc_Mem) (z : Int32 × tc_Mem) (h : tc_f7_bound N x1 μ = some z) : tc_At l G tc_i7_bound (some (.int z.1)) z.2 X 0 [(0, .ref (tc_ad G 50)), (1, .int x1)] [] μ := by
  unfold tc_f7_bound at h
  refine tc_iload_n tc_d7_bound_0 1 rfl ?_
  refine tc_iconst (v := 0) tc_d7_bound_1 (by decide) ?_
  refine tc_iconst (v := 1) tc_d7_bound_2 (by decide) ?_
  obtain ⟨r1, μ2, e1, h⟩ := tc_bdS h
  have c1 := tc_c7_in (l := l) (G := G) N e1
  refine tc_callSi (As := [.int x1, .int 0, .int 1]) (rest := []) (r1 := r1) (μ1 := μ2) tc_d7_bound_3 tc_ok7_in tc_w1001 ⟨Nat.le_of_ble_eq_true rfl, Nat.le_of_ble_eq_true rfl⟩ c1 rfl rfl (Nat.le_of_ble_eq_true rfl) ?_
  refine tc_if_ne (tgt := 12) tc_d7_bound_6 (by decide) h (fun h => ?_) (fun h => ?_)
  · refine tc_aload_n tc_d7_bound_12 0 rfl ?_
    refine tc_g7_8 tc_d7_bound_13 tc_w886 ?_
    refine tc_iconst (v := 2) tc_d7_bound_16 (by decide) ?_
    obtain ⟨hi3, h⟩ := tc_ckS h
    refine tc_iald tc_d7_bound_17 tc_aL58 hi3 ?_
    refine tc_ltI h (fun v4 h => ?_)
    refine tc_istore_n (L' := [(2, .int v4), (0, .ref (tc_ad G 50)), (1, .int x1)]) tc_d7_bound_18 (by decide) rfl ?_
    refine tc_iconst (v := (-1)) tc_d7_bound_19 (by decide) ?_
    refine tc_istore_n (L' := [(3, .int (-1)), (2, .int v4), (0, .ref (tc_ad G 50)), (1, .int x1)]) tc_d7_bound_20 (by decide) rfl ?_
    refine tc_iconst (v := 0) tc_d7_bound_21 (by decide) ?_
    refine tc_istore (L' := [(4, .int 0), (3, .int (-1)), (2, .int v4), (0, .ref (tc_ad G 50)), (1, .int x1)]) tc_d7_bound_22 (by decide) rfl ?_
    refine tc_sub [3, 4, 2, 1, 0] rfl ?_
    exact (tc_b7_bound_24 N N _ _ _ _ _ _) h
  · refine tc_bipush (v := (-2)) tc_d7_bound_9 (by decide) ?_
    exact tc_iret tc_d7_bound_11 rfl (tc_riS h)
theorem tc_c7_bound (N : Nat) {x1 : Int32} {μ : tc_Mem} {z : Int32 × tc_Mem} (h : tc_f7_bound N x1 μ = some z) : tc_Con l G tc_i7_bound [.ref (tc_ad G 50), .int x1] μ (some (.int z.1)) z.2 :=
  tc_Con.of (L := [(0, .ref (tc_ad G 50)), (1, .int x1)]) (by decide) (Nat.le_of_ble_eq_true rfl) rfl (fun X => tc_b7_bound_0 N  _ _ _ h)
def tc_f7_drawnBy_70 (N : Nat) (s0 : Int32) (μ : tc_Mem) : Option (Int32 × tc_Mem) :=
  tc_bd (tc_f7_laysBack N μ) fun _ μ2 =>
  some (s0, μ2)
theorem tc_b7_drawnBy_70 (N : Nat) (s0 : Int32) (μ : tc_Mem) (z : Int32 × tc_Mem) (h : tc_f7_drawnBy_70 N s0 μ = some z) : tc_At l G tc_i7_drawnBy (some (.int z.1)) z.2 X 70 [(0, .ref (tc_ad G 50))] [.int s0] μ := by
  unfold tc_f7_drawnBy_70 at h
  refine tc_istore (L' := [(4, .int s0), (0, .ref (tc_ad G 50))]) tc_d7_drawnBy_70 (by decide) rfl ?_
  refine tc_aload_n tc_d7_drawnBy_72 1 rfl ?_
  obtain ⟨r1, μ2, e1, h⟩ := tc_bdS h
  have c1 := tc_c7_laysBack (l := l) (G := G) N e1
  refine tc_callVv (As := []) (rest := []) (μ1 := μ2) tc_d7_drawnBy_73 tc_ok7_laysBack tc_w1150 ⟨Nat.le_of_ble_eq_true rfl, Nat.le_of_ble_eq_true rfl⟩ tc_s7 rfl c1 rfl rfl (Nat.le_of_ble_eq_true rfl) ?_
  refine tc_iload tc_d7_drawnBy_76 0 rfl ?_
  exact tc_iret tc_d7_drawnBy_78 rfl (tc_riS h)
def tc_f7_drawnBy_49 (N : Nat) (μ : tc_Mem) : Option (Int32 × tc_Mem) :=
  tc_bd (tc_f7_goes N 0 μ) fun r1 μ2 =>
  if (0 : Int32) ≤ r1 then
    tc_bd (tc_f7_bitsOf N 1 μ2) fun r3 μ4 =>
    tc_bd (tc_f8_bitCount N r3 μ4) fun r5 μ6 =>
    tc_f7_drawnBy_70 N r5 μ6
  else
    tc_f7_drawnBy_70 N 9 μ2
theorem tc_b7_drawnBy_49 (N : Nat) (μ : tc_Mem) (z : Int32 × tc_Mem) (h : tc_f7_drawnBy_49 N μ = some z) : tc_At l G tc_i7_drawnBy (some (.int z.1)) z.2 X 49 [(0, .ref (tc_ad G 50))] [] μ := by
  unfold tc_f7_drawnBy_49 at h
  refine tc_aload_n tc_d7_drawnBy_49 0 rfl ?_
  refine tc_iconst (v := 0) tc_d7_drawnBy_50 (by decide) ?_
  obtain ⟨r1, μ2, e1, h⟩ := tc_bdS h
  have c1 := tc_c7_goes (l := l) (G := G) N e1
  refine tc_callVi (As := [.int 0]) (rest := []) (r1 := r1) (μ1 := μ2) tc_d7_drawnBy_51 tc_ok7_goes tc_w1097 ⟨Nat.le_of_ble_eq_true rfl, Nat.le_of_ble_eq_true rfl⟩ tc_s7 rfl c1 rfl rfl (Nat.le_of_ble_eq_true rfl) ?_
  refine tc_if_ge (tgt := 62) tc_d7_drawnBy_54 (by decide) h (fun h => ?_) (fun h => ?_)
  · refine tc_aload_n tc_d7_drawnBy_62 0 rfl ?_
    refine tc_iconst (v := 1) tc_d7_drawnBy_63 (by decide) ?_
    obtain ⟨r3, μ4, e3, h⟩ := tc_bdS h
    have c3 := tc_c7_bitsOf (l := l) (G := G) N e3
    refine tc_callVi (As := [.int 1]) (rest := []) (r1 := r3) (μ1 := μ4) tc_d7_drawnBy_64 tc_ok7_bitsOf tc_w1061 ⟨Nat.le_of_ble_eq_true rfl, Nat.le_of_ble_eq_true rfl⟩ tc_s7 rfl c3 rfl rfl (Nat.le_of_ble_eq_true rfl) ?_
    obtain ⟨r5, μ6, e5, h⟩ := tc_bdS h
    have c5 := tc_c8_bitCount (l := l) (G := G) N e5
    refine tc_callSi (As := [.int r3]) (rest := []) (r1 := r5) (μ1 := μ6) tc_d7_drawnBy_67 tc_ok8_bitCount tc_w1149 ⟨Nat.le_of_ble_eq_true rfl, Nat.le_of_ble_eq_true rfl⟩ c5 rfl rfl (Nat.le_of_ble_eq_true rfl) ?_
    exact (tc_b7_drawnBy_70 N _ _ _) h
  · refine tc_bipush (v := 9) tc_d7_drawnBy_57 (by decide) ?_
    refine tc_goto (tgt := 70) tc_d7_drawnBy_59 (by decide) ?_
    exact (tc_b7_drawnBy_70 N _ _ _) h
def tc_f7_drawnBy_9 (N : Nat) : Nat → Int32 → Int32 → Int32 → tc_Mem → Option (Int32 × tc_Mem)
  | 0 => fun _ _ _ _ => none
  | n + 1 => fun x2 x3 x4 μ => 
    if x2 ≤ x4 then
      tc_f7_drawnBy_49 N μ
    else
      tc_lt ((x3 * 1103515245) + 12345) fun v1 =>
      tc_nz (μ 50 0) (
      tc_bd (tc_f7_addFault N (((v1 : Int32).toUInt32 >>> ((9 : Int32).toUInt32 &&& Int32.toUInt32 31)).toInt32 - ((v1 : Int32).toUInt32 >>> ((9 : Int32).toUInt32 &&& Int32.toUInt32 31)).toInt32 / 4 * 4) (((v1 : Int32).toUInt32 >>> ((16 : Int32).toUInt32 &&& Int32.toUInt32 31)).toInt32 - ((v1 : Int32).toUInt32 >>> ((16 : Int32).toUInt32 &&& Int32.toUInt32 31)).toInt32 / (μ 50 0) * (μ 50 0)) μ) fun _ μ4 =>
      tc_f7_drawnBy_9 N  n x2 v1 (x4 + 1) μ4)
theorem tc_b7_drawnBy_9 (N : Nat) : ∀ (n : Nat) (x2 : Int32) (x3 : Int32) (x4 : Int32) (μ : tc_Mem) (z : Int32 × tc_Mem), tc_f7_drawnBy_9 N n x2 x3 x4 μ = some z → tc_At l G tc_i7_drawnBy (some (.int z.1)) z.2 X 9 [(0, .ref (tc_ad G 50)), (2, .int x2), (3, .int x3), (4, .int x4)] [] μ := by
  intro n
  induction n with
  | zero => intro x2 x3 x4 μ z h; cases h
  | succ n ih =>
    intro x2 x3 x4 μ z h
    rw [tc_f7_drawnBy_9] at h
    refine tc_iload tc_d7_drawnBy_9 3 rfl ?_
    refine tc_iload_n tc_d7_drawnBy_11 1 rfl ?_
    refine tc_icmp_ge (tgt := 49) tc_d7_drawnBy_12 (by decide) h (fun h => ?_) (fun h => ?_)
    · refine tc_sub [0] rfl ?_
      exact (tc_b7_drawnBy_49 N _ _) h
    · refine tc_iload_n tc_d7_drawnBy_15 2 rfl ?_
      refine tc_ldc (v := 1103515245) tc_d7_drawnBy_16 tc_w1214 ?_
      refine tc_imul tc_d7_drawnBy_18 ?_
      refine tc_sipush (v := 12345) tc_d7_drawnBy_19 (by decide) ?_
      refine tc_iadd tc_d7_drawnBy_22 ?_
      refine tc_ltI h (fun v1 h => ?_)
      refine tc_istore_n (L' := [(3, .int v1), (0, .ref (tc_ad G 50)), (2, .int x2), (4, .int x4)]) tc_d7_drawnBy_23 (by decide) rfl ?_
      refine tc_aload_n tc_d7_drawnBy_24 1 rfl ?_
      refine tc_iload_n tc_d7_drawnBy_25 0 rfl ?_
      refine tc_bipush (v := 9) tc_d7_drawnBy_26 (by decide) ?_
      refine tc_iushr tc_d7_drawnBy_28 ?_
      refine tc_iconst (v := 4) tc_d7_drawnBy_29 (by decide) ?_
      refine tc_irem tc_d7_drawnBy_30 (by decide) ?_
      refine tc_iload_n tc_d7_drawnBy_31 0 rfl ?_
      refine tc_bipush (v := 16) tc_d7_drawnBy_32 (by decide) ?_
      refine tc_iushr tc_d7_drawnBy_34 ?_
      refine tc_aload_n tc_d7_drawnBy_35 1 rfl ?_
      refine tc_g7_0 tc_d7_drawnBy_36 tc_w878 ?_
      obtain ⟨hn2, h⟩ := tc_nzS h
      refine tc_irem tc_d7_drawnBy_39 hn2 ?_
      obtain ⟨r3, μ4, e3, h⟩ := tc_bdS h
      have c3 := tc_c7_addFault (l := l) (G := G) N e3
      refine tc_callVv (As := [.int (((v1 : Int32).toUInt32 >>> ((9 : Int32).toUInt32 &&& Int32.toUInt32 31)).toInt32 - ((v1 : Int32).toUInt32 >>> ((9 : Int32).toUInt32 &&& Int32.toUInt32 31)).toInt32 / 4 * 4), .int (((v1 : Int32).toUInt32 >>> ((16 : Int32).toUInt32 &&& Int32.toUInt32 31)).toInt32 - ((v1 : Int32).toUInt32 >>> ((16 : Int32).toUInt32 &&& Int32.toUInt32 31)).toInt32 / (μ 50 0) * (μ 50 0))]) (rest := []) (μ1 := μ4) tc_d7_drawnBy_40 tc_ok7_addFault tc_w1077 ⟨Nat.le_of_ble_eq_true rfl, Nat.le_of_ble_eq_true rfl⟩ tc_s7 rfl c3 rfl rfl (Nat.le_of_ble_eq_true rfl) ?_
      refine tc_iinc (v := (x4 + 1)) (L' := [(4, .int (x4 + 1)), (3, .int v1), (0, .ref (tc_ad G 50)), (2, .int x2)]) tc_d7_drawnBy_43 3 rfl rfl (by decide) rfl ?_
      refine tc_goto (tgt := 9) tc_d7_drawnBy_46 (by decide) ?_
      refine tc_sub [2, 3, 1, 0] rfl ?_
      exact (ih _ _ _ _ _) h
def tc_f7_drawnBy (N : Nat) (x1 : Int32) (x2 : Int32) (μ : tc_Mem) : Option (Int32 × tc_Mem) :=
  tc_bd (tc_f7_keepsNow N μ) fun _ μ2 =>
  tc_f7_drawnBy_9 N N x2 x1 0 μ2
theorem tc_b7_drawnBy_0 (N : Nat) (x1 : Int32) (x2 : Int32) (μ : tc_Mem) (z : Int32 × tc_Mem) (h : tc_f7_drawnBy N x1 x2 μ = some z) : tc_At l G tc_i7_drawnBy (some (.int z.1)) z.2 X 0 [(0, .ref (tc_ad G 50)), (1, .int x1), (2, .int x2)] [] μ := by
  unfold tc_f7_drawnBy at h
  refine tc_aload_n tc_d7_drawnBy_0 0 rfl ?_
  obtain ⟨r1, μ2, e1, h⟩ := tc_bdS h
  have c1 := tc_c7_keepsNow (l := l) (G := G) N e1
  refine tc_callVv (As := []) (rest := []) (μ1 := μ2) tc_d7_drawnBy_1 tc_ok7_keepsNow tc_w1145 ⟨Nat.le_of_ble_eq_true rfl, Nat.le_of_ble_eq_true rfl⟩ tc_s7 rfl c1 rfl rfl (Nat.le_of_ble_eq_true rfl) ?_
  refine tc_iload_n tc_d7_drawnBy_4 1 rfl ?_
  refine tc_istore_n (L' := [(3, .int x1), (0, .ref (tc_ad G 50)), (1, .int x1), (2, .int x2)]) tc_d7_drawnBy_5 (by decide) rfl ?_
  refine tc_iconst (v := 0) tc_d7_drawnBy_6 (by decide) ?_
  refine tc_istore (L' := [(4, .int 0), (3, .int x1), (0, .ref (tc_ad G 50)), (1, .int x1), (2, .int x2)]) tc_d7_drawnBy_7 (by decide) rfl ?_
  refine tc_sub [2, 4, 1, 0] rfl ?_
  exact (tc_b7_drawnBy_9 N N _ _ _ _ _) h
theorem tc_c7_drawnBy (N : Nat) {x1 : Int32} {x2 : Int32} {μ : tc_Mem} {z : Int32 × tc_Mem} (h : tc_f7_drawnBy N x1 x2 μ = some z) : tc_Con l G tc_i7_drawnBy [.ref (tc_ad G 50), .int x1, .int x2] μ (some (.int z.1)) z.2 :=
  tc_Con.of (L := [(0, .ref (tc_ad G 50)), (1, .int x1), (2, .int x2)]) (by decide) (Nat.le_of_ble_eq_true rfl) rfl (fun X => tc_b7_drawnBy_0 N  _ _ _ _ h)
def tc_f7_chance_84 (N : Nat) (k57 : Int32 → Int32 → Int32 → Int32 → Int32 → Int32 → Int32 → tc_Mem → Option (Int32 × tc_Mem)) (x1 : Int32) (x2 : Int32) (x3 : Int32) (x4 : Int32) (x5 : Int32) (x7 : Int32) (s0 : Int32) (s1 : Int32) (μ : tc_Mem) : Option (Int32 × tc_Mem) :=
  tc_lt (s0 + s1) fun v1 =>
  k57 x1 x2 x3 x4 x5 v1 (x7 + 1) μ
theorem tc_b7_chance_84 (N : Nat) {k57 : Int32 → Int32 → Int32 → Int32 → Int32 → Int32 → Int32 → tc_Mem → Option (Int32 × tc_Mem)} (H57 : ∀ (x1 : Int32) (x2 : Int32) (x3 : Int32) (x4 : Int32) (x5 : Int32) (x6 : Int32) (x7 : Int32) (μ : tc_Mem) (z : Int32 × tc_Mem), k57 x1 x2 x3 x4 x5 x6 x7 μ = some z → tc_At l G tc_i7_chance (some (.int z.1)) z.2 X 57 [(0, .ref (tc_ad G 50)), (1, .int x1), (2, .int x2), (3, .int x3), (4, .int x4), (5, .int x5), (6, .int x6), (7, .int x7)] [] μ) (x1 : Int32) (x2 : Int32) (x3 : Int32) (x4 : Int32) (x5 : Int32) (x7 : Int32) (s0 : Int32) (s1 : Int32) (μ : tc_Mem) (z : Int32 × tc_Mem) (h : tc_f7_chance_84 N k57 x1 x2 x3 x4 x5 x7 s0 s1 μ = some z) : tc_At l G tc_i7_chance (some (.int z.1)) z.2 X 84 [(0, .ref (tc_ad G 50)), (1, .int x1), (2, .int x2), (3, .int x3), (4, .int x4), (5, .int x5), (7, .int x7)] [.int s1, .int s0] μ := by
  unfold tc_f7_chance_84 at h
  refine tc_iadd tc_d7_chance_84 ?_
  refine tc_ltI h (fun v1 h => ?_)
  refine tc_istore (L' := [(6, .int v1), (0, .ref (tc_ad G 50)), (1, .int x1), (2, .int x2), (3, .int x3), (4, .int x4), (5, .int x5), (7, .int x7)]) tc_d7_chance_85 (by decide) rfl ?_
  refine tc_iinc (v := (x7 + 1)) (L' := [(7, .int (x7 + 1)), (6, .int v1), (0, .ref (tc_ad G 50)), (1, .int x1), (2, .int x2), (3, .int x3), (4, .int x4), (5, .int x5)]) tc_d7_chance_87 7 rfl rfl (by decide) rfl ?_
  refine tc_goto (tgt := 57) tc_d7_chance_90 (by decide) ?_
  refine tc_sub [2, 3, 4, 5, 6, 7, 1, 0] rfl ?_
  exact (H57 _ _ _ _ _ _ _ _ _) h
def tc_f7_chance_123 (N : Nat) (x2 : Int32) (x5 : Int32) (x6 : Int32) (x7 : Int32) (μ : tc_Mem) : Option (Int32 × tc_Mem) :=
  if x5 = 0 then
    tc_nz x7 (
    some ((x6 / x7), μ))
  else
    tc_nz x7 (
    some ((x2 / x7), μ))
theorem tc_b7_chance_123 (N : Nat) (x2 : Int32) (x5 : Int32) (x6 : Int32) (x7 : Int32) (μ : tc_Mem) (z : Int32 × tc_Mem) (h : tc_f7_chance_123 N x2 x5 x6 x7 μ = some z) : tc_At l G tc_i7_chance (some (.int z.1)) z.2 X 123 [(2, .int x2), (5, .int x5), (6, .int x6), (7, .int x7)] [] μ := by
  unfold tc_f7_chance_123 at h
  refine tc_iload tc_d7_chance_123 1 rfl ?_
  refine tc_if_ne (tgt := 136) tc_d7_chance_125 (by decide) h (fun h => ?_) (fun h => ?_)
  · refine tc_iload_n tc_d7_chance_136 0 rfl ?_
    refine tc_iload tc_d7_chance_137 3 rfl ?_
    obtain ⟨hn1, h⟩ := tc_nzS h
    refine tc_idiv tc_d7_chance_139 hn1 ?_
    exact tc_iret tc_d7_chance_140 rfl (tc_riS h)
  · refine tc_iload tc_d7_chance_128 2 rfl ?_
    refine tc_iload tc_d7_chance_130 3 rfl ?_
    obtain ⟨hn2, h⟩ := tc_nzS h
    refine tc_idiv tc_d7_chance_132 hn2 ?_
    refine tc_goto (tgt := 140) tc_d7_chance_133 (by decide) ?_
    exact tc_iret tc_d7_chance_140 rfl (tc_riS h)
def tc_f7_chance_100 (N : Nat) : Nat → Int32 → Int32 → Int32 → Int32 → Int32 → tc_Mem → Option (Int32 × tc_Mem)
  | 0 => fun _ _ _ _ _ _ => none
  | n + 1 => fun x2 x5 x6 x7 x8 μ => 
    if x8 = 0 then
      tc_f7_chance_123 N x2 x5 x6 x7 μ
    else
      tc_nz x8 (
      tc_lt (x7 - x7 / x8 * x8) fun v2 =>
      tc_f7_chance_100 N  n x2 x5 x6 x8 v2 μ)
theorem tc_b7_chance_100 (N : Nat) : ∀ (n : Nat) (x2 : Int32) (x5 : Int32) (x6 : Int32) (x7 : Int32) (x8 : Int32) (μ : tc_Mem) (z : Int32 × tc_Mem), tc_f7_chance_100 N n x2 x5 x6 x7 x8 μ = some z → tc_At l G tc_i7_chance (some (.int z.1)) z.2 X 100 [(2, .int x2), (5, .int x5), (6, .int x6), (7, .int x7), (8, .int x8)] [] μ := by
  intro n
  induction n with
  | zero => intro x2 x5 x6 x7 x8 μ z h; cases h
  | succ n ih =>
    intro x2 x5 x6 x7 x8 μ z h
    rw [tc_f7_chance_100] at h
    refine tc_iload tc_d7_chance_100 4 rfl ?_
    refine tc_if_eq (tgt := 123) tc_d7_chance_102 (by decide) h (fun h => ?_) (fun h => ?_)
    · refine tc_sub [0, 1, 2, 3] rfl ?_
      exact (tc_b7_chance_123 N _ _ _ _ _ _) h
    · refine tc_iload tc_d7_chance_105 3 rfl ?_
      refine tc_iload tc_d7_chance_107 4 rfl ?_
      obtain ⟨hn1, h⟩ := tc_nzS h
      refine tc_irem tc_d7_chance_109 hn1 ?_
      refine tc_ltI h (fun v2 h => ?_)
      refine tc_istore (L' := [(9, .int v2), (2, .int x2), (5, .int x5), (6, .int x6), (7, .int x7), (8, .int x8)]) tc_d7_chance_110 (by decide) rfl ?_
      refine tc_iload tc_d7_chance_112 5 rfl ?_
      refine tc_istore (L' := [(7, .int x8), (9, .int v2), (2, .int x2), (5, .int x5), (6, .int x6), (8, .int x8)]) tc_d7_chance_114 (by decide) rfl ?_
      refine tc_iload tc_d7_chance_116 1 rfl ?_
      refine tc_istore (L' := [(8, .int v2), (7, .int x8), (9, .int v2), (2, .int x2), (5, .int x5), (6, .int x6)]) tc_d7_chance_118 (by decide) rfl ?_
      refine tc_goto (tgt := 100) tc_d7_chance_120 (by decide) ?_
      refine tc_sub [3, 4, 5, 1, 0] rfl ?_
      exact (ih _ _ _ _ _ _ _) h
def tc_f7_chance_93 (N : Nat) (x2 : Int32) (x5 : Int32) (x6 : Int32) (μ : tc_Mem) : Option (Int32 × tc_Mem) :=
  tc_f7_chance_100 N N x2 x5 x6 x6 x2 μ
theorem tc_b7_chance_93 (N : Nat) (x2 : Int32) (x5 : Int32) (x6 : Int32) (μ : tc_Mem) (z : Int32 × tc_Mem) (h : tc_f7_chance_93 N x2 x5 x6 μ = some z) : tc_At l G tc_i7_chance (some (.int z.1)) z.2 X 93 [(2, .int x2), (5, .int x5), (6, .int x6)] [] μ := by
  unfold tc_f7_chance_93 at h
  refine tc_iload tc_d7_chance_93 2 rfl ?_
  refine tc_istore (L' := [(7, .int x6), (2, .int x2), (5, .int x5), (6, .int x6)]) tc_d7_chance_95 (by decide) rfl ?_
  refine tc_iload_n tc_d7_chance_97 1 rfl ?_
  refine tc_istore (L' := [(8, .int x2), (7, .int x6), (2, .int x2), (5, .int x5), (6, .int x6)]) tc_d7_chance_98 (by decide) rfl ?_
  refine tc_sub [2, 3, 4, 1, 0] rfl ?_
  exact (tc_b7_chance_100 N N _ _ _ _ _ _ _) h
def tc_f7_chance_57 (N : Nat) : Nat → Int32 → Int32 → Int32 → Int32 → Int32 → Int32 → Int32 → tc_Mem → Option (Int32 × tc_Mem)
  | 0 => fun _ _ _ _ _ _ _ _ => none
  | n + 1 => fun x1 x2 x3 x4 x5 x6 x7 μ => 
    if x2 ≤ x7 then
      tc_f7_chance_93 N x2 x5 x6 μ
    else
      tc_bd (tc_f7_drawnBy N (x1 + x7) x3 μ) fun r1 μ2 =>
      if r1 < x4 then
        tc_f7_chance_84 N (tc_f7_chance_57 N n) x1 x2 x3 x4 x5 x7 x6 0 μ2
      else
        tc_f7_chance_84 N (tc_f7_chance_57 N n) x1 x2 x3 x4 x5 x7 x6 1 μ2
theorem tc_b7_chance_57 (N : Nat) : ∀ (n : Nat) (x1 : Int32) (x2 : Int32) (x3 : Int32) (x4 : Int32) (x5 : Int32) (x6 : Int32) (x7 : Int32) (μ : tc_Mem) (z : Int32 × tc_Mem), tc_f7_chance_57 N n x1 x2 x3 x4 x5 x6 x7 μ = some z → tc_At l G tc_i7_chance (some (.int z.1)) z.2 X 57 [(0, .ref (tc_ad G 50)), (1, .int x1), (2, .int x2), (3, .int x3), (4, .int x4), (5, .int x5), (6, .int x6), (7, .int x7)] [] μ := by
  intro n
  induction n with
  | zero => intro x1 x2 x3 x4 x5 x6 x7 μ z h; cases h
  | succ n ih =>
    intro x1 x2 x3 x4 x5 x6 x7 μ z h
    rw [tc_f7_chance_57] at h
    refine tc_iload tc_d7_chance_57 7 rfl ?_
    refine tc_iload_n tc_d7_chance_59 2 rfl ?_
    refine tc_icmp_ge (tgt := 93) tc_d7_chance_60 (by decide) h (fun h => ?_) (fun h => ?_)
    · refine tc_sub [2, 5, 6] rfl ?_
      exact (tc_b7_chance_93 N _ _ _ _ _) h
    · refine tc_iload tc_d7_chance_63 6 rfl ?_
      refine tc_aload_n tc_d7_chance_65 0 rfl ?_
      refine tc_iload_n tc_d7_chance_66 1 rfl ?_
      refine tc_iload tc_d7_chance_67 7 rfl ?_
      refine tc_iadd tc_d7_chance_69 ?_
      refine tc_iload_n tc_d7_chance_70 3 rfl ?_
      obtain ⟨r1, μ2, e1, h⟩ := tc_bdS h
      have c1 := tc_c7_drawnBy (l := l) (G := G) N e1
      refine tc_callVi (As := [.int (x1 + x7), .int x3]) (rest := [.int x6]) (r1 := r1) (μ1 := μ2) tc_d7_chance_71 tc_ok7_drawnBy tc_w1210 ⟨Nat.le_of_ble_eq_true rfl, Nat.le_of_ble_eq_true rfl⟩ tc_s7 rfl c1 rfl rfl (Nat.le_of_ble_eq_true rfl) ?_
      refine tc_iload tc_d7_chance_74 4 rfl ?_
      refine tc_icmp_lt (tgt := 83) tc_d7_chance_76 (by decide) h (fun h => ?_) (fun h => ?_)
      · refine tc_iconst (v := 0) tc_d7_chance_83 (by decide) ?_
        refine tc_sub [0, 1, 2, 3, 4, 5, 7] rfl ?_
        exact (tc_b7_chance_84 N ih _ _ _ _ _ _ _ _ _ _) h
      · refine tc_iconst (v := 1) tc_d7_chance_79 (by decide) ?_
        refine tc_goto (tgt := 84) tc_d7_chance_80 (by decide) ?_
        refine tc_sub [0, 1, 2, 3, 4, 5, 7] rfl ?_
        exact (tc_b7_chance_84 N ih _ _ _ _ _ _ _ _ _ _) h
def tc_f7_chance (N : Nat) (x1 : Int32) (x2 : Int32) (x3 : Int32) (x4 : Int32) (x5 : Int32) (μ : tc_Mem) : Option (Int32 × tc_Mem) :=
  tc_bd (tc_f7_in N x2 1 20 μ) fun r1 μ2 =>
  if r1 = 0 then
    some ((-2), μ2)
  else
    tc_bd (tc_f7_in N x3 0 9 μ2) fun r3 μ4 =>
    if r3 = 0 then
      some ((-2), μ4)
    else
      tc_bd (tc_f7_in N x4 0 8 μ4) fun r5 μ6 =>
      if r5 = 0 then
        some ((-2), μ6)
      else
        tc_bd (tc_f7_in N x5 0 1 μ6) fun r7 μ8 =>
        if r7 = 0 then
          some ((-2), μ8)
        else
          if (μ8 50 0) = 0 then
            some ((-2), μ8)
          else
            tc_f7_chance_57 N N x1 x2 x3 x4 x5 0 0 μ8
theorem tc_b7_chance_0 (N : Nat) (x1 : Int32) (x2 : Int32) (x3 : Int32) (x4 : Int32) (x5 : Int32) (μ : tc_Mem) (z : Int32 × tc_Mem) (h : tc_f7_chance N x1 x2 x3 x4 x5 μ = some z) : tc_At l G tc_i7_chance (some (.int z.1)) z.2 X 0 [(0, .ref (tc_ad G 50)), (1, .int x1), (2, .int x2), (3, .int x3), (4, .int x4), (5, .int x5)] [] μ := by
  unfold tc_f7_chance at h
  refine tc_iload_n tc_d7_chance_0 2 rfl ?_
  refine tc_iconst (v := 1) tc_d7_chance_1 (by decide) ?_
  refine tc_bipush (v := 20) tc_d7_chance_2 (by decide) ?_
  obtain ⟨r1, μ2, e1, h⟩ := tc_bdS h
  have c1 := tc_c7_in (l := l) (G := G) N e1
  refine tc_callSi (As := [.int x2, .int 1, .int 20]) (rest := []) (r1 := r1) (μ1 := μ2) tc_d7_chance_4 tc_ok7_in tc_w1001 ⟨Nat.le_of_ble_eq_true rfl, Nat.le_of_ble_eq_true rfl⟩ c1 rfl rfl (Nat.le_of_ble_eq_true rfl) ?_
  refine tc_if_eq (tgt := 48) tc_d7_chance_7 (by decide) h (fun h => ?_) (fun h => ?_)
  · refine tc_bipush (v := (-2)) tc_d7_chance_48 (by decide) ?_
    exact tc_iret tc_d7_chance_50 rfl (tc_riS h)
  · refine tc_iload_n tc_d7_chance_10 3 rfl ?_
    refine tc_iconst (v := 0) tc_d7_chance_11 (by decide) ?_
    refine tc_bipush (v := 9) tc_d7_chance_12 (by decide) ?_
    obtain ⟨r3, μ4, e3, h⟩ := tc_bdS h
    have c3 := tc_c7_in (l := l) (G := G) N e3
    refine tc_callSi (As := [.int x3, .int 0, .int 9]) (rest := []) (r1 := r3) (μ1 := μ4) tc_d7_chance_14 tc_ok7_in tc_w1001 ⟨Nat.le_of_ble_eq_true rfl, Nat.le_of_ble_eq_true rfl⟩ c3 rfl rfl (Nat.le_of_ble_eq_true rfl) ?_
    refine tc_if_eq (tgt := 48) tc_d7_chance_17 (by decide) h (fun h => ?_) (fun h => ?_)
    · refine tc_bipush (v := (-2)) tc_d7_chance_48 (by decide) ?_
      exact tc_iret tc_d7_chance_50 rfl (tc_riS h)
    · refine tc_iload tc_d7_chance_20 4 rfl ?_
      refine tc_iconst (v := 0) tc_d7_chance_22 (by decide) ?_
      refine tc_bipush (v := 8) tc_d7_chance_23 (by decide) ?_
      obtain ⟨r5, μ6, e5, h⟩ := tc_bdS h
      have c5 := tc_c7_in (l := l) (G := G) N e5
      refine tc_callSi (As := [.int x4, .int 0, .int 8]) (rest := []) (r1 := r5) (μ1 := μ6) tc_d7_chance_25 tc_ok7_in tc_w1001 ⟨Nat.le_of_ble_eq_true rfl, Nat.le_of_ble_eq_true rfl⟩ c5 rfl rfl (Nat.le_of_ble_eq_true rfl) ?_
      refine tc_if_eq (tgt := 48) tc_d7_chance_28 (by decide) h (fun h => ?_) (fun h => ?_)
      · refine tc_bipush (v := (-2)) tc_d7_chance_48 (by decide) ?_
        exact tc_iret tc_d7_chance_50 rfl (tc_riS h)
      · refine tc_iload tc_d7_chance_31 5 rfl ?_
        refine tc_iconst (v := 0) tc_d7_chance_33 (by decide) ?_
        refine tc_iconst (v := 1) tc_d7_chance_34 (by decide) ?_
        obtain ⟨r7, μ8, e7, h⟩ := tc_bdS h
        have c7 := tc_c7_in (l := l) (G := G) N e7
        refine tc_callSi (As := [.int x5, .int 0, .int 1]) (rest := []) (r1 := r7) (μ1 := μ8) tc_d7_chance_35 tc_ok7_in tc_w1001 ⟨Nat.le_of_ble_eq_true rfl, Nat.le_of_ble_eq_true rfl⟩ c7 rfl rfl (Nat.le_of_ble_eq_true rfl) ?_
        refine tc_if_eq (tgt := 48) tc_d7_chance_38 (by decide) h (fun h => ?_) (fun h => ?_)
        · refine tc_bipush (v := (-2)) tc_d7_chance_48 (by decide) ?_
          exact tc_iret tc_d7_chance_50 rfl (tc_riS h)
        · refine tc_aload_n tc_d7_chance_41 0 rfl ?_
          refine tc_g7_0 tc_d7_chance_42 tc_w878 ?_
          refine tc_if_ne (tgt := 51) tc_d7_chance_45 (by decide) h (fun h => ?_) (fun h => ?_)
          · refine tc_iconst (v := 0) tc_d7_chance_51 (by decide) ?_
            refine tc_istore (L' := [(6, .int 0), (0, .ref (tc_ad G 50)), (1, .int x1), (2, .int x2), (3, .int x3), (4, .int x4), (5, .int x5)]) tc_d7_chance_52 (by decide) rfl ?_
            refine tc_iconst (v := 0) tc_d7_chance_54 (by decide) ?_
            refine tc_istore (L' := [(7, .int 0), (6, .int 0), (0, .ref (tc_ad G 50)), (1, .int x1), (2, .int x2), (3, .int x3), (4, .int x4), (5, .int x5)]) tc_d7_chance_55 (by decide) rfl ?_
            refine tc_sub [2, 3, 4, 5, 6, 7, 1, 0] rfl ?_
            exact (tc_b7_chance_57 N N _ _ _ _ _ _ _ _ _) h
          · refine tc_bipush (v := (-2)) tc_d7_chance_48 (by decide) ?_
            exact tc_iret tc_d7_chance_50 rfl (tc_riS h)
theorem tc_c7_chance (N : Nat) {x1 : Int32} {x2 : Int32} {x3 : Int32} {x4 : Int32} {x5 : Int32} {μ : tc_Mem} {z : Int32 × tc_Mem} (h : tc_f7_chance N x1 x2 x3 x4 x5 μ = some z) : tc_Con l G tc_i7_chance [.ref (tc_ad G 50), .int x1, .int x2, .int x3, .int x4, .int x5] μ (some (.int z.1)) z.2 :=
  tc_Con.of (L := [(0, .ref (tc_ad G 50)), (1, .int x1), (2, .int x2), (3, .int x3), (4, .int x4), (5, .int x5)]) (by decide) (Nat.le_of_ble_eq_true rfl) rfl (fun X => tc_b7_chance_0 N  _ _ _ _ _ _ _ h)
def tc_f7_clears_70 (N : Nat) (k22 : Int32 → Int32 → Int32 → Int32 → tc_Mem → Option (Int32 × tc_Mem)) (x1 : Int32) (x3 : Int32) (x4 : Int32) (s0 : Int32) (μ : tc_Mem) : Option (Int32 × tc_Mem) :=
  k22 x1 s0 x3 (x4 + 1) μ
theorem tc_b7_clears_70 (N : Nat) {k22 : Int32 → Int32 → Int32 → Int32 → tc_Mem → Option (Int32 × tc_Mem)} (H22 : ∀ (x1 : Int32) (x2 : Int32) (x3 : Int32) (x4 : Int32) (μ : tc_Mem) (z : Int32 × tc_Mem), k22 x1 x2 x3 x4 μ = some z → tc_At l G tc_i7_clears (some (.int z.1)) z.2 X 22 [(0, .ref (tc_ad G 50)), (1, .int x1), (2, .int x2), (3, .int x3), (4, .int x4)] [] μ) (x1 : Int32) (x3 : Int32) (x4 : Int32) (s0 : Int32) (μ : tc_Mem) (z : Int32 × tc_Mem) (h : tc_f7_clears_70 N k22 x1 x3 x4 s0 μ = some z) : tc_At l G tc_i7_clears (some (.int z.1)) z.2 X 70 [(0, .ref (tc_ad G 50)), (1, .int x1), (3, .int x3), (4, .int x4)] [.int s0] μ := by
  unfold tc_f7_clears_70 at h
  refine tc_istore_n (L' := [(2, .int s0), (0, .ref (tc_ad G 50)), (1, .int x1), (3, .int x3), (4, .int x4)]) tc_d7_clears_70 (by decide) rfl ?_
  refine tc_iinc (v := (x4 + 1)) (L' := [(4, .int (x4 + 1)), (2, .int s0), (0, .ref (tc_ad G 50)), (1, .int x1), (3, .int x3)]) tc_d7_clears_71 4 rfl rfl (by decide) rfl ?_
  refine tc_goto (tgt := 22) tc_d7_clears_74 (by decide) ?_
  refine tc_sub [2, 3, 1, 4, 0] rfl ?_
  exact (H22 _ _ _ _ _ _) h
def tc_f7_clears_69 (N : Nat) (k22 : Int32 → Int32 → Int32 → Int32 → tc_Mem → Option (Int32 × tc_Mem)) (x1 : Int32) (x3 : Int32) (x4 : Int32) (μ : tc_Mem) : Option (Int32 × tc_Mem) :=
  tc_f7_clears_70 N k22 x1 x3 x4 (-1) μ
theorem tc_b7_clears_69 (N : Nat) {k22 : Int32 → Int32 → Int32 → Int32 → tc_Mem → Option (Int32 × tc_Mem)} (H22 : ∀ (x1 : Int32) (x2 : Int32) (x3 : Int32) (x4 : Int32) (μ : tc_Mem) (z : Int32 × tc_Mem), k22 x1 x2 x3 x4 μ = some z → tc_At l G tc_i7_clears (some (.int z.1)) z.2 X 22 [(0, .ref (tc_ad G 50)), (1, .int x1), (2, .int x2), (3, .int x3), (4, .int x4)] [] μ) (x1 : Int32) (x3 : Int32) (x4 : Int32) (μ : tc_Mem) (z : Int32 × tc_Mem) (h : tc_f7_clears_69 N k22 x1 x3 x4 μ = some z) : tc_At l G tc_i7_clears (some (.int z.1)) z.2 X 69 [(0, .ref (tc_ad G 50)), (1, .int x1), (3, .int x3), (4, .int x4)] [] μ := by
  unfold tc_f7_clears_69 at h
  refine tc_iconst (v := (-1)) tc_d7_clears_69 (by decide) ?_
  exact (tc_b7_clears_70 N H22 _ _ _ _ _ _) h
def tc_f7_clears_50 (N : Nat) (k22 : Int32 → Int32 → Int32 → Int32 → tc_Mem → Option (Int32 × tc_Mem)) (x1 : Int32) (x4 : Int32) (s0 : Int32) (μ : tc_Mem) : Option (Int32 × tc_Mem) :=
  if s0 = 0 then
    tc_f7_clears_69 N k22 x1 s0 x4 μ
  else
    tc_ck x1 8 (
    if (μ 56 x1.toNatClampNeg) = 0 then
      tc_f7_clears_69 N k22 x1 s0 x4 μ
    else
      tc_f7_clears_70 N k22 x1 s0 x4 x4 μ)
theorem tc_b7_clears_50 (N : Nat) {k22 : Int32 → Int32 → Int32 → Int32 → tc_Mem → Option (Int32 × tc_Mem)} (H22 : ∀ (x1 : Int32) (x2 : Int32) (x3 : Int32) (x4 : Int32) (μ : tc_Mem) (z : Int32 × tc_Mem), k22 x1 x2 x3 x4 μ = some z → tc_At l G tc_i7_clears (some (.int z.1)) z.2 X 22 [(0, .ref (tc_ad G 50)), (1, .int x1), (2, .int x2), (3, .int x3), (4, .int x4)] [] μ) (x1 : Int32) (x4 : Int32) (s0 : Int32) (μ : tc_Mem) (z : Int32 × tc_Mem) (h : tc_f7_clears_50 N k22 x1 x4 s0 μ = some z) : tc_At l G tc_i7_clears (some (.int z.1)) z.2 X 50 [(0, .ref (tc_ad G 50)), (1, .int x1), (4, .int x4)] [.int s0] μ := by
  unfold tc_f7_clears_50 at h
  refine tc_istore_n (L' := [(3, .int s0), (0, .ref (tc_ad G 50)), (1, .int x1), (4, .int x4)]) tc_d7_clears_50 (by decide) rfl ?_
  refine tc_iload_n tc_d7_clears_51 0 rfl ?_
  refine tc_if_eq (tgt := 69) tc_d7_clears_52 (by decide) h (fun h => ?_) (fun h => ?_)
  · refine tc_sub [1, 2, 0, 3] rfl ?_
    exact (tc_b7_clears_69 N H22 _ _ _ _ _) h
  · refine tc_aload_n tc_d7_clears_55 1 rfl ?_
    refine tc_g7_6 tc_d7_clears_56 tc_w884 ?_
    refine tc_iload_n tc_d7_clears_59 2 rfl ?_
    obtain ⟨hi1, h⟩ := tc_ckS h
    refine tc_zald tc_d7_clears_60 tc_aL56 hi1 ?_
    refine tc_if_eq (tgt := 69) tc_d7_clears_61 (by decide) h (fun h => ?_) (fun h => ?_)
    · refine tc_sub [1, 2, 0, 3] rfl ?_
      exact (tc_b7_clears_69 N H22 _ _ _ _ _) h
    · refine tc_iload tc_d7_clears_64 3 rfl ?_
      refine tc_goto (tgt := 70) tc_d7_clears_66 (by decide) ?_
      refine tc_sub [1, 2, 0, 3] rfl ?_
      exact (tc_b7_clears_70 N H22 _ _ _ _ _ _) h
def tc_f7_clears_77 (N : Nat) (x2 : Int32) (μ : tc_Mem) : Option (Int32 × tc_Mem) :=
  tc_bd (tc_f7_laysBack N μ) fun _ μ2 =>
  some (x2, μ2)
theorem tc_b7_clears_77 (N : Nat) (x2 : Int32) (μ : tc_Mem) (z : Int32 × tc_Mem) (h : tc_f7_clears_77 N x2 μ = some z) : tc_At l G tc_i7_clears (some (.int z.1)) z.2 X 77 [(0, .ref (tc_ad G 50)), (2, .int x2)] [] μ := by
  unfold tc_f7_clears_77 at h
  refine tc_aload_n tc_d7_clears_77 0 rfl ?_
  obtain ⟨r1, μ2, e1, h⟩ := tc_bdS h
  have c1 := tc_c7_laysBack (l := l) (G := G) N e1
  refine tc_callVv (As := []) (rest := []) (μ1 := μ2) tc_d7_clears_78 tc_ok7_laysBack tc_w1150 ⟨Nat.le_of_ble_eq_true rfl, Nat.le_of_ble_eq_true rfl⟩ tc_s7 rfl c1 rfl rfl (Nat.le_of_ble_eq_true rfl) ?_
  refine tc_iload_n tc_d7_clears_81 1 rfl ?_
  exact tc_iret tc_d7_clears_82 rfl (tc_riS h)
def tc_f7_clears_22 (N : Nat) : Nat → Int32 → Int32 → Int32 → Int32 → tc_Mem → Option (Int32 × tc_Mem)
  | 0 => fun _ _ _ _ _ => none
  | n + 1 => fun x1 x2 x3 x4 μ => 
    if (20 : Int32) < x4 then
      tc_f7_clears_77 N x2 μ
    else
      if x3 = 0 then
        tc_f7_clears_77 N x2 μ
      else
        if (0 : Int32) ≤ x2 then
          tc_f7_clears_77 N x2 μ
        else
          tc_bd (tc_f7_goes N 0 μ) fun r1 μ2 =>
          if r1 < 0 then
            tc_f7_clears_50 N (tc_f7_clears_22 N n) x1 x4 0 μ2
          else
            tc_f7_clears_50 N (tc_f7_clears_22 N n) x1 x4 1 μ2
theorem tc_b7_clears_22 (N : Nat) : ∀ (n : Nat) (x1 : Int32) (x2 : Int32) (x3 : Int32) (x4 : Int32) (μ : tc_Mem) (z : Int32 × tc_Mem), tc_f7_clears_22 N n x1 x2 x3 x4 μ = some z → tc_At l G tc_i7_clears (some (.int z.1)) z.2 X 22 [(0, .ref (tc_ad G 50)), (1, .int x1), (2, .int x2), (3, .int x3), (4, .int x4)] [] μ := by
  intro n
  induction n with
  | zero => intro x1 x2 x3 x4 μ z h; cases h
  | succ n ih =>
    intro x1 x2 x3 x4 μ z h
    rw [tc_f7_clears_22] at h
    refine tc_iload tc_d7_clears_22 4 rfl ?_
    refine tc_bipush (v := 20) tc_d7_clears_24 (by decide) ?_
    refine tc_icmp_gt (tgt := 77) tc_d7_clears_26 (by decide) h (fun h => ?_) (fun h => ?_)
    · refine tc_sub [0, 2] rfl ?_
      exact (tc_b7_clears_77 N _ _ _) h
    · refine tc_iload_n tc_d7_clears_29 3 rfl ?_
      refine tc_if_eq (tgt := 77) tc_d7_clears_30 (by decide) h (fun h => ?_) (fun h => ?_)
      · refine tc_sub [0, 2] rfl ?_
        exact (tc_b7_clears_77 N _ _ _) h
      · refine tc_iload_n tc_d7_clears_33 2 rfl ?_
        refine tc_if_ge (tgt := 77) tc_d7_clears_34 (by decide) h (fun h => ?_) (fun h => ?_)
        · refine tc_sub [0, 2] rfl ?_
          exact (tc_b7_clears_77 N _ _ _) h
        · refine tc_aload_n tc_d7_clears_37 0 rfl ?_
          refine tc_iconst (v := 0) tc_d7_clears_38 (by decide) ?_
          obtain ⟨r1, μ2, e1, h⟩ := tc_bdS h
          have c1 := tc_c7_goes (l := l) (G := G) N e1
          refine tc_callVi (As := [.int 0]) (rest := []) (r1 := r1) (μ1 := μ2) tc_d7_clears_39 tc_ok7_goes tc_w1097 ⟨Nat.le_of_ble_eq_true rfl, Nat.le_of_ble_eq_true rfl⟩ tc_s7 rfl c1 rfl rfl (Nat.le_of_ble_eq_true rfl) ?_
          refine tc_if_lt (tgt := 49) tc_d7_clears_42 (by decide) h (fun h => ?_) (fun h => ?_)
          · refine tc_iconst (v := 0) tc_d7_clears_49 (by decide) ?_
            refine tc_sub [0, 1, 4] rfl ?_
            exact (tc_b7_clears_50 N ih _ _ _ _ _) h
          · refine tc_iconst (v := 1) tc_d7_clears_45 (by decide) ?_
            refine tc_goto (tgt := 50) tc_d7_clears_46 (by decide) ?_
            refine tc_sub [0, 1, 4] rfl ?_
            exact (tc_b7_clears_50 N ih _ _ _ _ _) h
def tc_f7_clears (N : Nat) (x1 : Int32) (μ : tc_Mem) : Option (Int32 × tc_Mem) :=
  tc_bd (tc_f7_isSection N x1 μ) fun r1 μ2 =>
  if r1 = 0 then
    some ((-2), μ2)
  else
    tc_bd (tc_f7_keepsNow N μ2) fun _ μ4 =>
    tc_f7_clears_22 N N x1 (-1) 1 1 μ4
theorem tc_b7_clears_0 (N : Nat) (x1 : Int32) (μ : tc_Mem) (z : Int32 × tc_Mem) (h : tc_f7_clears N x1 μ = some z) : tc_At l G tc_i7_clears (some (.int z.1)) z.2 X 0 [(0, .ref (tc_ad G 50)), (1, .int x1)] [] μ := by
  unfold tc_f7_clears at h
  refine tc_aload_n tc_d7_clears_0 0 rfl ?_
  refine tc_iload_n tc_d7_clears_1 1 rfl ?_
  obtain ⟨r1, μ2, e1, h⟩ := tc_bdS h
  have c1 := tc_c7_isSection (l := l) (G := G) N e1
  refine tc_callVi (As := [.int x1]) (rest := []) (r1 := r1) (μ1 := μ2) tc_d7_clears_2 tc_ok7_isSection tc_w1016 ⟨Nat.le_of_ble_eq_true rfl, Nat.le_of_ble_eq_true rfl⟩ tc_s7 rfl c1 rfl rfl (Nat.le_of_ble_eq_true rfl) ?_
  refine tc_if_ne (tgt := 11) tc_d7_clears_5 (by decide) h (fun h => ?_) (fun h => ?_)
  · refine tc_aload_n tc_d7_clears_11 0 rfl ?_
    obtain ⟨r3, μ4, e3, h⟩ := tc_bdS h
    have c3 := tc_c7_keepsNow (l := l) (G := G) N e3
    refine tc_callVv (As := []) (rest := []) (μ1 := μ4) tc_d7_clears_12 tc_ok7_keepsNow tc_w1145 ⟨Nat.le_of_ble_eq_true rfl, Nat.le_of_ble_eq_true rfl⟩ tc_s7 rfl c3 rfl rfl (Nat.le_of_ble_eq_true rfl) ?_
    refine tc_iconst (v := (-1)) tc_d7_clears_15 (by decide) ?_
    refine tc_istore_n (L' := [(2, .int (-1)), (0, .ref (tc_ad G 50)), (1, .int x1)]) tc_d7_clears_16 (by decide) rfl ?_
    refine tc_iconst (v := 1) tc_d7_clears_17 (by decide) ?_
    refine tc_istore_n (L' := [(3, .int 1), (2, .int (-1)), (0, .ref (tc_ad G 50)), (1, .int x1)]) tc_d7_clears_18 (by decide) rfl ?_
    refine tc_iconst (v := 1) tc_d7_clears_19 (by decide) ?_
    refine tc_istore (L' := [(4, .int 1), (3, .int 1), (2, .int (-1)), (0, .ref (tc_ad G 50)), (1, .int x1)]) tc_d7_clears_20 (by decide) rfl ?_
    refine tc_sub [3, 4, 2, 1, 0] rfl ?_
    exact (tc_b7_clears_22 N N _ _ _ _ _ _) h
  · refine tc_bipush (v := (-2)) tc_d7_clears_8 (by decide) ?_
    exact tc_iret tc_d7_clears_10 rfl (tc_riS h)
theorem tc_c7_clears (N : Nat) {x1 : Int32} {μ : tc_Mem} {z : Int32 × tc_Mem} (h : tc_f7_clears N x1 μ = some z) : tc_Con l G tc_i7_clears [.ref (tc_ad G 50), .int x1] μ (some (.int z.1)) z.2 :=
  tc_Con.of (L := [(0, .ref (tc_ad G 50)), (1, .int x1)]) (by decide) (Nat.le_of_ble_eq_true rfl) rfl (fun X => tc_b7_clears_0 N  _ _ _ h)
def tc_f7_isSheet (N : Nat) (x0 : Int32) (μ : tc_Mem) : Option (Int32 × tc_Mem) :=
  tc_bd (tc_f7_in N x0 0 3 μ) fun r1 μ2 =>
  tc_zr r1 μ2
theorem tc_b7_isSheet_0 (N : Nat) (x0 : Int32) (μ : tc_Mem) (z : Int32 × tc_Mem) (h : tc_f7_isSheet N x0 μ = some z) : tc_At l G tc_i7_isSheet (some (.int z.1)) z.2 X 0 [(0, .int x0)] [] μ := by
  unfold tc_f7_isSheet at h
  refine tc_iload_n tc_d7_isSheet_0 0 rfl ?_
  refine tc_iconst (v := 0) tc_d7_isSheet_1 (by decide) ?_
  refine tc_iconst (v := 3) tc_d7_isSheet_2 (by decide) ?_
  obtain ⟨r1, μ2, e1, h⟩ := tc_bdS h
  have c1 := tc_c7_in (l := l) (G := G) N e1
  refine tc_callSi (As := [.int x0, .int 0, .int 3]) (rest := []) (r1 := r1) (μ1 := μ2) tc_d7_isSheet_3 tc_ok7_in tc_w1001 ⟨Nat.le_of_ble_eq_true rfl, Nat.le_of_ble_eq_true rfl⟩ c1 rfl rfl (Nat.le_of_ble_eq_true rfl) ?_
  exact tc_zret tc_d7_isSheet_6 rfl (tc_zrS h).1 (tc_zrS h).2
theorem tc_c7_isSheet (N : Nat) {x0 : Int32} {μ : tc_Mem} {z : Int32 × tc_Mem} (h : tc_f7_isSheet N x0 μ = some z) : tc_Con l G tc_i7_isSheet [.int x0] μ (some (.int z.1)) z.2 :=
  tc_Con.of (L := [(0, .int x0)]) (by decide) (Nat.le_of_ble_eq_true rfl) rfl (fun X => tc_b7_isSheet_0 N  _ _ _ h)
def tc_f7_copy_148 (N : Nat) : Nat → Int32 → Int32 → Int32 → Int32 → tc_Mem → Option (Int32 × tc_Mem)
  | 0 => fun _ _ _ _ _ => none
  | n + 1 => fun x3 x4 x5 x6 μ => 
    if x5 ≤ x6 then
      some (x5, μ)
    else
      tc_ck x6 40 (
      tc_ck (((40 * x3) + x4) + x6) 160 (
      tc_lt (tc_wr μ 66 (((40 * x3) + x4) + x6).toNatClampNeg (μ 67 x6.toNatClampNeg)) fun μ3 =>
      tc_f7_copy_148 N  n x3 x4 x5 (x6 + 1) μ3))
theorem tc_b7_copy_148 (N : Nat) : ∀ (n : Nat) (x3 : Int32) (x4 : Int32) (x5 : Int32) (x6 : Int32) (μ : tc_Mem) (z : Int32 × tc_Mem), tc_f7_copy_148 N n x3 x4 x5 x6 μ = some z → tc_At l G tc_i7_copy (some (.int z.1)) z.2 X 148 [(0, .ref (tc_ad G 50)), (3, .int x3), (4, .int x4), (5, .int x5), (6, .int x6)] [] μ := by
  intro n
  induction n with
  | zero => intro x3 x4 x5 x6 μ z h; cases h
  | succ n ih =>
    intro x3 x4 x5 x6 μ z h
    rw [tc_f7_copy_148] at h
    refine tc_iload tc_d7_copy_148 4 rfl ?_
    refine tc_iload tc_d7_copy_150 3 rfl ?_
    refine tc_icmp_ge (tgt := 183) tc_d7_copy_152 (by decide) h (fun h => ?_) (fun h => ?_)
    · refine tc_iload tc_d7_copy_183 3 rfl ?_
      exact tc_iret tc_d7_copy_185 rfl (tc_riS h)
    · refine tc_aload_n tc_d7_copy_155 0 rfl ?_
      refine tc_g7_20 tc_d7_copy_156 tc_w898 ?_
      refine tc_bipush (v := 40) tc_d7_copy_159 (by decide) ?_
      refine tc_iload_n tc_d7_copy_161 1 rfl ?_
      refine tc_imul tc_d7_copy_162 ?_
      refine tc_iload tc_d7_copy_163 2 rfl ?_
      refine tc_iadd tc_d7_copy_165 ?_
      refine tc_iload tc_d7_copy_166 4 rfl ?_
      refine tc_iadd tc_d7_copy_168 ?_
      refine tc_aload_n tc_d7_copy_169 0 rfl ?_
      refine tc_g7_21 tc_d7_copy_170 tc_w899 ?_
      refine tc_iload tc_d7_copy_173 4 rfl ?_
      obtain ⟨hi1, h⟩ := tc_ckS h
      refine tc_iald tc_d7_copy_175 tc_aL67 hi1 ?_
      obtain ⟨hi2, h⟩ := tc_ckS h
      refine tc_iastL tc_d7_copy_176 tc_aL66 hi2 h (fun μ3 h => ?_)
      refine tc_iinc (v := (x6 + 1)) (L' := [(6, .int (x6 + 1)), (0, .ref (tc_ad G 50)), (3, .int x3), (4, .int x4), (5, .int x5)]) tc_d7_copy_177 4 rfl rfl (by decide) rfl ?_
      refine tc_goto (tgt := 148) tc_d7_copy_180 (by decide) ?_
      refine tc_sub [1, 2, 3, 4, 0] rfl ?_
      exact (ih _ _ _ _ _ _) h
def tc_f7_copy_145 (N : Nat) (x3 : Int32) (x4 : Int32) (x5 : Int32) (μ : tc_Mem) : Option (Int32 × tc_Mem) :=
  tc_f7_copy_148 N N x3 x4 x5 0 μ
theorem tc_b7_copy_145 (N : Nat) (x3 : Int32) (x4 : Int32) (x5 : Int32) (μ : tc_Mem) (z : Int32 × tc_Mem) (h : tc_f7_copy_145 N x3 x4 x5 μ = some z) : tc_At l G tc_i7_copy (some (.int z.1)) z.2 X 145 [(0, .ref (tc_ad G 50)), (3, .int x3), (4, .int x4), (5, .int x5)] [] μ := by
  unfold tc_f7_copy_145 at h
  refine tc_iconst (v := 0) tc_d7_copy_145 (by decide) ?_
  refine tc_istore (L' := [(6, .int 0), (0, .ref (tc_ad G 50)), (3, .int x3), (4, .int x4), (5, .int x5)]) tc_d7_copy_146 (by decide) rfl ?_
  refine tc_sub [1, 2, 3, 4, 0] rfl ?_
  exact (tc_b7_copy_148 N N _ _ _ _ _ _) h
def tc_f7_copy_111 (N : Nat) : Nat → Int32 → Int32 → Int32 → Int32 → Int32 → Int32 → tc_Mem → Option (Int32 × tc_Mem)
  | 0 => fun _ _ _ _ _ _ _ => none
  | n + 1 => fun x1 x2 x3 x4 x5 x6 μ => 
    if x5 ≤ x6 then
      tc_f7_copy_145 N x3 x4 x5 μ
    else
      tc_ck (((40 * x1) + x2) + x6) 160 (
      tc_ck x6 40 (
      tc_lt (tc_wr μ 67 x6.toNatClampNeg (μ 66 (((40 * x1) + x2) + x6).toNatClampNeg)) fun μ3 =>
      tc_f7_copy_111 N  n x1 x2 x3 x4 x5 (x6 + 1) μ3))
theorem tc_b7_copy_111 (N : Nat) : ∀ (n : Nat) (x1 : Int32) (x2 : Int32) (x3 : Int32) (x4 : Int32) (x5 : Int32) (x6 : Int32) (μ : tc_Mem) (z : Int32 × tc_Mem), tc_f7_copy_111 N n x1 x2 x3 x4 x5 x6 μ = some z → tc_At l G tc_i7_copy (some (.int z.1)) z.2 X 111 [(0, .ref (tc_ad G 50)), (1, .int x1), (2, .int x2), (3, .int x3), (4, .int x4), (5, .int x5), (6, .int x6)] [] μ := by
  intro n
  induction n with
  | zero => intro x1 x2 x3 x4 x5 x6 μ z h; cases h
  | succ n ih =>
    intro x1 x2 x3 x4 x5 x6 μ z h
    rw [tc_f7_copy_111] at h
    refine tc_iload tc_d7_copy_111 6 rfl ?_
    refine tc_iload tc_d7_copy_113 5 rfl ?_
    refine tc_icmp_ge (tgt := 145) tc_d7_copy_115 (by decide) h (fun h => ?_) (fun h => ?_)
    · refine tc_sub [0, 3, 4, 5] rfl ?_
      exact (tc_b7_copy_145 N _ _ _ _ _) h
    · refine tc_aload_n tc_d7_copy_118 0 rfl ?_
      refine tc_g7_21 tc_d7_copy_119 tc_w899 ?_
      refine tc_iload tc_d7_copy_122 6 rfl ?_
      refine tc_aload_n tc_d7_copy_124 0 rfl ?_
      refine tc_g7_20 tc_d7_copy_125 tc_w898 ?_
      refine tc_bipush (v := 40) tc_d7_copy_128 (by decide) ?_
      refine tc_iload_n tc_d7_copy_130 1 rfl ?_
      refine tc_imul tc_d7_copy_131 ?_
      refine tc_iload_n tc_d7_copy_132 2 rfl ?_
      refine tc_iadd tc_d7_copy_133 ?_
      refine tc_iload tc_d7_copy_134 6 rfl ?_
      refine tc_iadd tc_d7_copy_136 ?_
      obtain ⟨hi1, h⟩ := tc_ckS h
      refine tc_iald tc_d7_copy_137 tc_aL66 hi1 ?_
      obtain ⟨hi2, h⟩ := tc_ckS h
      refine tc_iastL tc_d7_copy_138 tc_aL67 hi2 h (fun μ3 h => ?_)
      refine tc_iinc (v := (x6 + 1)) (L' := [(6, .int (x6 + 1)), (0, .ref (tc_ad G 50)), (1, .int x1), (2, .int x2), (3, .int x3), (4, .int x4), (5, .int x5)]) tc_d7_copy_139 6 rfl rfl (by decide) rfl ?_
      refine tc_goto (tgt := 111) tc_d7_copy_142 (by decide) ?_
      refine tc_sub [1, 2, 3, 4, 5, 6, 0] rfl ?_
      exact (ih _ _ _ _ _ _ _ _) h
def tc_f7_copy (N : Nat) (x1 : Int32) (x2 : Int32) (x3 : Int32) (x4 : Int32) (x5 : Int32) (μ : tc_Mem) : Option (Int32 × tc_Mem) :=
  tc_bd (tc_f7_isSheet N x1 μ) fun r1 μ2 =>
  if r1 = 0 then
    some ((-2), μ2)
  else
    tc_bd (tc_f7_isSheet N x3 μ2) fun r3 μ4 =>
    if r3 = 0 then
      some ((-2), μ4)
    else
      tc_ck x1 4 (
      if (μ4 64 x1.toNatClampNeg) < 0 then
        some ((-11), μ4)
      else
        tc_ck x3 4 (
        if (0 : Int32) ≤ (μ4 64 x3.toNatClampNeg) then
          tc_ck x1 4 (
          tc_ck x3 4 (
          if (μ4 64 x1.toNatClampNeg) = (μ4 64 x3.toNatClampNeg) then
            if x5 < 0 then
              some ((-12), μ4)
            else
              if x2 < 0 then
                some ((-12), μ4)
              else
                if x4 < 0 then
                  some ((-12), μ4)
                else
                  tc_ck x1 4 (
                  if (0 : Int32) < (lg_cmp (x2.toInt64 + x5.toInt64) ((μ4 65 x1.toNatClampNeg).toInt64)) then
                    some ((-12), μ4)
                  else
                    tc_ck x3 4 (
                    if (lg_cmp (x4.toInt64 + x5.toInt64) ((μ4 65 x3.toNatClampNeg).toInt64)) ≤ 0 then
                      tc_f7_copy_111 N N x1 x2 x3 x4 x5 0 μ4
                    else
                      some ((-12), μ4)))
          else
            some ((-13), μ4)))
        else
          some ((-11), μ4)))
theorem tc_b7_copy_0 (N : Nat) (x1 : Int32) (x2 : Int32) (x3 : Int32) (x4 : Int32) (x5 : Int32) (μ : tc_Mem) (z : Int32 × tc_Mem) (h : tc_f7_copy N x1 x2 x3 x4 x5 μ = some z) : tc_At l G tc_i7_copy (some (.int z.1)) z.2 X 0 [(0, .ref (tc_ad G 50)), (1, .int x1), (2, .int x2), (3, .int x3), (4, .int x4), (5, .int x5)] [] μ := by
  unfold tc_f7_copy at h
  refine tc_iload_n tc_d7_copy_0 1 rfl ?_
  obtain ⟨r1, μ2, e1, h⟩ := tc_bdS h
  have c1 := tc_c7_isSheet (l := l) (G := G) N e1
  refine tc_callSi (As := [.int x1]) (rest := []) (r1 := r1) (μ1 := μ2) tc_d7_copy_1 tc_ok7_isSheet tc_w1223 ⟨Nat.le_of_ble_eq_true rfl, Nat.le_of_ble_eq_true rfl⟩ c1 rfl rfl (Nat.le_of_ble_eq_true rfl) ?_
  refine tc_if_eq (tgt := 14) tc_d7_copy_4 (by decide) h (fun h => ?_) (fun h => ?_)
  · refine tc_bipush (v := (-2)) tc_d7_copy_14 (by decide) ?_
    exact tc_iret tc_d7_copy_16 rfl (tc_riS h)
  · refine tc_iload_n tc_d7_copy_7 3 rfl ?_
    obtain ⟨r3, μ4, e3, h⟩ := tc_bdS h
    have c3 := tc_c7_isSheet (l := l) (G := G) N e3
    refine tc_callSi (As := [.int x3]) (rest := []) (r1 := r3) (μ1 := μ4) tc_d7_copy_8 tc_ok7_isSheet tc_w1223 ⟨Nat.le_of_ble_eq_true rfl, Nat.le_of_ble_eq_true rfl⟩ c3 rfl rfl (Nat.le_of_ble_eq_true rfl) ?_
    refine tc_if_ne (tgt := 17) tc_d7_copy_11 (by decide) h (fun h => ?_) (fun h => ?_)
    · refine tc_aload_n tc_d7_copy_17 0 rfl ?_
      refine tc_g7_18 tc_d7_copy_18 tc_w896 ?_
      refine tc_iload_n tc_d7_copy_21 1 rfl ?_
      obtain ⟨hi5, h⟩ := tc_ckS h
      refine tc_iald tc_d7_copy_22 tc_aL64 hi5 ?_
      refine tc_if_lt (tgt := 35) tc_d7_copy_23 (by decide) h (fun h => ?_) (fun h => ?_)
      · refine tc_bipush (v := (-11)) tc_d7_copy_35 (by decide) ?_
        exact tc_iret tc_d7_copy_37 rfl (tc_riS h)
      · refine tc_aload_n tc_d7_copy_26 0 rfl ?_
        refine tc_g7_18 tc_d7_copy_27 tc_w896 ?_
        refine tc_iload_n tc_d7_copy_30 3 rfl ?_
        obtain ⟨hi6, h⟩ := tc_ckS h
        refine tc_iald tc_d7_copy_31 tc_aL64 hi6 ?_
        refine tc_if_ge (tgt := 38) tc_d7_copy_32 (by decide) h (fun h => ?_) (fun h => ?_)
        · refine tc_aload_n tc_d7_copy_38 0 rfl ?_
          refine tc_g7_18 tc_d7_copy_39 tc_w896 ?_
          refine tc_iload_n tc_d7_copy_42 1 rfl ?_
          obtain ⟨hi7, h⟩ := tc_ckS h
          refine tc_iald tc_d7_copy_43 tc_aL64 hi7 ?_
          refine tc_aload_n tc_d7_copy_44 0 rfl ?_
          refine tc_g7_18 tc_d7_copy_45 tc_w896 ?_
          refine tc_iload_n tc_d7_copy_48 3 rfl ?_
          obtain ⟨hi8, h⟩ := tc_ckS h
          refine tc_iald tc_d7_copy_49 tc_aL64 hi8 ?_
          refine tc_icmp_eq (tgt := 56) tc_d7_copy_50 (by decide) h (fun h => ?_) (fun h => ?_)
          · refine tc_iload tc_d7_copy_56 5 rfl ?_
            refine tc_if_lt (tgt := 105) tc_d7_copy_58 (by decide) h (fun h => ?_) (fun h => ?_)
            · refine tc_bipush (v := (-12)) tc_d7_copy_105 (by decide) ?_
              exact tc_iret tc_d7_copy_107 rfl (tc_riS h)
            · refine tc_iload_n tc_d7_copy_61 2 rfl ?_
              refine tc_if_lt (tgt := 105) tc_d7_copy_62 (by decide) h (fun h => ?_) (fun h => ?_)
              · refine tc_bipush (v := (-12)) tc_d7_copy_105 (by decide) ?_
                exact tc_iret tc_d7_copy_107 rfl (tc_riS h)
              · refine tc_iload tc_d7_copy_65 4 rfl ?_
                refine tc_if_lt (tgt := 105) tc_d7_copy_67 (by decide) h (fun h => ?_) (fun h => ?_)
                · refine tc_bipush (v := (-12)) tc_d7_copy_105 (by decide) ?_
                  exact tc_iret tc_d7_copy_107 rfl (tc_riS h)
                · refine tc_iload_n tc_d7_copy_70 2 rfl ?_
                  refine tc_i2l tc_d7_copy_71 ?_
                  refine tc_iload tc_d7_copy_72 5 rfl ?_
                  refine tc_i2l tc_d7_copy_74 ?_
                  refine tc_ladd tc_d7_copy_75 ?_
                  refine tc_aload_n tc_d7_copy_76 0 rfl ?_
                  refine tc_g7_19 tc_d7_copy_77 tc_w897 ?_
                  refine tc_iload_n tc_d7_copy_80 1 rfl ?_
                  obtain ⟨hi9, h⟩ := tc_ckS h
                  refine tc_iald tc_d7_copy_81 tc_aL65 hi9 ?_
                  refine tc_i2l tc_d7_copy_82 ?_
                  refine tc_lcmp tc_d7_copy_83 ?_
                  refine tc_if_gt (tgt := 105) tc_d7_copy_84 (by decide) h (fun h => ?_) (fun h => ?_)
                  · refine tc_bipush (v := (-12)) tc_d7_copy_105 (by decide) ?_
                    exact tc_iret tc_d7_copy_107 rfl (tc_riS h)
                  · refine tc_iload tc_d7_copy_87 4 rfl ?_
                    refine tc_i2l tc_d7_copy_89 ?_
                    refine tc_iload tc_d7_copy_90 5 rfl ?_
                    refine tc_i2l tc_d7_copy_92 ?_
                    refine tc_ladd tc_d7_copy_93 ?_
                    refine tc_aload_n tc_d7_copy_94 0 rfl ?_
                    refine tc_g7_19 tc_d7_copy_95 tc_w897 ?_
                    refine tc_iload_n tc_d7_copy_98 3 rfl ?_
                    obtain ⟨hi10, h⟩ := tc_ckS h
                    refine tc_iald tc_d7_copy_99 tc_aL65 hi10 ?_
                    refine tc_i2l tc_d7_copy_100 ?_
                    refine tc_lcmp tc_d7_copy_101 ?_
                    refine tc_if_le (tgt := 108) tc_d7_copy_102 (by decide) h (fun h => ?_) (fun h => ?_)
                    · refine tc_iconst (v := 0) tc_d7_copy_108 (by decide) ?_
                      refine tc_istore (L' := [(6, .int 0), (0, .ref (tc_ad G 50)), (1, .int x1), (2, .int x2), (3, .int x3), (4, .int x4), (5, .int x5)]) tc_d7_copy_109 (by decide) rfl ?_
                      refine tc_sub [1, 2, 3, 4, 5, 6, 0] rfl ?_
                      exact (tc_b7_copy_111 N N _ _ _ _ _ _ _ _) h
                    · refine tc_bipush (v := (-12)) tc_d7_copy_105 (by decide) ?_
                      exact tc_iret tc_d7_copy_107 rfl (tc_riS h)
          · refine tc_bipush (v := (-13)) tc_d7_copy_53 (by decide) ?_
            exact tc_iret tc_d7_copy_55 rfl (tc_riS h)
        · refine tc_bipush (v := (-11)) tc_d7_copy_35 (by decide) ?_
          exact tc_iret tc_d7_copy_37 rfl (tc_riS h)
    · refine tc_bipush (v := (-2)) tc_d7_copy_14 (by decide) ?_
      exact tc_iret tc_d7_copy_16 rfl (tc_riS h)
theorem tc_c7_copy (N : Nat) {x1 : Int32} {x2 : Int32} {x3 : Int32} {x4 : Int32} {x5 : Int32} {μ : tc_Mem} {z : Int32 × tc_Mem} (h : tc_f7_copy N x1 x2 x3 x4 x5 μ = some z) : tc_Con l G tc_i7_copy [.ref (tc_ad G 50), .int x1, .int x2, .int x3, .int x4, .int x5] μ (some (.int z.1)) z.2 :=
  tc_Con.of (L := [(0, .ref (tc_ad G 50)), (1, .int x1), (2, .int x2), (3, .int x3), (4, .int x4), (5, .int x5)]) (by decide) (Nat.le_of_ble_eq_true rfl) rfl (fun X => tc_b7_copy_0 N  _ _ _ _ _ _ _ h)
def tc_f7_count_64 (N : Nat) : Nat → Int32 → Int32 → tc_Mem → Option (Int32 × tc_Mem)
  | 0 => fun _ _ _ => none
  | n + 1 => fun x2 x3 μ => 
    if (μ 50 0) ≤ x3 then
      some (x2, μ)
    else
      tc_bd (tc_f7_currentOf N x3 μ) fun r1 μ2 =>
      tc_lt (x2 + r1) fun v3 =>
      tc_f7_count_64 N  n v3 (x3 + 1) μ2
theorem tc_b7_count_64 (N : Nat) : ∀ (n : Nat) (x2 : Int32) (x3 : Int32) (μ : tc_Mem) (z : Int32 × tc_Mem), tc_f7_count_64 N n x2 x3 μ = some z → tc_At l G tc_i7_count (some (.int z.1)) z.2 X 64 [(0, .ref (tc_ad G 50)), (2, .int x2), (3, .int x3)] [] μ := by
  intro n
  induction n with
  | zero => intro x2 x3 μ z h; cases h
  | succ n ih =>
    intro x2 x3 μ z h
    rw [tc_f7_count_64] at h
    refine tc_iload_n tc_d7_count_64 2 rfl ?_
    refine tc_aload_n tc_d7_count_65 0 rfl ?_
    refine tc_g7_0 tc_d7_count_66 tc_w878 ?_
    refine tc_icmp_ge (tgt := 86) tc_d7_count_69 (by decide) h (fun h => ?_) (fun h => ?_)
    · refine tc_iload_n tc_d7_count_86 1 rfl ?_
      exact tc_iret tc_d7_count_87 rfl (tc_riS h)
    · refine tc_iload_n tc_d7_count_72 1 rfl ?_
      refine tc_aload_n tc_d7_count_73 0 rfl ?_
      refine tc_iload_n tc_d7_count_74 2 rfl ?_
      obtain ⟨r1, μ2, e1, h⟩ := tc_bdS h
      have c1 := tc_c7_currentOf (l := l) (G := G) N e1
      refine tc_callVi (As := [.int x3]) (rest := [.int x2]) (r1 := r1) (μ1 := μ2) tc_d7_count_75 tc_ok7_currentOf tc_w1028 ⟨Nat.le_of_ble_eq_true rfl, Nat.le_of_ble_eq_true rfl⟩ tc_s7 rfl c1 rfl rfl (Nat.le_of_ble_eq_true rfl) ?_
      refine tc_iadd tc_d7_count_78 ?_
      refine tc_ltI h (fun v3 h => ?_)
      refine tc_istore_n (L' := [(2, .int v3), (0, .ref (tc_ad G 50)), (3, .int x3)]) tc_d7_count_79 (by decide) rfl ?_
      refine tc_iinc (v := (x3 + 1)) (L' := [(3, .int (x3 + 1)), (2, .int v3), (0, .ref (tc_ad G 50))]) tc_d7_count_80 2 rfl rfl (by decide) rfl ?_
      refine tc_goto (tgt := 64) tc_d7_count_83 (by decide) ?_
      refine tc_sub [2, 1, 0] rfl ?_
      exact (ih _ _ _ _) h
def tc_f7_count (N : Nat) (x1 : Int32) (μ : tc_Mem) : Option (Int32 × tc_Mem) :=
  if x1 < 0 ∨ 4 < x1 then
    some ((-2), μ)
  else if x1 = 0 then
    some ((μ 50 0), μ)
  else if x1 = 1 then
    some ((μ 50 9), μ)
  else if x1 = 2 then
    some ((μ 50 17), μ)
  else if x1 = 3 then
    tc_bd (tc_f7_bitsOf N 3 μ) fun r1 μ2 =>
    tc_bd (tc_f8_bitCount N r1 μ2) fun r3 μ4 =>
    some (r3, μ4)
  else if x1 = 4 then
    tc_f7_count_64 N N 0 0 μ
  else none
theorem tc_b7_count_0 (N : Nat) (x1 : Int32) (μ : tc_Mem) (z : Int32 × tc_Mem) (h : tc_f7_count N x1 μ = some z) : tc_At l G tc_i7_count (some (.int z.1)) z.2 X 0 [(0, .ref (tc_ad G 50)), (1, .int x1)] [] μ := by
  unfold tc_f7_count at h
  refine tc_iload_n tc_d7_count_0 1 rfl ?_
  by_cases hq : x1 < 0 ∨ 4 < x1
  · rw [if_pos hq] at h
    refine tc_tswD (a := 0) (b := 4) (tgt := 88) tc_d7_count_1 ⟨by decide, by decide⟩ hq (by decide) ?_
    refine tc_bipush (v := (-2)) tc_d7_count_88 (by decide) ?_
    exact tc_iret tc_d7_count_90 rfl (tc_riS h)
  · rw [if_neg hq] at h
    by_cases hq : x1 = 0
    · rw [if_pos hq] at h
      refine tc_tswK (k := 0) (off := 35) (tgt := 36) tc_d7_count_1 hq (by decide) (by decide) rfl (by decide) ?_
      refine tc_aload_n tc_d7_count_36 0 rfl ?_
      refine tc_g7_0 tc_d7_count_37 tc_w878 ?_
      exact tc_iret tc_d7_count_40 rfl (tc_riS h)
    · rw [if_neg hq] at h
      by_cases hq : x1 = 1
      · rw [if_pos hq] at h
        refine tc_tswK (k := 1) (off := 40) (tgt := 41) tc_d7_count_1 hq (by decide) (by decide) rfl (by decide) ?_
        refine tc_aload_n tc_d7_count_41 0 rfl ?_
        refine tc_g7_9 tc_d7_count_42 tc_w887 ?_
        exact tc_iret tc_d7_count_45 rfl (tc_riS h)
      · rw [if_neg hq] at h
        by_cases hq : x1 = 2
        · rw [if_pos hq] at h
          refine tc_tswK (k := 2) (off := 45) (tgt := 46) tc_d7_count_1 hq (by decide) (by decide) rfl (by decide) ?_
          refine tc_aload_n tc_d7_count_46 0 rfl ?_
          refine tc_g7_17 tc_d7_count_47 tc_w895 ?_
          exact tc_iret tc_d7_count_50 rfl (tc_riS h)
        · rw [if_neg hq] at h
          by_cases hq : x1 = 3
          · rw [if_pos hq] at h
            refine tc_tswK (k := 3) (off := 50) (tgt := 51) tc_d7_count_1 hq (by decide) (by decide) rfl (by decide) ?_
            refine tc_aload_n tc_d7_count_51 0 rfl ?_
            refine tc_iconst (v := 3) tc_d7_count_52 (by decide) ?_
            obtain ⟨r1, μ2, e1, h⟩ := tc_bdS h
            have c1 := tc_c7_bitsOf (l := l) (G := G) N e1
            refine tc_callVi (As := [.int 3]) (rest := []) (r1 := r1) (μ1 := μ2) tc_d7_count_53 tc_ok7_bitsOf tc_w1061 ⟨Nat.le_of_ble_eq_true rfl, Nat.le_of_ble_eq_true rfl⟩ tc_s7 rfl c1 rfl rfl (Nat.le_of_ble_eq_true rfl) ?_
            obtain ⟨r3, μ4, e3, h⟩ := tc_bdS h
            have c3 := tc_c8_bitCount (l := l) (G := G) N e3
            refine tc_callSi (As := [.int r1]) (rest := []) (r1 := r3) (μ1 := μ4) tc_d7_count_56 tc_ok8_bitCount tc_w1149 ⟨Nat.le_of_ble_eq_true rfl, Nat.le_of_ble_eq_true rfl⟩ c3 rfl rfl (Nat.le_of_ble_eq_true rfl) ?_
            exact tc_iret tc_d7_count_59 rfl (tc_riS h)
          · rw [if_neg hq] at h
            by_cases hq : x1 = 4
            · rw [if_pos hq] at h
              refine tc_tswK (k := 4) (off := 59) (tgt := 60) tc_d7_count_1 hq (by decide) (by decide) rfl (by decide) ?_
              refine tc_iconst (v := 0) tc_d7_count_60 (by decide) ?_
              refine tc_istore_n (L' := [(2, .int 0), (0, .ref (tc_ad G 50)), (1, .int x1)]) tc_d7_count_61 (by decide) rfl ?_
              refine tc_iconst (v := 0) tc_d7_count_62 (by decide) ?_
              refine tc_istore_n (L' := [(3, .int 0), (2, .int 0), (0, .ref (tc_ad G 50)), (1, .int x1)]) tc_d7_count_63 (by decide) rfl ?_
              refine tc_sub [2, 1, 0] rfl ?_
              exact (tc_b7_count_64 N N _ _ _ _) h
            · rw [if_neg hq] at h
              cases h
theorem tc_c7_count (N : Nat) {x1 : Int32} {μ : tc_Mem} {z : Int32 × tc_Mem} (h : tc_f7_count N x1 μ = some z) : tc_Con l G tc_i7_count [.ref (tc_ad G 50), .int x1] μ (some (.int z.1)) z.2 :=
  tc_Con.of (L := [(0, .ref (tc_ad G 50)), (1, .int x1)]) (by decide) (Nat.le_of_ble_eq_true rfl) rfl (fun X => tc_b7_count_0 N  _ _ _ h)
def tc_f7_section (N : Nat) (x1 : Int32) (x2 : Int32) (x3 : Int32) (x4 : Int32) (μ : tc_Mem) : Option (Int32 × tc_Mem) :=
  tc_bd (tc_f7_in N x1 0 5 μ) fun r1 μ2 =>
  if r1 = 0 then
    some ((-2), μ2)
  else
    tc_bd (tc_f7_in N x2 1 99 μ2) fun r3 μ4 =>
    if r3 = 0 then
      some ((-2), μ4)
    else
      tc_bd (tc_f7_in N x3 0 9 μ4) fun r5 μ6 =>
      if r5 = 0 then
        some ((-2), μ6)
      else
        tc_bd (tc_f7_in N x4 1 9 μ6) fun r7 μ8 =>
        if r7 = 0 then
          some ((-2), μ8)
        else
          if (μ8 50 0) = 8 then
            some ((-4), μ8)
          else
            tc_ck (μ8 50 0) 8 (
            tc_lt (tc_wr μ8 51 (μ8 50 0).toNatClampNeg x1) fun μ10 =>
            tc_ck (μ10 50 0) 8 (
            tc_lt (tc_wr μ10 52 (μ10 50 0).toNatClampNeg x2) fun μ12 =>
            tc_ck (μ12 50 0) 8 (
            tc_lt (tc_wr μ12 53 (μ12 50 0).toNatClampNeg x3) fun μ14 =>
            tc_ck (μ14 50 0) 8 (
            tc_lt (tc_wr μ14 54 (μ14 50 0).toNatClampNeg x4) fun μ16 =>
            tc_ck (μ16 50 0) 8 (
            tc_lt (tc_wr μ16 56 (μ16 50 0).toNatClampNeg (vp_nar .boolean 0)) fun μ18 =>
            tc_ck (μ18 50 0) 8 (
            tc_lt (tc_wr μ18 55 (μ18 50 0).toNatClampNeg 0) fun μ20 =>
            tc_ck (μ20 50 0) 8 (
            tc_lt (tc_wr μ20 57 (μ20 50 0).toNatClampNeg (vp_nar .boolean 0)) fun μ22 =>
            tc_lt (tc_wr μ22 50 0 ((μ22 50 0) + 1)) fun μ23 =>
            some (((μ23 50 0) - 1), μ23))))))))
theorem tc_b7_section_0 (N : Nat) (x1 : Int32) (x2 : Int32) (x3 : Int32) (x4 : Int32) (μ : tc_Mem) (z : Int32 × tc_Mem) (h : tc_f7_section N x1 x2 x3 x4 μ = some z) : tc_At l G tc_i7_section (some (.int z.1)) z.2 X 0 [(0, .ref (tc_ad G 50)), (1, .int x1), (2, .int x2), (3, .int x3), (4, .int x4)] [] μ := by
  unfold tc_f7_section at h
  refine tc_iload_n tc_d7_section_0 1 rfl ?_
  refine tc_iconst (v := 0) tc_d7_section_1 (by decide) ?_
  refine tc_iconst (v := 5) tc_d7_section_2 (by decide) ?_
  obtain ⟨r1, μ2, e1, h⟩ := tc_bdS h
  have c1 := tc_c7_in (l := l) (G := G) N e1
  refine tc_callSi (As := [.int x1, .int 0, .int 5]) (rest := []) (r1 := r1) (μ1 := μ2) tc_d7_section_3 tc_ok7_in tc_w1001 ⟨Nat.le_of_ble_eq_true rfl, Nat.le_of_ble_eq_true rfl⟩ c1 rfl rfl (Nat.le_of_ble_eq_true rfl) ?_
  refine tc_if_eq (tgt := 40) tc_d7_section_6 (by decide) h (fun h => ?_) (fun h => ?_)
  · refine tc_bipush (v := (-2)) tc_d7_section_40 (by decide) ?_
    exact tc_iret tc_d7_section_42 rfl (tc_riS h)
  · refine tc_iload_n tc_d7_section_9 2 rfl ?_
    refine tc_iconst (v := 1) tc_d7_section_10 (by decide) ?_
    refine tc_bipush (v := 99) tc_d7_section_11 (by decide) ?_
    obtain ⟨r3, μ4, e3, h⟩ := tc_bdS h
    have c3 := tc_c7_in (l := l) (G := G) N e3
    refine tc_callSi (As := [.int x2, .int 1, .int 99]) (rest := []) (r1 := r3) (μ1 := μ4) tc_d7_section_13 tc_ok7_in tc_w1001 ⟨Nat.le_of_ble_eq_true rfl, Nat.le_of_ble_eq_true rfl⟩ c3 rfl rfl (Nat.le_of_ble_eq_true rfl) ?_
    refine tc_if_eq (tgt := 40) tc_d7_section_16 (by decide) h (fun h => ?_) (fun h => ?_)
    · refine tc_bipush (v := (-2)) tc_d7_section_40 (by decide) ?_
      exact tc_iret tc_d7_section_42 rfl (tc_riS h)
    · refine tc_iload_n tc_d7_section_19 3 rfl ?_
      refine tc_iconst (v := 0) tc_d7_section_20 (by decide) ?_
      refine tc_bipush (v := 9) tc_d7_section_21 (by decide) ?_
      obtain ⟨r5, μ6, e5, h⟩ := tc_bdS h
      have c5 := tc_c7_in (l := l) (G := G) N e5
      refine tc_callSi (As := [.int x3, .int 0, .int 9]) (rest := []) (r1 := r5) (μ1 := μ6) tc_d7_section_23 tc_ok7_in tc_w1001 ⟨Nat.le_of_ble_eq_true rfl, Nat.le_of_ble_eq_true rfl⟩ c5 rfl rfl (Nat.le_of_ble_eq_true rfl) ?_
      refine tc_if_eq (tgt := 40) tc_d7_section_26 (by decide) h (fun h => ?_) (fun h => ?_)
      · refine tc_bipush (v := (-2)) tc_d7_section_40 (by decide) ?_
        exact tc_iret tc_d7_section_42 rfl (tc_riS h)
      · refine tc_iload tc_d7_section_29 4 rfl ?_
        refine tc_iconst (v := 1) tc_d7_section_31 (by decide) ?_
        refine tc_bipush (v := 9) tc_d7_section_32 (by decide) ?_
        obtain ⟨r7, μ8, e7, h⟩ := tc_bdS h
        have c7 := tc_c7_in (l := l) (G := G) N e7
        refine tc_callSi (As := [.int x4, .int 1, .int 9]) (rest := []) (r1 := r7) (μ1 := μ8) tc_d7_section_34 tc_ok7_in tc_w1001 ⟨Nat.le_of_ble_eq_true rfl, Nat.le_of_ble_eq_true rfl⟩ c7 rfl rfl (Nat.le_of_ble_eq_true rfl) ?_
        refine tc_if_ne (tgt := 43) tc_d7_section_37 (by decide) h (fun h => ?_) (fun h => ?_)
        · refine tc_aload_n tc_d7_section_43 0 rfl ?_
          refine tc_g7_0 tc_d7_section_44 tc_w878 ?_
          refine tc_bipush (v := 8) tc_d7_section_47 (by decide) ?_
          refine tc_icmp_ne (tgt := 55) tc_d7_section_49 (by decide) h (fun h => ?_) (fun h => ?_)
          · refine tc_aload_n tc_d7_section_55 0 rfl ?_
            refine tc_g7_1 tc_d7_section_56 tc_w879 ?_
            refine tc_aload_n tc_d7_section_59 0 rfl ?_
            refine tc_g7_0 tc_d7_section_60 tc_w878 ?_
            refine tc_iload_n tc_d7_section_63 1 rfl ?_
            obtain ⟨hi9, h⟩ := tc_ckS h
            refine tc_iastL tc_d7_section_64 tc_aL51 hi9 h (fun μ10 h => ?_)
            refine tc_aload_n tc_d7_section_65 0 rfl ?_
            refine tc_g7_2 tc_d7_section_66 tc_w880 ?_
            refine tc_aload_n tc_d7_section_69 0 rfl ?_
            refine tc_g7_0 tc_d7_section_70 tc_w878 ?_
            refine tc_iload_n tc_d7_section_73 2 rfl ?_
            obtain ⟨hi11, h⟩ := tc_ckS h
            refine tc_iastL tc_d7_section_74 tc_aL52 hi11 h (fun μ12 h => ?_)
            refine tc_aload_n tc_d7_section_75 0 rfl ?_
            refine tc_g7_3 tc_d7_section_76 tc_w881 ?_
            refine tc_aload_n tc_d7_section_79 0 rfl ?_
            refine tc_g7_0 tc_d7_section_80 tc_w878 ?_
            refine tc_iload_n tc_d7_section_83 3 rfl ?_
            obtain ⟨hi13, h⟩ := tc_ckS h
            refine tc_iastL tc_d7_section_84 tc_aL53 hi13 h (fun μ14 h => ?_)
            refine tc_aload_n tc_d7_section_85 0 rfl ?_
            refine tc_g7_4 tc_d7_section_86 tc_w882 ?_
            refine tc_aload_n tc_d7_section_89 0 rfl ?_
            refine tc_g7_0 tc_d7_section_90 tc_w878 ?_
            refine tc_iload tc_d7_section_93 4 rfl ?_
            obtain ⟨hi15, h⟩ := tc_ckS h
            refine tc_iastL tc_d7_section_95 tc_aL54 hi15 h (fun μ16 h => ?_)
            refine tc_aload_n tc_d7_section_96 0 rfl ?_
            refine tc_g7_6 tc_d7_section_97 tc_w884 ?_
            refine tc_aload_n tc_d7_section_100 0 rfl ?_
            refine tc_g7_0 tc_d7_section_101 tc_w878 ?_
            refine tc_iconst (v := 0) tc_d7_section_104 (by decide) ?_
            obtain ⟨hi17, h⟩ := tc_ckS h
            refine tc_zastL tc_d7_section_105 tc_aL56 hi17 h (fun μ18 h => ?_)
            refine tc_aload_n tc_d7_section_106 0 rfl ?_
            refine tc_g7_5 tc_d7_section_107 tc_w883 ?_
            refine tc_aload_n tc_d7_section_110 0 rfl ?_
            refine tc_g7_0 tc_d7_section_111 tc_w878 ?_
            refine tc_iconst (v := 0) tc_d7_section_114 (by decide) ?_
            obtain ⟨hi19, h⟩ := tc_ckS h
            refine tc_iastL tc_d7_section_115 tc_aL55 hi19 h (fun μ20 h => ?_)
            refine tc_aload_n tc_d7_section_116 0 rfl ?_
            refine tc_g7_7 tc_d7_section_117 tc_w885 ?_
            refine tc_aload_n tc_d7_section_120 0 rfl ?_
            refine tc_g7_0 tc_d7_section_121 tc_w878 ?_
            refine tc_iconst (v := 0) tc_d7_section_124 (by decide) ?_
            obtain ⟨hi21, h⟩ := tc_ckS h
            refine tc_zastL tc_d7_section_125 tc_aL57 hi21 h (fun μ22 h => ?_)
            refine tc_aload_n tc_d7_section_126 0 rfl ?_
            refine tc_dup tc_d7_section_127 rfl ?_
            refine tc_g7_0 tc_d7_section_128 tc_w878 ?_
            refine tc_iconst (v := 1) tc_d7_section_131 (by decide) ?_
            refine tc_iadd tc_d7_section_132 ?_
            refine tc_p7_0 tc_d7_section_133 tc_w878 h (fun μ23 h => ?_)
            refine tc_aload_n tc_d7_section_136 0 rfl ?_
            refine tc_g7_0 tc_d7_section_137 tc_w878 ?_
            refine tc_iconst (v := 1) tc_d7_section_140 (by decide) ?_
            refine tc_isub tc_d7_section_141 ?_
            exact tc_iret tc_d7_section_142 rfl (tc_riS h)
          · refine tc_bipush (v := (-4)) tc_d7_section_52 (by decide) ?_
            exact tc_iret tc_d7_section_54 rfl (tc_riS h)
        · refine tc_bipush (v := (-2)) tc_d7_section_40 (by decide) ?_
          exact tc_iret tc_d7_section_42 rfl (tc_riS h)
theorem tc_c7_section (N : Nat) {x1 : Int32} {x2 : Int32} {x3 : Int32} {x4 : Int32} {μ : tc_Mem} {z : Int32 × tc_Mem} (h : tc_f7_section N x1 x2 x3 x4 μ = some z) : tc_Con l G tc_i7_section [.ref (tc_ad G 50), .int x1, .int x2, .int x3, .int x4] μ (some (.int z.1)) z.2 :=
  tc_Con.of (L := [(0, .ref (tc_ad G 50)), (1, .int x1), (2, .int x2), (3, .int x3), (4, .int x4)]) (by decide) (Nat.le_of_ble_eq_true rfl) rfl (fun X => tc_b7_section_0 N  _ _ _ _ _ _ h)
def tc_f7_train_50 (N : Nat) (x3 : Int32) (s1 : Int32) (s2 : Int32) (μ : tc_Mem) : Option (Int32 × tc_Mem) :=
  tc_ck s1 8 (
  tc_lt (tc_wr μ 57 s1.toNatClampNeg (vp_nar .boolean s2)) fun μ2 =>
  some (x3, μ2))
theorem tc_b7_train_50 (N : Nat) (x3 : Int32) (s1 : Int32) (s2 : Int32) (μ : tc_Mem) (z : Int32 × tc_Mem) (h : tc_f7_train_50 N x3 s1 s2 μ = some z) : tc_At l G tc_i7_train (some (.int z.1)) z.2 X 50 [(3, .int x3)] [.int s2, .int s1, .ref (tc_ad G 57)] μ := by
  unfold tc_f7_train_50 at h
  obtain ⟨hi1, h⟩ := tc_ckS h
  refine tc_zastL tc_d7_train_50 tc_aL57 hi1 h (fun μ2 h => ?_)
  refine tc_iload_n tc_d7_train_51 0 rfl ?_
  exact tc_iret tc_d7_train_52 rfl (tc_riS h)
def tc_f7_train_34 (N : Nat) (x1 : Int32) (x2 : Int32) (s0 : Int32) (μ : tc_Mem) : Option (Int32 × tc_Mem) :=
  if x2 = 1 then
    tc_f7_train_50 N s0 x1 1 μ
  else
    tc_f7_train_50 N s0 x1 0 μ
theorem tc_b7_train_34 (N : Nat) (x1 : Int32) (x2 : Int32) (s0 : Int32) (μ : tc_Mem) (z : Int32 × tc_Mem) (h : tc_f7_train_34 N x1 x2 s0 μ = some z) : tc_At l G tc_i7_train (some (.int z.1)) z.2 X 34 [(0, .ref (tc_ad G 50)), (1, .int x1), (2, .int x2)] [.int s0] μ := by
  unfold tc_f7_train_34 at h
  refine tc_istore_n (L' := [(3, .int s0), (0, .ref (tc_ad G 50)), (1, .int x1), (2, .int x2)]) tc_d7_train_34 (by decide) rfl ?_
  refine tc_aload_n tc_d7_train_35 1 rfl ?_
  refine tc_g7_7 tc_d7_train_36 tc_w885 ?_
  refine tc_iload_n tc_d7_train_39 2 rfl ?_
  refine tc_iload_n tc_d7_train_40 3 rfl ?_
  refine tc_iconst (v := 1) tc_d7_train_41 (by decide) ?_
  refine tc_icmp_ne (tgt := 49) tc_d7_train_42 (by decide) h (fun h => ?_) (fun h => ?_)
  · refine tc_iconst (v := 0) tc_d7_train_49 (by decide) ?_
    refine tc_sub [0] rfl ?_
    exact (tc_b7_train_50 N _ _ _ _ _) h
  · refine tc_iconst (v := 1) tc_d7_train_45 (by decide) ?_
    refine tc_goto (tgt := 50) tc_d7_train_46 (by decide) ?_
    refine tc_sub [0] rfl ?_
    exact (tc_b7_train_50 N _ _ _ _ _) h
def tc_f7_train (N : Nat) (x1 : Int32) (x2 : Int32) (μ : tc_Mem) : Option (Int32 × tc_Mem) :=
  tc_bd (tc_f7_isSection N x1 μ) fun r1 μ2 =>
  if r1 = 0 then
    some ((-2), μ2)
  else
    tc_bd (tc_f7_in N x2 0 1 μ2) fun r3 μ4 =>
    if r3 = 0 then
      some ((-2), μ4)
    else
      tc_ck x1 8 (
      if (μ4 57 x1.toNatClampNeg) = 0 then
        tc_f7_train_34 N x1 x2 0 μ4
      else
        tc_f7_train_34 N x1 x2 1 μ4)
theorem tc_b7_train_0 (N : Nat) (x1 : Int32) (x2 : Int32) (μ : tc_Mem) (z : Int32 × tc_Mem) (h : tc_f7_train N x1 x2 μ = some z) : tc_At l G tc_i7_train (some (.int z.1)) z.2 X 0 [(0, .ref (tc_ad G 50)), (1, .int x1), (2, .int x2)] [] μ := by
  unfold tc_f7_train at h
  refine tc_aload_n tc_d7_train_0 0 rfl ?_
  refine tc_iload_n tc_d7_train_1 1 rfl ?_
  obtain ⟨r1, μ2, e1, h⟩ := tc_bdS h
  have c1 := tc_c7_isSection (l := l) (G := G) N e1
  refine tc_callVi (As := [.int x1]) (rest := []) (r1 := r1) (μ1 := μ2) tc_d7_train_2 tc_ok7_isSection tc_w1016 ⟨Nat.le_of_ble_eq_true rfl, Nat.le_of_ble_eq_true rfl⟩ tc_s7 rfl c1 rfl rfl (Nat.le_of_ble_eq_true rfl) ?_
  refine tc_if_eq (tgt := 17) tc_d7_train_5 (by decide) h (fun h => ?_) (fun h => ?_)
  · refine tc_bipush (v := (-2)) tc_d7_train_17 (by decide) ?_
    exact tc_iret tc_d7_train_19 rfl (tc_riS h)
  · refine tc_iload_n tc_d7_train_8 2 rfl ?_
    refine tc_iconst (v := 0) tc_d7_train_9 (by decide) ?_
    refine tc_iconst (v := 1) tc_d7_train_10 (by decide) ?_
    obtain ⟨r3, μ4, e3, h⟩ := tc_bdS h
    have c3 := tc_c7_in (l := l) (G := G) N e3
    refine tc_callSi (As := [.int x2, .int 0, .int 1]) (rest := []) (r1 := r3) (μ1 := μ4) tc_d7_train_11 tc_ok7_in tc_w1001 ⟨Nat.le_of_ble_eq_true rfl, Nat.le_of_ble_eq_true rfl⟩ c3 rfl rfl (Nat.le_of_ble_eq_true rfl) ?_
    refine tc_if_ne (tgt := 20) tc_d7_train_14 (by decide) h (fun h => ?_) (fun h => ?_)
    · refine tc_aload_n tc_d7_train_20 0 rfl ?_
      refine tc_g7_7 tc_d7_train_21 tc_w885 ?_
      refine tc_iload_n tc_d7_train_24 1 rfl ?_
      obtain ⟨hi5, h⟩ := tc_ckS h
      refine tc_zald tc_d7_train_25 tc_aL57 hi5 ?_
      refine tc_if_eq (tgt := 33) tc_d7_train_26 (by decide) h (fun h => ?_) (fun h => ?_)
      · refine tc_iconst (v := 0) tc_d7_train_33 (by decide) ?_
        exact (tc_b7_train_34 N _ _ _ _ _) h
      · refine tc_iconst (v := 1) tc_d7_train_29 (by decide) ?_
        refine tc_goto (tgt := 34) tc_d7_train_30 (by decide) ?_
        exact (tc_b7_train_34 N _ _ _ _ _) h
    · refine tc_bipush (v := (-2)) tc_d7_train_17 (by decide) ?_
      exact tc_iret tc_d7_train_19 rfl (tc_riS h)
theorem tc_c7_train (N : Nat) {x1 : Int32} {x2 : Int32} {μ : tc_Mem} {z : Int32 × tc_Mem} (h : tc_f7_train N x1 x2 μ = some z) : tc_Con l G tc_i7_train [.ref (tc_ad G 50), .int x1, .int x2] μ (some (.int z.1)) z.2 :=
  tc_Con.of (L := [(0, .ref (tc_ad G 50)), (1, .int x1), (2, .int x2)]) (by decide) (Nat.le_of_ble_eq_true rfl) rfl (fun X => tc_b7_train_0 N  _ _ _ _ h)
def tc_f7_fault (N : Nat) (x1 : Int32) (x2 : Int32) (μ : tc_Mem) : Option (Int32 × tc_Mem) :=
  tc_bd (tc_f7_in N x1 0 3 μ) fun r1 μ2 =>
  if r1 = 0 then
    some ((-2), μ2)
  else
    tc_bd (tc_f7_isSection N x2 μ2) fun r3 μ4 =>
    if r3 = 0 then
      some ((-2), μ4)
    else
      if (μ4 50 9) = 6 then
        some ((-4), μ4)
      else
        tc_bd (tc_f7_addFault N x1 x2 μ4) fun _ μ6 =>
        some ((μ6 50 9), μ6)
theorem tc_b7_fault_0 (N : Nat) (x1 : Int32) (x2 : Int32) (μ : tc_Mem) (z : Int32 × tc_Mem) (h : tc_f7_fault N x1 x2 μ = some z) : tc_At l G tc_i7_fault (some (.int z.1)) z.2 X 0 [(0, .ref (tc_ad G 50)), (1, .int x1), (2, .int x2)] [] μ := by
  unfold tc_f7_fault at h
  refine tc_iload_n tc_d7_fault_0 1 rfl ?_
  refine tc_iconst (v := 0) tc_d7_fault_1 (by decide) ?_
  refine tc_iconst (v := 3) tc_d7_fault_2 (by decide) ?_
  obtain ⟨r1, μ2, e1, h⟩ := tc_bdS h
  have c1 := tc_c7_in (l := l) (G := G) N e1
  refine tc_callSi (As := [.int x1, .int 0, .int 3]) (rest := []) (r1 := r1) (μ1 := μ2) tc_d7_fault_3 tc_ok7_in tc_w1001 ⟨Nat.le_of_ble_eq_true rfl, Nat.le_of_ble_eq_true rfl⟩ c1 rfl rfl (Nat.le_of_ble_eq_true rfl) ?_
  refine tc_if_eq (tgt := 17) tc_d7_fault_6 (by decide) h (fun h => ?_) (fun h => ?_)
  · refine tc_bipush (v := (-2)) tc_d7_fault_17 (by decide) ?_
    exact tc_iret tc_d7_fault_19 rfl (tc_riS h)
  · refine tc_aload_n tc_d7_fault_9 0 rfl ?_
    refine tc_iload_n tc_d7_fault_10 2 rfl ?_
    obtain ⟨r3, μ4, e3, h⟩ := tc_bdS h
    have c3 := tc_c7_isSection (l := l) (G := G) N e3
    refine tc_callVi (As := [.int x2]) (rest := []) (r1 := r3) (μ1 := μ4) tc_d7_fault_11 tc_ok7_isSection tc_w1016 ⟨Nat.le_of_ble_eq_true rfl, Nat.le_of_ble_eq_true rfl⟩ tc_s7 rfl c3 rfl rfl (Nat.le_of_ble_eq_true rfl) ?_
    refine tc_if_ne (tgt := 20) tc_d7_fault_14 (by decide) h (fun h => ?_) (fun h => ?_)
    · refine tc_aload_n tc_d7_fault_20 0 rfl ?_
      refine tc_g7_9 tc_d7_fault_21 tc_w887 ?_
      refine tc_bipush (v := 6) tc_d7_fault_24 (by decide) ?_
      refine tc_icmp_ne (tgt := 32) tc_d7_fault_26 (by decide) h (fun h => ?_) (fun h => ?_)
      · refine tc_aload_n tc_d7_fault_32 0 rfl ?_
        refine tc_iload_n tc_d7_fault_33 1 rfl ?_
        refine tc_iload_n tc_d7_fault_34 2 rfl ?_
        obtain ⟨r5, μ6, e5, h⟩ := tc_bdS h
        have c5 := tc_c7_addFault (l := l) (G := G) N e5
        refine tc_callVv (As := [.int x1, .int x2]) (rest := []) (μ1 := μ6) tc_d7_fault_35 tc_ok7_addFault tc_w1077 ⟨Nat.le_of_ble_eq_true rfl, Nat.le_of_ble_eq_true rfl⟩ tc_s7 rfl c5 rfl rfl (Nat.le_of_ble_eq_true rfl) ?_
        refine tc_aload_n tc_d7_fault_38 0 rfl ?_
        refine tc_g7_9 tc_d7_fault_39 tc_w887 ?_
        exact tc_iret tc_d7_fault_42 rfl (tc_riS h)
      · refine tc_bipush (v := (-4)) tc_d7_fault_29 (by decide) ?_
        exact tc_iret tc_d7_fault_31 rfl (tc_riS h)
    · refine tc_bipush (v := (-2)) tc_d7_fault_17 (by decide) ?_
      exact tc_iret tc_d7_fault_19 rfl (tc_riS h)
theorem tc_c7_fault (N : Nat) {x1 : Int32} {x2 : Int32} {μ : tc_Mem} {z : Int32 × tc_Mem} (h : tc_f7_fault N x1 x2 μ = some z) : tc_Con l G tc_i7_fault [.ref (tc_ad G 50), .int x1, .int x2] μ (some (.int z.1)) z.2 :=
  tc_Con.of (L := [(0, .ref (tc_ad G 50)), (1, .int x1), (2, .int x2)]) (by decide) (Nat.le_of_ble_eq_true rfl) rfl (fun X => tc_b7_fault_0 N  _ _ _ _ h)
def tc_f7_mends_70 (N : Nat) (x2 : Int32) (μ : tc_Mem) : Option (Int32 × tc_Mem) :=
  tc_lt ((μ 50 9) - x2) fun v1 =>
  tc_lt (tc_wr μ 50 9 x2) fun μ2 =>
  some (v1, μ2)
theorem tc_b7_mends_70 (N : Nat) (x2 : Int32) (μ : tc_Mem) (z : Int32 × tc_Mem) (h : tc_f7_mends_70 N x2 μ = some z) : tc_At l G tc_i7_mends (some (.int z.1)) z.2 X 70 [(0, .ref (tc_ad G 50)), (2, .int x2)] [] μ := by
  unfold tc_f7_mends_70 at h
  refine tc_aload_n tc_d7_mends_70 0 rfl ?_
  refine tc_g7_9 tc_d7_mends_71 tc_w887 ?_
  refine tc_iload_n tc_d7_mends_74 1 rfl ?_
  refine tc_isub tc_d7_mends_75 ?_
  refine tc_ltI h (fun v1 h => ?_)
  refine tc_istore_n (L' := [(3, .int v1), (0, .ref (tc_ad G 50)), (2, .int x2)]) tc_d7_mends_76 (by decide) rfl ?_
  refine tc_aload_n tc_d7_mends_77 1 rfl ?_
  refine tc_iload_n tc_d7_mends_78 2 rfl ?_
  refine tc_p7_9 tc_d7_mends_79 tc_w887 h (fun μ2 h => ?_)
  refine tc_iload_n tc_d7_mends_82 0 rfl ?_
  exact tc_iret tc_d7_mends_83 rfl (tc_riS h)
def tc_f7_mends_4 (N : Nat) : Nat → Int32 → Int32 → Int32 → tc_Mem → Option (Int32 × tc_Mem)
  | 0 => fun _ _ _ _ => none
  | n + 1 => fun x1 x2 x3 μ => 
    if (μ 50 9) ≤ x3 then
      tc_f7_mends_70 N x2 μ
    else
      tc_ck x3 20 (
      if (μ 60 x3.toNatClampNeg) = x1 then
        tc_f7_mends_4 N  n x1 x2 (x3 + 1) μ
      else
        tc_ck x3 20 (
        tc_ck x2 20 (
        tc_lt (tc_wr μ 59 x2.toNatClampNeg (μ 59 x3.toNatClampNeg)) fun μ4 =>
        tc_ck x3 20 (
        tc_ck x2 20 (
        tc_lt (tc_wr μ4 60 x2.toNatClampNeg (μ4 60 x3.toNatClampNeg)) fun μ7 =>
        tc_ck x3 20 (
        tc_ck x2 20 (
        tc_lt (tc_wr μ7 61 x2.toNatClampNeg (μ7 61 x3.toNatClampNeg)) fun μ10 =>
        tc_f7_mends_4 N  n x1 (x2 + 1) (x3 + 1) μ10)))))))
theorem tc_b7_mends_4 (N : Nat) : ∀ (n : Nat) (x1 : Int32) (x2 : Int32) (x3 : Int32) (μ : tc_Mem) (z : Int32 × tc_Mem), tc_f7_mends_4 N n x1 x2 x3 μ = some z → tc_At l G tc_i7_mends (some (.int z.1)) z.2 X 4 [(0, .ref (tc_ad G 50)), (1, .int x1), (2, .int x2), (3, .int x3)] [] μ := by
  intro n
  induction n with
  | zero => intro x1 x2 x3 μ z h; cases h
  | succ n ih =>
    intro x1 x2 x3 μ z h
    rw [tc_f7_mends_4] at h
    refine tc_iload_n tc_d7_mends_4 3 rfl ?_
    refine tc_aload_n tc_d7_mends_5 0 rfl ?_
    refine tc_g7_9 tc_d7_mends_6 tc_w887 ?_
    refine tc_icmp_ge (tgt := 70) tc_d7_mends_9 (by decide) h (fun h => ?_) (fun h => ?_)
    · refine tc_sub [0, 2] rfl ?_
      exact (tc_b7_mends_70 N _ _ _) h
    · refine tc_aload_n tc_d7_mends_12 0 rfl ?_
      refine tc_g7_11 tc_d7_mends_13 tc_w889 ?_
      refine tc_iload_n tc_d7_mends_16 3 rfl ?_
      obtain ⟨hi1, h⟩ := tc_ckS h
      refine tc_iald tc_d7_mends_17 tc_aL60 hi1 ?_
      refine tc_iload_n tc_d7_mends_18 1 rfl ?_
      refine tc_icmp_ne (tgt := 25) tc_d7_mends_19 (by decide) h (fun h => ?_) (fun h => ?_)
      · refine tc_aload_n tc_d7_mends_25 0 rfl ?_
        refine tc_g7_10 tc_d7_mends_26 tc_w888 ?_
        refine tc_iload_n tc_d7_mends_29 2 rfl ?_
        refine tc_aload_n tc_d7_mends_30 0 rfl ?_
        refine tc_g7_10 tc_d7_mends_31 tc_w888 ?_
        refine tc_iload_n tc_d7_mends_34 3 rfl ?_
        obtain ⟨hi2, h⟩ := tc_ckS h
        refine tc_iald tc_d7_mends_35 tc_aL59 hi2 ?_
        obtain ⟨hi3, h⟩ := tc_ckS h
        refine tc_iastL tc_d7_mends_36 tc_aL59 hi3 h (fun μ4 h => ?_)
        refine tc_aload_n tc_d7_mends_37 0 rfl ?_
        refine tc_g7_11 tc_d7_mends_38 tc_w889 ?_
        refine tc_iload_n tc_d7_mends_41 2 rfl ?_
        refine tc_aload_n tc_d7_mends_42 0 rfl ?_
        refine tc_g7_11 tc_d7_mends_43 tc_w889 ?_
        refine tc_iload_n tc_d7_mends_46 3 rfl ?_
        obtain ⟨hi5, h⟩ := tc_ckS h
        refine tc_iald tc_d7_mends_47 tc_aL60 hi5 ?_
        obtain ⟨hi6, h⟩ := tc_ckS h
        refine tc_iastL tc_d7_mends_48 tc_aL60 hi6 h (fun μ7 h => ?_)
        refine tc_aload_n tc_d7_mends_49 0 rfl ?_
        refine tc_g7_12 tc_d7_mends_50 tc_w890 ?_
        refine tc_iload_n tc_d7_mends_53 2 rfl ?_
        refine tc_aload_n tc_d7_mends_54 0 rfl ?_
        refine tc_g7_12 tc_d7_mends_55 tc_w890 ?_
        refine tc_iload_n tc_d7_mends_58 3 rfl ?_
        obtain ⟨hi8, h⟩ := tc_ckS h
        refine tc_iald tc_d7_mends_59 tc_aL61 hi8 ?_
        obtain ⟨hi9, h⟩ := tc_ckS h
        refine tc_iastL tc_d7_mends_60 tc_aL61 hi9 h (fun μ10 h => ?_)
        refine tc_iinc (v := (x2 + 1)) (L' := [(2, .int (x2 + 1)), (0, .ref (tc_ad G 50)), (1, .int x1), (3, .int x3)]) tc_d7_mends_61 2 rfl rfl (by decide) rfl ?_
        refine tc_iinc (v := (x3 + 1)) (L' := [(3, .int (x3 + 1)), (2, .int (x2 + 1)), (0, .ref (tc_ad G 50)), (1, .int x1)]) tc_d7_mends_64 3 rfl rfl (by decide) rfl ?_
        refine tc_goto (tgt := 4) tc_d7_mends_67 (by decide) ?_
        refine tc_sub [2, 3, 1, 0] rfl ?_
        exact (ih _ _ _ _ _) h
      · refine tc_goto (tgt := 64) tc_d7_mends_22 (by decide) ?_
        refine tc_iinc (v := (x3 + 1)) (L' := [(3, .int (x3 + 1)), (0, .ref (tc_ad G 50)), (1, .int x1), (2, .int x2)]) tc_d7_mends_64 3 rfl rfl (by decide) rfl ?_
        refine tc_goto (tgt := 4) tc_d7_mends_67 (by decide) ?_
        refine tc_sub [1, 2, 3, 0] rfl ?_
        exact (ih _ _ _ _ _) h
def tc_f7_mends (N : Nat) (x1 : Int32) (μ : tc_Mem) : Option (Int32 × tc_Mem) :=
  tc_f7_mends_4 N N x1 0 0 μ
theorem tc_b7_mends_0 (N : Nat) (x1 : Int32) (μ : tc_Mem) (z : Int32 × tc_Mem) (h : tc_f7_mends N x1 μ = some z) : tc_At l G tc_i7_mends (some (.int z.1)) z.2 X 0 [(0, .ref (tc_ad G 50)), (1, .int x1)] [] μ := by
  unfold tc_f7_mends at h
  refine tc_iconst (v := 0) tc_d7_mends_0 (by decide) ?_
  refine tc_istore_n (L' := [(2, .int 0), (0, .ref (tc_ad G 50)), (1, .int x1)]) tc_d7_mends_1 (by decide) rfl ?_
  refine tc_iconst (v := 0) tc_d7_mends_2 (by decide) ?_
  refine tc_istore_n (L' := [(3, .int 0), (2, .int 0), (0, .ref (tc_ad G 50)), (1, .int x1)]) tc_d7_mends_3 (by decide) rfl ?_
  refine tc_sub [2, 3, 1, 0] rfl ?_
  exact (tc_b7_mends_4 N N _ _ _ _ _) h
theorem tc_c7_mends (N : Nat) {x1 : Int32} {μ : tc_Mem} {z : Int32 × tc_Mem} (h : tc_f7_mends N x1 μ = some z) : tc_Con l G tc_i7_mends [.ref (tc_ad G 50), .int x1] μ (some (.int z.1)) z.2 :=
  tc_Con.of (L := [(0, .ref (tc_ad G 50)), (1, .int x1)]) (by decide) (Nat.le_of_ble_eq_true rfl) rfl (fun X => tc_b7_mends_0 N  _ _ _ h)
def tc_f7_mend (N : Nat) (x1 : Int32) (μ : tc_Mem) : Option (Int32 × tc_Mem) :=
  tc_bd (tc_f7_isSection N x1 μ) fun r1 μ2 =>
  if r1 = 0 then
    some ((-2), μ2)
  else
    tc_bd (tc_f7_mends N x1 μ2) fun r3 μ4 =>
    some (r3, μ4)
theorem tc_b7_mend_0 (N : Nat) (x1 : Int32) (μ : tc_Mem) (z : Int32 × tc_Mem) (h : tc_f7_mend N x1 μ = some z) : tc_At l G tc_i7_mend (some (.int z.1)) z.2 X 0 [(0, .ref (tc_ad G 50)), (1, .int x1)] [] μ := by
  unfold tc_f7_mend at h
  refine tc_aload_n tc_d7_mend_0 0 rfl ?_
  refine tc_iload_n tc_d7_mend_1 1 rfl ?_
  obtain ⟨r1, μ2, e1, h⟩ := tc_bdS h
  have c1 := tc_c7_isSection (l := l) (G := G) N e1
  refine tc_callVi (As := [.int x1]) (rest := []) (r1 := r1) (μ1 := μ2) tc_d7_mend_2 tc_ok7_isSection tc_w1016 ⟨Nat.le_of_ble_eq_true rfl, Nat.le_of_ble_eq_true rfl⟩ tc_s7 rfl c1 rfl rfl (Nat.le_of_ble_eq_true rfl) ?_
  refine tc_if_eq (tgt := 16) tc_d7_mend_5 (by decide) h (fun h => ?_) (fun h => ?_)
  · refine tc_bipush (v := (-2)) tc_d7_mend_16 (by decide) ?_
    exact tc_iret tc_d7_mend_18 rfl (tc_riS h)
  · refine tc_aload_n tc_d7_mend_8 0 rfl ?_
    refine tc_iload_n tc_d7_mend_9 1 rfl ?_
    obtain ⟨r3, μ4, e3, h⟩ := tc_bdS h
    have c3 := tc_c7_mends (l := l) (G := G) N e3
    refine tc_callVi (As := [.int x1]) (rest := []) (r1 := r3) (μ1 := μ4) tc_d7_mend_10 tc_ok7_mends tc_w1008 ⟨Nat.le_of_ble_eq_true rfl, Nat.le_of_ble_eq_true rfl⟩ tc_s7 rfl c3 rfl rfl (Nat.le_of_ble_eq_true rfl) ?_
    refine tc_goto (tgt := 18) tc_d7_mend_13 (by decide) ?_
    exact tc_iret tc_d7_mend_18 rfl (tc_riS h)
theorem tc_c7_mend (N : Nat) {x1 : Int32} {μ : tc_Mem} {z : Int32 × tc_Mem} (h : tc_f7_mend N x1 μ = some z) : tc_Con l G tc_i7_mend [.ref (tc_ad G 50), .int x1] μ (some (.int z.1)) z.2 :=
  tc_Con.of (L := [(0, .ref (tc_ad G 50)), (1, .int x1)]) (by decide) (Nat.le_of_ble_eq_true rfl) rfl (fun X => tc_b7_mend_0 N  _ _ _ h)
def tc_f7_rule_23 (N : Nat) (x1 : Int32) (x2 : Int32) (s0 : Int32) (s1 : Int32) (s2 : Int32) (μ : tc_Mem) : Option (Int32 × tc_Mem) :=
  tc_bd (tc_f7_in N s0 s1 s2 μ) fun r1 μ2 =>
  if r1 = 0 then
    some ((-2), μ2)
  else
    tc_ck x1 3 (
    tc_lt (μ2 58 x1.toNatClampNeg) fun v4 =>
    tc_ck x1 3 (
    tc_lt (tc_wr μ2 58 x1.toNatClampNeg x2) fun μ6 =>
    some (v4, μ6)))
theorem tc_b7_rule_23 (N : Nat) (x1 : Int32) (x2 : Int32) (s0 : Int32) (s1 : Int32) (s2 : Int32) (μ : tc_Mem) (z : Int32 × tc_Mem) (h : tc_f7_rule_23 N x1 x2 s0 s1 s2 μ = some z) : tc_At l G tc_i7_rule (some (.int z.1)) z.2 X 23 [(0, .ref (tc_ad G 50)), (1, .int x1), (2, .int x2)] [.int s2, .int s1, .int s0] μ := by
  unfold tc_f7_rule_23 at h
  obtain ⟨r1, μ2, e1, h⟩ := tc_bdS h
  have c1 := tc_c7_in (l := l) (G := G) N e1
  refine tc_callSi (As := [.int s0, .int s1, .int s2]) (rest := []) (r1 := r1) (μ1 := μ2) tc_d7_rule_23 tc_ok7_in tc_w1001 ⟨Nat.le_of_ble_eq_true rfl, Nat.le_of_ble_eq_true rfl⟩ c1 rfl rfl (Nat.le_of_ble_eq_true rfl) ?_
  refine tc_if_ne (tgt := 32) tc_d7_rule_26 (by decide) h (fun h => ?_) (fun h => ?_)
  · refine tc_aload_n tc_d7_rule_32 0 rfl ?_
    refine tc_g7_8 tc_d7_rule_33 tc_w886 ?_
    refine tc_iload_n tc_d7_rule_36 1 rfl ?_
    obtain ⟨hi3, h⟩ := tc_ckS h
    refine tc_iald tc_d7_rule_37 tc_aL58 hi3 ?_
    refine tc_ltI h (fun v4 h => ?_)
    refine tc_istore_n (L' := [(3, .int v4), (0, .ref (tc_ad G 50)), (1, .int x1), (2, .int x2)]) tc_d7_rule_38 (by decide) rfl ?_
    refine tc_aload_n tc_d7_rule_39 1 rfl ?_
    refine tc_g7_8 tc_d7_rule_40 tc_w886 ?_
    refine tc_iload_n tc_d7_rule_43 2 rfl ?_
    refine tc_iload_n tc_d7_rule_44 3 rfl ?_
    obtain ⟨hi5, h⟩ := tc_ckS h
    refine tc_iastL tc_d7_rule_45 tc_aL58 hi5 h (fun μ6 h => ?_)
    refine tc_iload_n tc_d7_rule_46 0 rfl ?_
    exact tc_iret tc_d7_rule_47 rfl (tc_riS h)
  · refine tc_bipush (v := (-2)) tc_d7_rule_29 (by decide) ?_
    exact tc_iret tc_d7_rule_31 rfl (tc_riS h)
def tc_f7_rule (N : Nat) (x1 : Int32) (x2 : Int32) (μ : tc_Mem) : Option (Int32 × tc_Mem) :=
  tc_bd (tc_f7_in N x1 0 2 μ) fun r1 μ2 =>
  if r1 = 0 then
    some ((-2), μ2)
  else
    if x1 = 2 then
      tc_f7_rule_23 N x1 x2 x2 0 9 μ2
    else
      tc_f7_rule_23 N x1 x2 x2 0 99 μ2
theorem tc_b7_rule_0 (N : Nat) (x1 : Int32) (x2 : Int32) (μ : tc_Mem) (z : Int32 × tc_Mem) (h : tc_f7_rule N x1 x2 μ = some z) : tc_At l G tc_i7_rule (some (.int z.1)) z.2 X 0 [(0, .ref (tc_ad G 50)), (1, .int x1), (2, .int x2)] [] μ := by
  unfold tc_f7_rule at h
  refine tc_iload_n tc_d7_rule_0 1 rfl ?_
  refine tc_iconst (v := 0) tc_d7_rule_1 (by decide) ?_
  refine tc_iconst (v := 2) tc_d7_rule_2 (by decide) ?_
  obtain ⟨r1, μ2, e1, h⟩ := tc_bdS h
  have c1 := tc_c7_in (l := l) (G := G) N e1
  refine tc_callSi (As := [.int x1, .int 0, .int 2]) (rest := []) (r1 := r1) (μ1 := μ2) tc_d7_rule_3 tc_ok7_in tc_w1001 ⟨Nat.le_of_ble_eq_true rfl, Nat.le_of_ble_eq_true rfl⟩ c1 rfl rfl (Nat.le_of_ble_eq_true rfl) ?_
  refine tc_if_eq (tgt := 29) tc_d7_rule_6 (by decide) h (fun h => ?_) (fun h => ?_)
  · refine tc_bipush (v := (-2)) tc_d7_rule_29 (by decide) ?_
    exact tc_iret tc_d7_rule_31 rfl (tc_riS h)
  · refine tc_iload_n tc_d7_rule_9 2 rfl ?_
    refine tc_iconst (v := 0) tc_d7_rule_10 (by decide) ?_
    refine tc_iload_n tc_d7_rule_11 1 rfl ?_
    refine tc_iconst (v := 2) tc_d7_rule_12 (by decide) ?_
    refine tc_icmp_ne (tgt := 21) tc_d7_rule_13 (by decide) h (fun h => ?_) (fun h => ?_)
    · refine tc_bipush (v := 99) tc_d7_rule_21 (by decide) ?_
      exact (tc_b7_rule_23 N _ _ _ _ _ _ _) h
    · refine tc_bipush (v := 9) tc_d7_rule_16 (by decide) ?_
      refine tc_goto (tgt := 23) tc_d7_rule_18 (by decide) ?_
      exact (tc_b7_rule_23 N _ _ _ _ _ _ _) h
theorem tc_c7_rule (N : Nat) {x1 : Int32} {x2 : Int32} {μ : tc_Mem} {z : Int32 × tc_Mem} (h : tc_f7_rule N x1 x2 μ = some z) : tc_Con l G tc_i7_rule [.ref (tc_ad G 50), .int x1, .int x2] μ (some (.int z.1)) z.2 :=
  tc_Con.of (L := [(0, .ref (tc_ad G 50)), (1, .int x1), (2, .int x2)]) (by decide) (Nat.le_of_ble_eq_true rfl) rfl (fun X => tc_b7_rule_0 N  _ _ _ _ h)
def tc_f7_moment_20 (N : Nat) : Nat → Int32 → Int32 → tc_Mem → Option (Int32 × tc_Mem)
  | 0 => fun _ _ _ => none
  | n + 1 => fun x1 x2 μ => 
    if x1 ≤ x2 then
      some (x1, μ)
    else
      tc_ck x2 40 (
      tc_ck x2 40 (
      tc_lt (tc_wr μ 62 x2.toNatClampNeg (μ 71 x2.toNatClampNeg)) fun μ3 =>
      tc_f7_moment_20 N  n x1 (x2 + 1) μ3))
theorem tc_b7_moment_20 (N : Nat) : ∀ (n : Nat) (x1 : Int32) (x2 : Int32) (μ : tc_Mem) (z : Int32 × tc_Mem), tc_f7_moment_20 N n x1 x2 μ = some z → tc_At l G tc_i7_moment (some (.int z.1)) z.2 X 20 [(0, .ref (tc_ad G 50)), (1, .int x1), (2, .int x2)] [] μ := by
  intro n
  induction n with
  | zero => intro x1 x2 μ z h; cases h
  | succ n ih =>
    intro x1 x2 μ z h
    rw [tc_f7_moment_20] at h
    refine tc_iload_n tc_d7_moment_20 2 rfl ?_
    refine tc_iload_n tc_d7_moment_21 1 rfl ?_
    refine tc_icmp_ge (tgt := 43) tc_d7_moment_22 (by decide) h (fun h => ?_) (fun h => ?_)
    · refine tc_iload_n tc_d7_moment_43 1 rfl ?_
      exact tc_iret tc_d7_moment_44 rfl (tc_riS h)
    · refine tc_aload_n tc_d7_moment_25 0 rfl ?_
      refine tc_g7_15 tc_d7_moment_26 tc_w893 ?_
      refine tc_iload_n tc_d7_moment_29 2 rfl ?_
      refine tc_aload_n tc_d7_moment_30 0 rfl ?_
      refine tc_g7_27 tc_d7_moment_31 tc_w905 ?_
      refine tc_iload_n tc_d7_moment_34 2 rfl ?_
      obtain ⟨hi1, h⟩ := tc_ckS h
      refine tc_iald tc_d7_moment_35 tc_aL71 hi1 ?_
      obtain ⟨hi2, h⟩ := tc_ckS h
      refine tc_iastL tc_d7_moment_36 tc_aL62 hi2 h (fun μ3 h => ?_)
      refine tc_iinc (v := (x2 + 1)) (L' := [(2, .int (x2 + 1)), (0, .ref (tc_ad G 50)), (1, .int x1)]) tc_d7_moment_37 2 rfl rfl (by decide) rfl ?_
      refine tc_goto (tgt := 20) tc_d7_moment_40 (by decide) ?_
      refine tc_sub [1, 2, 0] rfl ?_
      exact (ih _ _ _ _) h
def tc_f7_moment (N : Nat) (μ : tc_Mem) : Option (Int32 × tc_Mem) :=
  tc_bd (tc_f7_goes N 0 μ) fun r1 μ2 =>
  if (0 : Int32) ≤ r1 then
    tc_lt (tc_wr μ2 50 14 r1) fun μ3 =>
    tc_f7_moment_20 N N r1 0 μ3
  else
    some ((-3), μ2)
theorem tc_b7_moment_0 (N : Nat) (μ : tc_Mem) (z : Int32 × tc_Mem) (h : tc_f7_moment N μ = some z) : tc_At l G tc_i7_moment (some (.int z.1)) z.2 X 0 [(0, .ref (tc_ad G 50))] [] μ := by
  unfold tc_f7_moment at h
  refine tc_aload_n tc_d7_moment_0 0 rfl ?_
  refine tc_iconst (v := 0) tc_d7_moment_1 (by decide) ?_
  obtain ⟨r1, μ2, e1, h⟩ := tc_bdS h
  have c1 := tc_c7_goes (l := l) (G := G) N e1
  refine tc_callVi (As := [.int 0]) (rest := []) (r1 := r1) (μ1 := μ2) tc_d7_moment_2 tc_ok7_goes tc_w1097 ⟨Nat.le_of_ble_eq_true rfl, Nat.le_of_ble_eq_true rfl⟩ tc_s7 rfl c1 rfl rfl (Nat.le_of_ble_eq_true rfl) ?_
  refine tc_istore_n (L' := [(1, .int r1), (0, .ref (tc_ad G 50))]) tc_d7_moment_5 (by decide) rfl ?_
  refine tc_iload_n tc_d7_moment_6 0 rfl ?_
  refine tc_if_ge (tgt := 13) tc_d7_moment_7 (by decide) h (fun h => ?_) (fun h => ?_)
  · refine tc_aload_n tc_d7_moment_13 1 rfl ?_
    refine tc_iload_n tc_d7_moment_14 0 rfl ?_
    refine tc_p7_14 tc_d7_moment_15 tc_w892 h (fun μ3 h => ?_)
    refine tc_iconst (v := 0) tc_d7_moment_18 (by decide) ?_
    refine tc_istore_n (L' := [(2, .int 0), (1, .int r1), (0, .ref (tc_ad G 50))]) tc_d7_moment_19 (by decide) rfl ?_
    refine tc_sub [2, 1, 0] rfl ?_
    exact (tc_b7_moment_20 N N _ _ _ _) h
  · refine tc_bipush (v := (-3)) tc_d7_moment_10 (by decide) ?_
    exact tc_iret tc_d7_moment_12 rfl (tc_riS h)
theorem tc_c7_moment (N : Nat) {μ : tc_Mem} {z : Int32 × tc_Mem} (h : tc_f7_moment N μ = some z) : tc_Con l G tc_i7_moment [.ref (tc_ad G 50)] μ (some (.int z.1)) z.2 :=
  tc_Con.of (L := [(0, .ref (tc_ad G 50))]) (by decide) (Nat.le_of_ble_eq_true rfl) rfl (fun X => tc_b7_moment_0 N  _ _ h)
def tc_f7_drop (N : Nat) (μ : tc_Mem) : Option (Int32 × tc_Mem) :=
  if (μ 50 0) = 0 then
    some ((-3), μ)
  else
    tc_lt (tc_wr μ 50 0 ((μ 50 0) - 1)) fun μ1 =>
    tc_bd (tc_f7_mends N (μ1 50 0) μ1) fun r2 μ3 =>
    tc_ck (μ3 50 0) 8 (
    tc_lt (tc_wr μ3 57 (μ3 50 0).toNatClampNeg (vp_nar .boolean 0)) fun μ5 =>
    some ((μ5 50 0), μ5))
theorem tc_b7_drop_0 (N : Nat) (μ : tc_Mem) (z : Int32 × tc_Mem) (h : tc_f7_drop N μ = some z) : tc_At l G tc_i7_drop (some (.int z.1)) z.2 X 0 [(0, .ref (tc_ad G 50))] [] μ := by
  unfold tc_f7_drop at h
  refine tc_aload_n tc_d7_drop_0 0 rfl ?_
  refine tc_g7_0 tc_d7_drop_1 tc_w878 ?_
  refine tc_if_ne (tgt := 10) tc_d7_drop_4 (by decide) h (fun h => ?_) (fun h => ?_)
  · refine tc_aload_n tc_d7_drop_10 0 rfl ?_
    refine tc_dup tc_d7_drop_11 rfl ?_
    refine tc_g7_0 tc_d7_drop_12 tc_w878 ?_
    refine tc_iconst (v := 1) tc_d7_drop_15 (by decide) ?_
    refine tc_isub tc_d7_drop_16 ?_
    refine tc_p7_0 tc_d7_drop_17 tc_w878 h (fun μ1 h => ?_)
    refine tc_aload_n tc_d7_drop_20 0 rfl ?_
    refine tc_aload_n tc_d7_drop_21 0 rfl ?_
    refine tc_g7_0 tc_d7_drop_22 tc_w878 ?_
    obtain ⟨r2, μ3, e2, h⟩ := tc_bdS h
    have c2 := tc_c7_mends (l := l) (G := G) N e2
    refine tc_callVi (As := [.int (μ1 50 0)]) (rest := []) (r1 := r2) (μ1 := μ3) tc_d7_drop_25 tc_ok7_mends tc_w1008 ⟨Nat.le_of_ble_eq_true rfl, Nat.le_of_ble_eq_true rfl⟩ tc_s7 rfl c2 rfl rfl (Nat.le_of_ble_eq_true rfl) ?_
    refine tc_istore_n (L' := [(1, .int r2), (0, .ref (tc_ad G 50))]) tc_d7_drop_28 (by decide) rfl ?_
    refine tc_aload_n tc_d7_drop_29 1 rfl ?_
    refine tc_g7_7 tc_d7_drop_30 tc_w885 ?_
    refine tc_aload_n tc_d7_drop_33 1 rfl ?_
    refine tc_g7_0 tc_d7_drop_34 tc_w878 ?_
    refine tc_iconst (v := 0) tc_d7_drop_37 (by decide) ?_
    obtain ⟨hi4, h⟩ := tc_ckS h
    refine tc_zastL tc_d7_drop_38 tc_aL57 hi4 h (fun μ5 h => ?_)
    refine tc_aload_n tc_d7_drop_39 1 rfl ?_
    refine tc_g7_0 tc_d7_drop_40 tc_w878 ?_
    exact tc_iret tc_d7_drop_43 rfl (tc_riS h)
  · refine tc_bipush (v := (-3)) tc_d7_drop_7 (by decide) ?_
    exact tc_iret tc_d7_drop_9 rfl (tc_riS h)
theorem tc_c7_drop (N : Nat) {μ : tc_Mem} {z : Int32 × tc_Mem} (h : tc_f7_drop N μ = some z) : tc_Con l G tc_i7_drop [.ref (tc_ad G 50)] μ (some (.int z.1)) z.2 :=
  tc_Con.of (L := [(0, .ref (tc_ad G 50))]) (by decide) (Nat.le_of_ble_eq_true rfl) rfl (fun X => tc_b7_drop_0 N  _ _ h)
def tc_f7_does (N : Nat) (x1 : Int32) (μ : tc_Mem) : Option (Int32 × tc_Mem) :=
  if x1 < 0 ∨ 6 < x1 then
    tc_bd (tc_f7_drop N μ) fun r1 μ2 =>
    if r1 < 0 then
      some (0, μ2)
    else
      some (1, μ2)
  else if x1 = 0 then
    tc_ck 0 4 (
    tc_ck 1 4 (
    tc_ck 2 4 (
    tc_ck 3 4 (
    tc_bd (tc_f7_section N (μ 75 (0 : Int32).toNatClampNeg) (μ 75 (1 : Int32).toNatClampNeg) (μ 75 (2 : Int32).toNatClampNeg) (μ 75 (3 : Int32).toNatClampNeg) μ) fun r7 μ8 =>
    if r7 < 0 then
      some (0, μ8)
    else
      some (1, μ8)))))
  else if x1 = 1 then
    tc_ck 0 4 (
    tc_bd (tc_f7_train N (μ 75 (0 : Int32).toNatClampNeg) 1 μ) fun r10 μ11 =>
    if r10 < 0 then
      some (0, μ11)
    else
      some (1, μ11))
  else if x1 = 2 then
    tc_ck 0 4 (
    tc_bd (tc_f7_train N (μ 75 (0 : Int32).toNatClampNeg) 0 μ) fun r13 μ14 =>
    if r13 < 0 then
      some (0, μ14)
    else
      some (1, μ14))
  else if x1 = 3 then
    tc_ck 0 4 (
    tc_ck 1 4 (
    tc_bd (tc_f7_fault N (μ 75 (0 : Int32).toNatClampNeg) (μ 75 (1 : Int32).toNatClampNeg) μ) fun r17 μ18 =>
    if r17 < 0 then
      some (0, μ18)
    else
      some (1, μ18)))
  else if x1 = 4 then
    tc_ck 0 4 (
    tc_bd (tc_f7_mend N (μ 75 (0 : Int32).toNatClampNeg) μ) fun r20 μ21 =>
    if r20 < 0 then
      some (0, μ21)
    else
      some (1, μ21))
  else if x1 = 5 then
    tc_ck 0 4 (
    tc_bd (tc_f7_rule N 2 (μ 75 (0 : Int32).toNatClampNeg) μ) fun r23 μ24 =>
    if r23 < 0 then
      some (0, μ24)
    else
      some (1, μ24))
  else if x1 = 6 then
    tc_bd (tc_f7_moment N μ) fun r25 μ26 =>
    if r25 < 0 then
      some (0, μ26)
    else
      some (1, μ26)
  else none
theorem tc_b7_does_0 (N : Nat) (x1 : Int32) (μ : tc_Mem) (z : Int32 × tc_Mem) (h : tc_f7_does N x1 μ = some z) : tc_At l G tc_i7_does (some (.int z.1)) z.2 X 0 [(0, .ref (tc_ad G 50)), (1, .int x1)] [] μ := by
  unfold tc_f7_does at h
  refine tc_iload_n tc_d7_does_0 1 rfl ?_
  by_cases hq : x1 < 0 ∨ 6 < x1
  · rw [if_pos hq] at h
    refine tc_tswD (a := 0) (b := 6) (tgt := 198) tc_d7_does_1 ⟨by decide, by decide⟩ hq (by decide) ?_
    refine tc_aload_n tc_d7_does_198 0 rfl ?_
    obtain ⟨r1, μ2, e1, h⟩ := tc_bdS h
    have c1 := tc_c7_drop (l := l) (G := G) N e1
    refine tc_callVi (As := []) (rest := []) (r1 := r1) (μ1 := μ2) tc_d7_does_199 tc_ok7_drop tc_w1295 ⟨Nat.le_of_ble_eq_true rfl, Nat.le_of_ble_eq_true rfl⟩ tc_s7 rfl c1 rfl rfl (Nat.le_of_ble_eq_true rfl) ?_
    refine tc_if_lt (tgt := 209) tc_d7_does_202 (by decide) h (fun h => ?_) (fun h => ?_)
    · refine tc_iconst (v := 0) tc_d7_does_209 (by decide) ?_
      exact tc_zret tc_d7_does_210 rfl (by decide) (tc_riS h)
    · refine tc_iconst (v := 1) tc_d7_does_205 (by decide) ?_
      refine tc_goto (tgt := 210) tc_d7_does_206 (by decide) ?_
      exact tc_zret tc_d7_does_210 rfl (by decide) (tc_riS h)
  · rw [if_neg hq] at h
    by_cases hq : x1 = 0
    · rw [if_pos hq] at h
      refine tc_tswK (k := 0) (off := 43) (tgt := 44) tc_d7_does_1 hq (by decide) (by decide) rfl (by decide) ?_
      refine tc_aload_n tc_d7_does_44 0 rfl ?_
      refine tc_aload_n tc_d7_does_45 0 rfl ?_
      refine tc_g7_36 tc_d7_does_46 tc_w914 ?_
      refine tc_iconst (v := 0) tc_d7_does_49 (by decide) ?_
      obtain ⟨hi3, h⟩ := tc_ckS h
      refine tc_iald tc_d7_does_50 tc_aL75 hi3 ?_
      refine tc_aload_n tc_d7_does_51 0 rfl ?_
      refine tc_g7_36 tc_d7_does_52 tc_w914 ?_
      refine tc_iconst (v := 1) tc_d7_does_55 (by decide) ?_
      obtain ⟨hi4, h⟩ := tc_ckS h
      refine tc_iald tc_d7_does_56 tc_aL75 hi4 ?_
      refine tc_aload_n tc_d7_does_57 0 rfl ?_
      refine tc_g7_36 tc_d7_does_58 tc_w914 ?_
      refine tc_iconst (v := 2) tc_d7_does_61 (by decide) ?_
      obtain ⟨hi5, h⟩ := tc_ckS h
      refine tc_iald tc_d7_does_62 tc_aL75 hi5 ?_
      refine tc_aload_n tc_d7_does_63 0 rfl ?_
      refine tc_g7_36 tc_d7_does_64 tc_w914 ?_
      refine tc_iconst (v := 3) tc_d7_does_67 (by decide) ?_
      obtain ⟨hi6, h⟩ := tc_ckS h
      refine tc_iald tc_d7_does_68 tc_aL75 hi6 ?_
      obtain ⟨r7, μ8, e7, h⟩ := tc_bdS h
      have c7 := tc_c7_section (l := l) (G := G) N e7
      refine tc_callVi (As := [.int (μ 75 (0 : Int32).toNatClampNeg), .int (μ 75 (1 : Int32).toNatClampNeg), .int (μ 75 (2 : Int32).toNatClampNeg), .int (μ 75 (3 : Int32).toNatClampNeg)]) (rest := []) (r1 := r7) (μ1 := μ8) tc_d7_does_69 tc_ok7_section tc_w1289 ⟨Nat.le_of_ble_eq_true rfl, Nat.le_of_ble_eq_true rfl⟩ tc_s7 rfl c7 rfl rfl (Nat.le_of_ble_eq_true rfl) ?_
      refine tc_if_lt (tgt := 79) tc_d7_does_72 (by decide) h (fun h => ?_) (fun h => ?_)
      · refine tc_iconst (v := 0) tc_d7_does_79 (by decide) ?_
        exact tc_zret tc_d7_does_80 rfl (by decide) (tc_riS h)
      · refine tc_iconst (v := 1) tc_d7_does_75 (by decide) ?_
        refine tc_goto (tgt := 80) tc_d7_does_76 (by decide) ?_
        exact tc_zret tc_d7_does_80 rfl (by decide) (tc_riS h)
    · rw [if_neg hq] at h
      by_cases hq : x1 = 1
      · rw [if_pos hq] at h
        refine tc_tswK (k := 1) (off := 80) (tgt := 81) tc_d7_does_1 hq (by decide) (by decide) rfl (by decide) ?_
        refine tc_aload_n tc_d7_does_81 0 rfl ?_
        refine tc_aload_n tc_d7_does_82 0 rfl ?_
        refine tc_g7_36 tc_d7_does_83 tc_w914 ?_
        refine tc_iconst (v := 0) tc_d7_does_86 (by decide) ?_
        obtain ⟨hi9, h⟩ := tc_ckS h
        refine tc_iald tc_d7_does_87 tc_aL75 hi9 ?_
        refine tc_iconst (v := 1) tc_d7_does_88 (by decide) ?_
        obtain ⟨r10, μ11, e10, h⟩ := tc_bdS h
        have c10 := tc_c7_train (l := l) (G := G) N e10
        refine tc_callVi (As := [.int (μ 75 (0 : Int32).toNatClampNeg), .int 1]) (rest := []) (r1 := r10) (μ1 := μ11) tc_d7_does_89 tc_ok7_train tc_w1290 ⟨Nat.le_of_ble_eq_true rfl, Nat.le_of_ble_eq_true rfl⟩ tc_s7 rfl c10 rfl rfl (Nat.le_of_ble_eq_true rfl) ?_
        refine tc_if_lt (tgt := 99) tc_d7_does_92 (by decide) h (fun h => ?_) (fun h => ?_)
        · refine tc_iconst (v := 0) tc_d7_does_99 (by decide) ?_
          exact tc_zret tc_d7_does_100 rfl (by decide) (tc_riS h)
        · refine tc_iconst (v := 1) tc_d7_does_95 (by decide) ?_
          refine tc_goto (tgt := 100) tc_d7_does_96 (by decide) ?_
          exact tc_zret tc_d7_does_100 rfl (by decide) (tc_riS h)
      · rw [if_neg hq] at h
        by_cases hq : x1 = 2
        · rw [if_pos hq] at h
          refine tc_tswK (k := 2) (off := 100) (tgt := 101) tc_d7_does_1 hq (by decide) (by decide) rfl (by decide) ?_
          refine tc_aload_n tc_d7_does_101 0 rfl ?_
          refine tc_aload_n tc_d7_does_102 0 rfl ?_
          refine tc_g7_36 tc_d7_does_103 tc_w914 ?_
          refine tc_iconst (v := 0) tc_d7_does_106 (by decide) ?_
          obtain ⟨hi12, h⟩ := tc_ckS h
          refine tc_iald tc_d7_does_107 tc_aL75 hi12 ?_
          refine tc_iconst (v := 0) tc_d7_does_108 (by decide) ?_
          obtain ⟨r13, μ14, e13, h⟩ := tc_bdS h
          have c13 := tc_c7_train (l := l) (G := G) N e13
          refine tc_callVi (As := [.int (μ 75 (0 : Int32).toNatClampNeg), .int 0]) (rest := []) (r1 := r13) (μ1 := μ14) tc_d7_does_109 tc_ok7_train tc_w1290 ⟨Nat.le_of_ble_eq_true rfl, Nat.le_of_ble_eq_true rfl⟩ tc_s7 rfl c13 rfl rfl (Nat.le_of_ble_eq_true rfl) ?_
          refine tc_if_lt (tgt := 119) tc_d7_does_112 (by decide) h (fun h => ?_) (fun h => ?_)
          · refine tc_iconst (v := 0) tc_d7_does_119 (by decide) ?_
            exact tc_zret tc_d7_does_120 rfl (by decide) (tc_riS h)
          · refine tc_iconst (v := 1) tc_d7_does_115 (by decide) ?_
            refine tc_goto (tgt := 120) tc_d7_does_116 (by decide) ?_
            exact tc_zret tc_d7_does_120 rfl (by decide) (tc_riS h)
        · rw [if_neg hq] at h
          by_cases hq : x1 = 3
          · rw [if_pos hq] at h
            refine tc_tswK (k := 3) (off := 120) (tgt := 121) tc_d7_does_1 hq (by decide) (by decide) rfl (by decide) ?_
            refine tc_aload_n tc_d7_does_121 0 rfl ?_
            refine tc_aload_n tc_d7_does_122 0 rfl ?_
            refine tc_g7_36 tc_d7_does_123 tc_w914 ?_
            refine tc_iconst (v := 0) tc_d7_does_126 (by decide) ?_
            obtain ⟨hi15, h⟩ := tc_ckS h
            refine tc_iald tc_d7_does_127 tc_aL75 hi15 ?_
            refine tc_aload_n tc_d7_does_128 0 rfl ?_
            refine tc_g7_36 tc_d7_does_129 tc_w914 ?_
            refine tc_iconst (v := 1) tc_d7_does_132 (by decide) ?_
            obtain ⟨hi16, h⟩ := tc_ckS h
            refine tc_iald tc_d7_does_133 tc_aL75 hi16 ?_
            obtain ⟨r17, μ18, e17, h⟩ := tc_bdS h
            have c17 := tc_c7_fault (l := l) (G := G) N e17
            refine tc_callVi (As := [.int (μ 75 (0 : Int32).toNatClampNeg), .int (μ 75 (1 : Int32).toNatClampNeg)]) (rest := []) (r1 := r17) (μ1 := μ18) tc_d7_does_134 tc_ok7_fault tc_w1291 ⟨Nat.le_of_ble_eq_true rfl, Nat.le_of_ble_eq_true rfl⟩ tc_s7 rfl c17 rfl rfl (Nat.le_of_ble_eq_true rfl) ?_
            refine tc_if_lt (tgt := 144) tc_d7_does_137 (by decide) h (fun h => ?_) (fun h => ?_)
            · refine tc_iconst (v := 0) tc_d7_does_144 (by decide) ?_
              exact tc_zret tc_d7_does_145 rfl (by decide) (tc_riS h)
            · refine tc_iconst (v := 1) tc_d7_does_140 (by decide) ?_
              refine tc_goto (tgt := 145) tc_d7_does_141 (by decide) ?_
              exact tc_zret tc_d7_does_145 rfl (by decide) (tc_riS h)
          · rw [if_neg hq] at h
            by_cases hq : x1 = 4
            · rw [if_pos hq] at h
              refine tc_tswK (k := 4) (off := 145) (tgt := 146) tc_d7_does_1 hq (by decide) (by decide) rfl (by decide) ?_
              refine tc_aload_n tc_d7_does_146 0 rfl ?_
              refine tc_aload_n tc_d7_does_147 0 rfl ?_
              refine tc_g7_36 tc_d7_does_148 tc_w914 ?_
              refine tc_iconst (v := 0) tc_d7_does_151 (by decide) ?_
              obtain ⟨hi19, h⟩ := tc_ckS h
              refine tc_iald tc_d7_does_152 tc_aL75 hi19 ?_
              obtain ⟨r20, μ21, e20, h⟩ := tc_bdS h
              have c20 := tc_c7_mend (l := l) (G := G) N e20
              refine tc_callVi (As := [.int (μ 75 (0 : Int32).toNatClampNeg)]) (rest := []) (r1 := r20) (μ1 := μ21) tc_d7_does_153 tc_ok7_mend tc_w1292 ⟨Nat.le_of_ble_eq_true rfl, Nat.le_of_ble_eq_true rfl⟩ tc_s7 rfl c20 rfl rfl (Nat.le_of_ble_eq_true rfl) ?_
              refine tc_if_lt (tgt := 163) tc_d7_does_156 (by decide) h (fun h => ?_) (fun h => ?_)
              · refine tc_iconst (v := 0) tc_d7_does_163 (by decide) ?_
                exact tc_zret tc_d7_does_164 rfl (by decide) (tc_riS h)
              · refine tc_iconst (v := 1) tc_d7_does_159 (by decide) ?_
                refine tc_goto (tgt := 164) tc_d7_does_160 (by decide) ?_
                exact tc_zret tc_d7_does_164 rfl (by decide) (tc_riS h)
            · rw [if_neg hq] at h
              by_cases hq : x1 = 5
              · rw [if_pos hq] at h
                refine tc_tswK (k := 5) (off := 164) (tgt := 165) tc_d7_does_1 hq (by decide) (by decide) rfl (by decide) ?_
                refine tc_aload_n tc_d7_does_165 0 rfl ?_
                refine tc_iconst (v := 2) tc_d7_does_166 (by decide) ?_
                refine tc_aload_n tc_d7_does_167 0 rfl ?_
                refine tc_g7_36 tc_d7_does_168 tc_w914 ?_
                refine tc_iconst (v := 0) tc_d7_does_171 (by decide) ?_
                obtain ⟨hi22, h⟩ := tc_ckS h
                refine tc_iald tc_d7_does_172 tc_aL75 hi22 ?_
                obtain ⟨r23, μ24, e23, h⟩ := tc_bdS h
                have c23 := tc_c7_rule (l := l) (G := G) N e23
                refine tc_callVi (As := [.int 2, .int (μ 75 (0 : Int32).toNatClampNeg)]) (rest := []) (r1 := r23) (μ1 := μ24) tc_d7_does_173 tc_ok7_rule tc_w1293 ⟨Nat.le_of_ble_eq_true rfl, Nat.le_of_ble_eq_true rfl⟩ tc_s7 rfl c23 rfl rfl (Nat.le_of_ble_eq_true rfl) ?_
                refine tc_if_lt (tgt := 183) tc_d7_does_176 (by decide) h (fun h => ?_) (fun h => ?_)
                · refine tc_iconst (v := 0) tc_d7_does_183 (by decide) ?_
                  exact tc_zret tc_d7_does_184 rfl (by decide) (tc_riS h)
                · refine tc_iconst (v := 1) tc_d7_does_179 (by decide) ?_
                  refine tc_goto (tgt := 184) tc_d7_does_180 (by decide) ?_
                  exact tc_zret tc_d7_does_184 rfl (by decide) (tc_riS h)
              · rw [if_neg hq] at h
                by_cases hq : x1 = 6
                · rw [if_pos hq] at h
                  refine tc_tswK (k := 6) (off := 184) (tgt := 185) tc_d7_does_1 hq (by decide) (by decide) rfl (by decide) ?_
                  refine tc_aload_n tc_d7_does_185 0 rfl ?_
                  obtain ⟨r25, μ26, e25, h⟩ := tc_bdS h
                  have c25 := tc_c7_moment (l := l) (G := G) N e25
                  refine tc_callVi (As := []) (rest := []) (r1 := r25) (μ1 := μ26) tc_d7_does_186 tc_ok7_moment tc_w1294 ⟨Nat.le_of_ble_eq_true rfl, Nat.le_of_ble_eq_true rfl⟩ tc_s7 rfl c25 rfl rfl (Nat.le_of_ble_eq_true rfl) ?_
                  refine tc_if_lt (tgt := 196) tc_d7_does_189 (by decide) h (fun h => ?_) (fun h => ?_)
                  · refine tc_iconst (v := 0) tc_d7_does_196 (by decide) ?_
                    exact tc_zret tc_d7_does_197 rfl (by decide) (tc_riS h)
                  · refine tc_iconst (v := 1) tc_d7_does_192 (by decide) ?_
                    refine tc_goto (tgt := 197) tc_d7_does_193 (by decide) ?_
                    exact tc_zret tc_d7_does_197 rfl (by decide) (tc_riS h)
                · rw [if_neg hq] at h
                  cases h
theorem tc_c7_does (N : Nat) {x1 : Int32} {μ : tc_Mem} {z : Int32 × tc_Mem} (h : tc_f7_does N x1 μ = some z) : tc_Con l G tc_i7_does [.ref (tc_ad G 50), .int x1] μ (some (.int z.1)) z.2 :=
  tc_Con.of (L := [(0, .ref (tc_ad G 50)), (1, .int x1)]) (by decide) (Nat.le_of_ble_eq_true rfl) rfl (fun X => tc_b7_does_0 N  _ _ _ h)
def tc_f7_drawn_17 (N : Nat) (μ : tc_Mem) : Option (Int32 × tc_Mem) :=
  some ((-2), μ)
theorem tc_b7_drawn_17 (N : Nat) (μ : tc_Mem) (z : Int32 × tc_Mem) (h : tc_f7_drawn_17 N μ = some z) : tc_At l G tc_i7_drawn (some (.int z.1)) z.2 X 17 [] [] μ := by
  unfold tc_f7_drawn_17 at h
  refine tc_bipush (v := (-2)) tc_d7_drawn_17 (by decide) ?_
  refine tc_goto (tgt := 28) tc_d7_drawn_19 (by decide) ?_
  exact tc_iret tc_d7_drawn_28 rfl (tc_riS h)
def tc_f7_drawn (N : Nat) (x1 : Int32) (x2 : Int32) (μ : tc_Mem) : Option (Int32 × tc_Mem) :=
  tc_bd (tc_f7_in N x2 0 9 μ) fun r1 μ2 =>
  if r1 = 0 then
    tc_f7_drawn_17 N μ2
  else
    if (μ2 50 0) = 0 then
      tc_f7_drawn_17 N μ2
    else
      tc_bd (tc_f7_drawnBy N x1 x2 μ2) fun r3 μ4 =>
      some (r3, μ4)
theorem tc_b7_drawn_0 (N : Nat) (x1 : Int32) (x2 : Int32) (μ : tc_Mem) (z : Int32 × tc_Mem) (h : tc_f7_drawn N x1 x2 μ = some z) : tc_At l G tc_i7_drawn (some (.int z.1)) z.2 X 0 [(0, .ref (tc_ad G 50)), (1, .int x1), (2, .int x2)] [] μ := by
  unfold tc_f7_drawn at h
  refine tc_iload_n tc_d7_drawn_0 2 rfl ?_
  refine tc_iconst (v := 0) tc_d7_drawn_1 (by decide) ?_
  refine tc_bipush (v := 9) tc_d7_drawn_2 (by decide) ?_
  obtain ⟨r1, μ2, e1, h⟩ := tc_bdS h
  have c1 := tc_c7_in (l := l) (G := G) N e1
  refine tc_callSi (As := [.int x2, .int 0, .int 9]) (rest := []) (r1 := r1) (μ1 := μ2) tc_d7_drawn_4 tc_ok7_in tc_w1001 ⟨Nat.le_of_ble_eq_true rfl, Nat.le_of_ble_eq_true rfl⟩ c1 rfl rfl (Nat.le_of_ble_eq_true rfl) ?_
  refine tc_if_eq (tgt := 17) tc_d7_drawn_7 (by decide) h (fun h => ?_) (fun h => ?_)
  · refine tc_sub [] rfl ?_
    exact (tc_b7_drawn_17 N _ _) h
  · refine tc_aload_n tc_d7_drawn_10 0 rfl ?_
    refine tc_g7_0 tc_d7_drawn_11 tc_w878 ?_
    refine tc_if_ne (tgt := 22) tc_d7_drawn_14 (by decide) h (fun h => ?_) (fun h => ?_)
    · refine tc_aload_n tc_d7_drawn_22 0 rfl ?_
      refine tc_iload_n tc_d7_drawn_23 1 rfl ?_
      refine tc_iload_n tc_d7_drawn_24 2 rfl ?_
      obtain ⟨r3, μ4, e3, h⟩ := tc_bdS h
      have c3 := tc_c7_drawnBy (l := l) (G := G) N e3
      refine tc_callVi (As := [.int x1, .int x2]) (rest := []) (r1 := r3) (μ1 := μ4) tc_d7_drawn_25 tc_ok7_drawnBy tc_w1210 ⟨Nat.le_of_ble_eq_true rfl, Nat.le_of_ble_eq_true rfl⟩ tc_s7 rfl c3 rfl rfl (Nat.le_of_ble_eq_true rfl) ?_
      exact tc_iret tc_d7_drawn_28 rfl (tc_riS h)
    · refine tc_sub [] rfl ?_
      exact (tc_b7_drawn_17 N _ _) h
theorem tc_c7_drawn (N : Nat) {x1 : Int32} {x2 : Int32} {μ : tc_Mem} {z : Int32 × tc_Mem} (h : tc_f7_drawn N x1 x2 μ = some z) : tc_Con l G tc_i7_drawn [.ref (tc_ad G 50), .int x1, .int x2] μ (some (.int z.1)) z.2 :=
  tc_Con.of (L := [(0, .ref (tc_ad G 50)), (1, .int x1), (2, .int x2)]) (by decide) (Nat.le_of_ble_eq_true rfl) rfl (fun X => tc_b7_drawn_0 N  _ _ _ _ h)
def tc_f7_fails_56 (N : Nat) (s0 : Int32) (μ : tc_Mem) : Option (Int32 × tc_Mem) :=
  tc_bd (tc_f7_laysBack N μ) fun _ μ2 =>
  tc_zr s0 μ2
theorem tc_b7_fails_56 (N : Nat) (s0 : Int32) (μ : tc_Mem) (z : Int32 × tc_Mem) (h : tc_f7_fails_56 N s0 μ = some z) : tc_At l G tc_i7_fails (some (.int z.1)) z.2 X 56 [(0, .ref (tc_ad G 50))] [.int s0] μ := by
  unfold tc_f7_fails_56 at h
  refine tc_istore_n (L' := [(3, .int s0), (0, .ref (tc_ad G 50))]) tc_d7_fails_56 (by decide) rfl ?_
  refine tc_aload_n tc_d7_fails_57 1 rfl ?_
  obtain ⟨r1, μ2, e1, h⟩ := tc_bdS h
  have c1 := tc_c7_laysBack (l := l) (G := G) N e1
  refine tc_callVv (As := []) (rest := []) (μ1 := μ2) tc_d7_fails_58 tc_ok7_laysBack tc_w1150 ⟨Nat.le_of_ble_eq_true rfl, Nat.le_of_ble_eq_true rfl⟩ tc_s7 rfl c1 rfl rfl (Nat.le_of_ble_eq_true rfl) ?_
  refine tc_iload_n tc_d7_fails_61 0 rfl ?_
  exact tc_zret tc_d7_fails_62 rfl (tc_zrS h).1 (tc_zrS h).2
def tc_f7_fails_51 (N : Nat) (μ : tc_Mem) : Option (Int32 × tc_Mem) :=
  tc_f7_fails_56 N 1 μ
theorem tc_b7_fails_51 (N : Nat) (μ : tc_Mem) (z : Int32 × tc_Mem) (h : tc_f7_fails_51 N μ = some z) : tc_At l G tc_i7_fails (some (.int z.1)) z.2 X 51 [(0, .ref (tc_ad G 50))] [] μ := by
  unfold tc_f7_fails_51 at h
  refine tc_iconst (v := 1) tc_d7_fails_51 (by decide) ?_
  refine tc_goto (tgt := 56) tc_d7_fails_52 (by decide) ?_
  exact (tc_b7_fails_56 N _ _ _) h
def tc_f7_fails_35 (N : Nat) (μ : tc_Mem) : Option (Int32 × tc_Mem) :=
  tc_bd (tc_f7_goes N 0 μ) fun r1 μ2 =>
  if r1 < 0 then
    tc_f7_fails_51 N μ2
  else
    tc_bd (tc_f7_bitsOf N 1 μ2) fun r3 μ4 =>
    if r3 = 0 then
      tc_f7_fails_56 N 0 μ4
    else
      tc_f7_fails_51 N μ4
theorem tc_b7_fails_35 (N : Nat) (μ : tc_Mem) (z : Int32 × tc_Mem) (h : tc_f7_fails_35 N μ = some z) : tc_At l G tc_i7_fails (some (.int z.1)) z.2 X 35 [(0, .ref (tc_ad G 50))] [] μ := by
  unfold tc_f7_fails_35 at h
  refine tc_aload_n tc_d7_fails_35 0 rfl ?_
  refine tc_iconst (v := 0) tc_d7_fails_36 (by decide) ?_
  obtain ⟨r1, μ2, e1, h⟩ := tc_bdS h
  have c1 := tc_c7_goes (l := l) (G := G) N e1
  refine tc_callVi (As := [.int 0]) (rest := []) (r1 := r1) (μ1 := μ2) tc_d7_fails_37 tc_ok7_goes tc_w1097 ⟨Nat.le_of_ble_eq_true rfl, Nat.le_of_ble_eq_true rfl⟩ tc_s7 rfl c1 rfl rfl (Nat.le_of_ble_eq_true rfl) ?_
  refine tc_if_lt (tgt := 51) tc_d7_fails_40 (by decide) h (fun h => ?_) (fun h => ?_)
  · exact (tc_b7_fails_51 N _ _) h
  · refine tc_aload_n tc_d7_fails_43 0 rfl ?_
    refine tc_iconst (v := 1) tc_d7_fails_44 (by decide) ?_
    obtain ⟨r3, μ4, e3, h⟩ := tc_bdS h
    have c3 := tc_c7_bitsOf (l := l) (G := G) N e3
    refine tc_callVi (As := [.int 1]) (rest := []) (r1 := r3) (μ1 := μ4) tc_d7_fails_45 tc_ok7_bitsOf tc_w1061 ⟨Nat.le_of_ble_eq_true rfl, Nat.le_of_ble_eq_true rfl⟩ tc_s7 rfl c3 rfl rfl (Nat.le_of_ble_eq_true rfl) ?_
    refine tc_if_eq (tgt := 55) tc_d7_fails_48 (by decide) h (fun h => ?_) (fun h => ?_)
    · refine tc_iconst (v := 0) tc_d7_fails_55 (by decide) ?_
      exact (tc_b7_fails_56 N _ _ _) h
    · exact (tc_b7_fails_51 N _ _) h
def tc_f7_fails_22 (N : Nat) (x2 : Int32) (μ : tc_Mem) : Option (Int32 × tc_Mem) :=
  if x2 ≤ 0 then
    tc_f7_fails_35 N μ
  else
    tc_ck (x2 - 1) 8 (
    tc_lt (tc_wr μ 57 (x2 - 1).toNatClampNeg (vp_nar .boolean 1)) fun μ2 =>
    tc_f7_fails_35 N μ2)
theorem tc_b7_fails_22 (N : Nat) (x2 : Int32) (μ : tc_Mem) (z : Int32 × tc_Mem) (h : tc_f7_fails_22 N x2 μ = some z) : tc_At l G tc_i7_fails (some (.int z.1)) z.2 X 22 [(0, .ref (tc_ad G 50)), (2, .int x2)] [] μ := by
  unfold tc_f7_fails_22 at h
  refine tc_iload_n tc_d7_fails_22 1 rfl ?_
  refine tc_if_le (tgt := 35) tc_d7_fails_23 (by decide) h (fun h => ?_) (fun h => ?_)
  · refine tc_sub [0] rfl ?_
    exact (tc_b7_fails_35 N _ _) h
  · refine tc_aload_n tc_d7_fails_26 0 rfl ?_
    refine tc_g7_7 tc_d7_fails_27 tc_w885 ?_
    refine tc_iload_n tc_d7_fails_30 1 rfl ?_
    refine tc_iconst (v := 1) tc_d7_fails_31 (by decide) ?_
    refine tc_isub tc_d7_fails_32 ?_
    refine tc_iconst (v := 1) tc_d7_fails_33 (by decide) ?_
    obtain ⟨hi1, h⟩ := tc_ckS h
    refine tc_zastL tc_d7_fails_34 tc_aL57 hi1 h (fun μ2 h => ?_)
    refine tc_sub [0] rfl ?_
    exact (tc_b7_fails_35 N _ _) h
def tc_f7_fails (N : Nat) (x1 : Int32) (x2 : Int32) (μ : tc_Mem) : Option (Int32 × tc_Mem) :=
  tc_bd (tc_f7_keepsNow N μ) fun _ μ2 =>
  if x1 ≤ 0 then
    tc_f7_fails_22 N x2 μ2
  else
    tc_bd (tc_f7_addFault N ((x1 - 1) - (x1 - 1) / 4 * 4) ((x1 - 1) / 4) μ2) fun _ μ4 =>
    tc_f7_fails_22 N x2 μ4
theorem tc_b7_fails_0 (N : Nat) (x1 : Int32) (x2 : Int32) (μ : tc_Mem) (z : Int32 × tc_Mem) (h : tc_f7_fails N x1 x2 μ = some z) : tc_At l G tc_i7_fails (some (.int z.1)) z.2 X 0 [(0, .ref (tc_ad G 50)), (1, .int x1), (2, .int x2)] [] μ := by
  unfold tc_f7_fails at h
  refine tc_aload_n tc_d7_fails_0 0 rfl ?_
  obtain ⟨r1, μ2, e1, h⟩ := tc_bdS h
  have c1 := tc_c7_keepsNow (l := l) (G := G) N e1
  refine tc_callVv (As := []) (rest := []) (μ1 := μ2) tc_d7_fails_1 tc_ok7_keepsNow tc_w1145 ⟨Nat.le_of_ble_eq_true rfl, Nat.le_of_ble_eq_true rfl⟩ tc_s7 rfl c1 rfl rfl (Nat.le_of_ble_eq_true rfl) ?_
  refine tc_iload_n tc_d7_fails_4 1 rfl ?_
  refine tc_if_le (tgt := 22) tc_d7_fails_5 (by decide) h (fun h => ?_) (fun h => ?_)
  · refine tc_sub [0, 2] rfl ?_
    exact (tc_b7_fails_22 N _ _ _) h
  · refine tc_aload_n tc_d7_fails_8 0 rfl ?_
    refine tc_iload_n tc_d7_fails_9 1 rfl ?_
    refine tc_iconst (v := 1) tc_d7_fails_10 (by decide) ?_
    refine tc_isub tc_d7_fails_11 ?_
    refine tc_iconst (v := 4) tc_d7_fails_12 (by decide) ?_
    refine tc_irem tc_d7_fails_13 (by decide) ?_
    refine tc_iload_n tc_d7_fails_14 1 rfl ?_
    refine tc_iconst (v := 1) tc_d7_fails_15 (by decide) ?_
    refine tc_isub tc_d7_fails_16 ?_
    refine tc_iconst (v := 4) tc_d7_fails_17 (by decide) ?_
    refine tc_idiv tc_d7_fails_18 (by decide) ?_
    obtain ⟨r3, μ4, e3, h⟩ := tc_bdS h
    have c3 := tc_c7_addFault (l := l) (G := G) N e3
    refine tc_callVv (As := [.int ((x1 - 1) - (x1 - 1) / 4 * 4), .int ((x1 - 1) / 4)]) (rest := []) (μ1 := μ4) tc_d7_fails_19 tc_ok7_addFault tc_w1077 ⟨Nat.le_of_ble_eq_true rfl, Nat.le_of_ble_eq_true rfl⟩ tc_s7 rfl c3 rfl rfl (Nat.le_of_ble_eq_true rfl) ?_
    refine tc_sub [0, 2] rfl ?_
    exact (tc_b7_fails_22 N _ _ _) h
theorem tc_c7_fails (N : Nat) {x1 : Int32} {x2 : Int32} {μ : tc_Mem} {z : Int32 × tc_Mem} (h : tc_f7_fails N x1 x2 μ = some z) : tc_Con l G tc_i7_fails [.ref (tc_ad G 50), .int x1, .int x2] μ (some (.int z.1)) z.2 :=
  tc_Con.of (L := [(0, .ref (tc_ad G 50)), (1, .int x1), (2, .int x2)]) (by decide) (Nat.le_of_ble_eq_true rfl) rfl (fun X => tc_b7_fails_0 N  _ _ _ _ h)
def tc_f7_failsFrom_18 (N : Nat) : Nat → Int32 → Int32 → tc_Mem → Option (Int32 × tc_Mem)
  | 0 => fun _ _ _ => none
  | n + 1 => fun x2 x3 μ => 
    if x2 ≤ x3 then
      some ((-1), μ)
    else
      tc_nz ((μ 50 0) + 1) (
      tc_nz ((μ 50 0) + 1) (
      tc_bd (tc_f7_fails N (x3 / ((μ 50 0) + 1)) (x3 - x3 / ((μ 50 0) + 1) * ((μ 50 0) + 1)) μ) fun r3 μ4 =>
      if r3 = 0 then
        tc_f7_failsFrom_18 N  n x2 (x3 + 1) μ4
      else
        some (x3, μ4)))
theorem tc_b7_failsFrom_18 (N : Nat) : ∀ (n : Nat) (x2 : Int32) (x3 : Int32) (μ : tc_Mem) (z : Int32 × tc_Mem), tc_f7_failsFrom_18 N n x2 x3 μ = some z → tc_At l G tc_i7_failsFrom (some (.int z.1)) z.2 X 18 [(0, .ref (tc_ad G 50)), (2, .int x2), (3, .int x3)] [] μ := by
  intro n
  induction n with
  | zero => intro x2 x3 μ z h; cases h
  | succ n ih =>
    intro x2 x3 μ z h
    rw [tc_f7_failsFrom_18] at h
    refine tc_iload_n tc_d7_failsFrom_18 2 rfl ?_
    refine tc_iload_n tc_d7_failsFrom_19 1 rfl ?_
    refine tc_icmp_ge (tgt := 54) tc_d7_failsFrom_20 (by decide) h (fun h => ?_) (fun h => ?_)
    · refine tc_iconst (v := (-1)) tc_d7_failsFrom_54 (by decide) ?_
      exact tc_iret tc_d7_failsFrom_55 rfl (tc_riS h)
    · refine tc_aload_n tc_d7_failsFrom_23 0 rfl ?_
      refine tc_iload_n tc_d7_failsFrom_24 2 rfl ?_
      refine tc_aload_n tc_d7_failsFrom_25 0 rfl ?_
      refine tc_g7_0 tc_d7_failsFrom_26 tc_w878 ?_
      refine tc_iconst (v := 1) tc_d7_failsFrom_29 (by decide) ?_
      refine tc_iadd tc_d7_failsFrom_30 ?_
      obtain ⟨hn1, h⟩ := tc_nzS h
      refine tc_idiv tc_d7_failsFrom_31 hn1 ?_
      refine tc_iload_n tc_d7_failsFrom_32 2 rfl ?_
      refine tc_aload_n tc_d7_failsFrom_33 0 rfl ?_
      refine tc_g7_0 tc_d7_failsFrom_34 tc_w878 ?_
      refine tc_iconst (v := 1) tc_d7_failsFrom_37 (by decide) ?_
      refine tc_iadd tc_d7_failsFrom_38 ?_
      obtain ⟨hn2, h⟩ := tc_nzS h
      refine tc_irem tc_d7_failsFrom_39 hn2 ?_
      obtain ⟨r3, μ4, e3, h⟩ := tc_bdS h
      have c3 := tc_c7_fails (l := l) (G := G) N e3
      refine tc_callVi (As := [.int (x3 / ((μ 50 0) + 1)), .int (x3 - x3 / ((μ 50 0) + 1) * ((μ 50 0) + 1))]) (rest := []) (r1 := r3) (μ1 := μ4) tc_d7_failsFrom_40 tc_ok7_fails tc_w1190 ⟨Nat.le_of_ble_eq_true rfl, Nat.le_of_ble_eq_true rfl⟩ tc_s7 rfl c3 rfl rfl (Nat.le_of_ble_eq_true rfl) ?_
      refine tc_if_eq (tgt := 48) tc_d7_failsFrom_43 (by decide) h (fun h => ?_) (fun h => ?_)
      · refine tc_iinc (v := (x3 + 1)) (L' := [(3, .int (x3 + 1)), (0, .ref (tc_ad G 50)), (2, .int x2)]) tc_d7_failsFrom_48 2 rfl rfl (by decide) rfl ?_
        refine tc_goto (tgt := 18) tc_d7_failsFrom_51 (by decide) ?_
        refine tc_sub [1, 2, 0] rfl ?_
        exact (ih _ _ _ _) h
      · refine tc_iload_n tc_d7_failsFrom_46 2 rfl ?_
        exact tc_iret tc_d7_failsFrom_47 rfl (tc_riS h)
def tc_f7_failsFrom (N : Nat) (x1 : Int32) (μ : tc_Mem) : Option (Int32 × tc_Mem) :=
  tc_lt (((4 * (μ 50 0)) + 1) * ((μ 50 0) + 1)) fun v1 =>
  tc_f7_failsFrom_18 N N v1 x1 μ
theorem tc_b7_failsFrom_0 (N : Nat) (x1 : Int32) (μ : tc_Mem) (z : Int32 × tc_Mem) (h : tc_f7_failsFrom N x1 μ = some z) : tc_At l G tc_i7_failsFrom (some (.int z.1)) z.2 X 0 [(0, .ref (tc_ad G 50)), (1, .int x1)] [] μ := by
  unfold tc_f7_failsFrom at h
  refine tc_iconst (v := 4) tc_d7_failsFrom_0 (by decide) ?_
  refine tc_aload_n tc_d7_failsFrom_1 0 rfl ?_
  refine tc_g7_0 tc_d7_failsFrom_2 tc_w878 ?_
  refine tc_imul tc_d7_failsFrom_5 ?_
  refine tc_iconst (v := 1) tc_d7_failsFrom_6 (by decide) ?_
  refine tc_iadd tc_d7_failsFrom_7 ?_
  refine tc_aload_n tc_d7_failsFrom_8 0 rfl ?_
  refine tc_g7_0 tc_d7_failsFrom_9 tc_w878 ?_
  refine tc_iconst (v := 1) tc_d7_failsFrom_12 (by decide) ?_
  refine tc_iadd tc_d7_failsFrom_13 ?_
  refine tc_imul tc_d7_failsFrom_14 ?_
  refine tc_ltI h (fun v1 h => ?_)
  refine tc_istore_n (L' := [(2, .int v1), (0, .ref (tc_ad G 50)), (1, .int x1)]) tc_d7_failsFrom_15 (by decide) rfl ?_
  refine tc_iload_n tc_d7_failsFrom_16 2 rfl ?_
  refine tc_istore_n (L' := [(3, .int x1), (2, .int v1), (0, .ref (tc_ad G 50)), (1, .int x1)]) tc_d7_failsFrom_17 (by decide) rfl ?_
  refine tc_sub [2, 1, 0] rfl ?_
  exact (tc_b7_failsFrom_18 N N _ _ _ _) h
theorem tc_c7_failsFrom (N : Nat) {x1 : Int32} {μ : tc_Mem} {z : Int32 × tc_Mem} (h : tc_f7_failsFrom N x1 μ = some z) : tc_Con l G tc_i7_failsFrom [.ref (tc_ad G 50), .int x1] μ (some (.int z.1)) z.2 :=
  tc_Con.of (L := [(0, .ref (tc_ad G 50)), (1, .int x1)]) (by decide) (Nat.le_of_ble_eq_true rfl) rfl (fun X => tc_b7_failsFrom_0 N  _ _ _ h)
def tc_f7_faultOf (N : Nat) (x1 : Int32) (x2 : Int32) (μ : tc_Mem) : Option (Int32 × tc_Mem) :=
  tc_bd (tc_f7_in N x1 0 ((μ 50 9) - 1) μ) fun r1 μ2 =>
  if r1 = 0 then
    some ((-2), μ2)
  else
    if x2 < 0 ∨ 2 < x2 then
      some ((-2), μ2)
    else if x2 = 0 then
      tc_ck x1 20 (
      some ((μ2 59 x1.toNatClampNeg), μ2))
    else if x2 = 1 then
      tc_ck x1 20 (
      some ((μ2 60 x1.toNatClampNeg), μ2))
    else if x2 = 2 then
      tc_ck x1 20 (
      some ((μ2 61 x1.toNatClampNeg), μ2))
    else none
theorem tc_b7_faultOf_0 (N : Nat) (x1 : Int32) (x2 : Int32) (μ : tc_Mem) (z : Int32 × tc_Mem) (h : tc_f7_faultOf N x1 x2 μ = some z) : tc_At l G tc_i7_faultOf (some (.int z.1)) z.2 X 0 [(0, .ref (tc_ad G 50)), (1, .int x1), (2, .int x2)] [] μ := by
  unfold tc_f7_faultOf at h
  refine tc_iload_n tc_d7_faultOf_0 1 rfl ?_
  refine tc_iconst (v := 0) tc_d7_faultOf_1 (by decide) ?_
  refine tc_aload_n tc_d7_faultOf_2 0 rfl ?_
  refine tc_g7_9 tc_d7_faultOf_3 tc_w887 ?_
  refine tc_iconst (v := 1) tc_d7_faultOf_6 (by decide) ?_
  refine tc_isub tc_d7_faultOf_7 ?_
  obtain ⟨r1, μ2, e1, h⟩ := tc_bdS h
  have c1 := tc_c7_in (l := l) (G := G) N e1
  refine tc_callSi (As := [.int x1, .int 0, .int ((μ 50 9) - 1)]) (rest := []) (r1 := r1) (μ1 := μ2) tc_d7_faultOf_8 tc_ok7_in tc_w1001 ⟨Nat.le_of_ble_eq_true rfl, Nat.le_of_ble_eq_true rfl⟩ c1 rfl rfl (Nat.le_of_ble_eq_true rfl) ?_
  refine tc_if_ne (tgt := 17) tc_d7_faultOf_11 (by decide) h (fun h => ?_) (fun h => ?_)
  · refine tc_iload_n tc_d7_faultOf_17 2 rfl ?_
    by_cases hq : x2 < 0 ∨ 2 < x2
    · rw [if_pos hq] at h
      refine tc_tswD (a := 0) (b := 2) (tgt := 65) tc_d7_faultOf_18 ⟨by decide, by decide⟩ hq (by decide) ?_
      refine tc_bipush (v := (-2)) tc_d7_faultOf_65 (by decide) ?_
      exact tc_iret tc_d7_faultOf_67 rfl (tc_riS h)
    · rw [if_neg hq] at h
      by_cases hq : x2 = 0
      · rw [if_pos hq] at h
        refine tc_tswK (k := 0) (off := 26) (tgt := 44) tc_d7_faultOf_18 hq (by decide) (by decide) rfl (by decide) ?_
        refine tc_aload_n tc_d7_faultOf_44 0 rfl ?_
        refine tc_g7_10 tc_d7_faultOf_45 tc_w888 ?_
        refine tc_iload_n tc_d7_faultOf_48 1 rfl ?_
        obtain ⟨hi3, h⟩ := tc_ckS h
        refine tc_iald tc_d7_faultOf_49 tc_aL59 hi3 ?_
        exact tc_iret tc_d7_faultOf_50 rfl (tc_riS h)
      · rw [if_neg hq] at h
        by_cases hq : x2 = 1
        · rw [if_pos hq] at h
          refine tc_tswK (k := 1) (off := 33) (tgt := 51) tc_d7_faultOf_18 hq (by decide) (by decide) rfl (by decide) ?_
          refine tc_aload_n tc_d7_faultOf_51 0 rfl ?_
          refine tc_g7_11 tc_d7_faultOf_52 tc_w889 ?_
          refine tc_iload_n tc_d7_faultOf_55 1 rfl ?_
          obtain ⟨hi4, h⟩ := tc_ckS h
          refine tc_iald tc_d7_faultOf_56 tc_aL60 hi4 ?_
          exact tc_iret tc_d7_faultOf_57 rfl (tc_riS h)
        · rw [if_neg hq] at h
          by_cases hq : x2 = 2
          · rw [if_pos hq] at h
            refine tc_tswK (k := 2) (off := 40) (tgt := 58) tc_d7_faultOf_18 hq (by decide) (by decide) rfl (by decide) ?_
            refine tc_aload_n tc_d7_faultOf_58 0 rfl ?_
            refine tc_g7_12 tc_d7_faultOf_59 tc_w890 ?_
            refine tc_iload_n tc_d7_faultOf_62 1 rfl ?_
            obtain ⟨hi5, h⟩ := tc_ckS h
            refine tc_iald tc_d7_faultOf_63 tc_aL61 hi5 ?_
            exact tc_iret tc_d7_faultOf_64 rfl (tc_riS h)
          · rw [if_neg hq] at h
            cases h
  · refine tc_bipush (v := (-2)) tc_d7_faultOf_14 (by decide) ?_
    exact tc_iret tc_d7_faultOf_16 rfl (tc_riS h)
theorem tc_c7_faultOf (N : Nat) {x1 : Int32} {x2 : Int32} {μ : tc_Mem} {z : Int32 × tc_Mem} (h : tc_f7_faultOf N x1 x2 μ = some z) : tc_Con l G tc_i7_faultOf [.ref (tc_ad G 50), .int x1, .int x2] μ (some (.int z.1)) z.2 :=
  tc_Con.of (L := [(0, .ref (tc_ad G 50)), (1, .int x1), (2, .int x2)]) (by decide) (Nat.le_of_ble_eq_true rfl) rfl (fun X => tc_b7_faultOf_0 N  _ _ _ _ h)
def tc_f7_isByte (N : Nat) (x0 : Int32) (μ : tc_Mem) : Option (Int32 × tc_Mem) :=
  tc_bd (tc_f7_in N x0 0 255 μ) fun r1 μ2 =>
  tc_zr r1 μ2
theorem tc_b7_isByte_0 (N : Nat) (x0 : Int32) (μ : tc_Mem) (z : Int32 × tc_Mem) (h : tc_f7_isByte N x0 μ = some z) : tc_At l G tc_i7_isByte (some (.int z.1)) z.2 X 0 [(0, .int x0)] [] μ := by
  unfold tc_f7_isByte at h
  refine tc_iload_n tc_d7_isByte_0 0 rfl ?_
  refine tc_iconst (v := 0) tc_d7_isByte_1 (by decide) ?_
  refine tc_sipush (v := 255) tc_d7_isByte_2 (by decide) ?_
  obtain ⟨r1, μ2, e1, h⟩ := tc_bdS h
  have c1 := tc_c7_in (l := l) (G := G) N e1
  refine tc_callSi (As := [.int x0, .int 0, .int 255]) (rest := []) (r1 := r1) (μ1 := μ2) tc_d7_isByte_5 tc_ok7_in tc_w1001 ⟨Nat.le_of_ble_eq_true rfl, Nat.le_of_ble_eq_true rfl⟩ c1 rfl rfl (Nat.le_of_ble_eq_true rfl) ?_
  exact tc_zret tc_d7_isByte_8 rfl (tc_zrS h).1 (tc_zrS h).2
theorem tc_c7_isByte (N : Nat) {x0 : Int32} {μ : tc_Mem} {z : Int32 × tc_Mem} (h : tc_f7_isByte N x0 μ = some z) : tc_Con l G tc_i7_isByte [.int x0] μ (some (.int z.1)) z.2 :=
  tc_Con.of (L := [(0, .int x0)]) (by decide) (Nat.le_of_ble_eq_true rfl) rfl (fun X => tc_b7_isByte_0 N  _ _ _ h)
def tc_f7_feed_112 (N : Nat) (μ : tc_Mem) : Option (Int32 × tc_Mem) :=
  some ((μ 50 17), μ)
theorem tc_b7_feed_112 (N : Nat) (μ : tc_Mem) (z : Int32 × tc_Mem) (h : tc_f7_feed_112 N μ = some z) : tc_At l G tc_i7_feed (some (.int z.1)) z.2 X 112 [(0, .ref (tc_ad G 50))] [] μ := by
  unfold tc_f7_feed_112 at h
  refine tc_aload_n tc_d7_feed_112 0 rfl ?_
  refine tc_g7_17 tc_d7_feed_113 tc_w895 ?_
  exact tc_iret tc_d7_feed_116 rfl (tc_riS h)
def tc_f7_feed_101 (N : Nat) (x1 : Int32) (x6 : Int32) (μ : tc_Mem) : Option (Int32 × tc_Mem) :=
  if x1 ≤ 4 then
    tc_f7_feed_112 N μ
  else
    tc_bd (tc_f7_adds N x6 μ) fun _ μ2 =>
    tc_f7_feed_112 N μ2
theorem tc_b7_feed_101 (N : Nat) (x1 : Int32) (x6 : Int32) (μ : tc_Mem) (z : Int32 × tc_Mem) (h : tc_f7_feed_101 N x1 x6 μ = some z) : tc_At l G tc_i7_feed (some (.int z.1)) z.2 X 101 [(0, .ref (tc_ad G 50)), (1, .int x1), (6, .int x6)] [] μ := by
  unfold tc_f7_feed_101 at h
  refine tc_iload_n tc_d7_feed_101 1 rfl ?_
  refine tc_iconst (v := 4) tc_d7_feed_102 (by decide) ?_
  refine tc_icmp_le (tgt := 112) tc_d7_feed_103 (by decide) h (fun h => ?_) (fun h => ?_)
  · refine tc_sub [0] rfl ?_
    exact (tc_b7_feed_112 N _ _) h
  · refine tc_aload_n tc_d7_feed_106 0 rfl ?_
    refine tc_iload tc_d7_feed_107 2 rfl ?_
    obtain ⟨r1, μ2, e1, h⟩ := tc_bdS h
    have c1 := tc_c7_adds (l := l) (G := G) N e1
    refine tc_callVv (As := [.int x6]) (rest := []) (μ1 := μ2) tc_d7_feed_109 tc_ok7_adds tc_w1241 ⟨Nat.le_of_ble_eq_true rfl, Nat.le_of_ble_eq_true rfl⟩ tc_s7 rfl c1 rfl rfl (Nat.le_of_ble_eq_true rfl) ?_
    refine tc_sub [0] rfl ?_
    exact (tc_b7_feed_112 N _ _) h
def tc_f7_feed_90 (N : Nat) (x1 : Int32) (x5 : Int32) (x6 : Int32) (μ : tc_Mem) : Option (Int32 × tc_Mem) :=
  if x1 ≤ 3 then
    tc_f7_feed_101 N x1 x6 μ
  else
    tc_bd (tc_f7_adds N x5 μ) fun _ μ2 =>
    tc_f7_feed_101 N x1 x6 μ2
theorem tc_b7_feed_90 (N : Nat) (x1 : Int32) (x5 : Int32) (x6 : Int32) (μ : tc_Mem) (z : Int32 × tc_Mem) (h : tc_f7_feed_90 N x1 x5 x6 μ = some z) : tc_At l G tc_i7_feed (some (.int z.1)) z.2 X 90 [(0, .ref (tc_ad G 50)), (1, .int x1), (5, .int x5), (6, .int x6)] [] μ := by
  unfold tc_f7_feed_90 at h
  refine tc_iload_n tc_d7_feed_90 1 rfl ?_
  refine tc_iconst (v := 3) tc_d7_feed_91 (by decide) ?_
  refine tc_icmp_le (tgt := 101) tc_d7_feed_92 (by decide) h (fun h => ?_) (fun h => ?_)
  · refine tc_sub [0, 1, 3] rfl ?_
    exact (tc_b7_feed_101 N _ _ _ _) h
  · refine tc_aload_n tc_d7_feed_95 0 rfl ?_
    refine tc_iload tc_d7_feed_96 2 rfl ?_
    obtain ⟨r1, μ2, e1, h⟩ := tc_bdS h
    have c1 := tc_c7_adds (l := l) (G := G) N e1
    refine tc_callVv (As := [.int x5]) (rest := []) (μ1 := μ2) tc_d7_feed_98 tc_ok7_adds tc_w1241 ⟨Nat.le_of_ble_eq_true rfl, Nat.le_of_ble_eq_true rfl⟩ tc_s7 rfl c1 rfl rfl (Nat.le_of_ble_eq_true rfl) ?_
    refine tc_sub [0, 1, 3] rfl ?_
    exact (tc_b7_feed_101 N _ _ _ _) h
def tc_f7_feed_79 (N : Nat) (x1 : Int32) (x4 : Int32) (x5 : Int32) (x6 : Int32) (μ : tc_Mem) : Option (Int32 × tc_Mem) :=
  if x1 ≤ 2 then
    tc_f7_feed_90 N x1 x5 x6 μ
  else
    tc_bd (tc_f7_adds N x4 μ) fun _ μ2 =>
    tc_f7_feed_90 N x1 x5 x6 μ2
theorem tc_b7_feed_79 (N : Nat) (x1 : Int32) (x4 : Int32) (x5 : Int32) (x6 : Int32) (μ : tc_Mem) (z : Int32 × tc_Mem) (h : tc_f7_feed_79 N x1 x4 x5 x6 μ = some z) : tc_At l G tc_i7_feed (some (.int z.1)) z.2 X 79 [(0, .ref (tc_ad G 50)), (1, .int x1), (4, .int x4), (5, .int x5), (6, .int x6)] [] μ := by
  unfold tc_f7_feed_79 at h
  refine tc_iload_n tc_d7_feed_79 1 rfl ?_
  refine tc_iconst (v := 2) tc_d7_feed_80 (by decide) ?_
  refine tc_icmp_le (tgt := 90) tc_d7_feed_81 (by decide) h (fun h => ?_) (fun h => ?_)
  · refine tc_sub [0, 1, 3, 4] rfl ?_
    exact (tc_b7_feed_90 N _ _ _ _ _) h
  · refine tc_aload_n tc_d7_feed_84 0 rfl ?_
    refine tc_iload tc_d7_feed_85 2 rfl ?_
    obtain ⟨r1, μ2, e1, h⟩ := tc_bdS h
    have c1 := tc_c7_adds (l := l) (G := G) N e1
    refine tc_callVv (As := [.int x4]) (rest := []) (μ1 := μ2) tc_d7_feed_87 tc_ok7_adds tc_w1241 ⟨Nat.le_of_ble_eq_true rfl, Nat.le_of_ble_eq_true rfl⟩ tc_s7 rfl c1 rfl rfl (Nat.le_of_ble_eq_true rfl) ?_
    refine tc_sub [0, 1, 3, 4] rfl ?_
    exact (tc_b7_feed_90 N _ _ _ _ _) h
def tc_f7_feed (N : Nat) (x1 : Int32) (x2 : Int32) (x3 : Int32) (x4 : Int32) (x5 : Int32) (x6 : Int32) (μ : tc_Mem) : Option (Int32 × tc_Mem) :=
  tc_bd (tc_f7_in N x1 1 5 μ) fun r1 μ2 =>
  if r1 = 0 then
    some ((-2), μ2)
  else
    tc_bd (tc_f7_isByte N x2 μ2) fun r3 μ4 =>
    if r3 = 0 then
      some ((-2), μ4)
    else
      tc_bd (tc_f7_isByte N x3 μ4) fun r5 μ6 =>
      if r5 = 0 then
        some ((-2), μ6)
      else
        tc_bd (tc_f7_isByte N x4 μ6) fun r7 μ8 =>
        if r7 = 0 then
          some ((-2), μ8)
        else
          tc_bd (tc_f7_isByte N x5 μ8) fun r9 μ10 =>
          if r9 = 0 then
            some ((-2), μ10)
          else
            tc_bd (tc_f7_isByte N x6 μ10) fun r11 μ12 =>
            if r11 = 0 then
              some ((-2), μ12)
            else
              if ((μ12 50 17) + x1) ≤ 60 then
                tc_bd (tc_f7_adds N x2 μ12) fun _ μ14 =>
                if x1 ≤ 1 then
                  tc_f7_feed_79 N x1 x4 x5 x6 μ14
                else
                  tc_bd (tc_f7_adds N x3 μ14) fun _ μ16 =>
                  tc_f7_feed_79 N x1 x4 x5 x6 μ16
              else
                some ((-4), μ12)
theorem tc_b7_feed_0 (N : Nat) (x1 : Int32) (x2 : Int32) (x3 : Int32) (x4 : Int32) (x5 : Int32) (x6 : Int32) (μ : tc_Mem) (z : Int32 × tc_Mem) (h : tc_f7_feed N x1 x2 x3 x4 x5 x6 μ = some z) : tc_At l G tc_i7_feed (some (.int z.1)) z.2 X 0 [(0, .ref (tc_ad G 50)), (1, .int x1), (2, .int x2), (3, .int x3), (4, .int x4), (5, .int x5), (6, .int x6)] [] μ := by
  unfold tc_f7_feed at h
  refine tc_iload_n tc_d7_feed_0 1 rfl ?_
  refine tc_iconst (v := 1) tc_d7_feed_1 (by decide) ?_
  refine tc_iconst (v := 5) tc_d7_feed_2 (by decide) ?_
  obtain ⟨r1, μ2, e1, h⟩ := tc_bdS h
  have c1 := tc_c7_in (l := l) (G := G) N e1
  refine tc_callSi (As := [.int x1, .int 1, .int 5]) (rest := []) (r1 := r1) (μ1 := μ2) tc_d7_feed_3 tc_ok7_in tc_w1001 ⟨Nat.le_of_ble_eq_true rfl, Nat.le_of_ble_eq_true rfl⟩ c1 rfl rfl (Nat.le_of_ble_eq_true rfl) ?_
  refine tc_if_eq (tgt := 47) tc_d7_feed_6 (by decide) h (fun h => ?_) (fun h => ?_)
  · refine tc_bipush (v := (-2)) tc_d7_feed_47 (by decide) ?_
    exact tc_iret tc_d7_feed_49 rfl (tc_riS h)
  · refine tc_iload_n tc_d7_feed_9 2 rfl ?_
    obtain ⟨r3, μ4, e3, h⟩ := tc_bdS h
    have c3 := tc_c7_isByte (l := l) (G := G) N e3
    refine tc_callSi (As := [.int x2]) (rest := []) (r1 := r3) (μ1 := μ4) tc_d7_feed_10 tc_ok7_isByte tc_w1238 ⟨Nat.le_of_ble_eq_true rfl, Nat.le_of_ble_eq_true rfl⟩ c3 rfl rfl (Nat.le_of_ble_eq_true rfl) ?_
    refine tc_if_eq (tgt := 47) tc_d7_feed_13 (by decide) h (fun h => ?_) (fun h => ?_)
    · refine tc_bipush (v := (-2)) tc_d7_feed_47 (by decide) ?_
      exact tc_iret tc_d7_feed_49 rfl (tc_riS h)
    · refine tc_iload_n tc_d7_feed_16 3 rfl ?_
      obtain ⟨r5, μ6, e5, h⟩ := tc_bdS h
      have c5 := tc_c7_isByte (l := l) (G := G) N e5
      refine tc_callSi (As := [.int x3]) (rest := []) (r1 := r5) (μ1 := μ6) tc_d7_feed_17 tc_ok7_isByte tc_w1238 ⟨Nat.le_of_ble_eq_true rfl, Nat.le_of_ble_eq_true rfl⟩ c5 rfl rfl (Nat.le_of_ble_eq_true rfl) ?_
      refine tc_if_eq (tgt := 47) tc_d7_feed_20 (by decide) h (fun h => ?_) (fun h => ?_)
      · refine tc_bipush (v := (-2)) tc_d7_feed_47 (by decide) ?_
        exact tc_iret tc_d7_feed_49 rfl (tc_riS h)
      · refine tc_iload tc_d7_feed_23 4 rfl ?_
        obtain ⟨r7, μ8, e7, h⟩ := tc_bdS h
        have c7 := tc_c7_isByte (l := l) (G := G) N e7
        refine tc_callSi (As := [.int x4]) (rest := []) (r1 := r7) (μ1 := μ8) tc_d7_feed_25 tc_ok7_isByte tc_w1238 ⟨Nat.le_of_ble_eq_true rfl, Nat.le_of_ble_eq_true rfl⟩ c7 rfl rfl (Nat.le_of_ble_eq_true rfl) ?_
        refine tc_if_eq (tgt := 47) tc_d7_feed_28 (by decide) h (fun h => ?_) (fun h => ?_)
        · refine tc_bipush (v := (-2)) tc_d7_feed_47 (by decide) ?_
          exact tc_iret tc_d7_feed_49 rfl (tc_riS h)
        · refine tc_iload tc_d7_feed_31 5 rfl ?_
          obtain ⟨r9, μ10, e9, h⟩ := tc_bdS h
          have c9 := tc_c7_isByte (l := l) (G := G) N e9
          refine tc_callSi (As := [.int x5]) (rest := []) (r1 := r9) (μ1 := μ10) tc_d7_feed_33 tc_ok7_isByte tc_w1238 ⟨Nat.le_of_ble_eq_true rfl, Nat.le_of_ble_eq_true rfl⟩ c9 rfl rfl (Nat.le_of_ble_eq_true rfl) ?_
          refine tc_if_eq (tgt := 47) tc_d7_feed_36 (by decide) h (fun h => ?_) (fun h => ?_)
          · refine tc_bipush (v := (-2)) tc_d7_feed_47 (by decide) ?_
            exact tc_iret tc_d7_feed_49 rfl (tc_riS h)
          · refine tc_iload tc_d7_feed_39 6 rfl ?_
            obtain ⟨r11, μ12, e11, h⟩ := tc_bdS h
            have c11 := tc_c7_isByte (l := l) (G := G) N e11
            refine tc_callSi (As := [.int x6]) (rest := []) (r1 := r11) (μ1 := μ12) tc_d7_feed_41 tc_ok7_isByte tc_w1238 ⟨Nat.le_of_ble_eq_true rfl, Nat.le_of_ble_eq_true rfl⟩ c11 rfl rfl (Nat.le_of_ble_eq_true rfl) ?_
            refine tc_if_ne (tgt := 50) tc_d7_feed_44 (by decide) h (fun h => ?_) (fun h => ?_)
            · refine tc_aload_n tc_d7_feed_50 0 rfl ?_
              refine tc_g7_17 tc_d7_feed_51 tc_w895 ?_
              refine tc_iload_n tc_d7_feed_54 1 rfl ?_
              refine tc_iadd tc_d7_feed_55 ?_
              refine tc_bipush (v := 60) tc_d7_feed_56 (by decide) ?_
              refine tc_icmp_le (tgt := 64) tc_d7_feed_58 (by decide) h (fun h => ?_) (fun h => ?_)
              · refine tc_aload_n tc_d7_feed_64 0 rfl ?_
                refine tc_iload_n tc_d7_feed_65 2 rfl ?_
                obtain ⟨r13, μ14, e13, h⟩ := tc_bdS h
                have c13 := tc_c7_adds (l := l) (G := G) N e13
                refine tc_callVv (As := [.int x2]) (rest := []) (μ1 := μ14) tc_d7_feed_66 tc_ok7_adds tc_w1241 ⟨Nat.le_of_ble_eq_true rfl, Nat.le_of_ble_eq_true rfl⟩ tc_s7 rfl c13 rfl rfl (Nat.le_of_ble_eq_true rfl) ?_
                refine tc_iload_n tc_d7_feed_69 1 rfl ?_
                refine tc_iconst (v := 1) tc_d7_feed_70 (by decide) ?_
                refine tc_icmp_le (tgt := 79) tc_d7_feed_71 (by decide) h (fun h => ?_) (fun h => ?_)
                · refine tc_sub [0, 1, 4, 5, 6] rfl ?_
                  exact (tc_b7_feed_79 N _ _ _ _ _ _) h
                · refine tc_aload_n tc_d7_feed_74 0 rfl ?_
                  refine tc_iload_n tc_d7_feed_75 3 rfl ?_
                  obtain ⟨r15, μ16, e15, h⟩ := tc_bdS h
                  have c15 := tc_c7_adds (l := l) (G := G) N e15
                  refine tc_callVv (As := [.int x3]) (rest := []) (μ1 := μ16) tc_d7_feed_76 tc_ok7_adds tc_w1241 ⟨Nat.le_of_ble_eq_true rfl, Nat.le_of_ble_eq_true rfl⟩ tc_s7 rfl c15 rfl rfl (Nat.le_of_ble_eq_true rfl) ?_
                  refine tc_sub [0, 1, 4, 5, 6] rfl ?_
                  exact (tc_b7_feed_79 N _ _ _ _ _ _) h
              · refine tc_bipush (v := (-4)) tc_d7_feed_61 (by decide) ?_
                exact tc_iret tc_d7_feed_63 rfl (tc_riS h)
            · refine tc_bipush (v := (-2)) tc_d7_feed_47 (by decide) ?_
              exact tc_iret tc_d7_feed_49 rfl (tc_riS h)
theorem tc_c7_feed (N : Nat) {x1 : Int32} {x2 : Int32} {x3 : Int32} {x4 : Int32} {x5 : Int32} {x6 : Int32} {μ : tc_Mem} {z : Int32 × tc_Mem} (h : tc_f7_feed N x1 x2 x3 x4 x5 x6 μ = some z) : tc_Con l G tc_i7_feed [.ref (tc_ad G 50), .int x1, .int x2, .int x3, .int x4, .int x5, .int x6] μ (some (.int z.1)) z.2 :=
  tc_Con.of (L := [(0, .ref (tc_ad G 50)), (1, .int x1), (2, .int x2), (3, .int x3), (4, .int x4), (5, .int x5), (6, .int x6)]) (by decide) (Nat.le_of_ble_eq_true rfl) rfl (fun X => tc_b7_feed_0 N  _ _ _ _ _ _ _ _ h)
def tc_f7_film_84 (N : Nat) (k38 : Int32 → Int32 → Int32 → Int32 → Int32 → tc_Mem → Option (Int32 × tc_Mem)) (x1 : Int32) (x2 : Int32) (x3 : Int32) (x4 : Int32) (x5 : Int32) (s1 : Int32) (s2 : Int32) (μ : tc_Mem) : Option (Int32 × tc_Mem) :=
  tc_ck s1 40 (
  tc_lt (tc_wr μ 67 s1.toNatClampNeg s2) fun μ2 =>
  tc_bd (tc_f7_goTrains N μ2) fun _ μ4 =>
  k38 x1 x2 x3 x4 (x5 + 1) μ4)
theorem tc_b7_film_84 (N : Nat) {k38 : Int32 → Int32 → Int32 → Int32 → Int32 → tc_Mem → Option (Int32 × tc_Mem)} (H38 : ∀ (x1 : Int32) (x2 : Int32) (x3 : Int32) (x4 : Int32) (x5 : Int32) (μ : tc_Mem) (z : Int32 × tc_Mem), k38 x1 x2 x3 x4 x5 μ = some z → tc_At l G tc_i7_film (some (.int z.1)) z.2 X 38 [(0, .ref (tc_ad G 50)), (1, .int x1), (2, .int x2), (3, .int x3), (4, .int x4), (5, .int x5)] [] μ) (x1 : Int32) (x2 : Int32) (x3 : Int32) (x4 : Int32) (x5 : Int32) (s1 : Int32) (s2 : Int32) (μ : tc_Mem) (z : Int32 × tc_Mem) (h : tc_f7_film_84 N k38 x1 x2 x3 x4 x5 s1 s2 μ = some z) : tc_At l G tc_i7_film (some (.int z.1)) z.2 X 84 [(0, .ref (tc_ad G 50)), (1, .int x1), (2, .int x2), (3, .int x3), (4, .int x4), (5, .int x5)] [.int s2, .int s1, .ref (tc_ad G 67)] μ := by
  unfold tc_f7_film_84 at h
  obtain ⟨hi1, h⟩ := tc_ckS h
  refine tc_iastL tc_d7_film_84 tc_aL67 hi1 h (fun μ2 h => ?_)
  refine tc_aload_n tc_d7_film_85 0 rfl ?_
  obtain ⟨r3, μ4, e3, h⟩ := tc_bdS h
  have c3 := tc_c7_goTrains (l := l) (G := G) N e3
  refine tc_callVv (As := []) (rest := []) (μ1 := μ4) tc_d7_film_86 tc_ok7_goTrains tc_w1057 ⟨Nat.le_of_ble_eq_true rfl, Nat.le_of_ble_eq_true rfl⟩ tc_s7 rfl c3 rfl rfl (Nat.le_of_ble_eq_true rfl) ?_
  refine tc_iinc (v := (x5 + 1)) (L' := [(5, .int (x5 + 1)), (0, .ref (tc_ad G 50)), (1, .int x1), (2, .int x2), (3, .int x3), (4, .int x4)]) tc_d7_film_89 5 rfl rfl (by decide) rfl ?_
  refine tc_goto (tgt := 38) tc_d7_film_92 (by decide) ?_
  refine tc_sub [1, 2, 3, 4, 5, 0] rfl ?_
  exact (H38 _ _ _ _ _ _ _) h
def tc_f7_film_62 (N : Nat) (k38 : Int32 → Int32 → Int32 → Int32 → Int32 → tc_Mem → Option (Int32 × tc_Mem)) (x1 : Int32) (x2 : Int32) (x3 : Int32) (x5 : Int32) (s0 : Int32) (μ : tc_Mem) : Option (Int32 × tc_Mem) :=
  tc_ck x2 8 (
  if (μ 56 x2.toNatClampNeg) = 0 then
    tc_f7_film_84 N k38 x1 x2 x3 s0 x5 x5 0 μ
  else
    tc_f7_film_84 N k38 x1 x2 x3 s0 x5 x5 1 μ)
theorem tc_b7_film_62 (N : Nat) {k38 : Int32 → Int32 → Int32 → Int32 → Int32 → tc_Mem → Option (Int32 × tc_Mem)} (H38 : ∀ (x1 : Int32) (x2 : Int32) (x3 : Int32) (x4 : Int32) (x5 : Int32) (μ : tc_Mem) (z : Int32 × tc_Mem), k38 x1 x2 x3 x4 x5 μ = some z → tc_At l G tc_i7_film (some (.int z.1)) z.2 X 38 [(0, .ref (tc_ad G 50)), (1, .int x1), (2, .int x2), (3, .int x3), (4, .int x4), (5, .int x5)] [] μ) (x1 : Int32) (x2 : Int32) (x3 : Int32) (x5 : Int32) (s0 : Int32) (μ : tc_Mem) (z : Int32 × tc_Mem) (h : tc_f7_film_62 N k38 x1 x2 x3 x5 s0 μ = some z) : tc_At l G tc_i7_film (some (.int z.1)) z.2 X 62 [(0, .ref (tc_ad G 50)), (1, .int x1), (2, .int x2), (3, .int x3), (5, .int x5)] [.int s0] μ := by
  unfold tc_f7_film_62 at h
  refine tc_istore (L' := [(4, .int s0), (0, .ref (tc_ad G 50)), (1, .int x1), (2, .int x2), (3, .int x3), (5, .int x5)]) tc_d7_film_62 (by decide) rfl ?_
  refine tc_aload_n tc_d7_film_64 1 rfl ?_
  refine tc_g7_21 tc_d7_film_65 tc_w899 ?_
  refine tc_iload tc_d7_film_68 5 rfl ?_
  refine tc_aload_n tc_d7_film_70 1 rfl ?_
  refine tc_g7_6 tc_d7_film_71 tc_w884 ?_
  refine tc_iload_n tc_d7_film_74 3 rfl ?_
  obtain ⟨hi1, h⟩ := tc_ckS h
  refine tc_zald tc_d7_film_75 tc_aL56 hi1 ?_
  refine tc_if_eq (tgt := 83) tc_d7_film_76 (by decide) h (fun h => ?_) (fun h => ?_)
  · refine tc_iconst (v := 0) tc_d7_film_83 (by decide) ?_
    refine tc_sub [1, 2, 3, 4, 0, 5] rfl ?_
    exact (tc_b7_film_84 N H38 _ _ _ _ _ _ _ _ _) h
  · refine tc_iconst (v := 1) tc_d7_film_79 (by decide) ?_
    refine tc_goto (tgt := 84) tc_d7_film_80 (by decide) ?_
    refine tc_sub [1, 2, 3, 4, 0, 5] rfl ?_
    exact (tc_b7_film_84 N H38 _ _ _ _ _ _ _ _ _) h
def tc_f7_film_124 (N : Nat) : Nat → Int32 → Int32 → Int32 → tc_Mem → Option (Int32 × tc_Mem)
  | 0 => fun _ _ _ _ => none
  | n + 1 => fun x1 x3 x5 μ => 
    if x3 ≤ x5 then
      some (x3, μ)
    else
      tc_ck x5 40 (
      tc_ck ((40 * x1) + x5) 160 (
      tc_lt (tc_wr μ 66 ((40 * x1) + x5).toNatClampNeg (μ 67 x5.toNatClampNeg)) fun μ3 =>
      tc_f7_film_124 N  n x1 x3 (x5 + 1) μ3))
theorem tc_b7_film_124 (N : Nat) : ∀ (n : Nat) (x1 : Int32) (x3 : Int32) (x5 : Int32) (μ : tc_Mem) (z : Int32 × tc_Mem), tc_f7_film_124 N n x1 x3 x5 μ = some z → tc_At l G tc_i7_film (some (.int z.1)) z.2 X 124 [(0, .ref (tc_ad G 50)), (1, .int x1), (3, .int x3), (5, .int x5)] [] μ := by
  intro n
  induction n with
  | zero => intro x1 x3 x5 μ z h; cases h
  | succ n ih =>
    intro x1 x3 x5 μ z h
    rw [tc_f7_film_124] at h
    refine tc_iload tc_d7_film_124 3 rfl ?_
    refine tc_iload_n tc_d7_film_126 2 rfl ?_
    refine tc_icmp_ge (tgt := 155) tc_d7_film_127 (by decide) h (fun h => ?_) (fun h => ?_)
    · refine tc_iload_n tc_d7_film_155 2 rfl ?_
      exact tc_iret tc_d7_film_156 rfl (tc_riS h)
    · refine tc_aload_n tc_d7_film_130 0 rfl ?_
      refine tc_g7_20 tc_d7_film_131 tc_w898 ?_
      refine tc_bipush (v := 40) tc_d7_film_134 (by decide) ?_
      refine tc_iload_n tc_d7_film_136 1 rfl ?_
      refine tc_imul tc_d7_film_137 ?_
      refine tc_iload tc_d7_film_138 3 rfl ?_
      refine tc_iadd tc_d7_film_140 ?_
      refine tc_aload_n tc_d7_film_141 0 rfl ?_
      refine tc_g7_21 tc_d7_film_142 tc_w899 ?_
      refine tc_iload tc_d7_film_145 3 rfl ?_
      obtain ⟨hi1, h⟩ := tc_ckS h
      refine tc_iald tc_d7_film_147 tc_aL67 hi1 ?_
      obtain ⟨hi2, h⟩ := tc_ckS h
      refine tc_iastL tc_d7_film_148 tc_aL66 hi2 h (fun μ3 h => ?_)
      refine tc_iinc (v := (x5 + 1)) (L' := [(5, .int (x5 + 1)), (0, .ref (tc_ad G 50)), (1, .int x1), (3, .int x3)]) tc_d7_film_149 3 rfl rfl (by decide) rfl ?_
      refine tc_goto (tgt := 124) tc_d7_film_152 (by decide) ?_
      refine tc_sub [1, 2, 3, 0] rfl ?_
      exact (ih _ _ _ _ _) h
def tc_f7_film_95 (N : Nat) (x1 : Int32) (x3 : Int32) (x4 : Int32) (μ : tc_Mem) : Option (Int32 × tc_Mem) :=
  tc_bd (tc_f7_laysBack N μ) fun _ μ2 =>
  if x4 = 0 then
    some ((-3), μ2)
  else
    tc_ck x1 4 (
    tc_lt (tc_wr μ2 64 x1.toNatClampNeg 0) fun μ4 =>
    tc_ck x1 4 (
    tc_lt (tc_wr μ4 65 x1.toNatClampNeg x3) fun μ6 =>
    tc_f7_film_124 N N x1 x3 0 μ6))
theorem tc_b7_film_95 (N : Nat) (x1 : Int32) (x3 : Int32) (x4 : Int32) (μ : tc_Mem) (z : Int32 × tc_Mem) (h : tc_f7_film_95 N x1 x3 x4 μ = some z) : tc_At l G tc_i7_film (some (.int z.1)) z.2 X 95 [(0, .ref (tc_ad G 50)), (1, .int x1), (3, .int x3), (4, .int x4)] [] μ := by
  unfold tc_f7_film_95 at h
  refine tc_aload_n tc_d7_film_95 0 rfl ?_
  obtain ⟨r1, μ2, e1, h⟩ := tc_bdS h
  have c1 := tc_c7_laysBack (l := l) (G := G) N e1
  refine tc_callVv (As := []) (rest := []) (μ1 := μ2) tc_d7_film_96 tc_ok7_laysBack tc_w1150 ⟨Nat.le_of_ble_eq_true rfl, Nat.le_of_ble_eq_true rfl⟩ tc_s7 rfl c1 rfl rfl (Nat.le_of_ble_eq_true rfl) ?_
  refine tc_iload tc_d7_film_99 3 rfl ?_
  refine tc_if_ne (tgt := 107) tc_d7_film_101 (by decide) h (fun h => ?_) (fun h => ?_)
  · refine tc_aload_n tc_d7_film_107 0 rfl ?_
    refine tc_g7_18 tc_d7_film_108 tc_w896 ?_
    refine tc_iload_n tc_d7_film_111 1 rfl ?_
    refine tc_iconst (v := 0) tc_d7_film_112 (by decide) ?_
    obtain ⟨hi3, h⟩ := tc_ckS h
    refine tc_iastL tc_d7_film_113 tc_aL64 hi3 h (fun μ4 h => ?_)
    refine tc_aload_n tc_d7_film_114 0 rfl ?_
    refine tc_g7_19 tc_d7_film_115 tc_w897 ?_
    refine tc_iload_n tc_d7_film_118 1 rfl ?_
    refine tc_iload_n tc_d7_film_119 2 rfl ?_
    obtain ⟨hi5, h⟩ := tc_ckS h
    refine tc_iastL tc_d7_film_120 tc_aL65 hi5 h (fun μ6 h => ?_)
    refine tc_iconst (v := 0) tc_d7_film_121 (by decide) ?_
    refine tc_istore (L' := [(5, .int 0), (0, .ref (tc_ad G 50)), (1, .int x1), (3, .int x3), (4, .int x4)]) tc_d7_film_122 (by decide) rfl ?_
    refine tc_sub [1, 2, 3, 0] rfl ?_
    exact (tc_b7_film_124 N N _ _ _ _ _) h
  · refine tc_bipush (v := (-3)) tc_d7_film_104 (by decide) ?_
    exact tc_iret tc_d7_film_106 rfl (tc_riS h)
def tc_f7_film_38 (N : Nat) : Nat → Int32 → Int32 → Int32 → Int32 → Int32 → tc_Mem → Option (Int32 × tc_Mem)
  | 0 => fun _ _ _ _ _ _ => none
  | n + 1 => fun x1 x2 x3 x4 x5 μ => 
    if x3 ≤ x5 then
      tc_f7_film_95 N x1 x3 x4 μ
    else
      if x4 = 0 then
        tc_f7_film_95 N x1 x3 x4 μ
      else
        tc_bd (tc_f7_goes N 0 μ) fun r1 μ2 =>
        if r1 < 0 then
          tc_f7_film_62 N (tc_f7_film_38 N n) x1 x2 x3 x5 0 μ2
        else
          tc_f7_film_62 N (tc_f7_film_38 N n) x1 x2 x3 x5 1 μ2
theorem tc_b7_film_38 (N : Nat) : ∀ (n : Nat) (x1 : Int32) (x2 : Int32) (x3 : Int32) (x4 : Int32) (x5 : Int32) (μ : tc_Mem) (z : Int32 × tc_Mem), tc_f7_film_38 N n x1 x2 x3 x4 x5 μ = some z → tc_At l G tc_i7_film (some (.int z.1)) z.2 X 38 [(0, .ref (tc_ad G 50)), (1, .int x1), (2, .int x2), (3, .int x3), (4, .int x4), (5, .int x5)] [] μ := by
  intro n
  induction n with
  | zero => intro x1 x2 x3 x4 x5 μ z h; cases h
  | succ n ih =>
    intro x1 x2 x3 x4 x5 μ z h
    rw [tc_f7_film_38] at h
    refine tc_iload tc_d7_film_38 5 rfl ?_
    refine tc_iload_n tc_d7_film_40 3 rfl ?_
    refine tc_icmp_ge (tgt := 95) tc_d7_film_41 (by decide) h (fun h => ?_) (fun h => ?_)
    · refine tc_sub [0, 1, 3, 4] rfl ?_
      exact (tc_b7_film_95 N _ _ _ _ _) h
    · refine tc_iload tc_d7_film_44 4 rfl ?_
      refine tc_if_eq (tgt := 95) tc_d7_film_46 (by decide) h (fun h => ?_) (fun h => ?_)
      · refine tc_sub [0, 1, 3, 4] rfl ?_
        exact (tc_b7_film_95 N _ _ _ _ _) h
      · refine tc_aload_n tc_d7_film_49 0 rfl ?_
        refine tc_iconst (v := 0) tc_d7_film_50 (by decide) ?_
        obtain ⟨r1, μ2, e1, h⟩ := tc_bdS h
        have c1 := tc_c7_goes (l := l) (G := G) N e1
        refine tc_callVi (As := [.int 0]) (rest := []) (r1 := r1) (μ1 := μ2) tc_d7_film_51 tc_ok7_goes tc_w1097 ⟨Nat.le_of_ble_eq_true rfl, Nat.le_of_ble_eq_true rfl⟩ tc_s7 rfl c1 rfl rfl (Nat.le_of_ble_eq_true rfl) ?_
        refine tc_if_lt (tgt := 61) tc_d7_film_54 (by decide) h (fun h => ?_) (fun h => ?_)
        · refine tc_iconst (v := 0) tc_d7_film_61 (by decide) ?_
          refine tc_sub [0, 1, 2, 3, 5] rfl ?_
          exact (tc_b7_film_62 N ih _ _ _ _ _ _ _) h
        · refine tc_iconst (v := 1) tc_d7_film_57 (by decide) ?_
          refine tc_goto (tgt := 62) tc_d7_film_58 (by decide) ?_
          refine tc_sub [0, 1, 2, 3, 5] rfl ?_
          exact (tc_b7_film_62 N ih _ _ _ _ _ _ _) h
def tc_f7_film (N : Nat) (x1 : Int32) (x2 : Int32) (x3 : Int32) (μ : tc_Mem) : Option (Int32 × tc_Mem) :=
  tc_bd (tc_f7_isSheet N x1 μ) fun r1 μ2 =>
  if r1 = 0 then
    some ((-2), μ2)
  else
    tc_bd (tc_f7_isSection N x2 μ2) fun r3 μ4 =>
    if r3 = 0 then
      some ((-2), μ4)
    else
      tc_bd (tc_f7_in N x3 0 10 μ4) fun r5 μ6 =>
      if r5 = 0 then
        some ((-2), μ6)
      else
        tc_bd (tc_f7_keepsNow N μ6) fun _ μ8 =>
        tc_f7_film_38 N N x1 x2 x3 1 0 μ8
theorem tc_b7_film_0 (N : Nat) (x1 : Int32) (x2 : Int32) (x3 : Int32) (μ : tc_Mem) (z : Int32 × tc_Mem) (h : tc_f7_film N x1 x2 x3 μ = some z) : tc_At l G tc_i7_film (some (.int z.1)) z.2 X 0 [(0, .ref (tc_ad G 50)), (1, .int x1), (2, .int x2), (3, .int x3)] [] μ := by
  unfold tc_f7_film at h
  refine tc_iload_n tc_d7_film_0 1 rfl ?_
  obtain ⟨r1, μ2, e1, h⟩ := tc_bdS h
  have c1 := tc_c7_isSheet (l := l) (G := G) N e1
  refine tc_callSi (As := [.int x1]) (rest := []) (r1 := r1) (μ1 := μ2) tc_d7_film_1 tc_ok7_isSheet tc_w1223 ⟨Nat.le_of_ble_eq_true rfl, Nat.le_of_ble_eq_true rfl⟩ c1 rfl rfl (Nat.le_of_ble_eq_true rfl) ?_
  refine tc_if_eq (tgt := 25) tc_d7_film_4 (by decide) h (fun h => ?_) (fun h => ?_)
  · refine tc_bipush (v := (-2)) tc_d7_film_25 (by decide) ?_
    exact tc_iret tc_d7_film_27 rfl (tc_riS h)
  · refine tc_aload_n tc_d7_film_7 0 rfl ?_
    refine tc_iload_n tc_d7_film_8 2 rfl ?_
    obtain ⟨r3, μ4, e3, h⟩ := tc_bdS h
    have c3 := tc_c7_isSection (l := l) (G := G) N e3
    refine tc_callVi (As := [.int x2]) (rest := []) (r1 := r3) (μ1 := μ4) tc_d7_film_9 tc_ok7_isSection tc_w1016 ⟨Nat.le_of_ble_eq_true rfl, Nat.le_of_ble_eq_true rfl⟩ tc_s7 rfl c3 rfl rfl (Nat.le_of_ble_eq_true rfl) ?_
    refine tc_if_eq (tgt := 25) tc_d7_film_12 (by decide) h (fun h => ?_) (fun h => ?_)
    · refine tc_bipush (v := (-2)) tc_d7_film_25 (by decide) ?_
      exact tc_iret tc_d7_film_27 rfl (tc_riS h)
    · refine tc_iload_n tc_d7_film_15 3 rfl ?_
      refine tc_iconst (v := 0) tc_d7_film_16 (by decide) ?_
      refine tc_bipush (v := 10) tc_d7_film_17 (by decide) ?_
      obtain ⟨r5, μ6, e5, h⟩ := tc_bdS h
      have c5 := tc_c7_in (l := l) (G := G) N e5
      refine tc_callSi (As := [.int x3, .int 0, .int 10]) (rest := []) (r1 := r5) (μ1 := μ6) tc_d7_film_19 tc_ok7_in tc_w1001 ⟨Nat.le_of_ble_eq_true rfl, Nat.le_of_ble_eq_true rfl⟩ c5 rfl rfl (Nat.le_of_ble_eq_true rfl) ?_
      refine tc_if_ne (tgt := 28) tc_d7_film_22 (by decide) h (fun h => ?_) (fun h => ?_)
      · refine tc_aload_n tc_d7_film_28 0 rfl ?_
        obtain ⟨r7, μ8, e7, h⟩ := tc_bdS h
        have c7 := tc_c7_keepsNow (l := l) (G := G) N e7
        refine tc_callVv (As := []) (rest := []) (μ1 := μ8) tc_d7_film_29 tc_ok7_keepsNow tc_w1145 ⟨Nat.le_of_ble_eq_true rfl, Nat.le_of_ble_eq_true rfl⟩ tc_s7 rfl c7 rfl rfl (Nat.le_of_ble_eq_true rfl) ?_
        refine tc_iconst (v := 1) tc_d7_film_32 (by decide) ?_
        refine tc_istore (L' := [(4, .int 1), (0, .ref (tc_ad G 50)), (1, .int x1), (2, .int x2), (3, .int x3)]) tc_d7_film_33 (by decide) rfl ?_
        refine tc_iconst (v := 0) tc_d7_film_35 (by decide) ?_
        refine tc_istore (L' := [(5, .int 0), (4, .int 1), (0, .ref (tc_ad G 50)), (1, .int x1), (2, .int x2), (3, .int x3)]) tc_d7_film_36 (by decide) rfl ?_
        refine tc_sub [2, 3, 4, 5, 1, 0] rfl ?_
        exact (tc_b7_film_38 N N _ _ _ _ _ _ _) h
      · refine tc_bipush (v := (-2)) tc_d7_film_25 (by decide) ?_
        exact tc_iret tc_d7_film_27 rfl (tc_riS h)
theorem tc_c7_film (N : Nat) {x1 : Int32} {x2 : Int32} {x3 : Int32} {μ : tc_Mem} {z : Int32 × tc_Mem} (h : tc_f7_film N x1 x2 x3 μ = some z) : tc_Con l G tc_i7_film [.ref (tc_ad G 50), .int x1, .int x2, .int x3] μ (some (.int z.1)) z.2 :=
  tc_Con.of (L := [(0, .ref (tc_ad G 50)), (1, .int x1), (2, .int x2), (3, .int x3)]) (by decide) (Nat.le_of_ble_eq_true rfl) rfl (fun X => tc_b7_film_0 N  _ _ _ _ _ h)
def tc_f7_fix_45 (N : Nat) (x2 : Int32) (μ : tc_Mem) : Option (Int32 × tc_Mem) :=
  tc_lt (tc_wr μ 50 13 (-1)) fun μ1 =>
  some (x2, μ1)
theorem tc_b7_fix_45 (N : Nat) (x2 : Int32) (μ : tc_Mem) (z : Int32 × tc_Mem) (h : tc_f7_fix_45 N x2 μ = some z) : tc_At l G tc_i7_fix (some (.int z.1)) z.2 X 45 [(0, .ref (tc_ad G 50)), (2, .int x2)] [] μ := by
  unfold tc_f7_fix_45 at h
  refine tc_aload_n tc_d7_fix_45 0 rfl ?_
  refine tc_iconst (v := (-1)) tc_d7_fix_46 (by decide) ?_
  refine tc_p7_13 tc_d7_fix_47 tc_w891 h (fun μ1 h => ?_)
  refine tc_iload_n tc_d7_fix_50 1 rfl ?_
  exact tc_iret tc_d7_fix_51 rfl (tc_riS h)
def tc_f7_fix_9 (N : Nat) : Nat → Int32 → Int32 → Int32 → tc_Mem → Option (Int32 × tc_Mem)
  | 0 => fun _ _ _ _ => none
  | n + 1 => fun x1 x2 x3 μ => 
    if (μ 50 9) ≤ x3 then
      tc_f7_fix_45 N x2 μ
    else
      tc_lt (tc_wr μ 50 13 x3) fun μ1 =>
      tc_bd (tc_f7_amiss N μ1) fun r2 μ3 =>
      if x1 ≤ r2 then
        tc_f7_fix_9 N  n x1 x2 (x3 + 1) μ3
      else
        tc_f7_fix_9 N  n r2 x3 (x3 + 1) μ3
theorem tc_b7_fix_9 (N : Nat) : ∀ (n : Nat) (x1 : Int32) (x2 : Int32) (x3 : Int32) (μ : tc_Mem) (z : Int32 × tc_Mem), tc_f7_fix_9 N n x1 x2 x3 μ = some z → tc_At l G tc_i7_fix (some (.int z.1)) z.2 X 9 [(0, .ref (tc_ad G 50)), (1, .int x1), (2, .int x2), (3, .int x3)] [] μ := by
  intro n
  induction n with
  | zero => intro x1 x2 x3 μ z h; cases h
  | succ n ih =>
    intro x1 x2 x3 μ z h
    rw [tc_f7_fix_9] at h
    refine tc_iload_n tc_d7_fix_9 3 rfl ?_
    refine tc_aload_n tc_d7_fix_10 0 rfl ?_
    refine tc_g7_9 tc_d7_fix_11 tc_w887 ?_
    refine tc_icmp_ge (tgt := 45) tc_d7_fix_14 (by decide) h (fun h => ?_) (fun h => ?_)
    · refine tc_sub [0, 2] rfl ?_
      exact (tc_b7_fix_45 N _ _ _) h
    · refine tc_aload_n tc_d7_fix_17 0 rfl ?_
      refine tc_iload_n tc_d7_fix_18 3 rfl ?_
      refine tc_p7_13 tc_d7_fix_19 tc_w891 h (fun μ1 h => ?_)
      refine tc_aload_n tc_d7_fix_22 0 rfl ?_
      obtain ⟨r2, μ3, e2, h⟩ := tc_bdS h
      have c2 := tc_c7_amiss (l := l) (G := G) N e2
      refine tc_callVi (As := []) (rest := []) (r1 := r2) (μ1 := μ3) tc_d7_fix_23 tc_ok7_amiss tc_w1202 ⟨Nat.le_of_ble_eq_true rfl, Nat.le_of_ble_eq_true rfl⟩ tc_s7 rfl c2 rfl rfl (Nat.le_of_ble_eq_true rfl) ?_
      refine tc_istore (L' := [(4, .int r2), (0, .ref (tc_ad G 50)), (1, .int x1), (2, .int x2), (3, .int x3)]) tc_d7_fix_26 (by decide) rfl ?_
      refine tc_iload tc_d7_fix_28 0 rfl ?_
      refine tc_iload_n tc_d7_fix_30 2 rfl ?_
      refine tc_icmp_ge (tgt := 39) tc_d7_fix_31 (by decide) h (fun h => ?_) (fun h => ?_)
      · refine tc_iinc (v := (x3 + 1)) (L' := [(3, .int (x3 + 1)), (4, .int r2), (0, .ref (tc_ad G 50)), (1, .int x1), (2, .int x2)]) tc_d7_fix_39 4 rfl rfl (by decide) rfl ?_
        refine tc_goto (tgt := 9) tc_d7_fix_42 (by decide) ?_
        refine tc_sub [2, 3, 4, 0] rfl ?_
        exact (ih _ _ _ _ _) h
      · refine tc_iload tc_d7_fix_34 0 rfl ?_
        refine tc_istore_n (L' := [(1, .int r2), (4, .int r2), (0, .ref (tc_ad G 50)), (2, .int x2), (3, .int x3)]) tc_d7_fix_36 (by decide) rfl ?_
        refine tc_iload_n tc_d7_fix_37 4 rfl ?_
        refine tc_istore_n (L' := [(2, .int x3), (1, .int r2), (4, .int r2), (0, .ref (tc_ad G 50)), (3, .int x3)]) tc_d7_fix_38 (by decide) rfl ?_
        refine tc_iinc (v := (x3 + 1)) (L' := [(3, .int (x3 + 1)), (2, .int x3), (1, .int r2), (4, .int r2), (0, .ref (tc_ad G 50))]) tc_d7_fix_39 4 rfl rfl (by decide) rfl ?_
        refine tc_goto (tgt := 9) tc_d7_fix_42 (by decide) ?_
        refine tc_sub [4, 2, 1, 0] rfl ?_
        exact (ih _ _ _ _ _) h
def tc_f7_fix (N : Nat) (μ : tc_Mem) : Option (Int32 × tc_Mem) :=
  tc_bd (tc_f7_amiss N μ) fun r1 μ2 =>
  tc_f7_fix_9 N N r1 (-1) 0 μ2
theorem tc_b7_fix_0 (N : Nat) (μ : tc_Mem) (z : Int32 × tc_Mem) (h : tc_f7_fix N μ = some z) : tc_At l G tc_i7_fix (some (.int z.1)) z.2 X 0 [(0, .ref (tc_ad G 50))] [] μ := by
  unfold tc_f7_fix at h
  refine tc_aload_n tc_d7_fix_0 0 rfl ?_
  obtain ⟨r1, μ2, e1, h⟩ := tc_bdS h
  have c1 := tc_c7_amiss (l := l) (G := G) N e1
  refine tc_callVi (As := []) (rest := []) (r1 := r1) (μ1 := μ2) tc_d7_fix_1 tc_ok7_amiss tc_w1202 ⟨Nat.le_of_ble_eq_true rfl, Nat.le_of_ble_eq_true rfl⟩ tc_s7 rfl c1 rfl rfl (Nat.le_of_ble_eq_true rfl) ?_
  refine tc_istore_n (L' := [(1, .int r1), (0, .ref (tc_ad G 50))]) tc_d7_fix_4 (by decide) rfl ?_
  refine tc_iconst (v := (-1)) tc_d7_fix_5 (by decide) ?_
  refine tc_istore_n (L' := [(2, .int (-1)), (1, .int r1), (0, .ref (tc_ad G 50))]) tc_d7_fix_6 (by decide) rfl ?_
  refine tc_iconst (v := 0) tc_d7_fix_7 (by decide) ?_
  refine tc_istore_n (L' := [(3, .int 0), (2, .int (-1)), (1, .int r1), (0, .ref (tc_ad G 50))]) tc_d7_fix_8 (by decide) rfl ?_
  refine tc_sub [3, 2, 1, 0] rfl ?_
  exact (tc_b7_fix_9 N N _ _ _ _ _) h
theorem tc_c7_fix (N : Nat) {μ : tc_Mem} {z : Int32 × tc_Mem} (h : tc_f7_fix N μ = some z) : tc_Con l G tc_i7_fix [.ref (tc_ad G 50)] μ (some (.int z.1)) z.2 :=
  tc_Con.of (L := [(0, .ref (tc_ad G 50))]) (by decide) (Nat.le_of_ble_eq_true rfl) rfl (fun X => tc_b7_fix_0 N  _ _ h)
def tc_f7_force_50 (N : Nat) (x1 : Int32) (x3 : Int32) (s1 : Int32) (s2 : Int32) (μ : tc_Mem) : Option (Int32 × tc_Mem) :=
  tc_ck s1 8 (
  tc_lt (tc_wr μ 56 s1.toNatClampNeg (vp_nar .boolean s2)) fun μ2 =>
  tc_ck x1 8 (
  tc_lt (tc_wr μ2 55 x1.toNatClampNeg 0) fun μ4 =>
  some (x3, μ4)))
theorem tc_b7_force_50 (N : Nat) (x1 : Int32) (x3 : Int32) (s1 : Int32) (s2 : Int32) (μ : tc_Mem) (z : Int32 × tc_Mem) (h : tc_f7_force_50 N x1 x3 s1 s2 μ = some z) : tc_At l G tc_i7_force (some (.int z.1)) z.2 X 50 [(0, .ref (tc_ad G 50)), (1, .int x1), (3, .int x3)] [.int s2, .int s1, .ref (tc_ad G 56)] μ := by
  unfold tc_f7_force_50 at h
  obtain ⟨hi1, h⟩ := tc_ckS h
  refine tc_zastL tc_d7_force_50 tc_aL56 hi1 h (fun μ2 h => ?_)
  refine tc_aload_n tc_d7_force_51 0 rfl ?_
  refine tc_g7_5 tc_d7_force_52 tc_w883 ?_
  refine tc_iload_n tc_d7_force_55 1 rfl ?_
  refine tc_iconst (v := 0) tc_d7_force_56 (by decide) ?_
  obtain ⟨hi3, h⟩ := tc_ckS h
  refine tc_iastL tc_d7_force_57 tc_aL55 hi3 h (fun μ4 h => ?_)
  refine tc_iload_n tc_d7_force_58 2 rfl ?_
  exact tc_iret tc_d7_force_59 rfl (tc_riS h)
def tc_f7_force_34 (N : Nat) (x1 : Int32) (x2 : Int32) (s0 : Int32) (μ : tc_Mem) : Option (Int32 × tc_Mem) :=
  if x2 = 1 then
    tc_f7_force_50 N x1 s0 x1 1 μ
  else
    tc_f7_force_50 N x1 s0 x1 0 μ
theorem tc_b7_force_34 (N : Nat) (x1 : Int32) (x2 : Int32) (s0 : Int32) (μ : tc_Mem) (z : Int32 × tc_Mem) (h : tc_f7_force_34 N x1 x2 s0 μ = some z) : tc_At l G tc_i7_force (some (.int z.1)) z.2 X 34 [(0, .ref (tc_ad G 50)), (1, .int x1), (2, .int x2)] [.int s0] μ := by
  unfold tc_f7_force_34 at h
  refine tc_istore_n (L' := [(3, .int s0), (0, .ref (tc_ad G 50)), (1, .int x1), (2, .int x2)]) tc_d7_force_34 (by decide) rfl ?_
  refine tc_aload_n tc_d7_force_35 1 rfl ?_
  refine tc_g7_6 tc_d7_force_36 tc_w884 ?_
  refine tc_iload_n tc_d7_force_39 2 rfl ?_
  refine tc_iload_n tc_d7_force_40 3 rfl ?_
  refine tc_iconst (v := 1) tc_d7_force_41 (by decide) ?_
  refine tc_icmp_ne (tgt := 49) tc_d7_force_42 (by decide) h (fun h => ?_) (fun h => ?_)
  · refine tc_iconst (v := 0) tc_d7_force_49 (by decide) ?_
    refine tc_sub [1, 2, 0] rfl ?_
    exact (tc_b7_force_50 N _ _ _ _ _ _) h
  · refine tc_iconst (v := 1) tc_d7_force_45 (by decide) ?_
    refine tc_goto (tgt := 50) tc_d7_force_46 (by decide) ?_
    refine tc_sub [1, 2, 0] rfl ?_
    exact (tc_b7_force_50 N _ _ _ _ _ _) h
def tc_f7_force (N : Nat) (x1 : Int32) (x2 : Int32) (μ : tc_Mem) : Option (Int32 × tc_Mem) :=
  tc_bd (tc_f7_isSection N x1 μ) fun r1 μ2 =>
  if r1 = 0 then
    some ((-2), μ2)
  else
    tc_bd (tc_f7_in N x2 0 1 μ2) fun r3 μ4 =>
    if r3 = 0 then
      some ((-2), μ4)
    else
      tc_ck x1 8 (
      if (μ4 56 x1.toNatClampNeg) = 0 then
        tc_f7_force_34 N x1 x2 0 μ4
      else
        tc_f7_force_34 N x1 x2 1 μ4)
theorem tc_b7_force_0 (N : Nat) (x1 : Int32) (x2 : Int32) (μ : tc_Mem) (z : Int32 × tc_Mem) (h : tc_f7_force N x1 x2 μ = some z) : tc_At l G tc_i7_force (some (.int z.1)) z.2 X 0 [(0, .ref (tc_ad G 50)), (1, .int x1), (2, .int x2)] [] μ := by
  unfold tc_f7_force at h
  refine tc_aload_n tc_d7_force_0 0 rfl ?_
  refine tc_iload_n tc_d7_force_1 1 rfl ?_
  obtain ⟨r1, μ2, e1, h⟩ := tc_bdS h
  have c1 := tc_c7_isSection (l := l) (G := G) N e1
  refine tc_callVi (As := [.int x1]) (rest := []) (r1 := r1) (μ1 := μ2) tc_d7_force_2 tc_ok7_isSection tc_w1016 ⟨Nat.le_of_ble_eq_true rfl, Nat.le_of_ble_eq_true rfl⟩ tc_s7 rfl c1 rfl rfl (Nat.le_of_ble_eq_true rfl) ?_
  refine tc_if_eq (tgt := 17) tc_d7_force_5 (by decide) h (fun h => ?_) (fun h => ?_)
  · refine tc_bipush (v := (-2)) tc_d7_force_17 (by decide) ?_
    exact tc_iret tc_d7_force_19 rfl (tc_riS h)
  · refine tc_iload_n tc_d7_force_8 2 rfl ?_
    refine tc_iconst (v := 0) tc_d7_force_9 (by decide) ?_
    refine tc_iconst (v := 1) tc_d7_force_10 (by decide) ?_
    obtain ⟨r3, μ4, e3, h⟩ := tc_bdS h
    have c3 := tc_c7_in (l := l) (G := G) N e3
    refine tc_callSi (As := [.int x2, .int 0, .int 1]) (rest := []) (r1 := r3) (μ1 := μ4) tc_d7_force_11 tc_ok7_in tc_w1001 ⟨Nat.le_of_ble_eq_true rfl, Nat.le_of_ble_eq_true rfl⟩ c3 rfl rfl (Nat.le_of_ble_eq_true rfl) ?_
    refine tc_if_ne (tgt := 20) tc_d7_force_14 (by decide) h (fun h => ?_) (fun h => ?_)
    · refine tc_aload_n tc_d7_force_20 0 rfl ?_
      refine tc_g7_6 tc_d7_force_21 tc_w884 ?_
      refine tc_iload_n tc_d7_force_24 1 rfl ?_
      obtain ⟨hi5, h⟩ := tc_ckS h
      refine tc_zald tc_d7_force_25 tc_aL56 hi5 ?_
      refine tc_if_eq (tgt := 33) tc_d7_force_26 (by decide) h (fun h => ?_) (fun h => ?_)
      · refine tc_iconst (v := 0) tc_d7_force_33 (by decide) ?_
        exact (tc_b7_force_34 N _ _ _ _ _) h
      · refine tc_iconst (v := 1) tc_d7_force_29 (by decide) ?_
        refine tc_goto (tgt := 34) tc_d7_force_30 (by decide) ?_
        exact (tc_b7_force_34 N _ _ _ _ _) h
    · refine tc_bipush (v := (-2)) tc_d7_force_17 (by decide) ?_
      exact tc_iret tc_d7_force_19 rfl (tc_riS h)
theorem tc_c7_force (N : Nat) {x1 : Int32} {x2 : Int32} {μ : tc_Mem} {z : Int32 × tc_Mem} (h : tc_f7_force N x1 x2 μ = some z) : tc_Con l G tc_i7_force [.ref (tc_ad G 50), .int x1, .int x2] μ (some (.int z.1)) z.2 :=
  tc_Con.of (L := [(0, .ref (tc_ad G 50)), (1, .int x1), (2, .int x2)]) (by decide) (Nat.le_of_ble_eq_true rfl) rfl (fun X => tc_b7_force_0 N  _ _ _ _ h)
def tc_f7_image_224 (N : Nat) (μ : tc_Mem) : Option (Int32 × tc_Mem) :=
  tc_ck 77 90 (
  tc_lt (tc_wr μ 76 (77 : Int32).toNatClampNeg (μ 50 0)) fun μ2 =>
  tc_ck 78 90 (
  tc_lt (tc_wr μ2 76 (78 : Int32).toNatClampNeg (μ2 50 9)) fun μ4 =>
  some ((μ4 50 0), μ4)))
theorem tc_b7_image_224 (N : Nat) (μ : tc_Mem) (z : Int32 × tc_Mem) (h : tc_f7_image_224 N μ = some z) : tc_At l G tc_i7_image (some (.int z.1)) z.2 X 224 [(0, .ref (tc_ad G 50))] [] μ := by
  unfold tc_f7_image_224 at h
  refine tc_aload_n tc_d7_image_224 0 rfl ?_
  refine tc_g7_38 tc_d7_image_225 tc_w916 ?_
  refine tc_bipush (v := 77) tc_d7_image_228 (by decide) ?_
  refine tc_aload_n tc_d7_image_230 0 rfl ?_
  refine tc_g7_0 tc_d7_image_231 tc_w878 ?_
  obtain ⟨hi1, h⟩ := tc_ckS h
  refine tc_iastL tc_d7_image_234 tc_aL76 hi1 h (fun μ2 h => ?_)
  refine tc_aload_n tc_d7_image_235 0 rfl ?_
  refine tc_g7_38 tc_d7_image_236 tc_w916 ?_
  refine tc_bipush (v := 78) tc_d7_image_239 (by decide) ?_
  refine tc_aload_n tc_d7_image_241 0 rfl ?_
  refine tc_g7_9 tc_d7_image_242 tc_w887 ?_
  obtain ⟨hi3, h⟩ := tc_ckS h
  refine tc_iastL tc_d7_image_245 tc_aL76 hi3 h (fun μ4 h => ?_)
  refine tc_aload_n tc_d7_image_246 0 rfl ?_
  refine tc_g7_0 tc_d7_image_247 tc_w878 ?_
  exact tc_iret tc_d7_image_250 rfl (tc_riS h)
def tc_f7_image_198 (N : Nat) : Nat → Int32 → tc_Mem → Option (Int32 × tc_Mem)
  | 0 => fun _ _ => none
  | n + 1 => fun x1 μ => 
    if (3 : Int32) ≤ x1 then
      tc_f7_image_224 N μ
    else
      tc_ck x1 3 (
      tc_ck (74 + x1) 90 (
      tc_lt (tc_wr μ 76 (74 + x1).toNatClampNeg (μ 58 x1.toNatClampNeg)) fun μ3 =>
      tc_f7_image_198 N  n (x1 + 1) μ3))
theorem tc_b7_image_198 (N : Nat) : ∀ (n : Nat) (x1 : Int32) (μ : tc_Mem) (z : Int32 × tc_Mem), tc_f7_image_198 N n x1 μ = some z → tc_At l G tc_i7_image (some (.int z.1)) z.2 X 198 [(0, .ref (tc_ad G 50)), (1, .int x1)] [] μ := by
  intro n
  induction n with
  | zero => intro x1 μ z h; cases h
  | succ n ih =>
    intro x1 μ z h
    rw [tc_f7_image_198] at h
    refine tc_iload_n tc_d7_image_198 1 rfl ?_
    refine tc_iconst (v := 3) tc_d7_image_199 (by decide) ?_
    refine tc_icmp_ge (tgt := 224) tc_d7_image_200 (by decide) h (fun h => ?_) (fun h => ?_)
    · refine tc_sub [0] rfl ?_
      exact (tc_b7_image_224 N _ _) h
    · refine tc_aload_n tc_d7_image_203 0 rfl ?_
      refine tc_g7_38 tc_d7_image_204 tc_w916 ?_
      refine tc_bipush (v := 74) tc_d7_image_207 (by decide) ?_
      refine tc_iload_n tc_d7_image_209 1 rfl ?_
      refine tc_iadd tc_d7_image_210 ?_
      refine tc_aload_n tc_d7_image_211 0 rfl ?_
      refine tc_g7_8 tc_d7_image_212 tc_w886 ?_
      refine tc_iload_n tc_d7_image_215 1 rfl ?_
      obtain ⟨hi1, h⟩ := tc_ckS h
      refine tc_iald tc_d7_image_216 tc_aL58 hi1 ?_
      obtain ⟨hi2, h⟩ := tc_ckS h
      refine tc_iastL tc_d7_image_217 tc_aL76 hi2 h (fun μ3 h => ?_)
      refine tc_iinc (v := (x1 + 1)) (L' := [(1, .int (x1 + 1)), (0, .ref (tc_ad G 50))]) tc_d7_image_218 1 rfl rfl (by decide) rfl ?_
      refine tc_goto (tgt := 198) tc_d7_image_221 (by decide) ?_
      refine tc_sub [1, 0] rfl ?_
      exact (ih _ _ _) h
def tc_f7_image_196 (N : Nat) (μ : tc_Mem) : Option (Int32 × tc_Mem) :=
  tc_f7_image_198 N N 0 μ
theorem tc_b7_image_196 (N : Nat) (μ : tc_Mem) (z : Int32 × tc_Mem) (h : tc_f7_image_196 N μ = some z) : tc_At l G tc_i7_image (some (.int z.1)) z.2 X 196 [(0, .ref (tc_ad G 50))] [] μ := by
  unfold tc_f7_image_196 at h
  refine tc_iconst (v := 0) tc_d7_image_196 (by decide) ?_
  refine tc_istore_n (L' := [(1, .int 0), (0, .ref (tc_ad G 50))]) tc_d7_image_197 (by decide) rfl ?_
  refine tc_sub [1, 0] rfl ?_
  exact (tc_b7_image_198 N N _ _ _) h
def tc_f7_image_139 (N : Nat) : Nat → Int32 → tc_Mem → Option (Int32 × tc_Mem)
  | 0 => fun _ _ => none
  | n + 1 => fun x1 μ => 
    if (6 : Int32) ≤ x1 then
      tc_f7_image_196 N μ
    else
      tc_ck x1 20 (
      tc_ck (56 + x1) 90 (
      tc_lt (tc_wr μ 76 (56 + x1).toNatClampNeg (μ 59 x1.toNatClampNeg)) fun μ3 =>
      tc_ck x1 20 (
      tc_ck (62 + x1) 90 (
      tc_lt (tc_wr μ3 76 (62 + x1).toNatClampNeg (μ3 60 x1.toNatClampNeg)) fun μ6 =>
      tc_ck x1 20 (
      tc_ck (68 + x1) 90 (
      tc_lt (tc_wr μ6 76 (68 + x1).toNatClampNeg (μ6 61 x1.toNatClampNeg)) fun μ9 =>
      tc_f7_image_139 N  n (x1 + 1) μ9))))))
theorem tc_b7_image_139 (N : Nat) : ∀ (n : Nat) (x1 : Int32) (μ : tc_Mem) (z : Int32 × tc_Mem), tc_f7_image_139 N n x1 μ = some z → tc_At l G tc_i7_image (some (.int z.1)) z.2 X 139 [(0, .ref (tc_ad G 50)), (1, .int x1)] [] μ := by
  intro n
  induction n with
  | zero => intro x1 μ z h; cases h
  | succ n ih =>
    intro x1 μ z h
    rw [tc_f7_image_139] at h
    refine tc_iload_n tc_d7_image_139 1 rfl ?_
    refine tc_bipush (v := 6) tc_d7_image_140 (by decide) ?_
    refine tc_icmp_ge (tgt := 196) tc_d7_image_142 (by decide) h (fun h => ?_) (fun h => ?_)
    · refine tc_sub [0] rfl ?_
      exact (tc_b7_image_196 N _ _) h
    · refine tc_aload_n tc_d7_image_145 0 rfl ?_
      refine tc_g7_38 tc_d7_image_146 tc_w916 ?_
      refine tc_bipush (v := 56) tc_d7_image_149 (by decide) ?_
      refine tc_iload_n tc_d7_image_151 1 rfl ?_
      refine tc_iadd tc_d7_image_152 ?_
      refine tc_aload_n tc_d7_image_153 0 rfl ?_
      refine tc_g7_10 tc_d7_image_154 tc_w888 ?_
      refine tc_iload_n tc_d7_image_157 1 rfl ?_
      obtain ⟨hi1, h⟩ := tc_ckS h
      refine tc_iald tc_d7_image_158 tc_aL59 hi1 ?_
      obtain ⟨hi2, h⟩ := tc_ckS h
      refine tc_iastL tc_d7_image_159 tc_aL76 hi2 h (fun μ3 h => ?_)
      refine tc_aload_n tc_d7_image_160 0 rfl ?_
      refine tc_g7_38 tc_d7_image_161 tc_w916 ?_
      refine tc_bipush (v := 62) tc_d7_image_164 (by decide) ?_
      refine tc_iload_n tc_d7_image_166 1 rfl ?_
      refine tc_iadd tc_d7_image_167 ?_
      refine tc_aload_n tc_d7_image_168 0 rfl ?_
      refine tc_g7_11 tc_d7_image_169 tc_w889 ?_
      refine tc_iload_n tc_d7_image_172 1 rfl ?_
      obtain ⟨hi4, h⟩ := tc_ckS h
      refine tc_iald tc_d7_image_173 tc_aL60 hi4 ?_
      obtain ⟨hi5, h⟩ := tc_ckS h
      refine tc_iastL tc_d7_image_174 tc_aL76 hi5 h (fun μ6 h => ?_)
      refine tc_aload_n tc_d7_image_175 0 rfl ?_
      refine tc_g7_38 tc_d7_image_176 tc_w916 ?_
      refine tc_bipush (v := 68) tc_d7_image_179 (by decide) ?_
      refine tc_iload_n tc_d7_image_181 1 rfl ?_
      refine tc_iadd tc_d7_image_182 ?_
      refine tc_aload_n tc_d7_image_183 0 rfl ?_
      refine tc_g7_12 tc_d7_image_184 tc_w890 ?_
      refine tc_iload_n tc_d7_image_187 1 rfl ?_
      obtain ⟨hi7, h⟩ := tc_ckS h
      refine tc_iald tc_d7_image_188 tc_aL61 hi7 ?_
      obtain ⟨hi8, h⟩ := tc_ckS h
      refine tc_iastL tc_d7_image_189 tc_aL76 hi8 h (fun μ9 h => ?_)
      refine tc_iinc (v := (x1 + 1)) (L' := [(1, .int (x1 + 1)), (0, .ref (tc_ad G 50))]) tc_d7_image_190 1 rfl rfl (by decide) rfl ?_
      refine tc_goto (tgt := 139) tc_d7_image_193 (by decide) ?_
      refine tc_sub [1, 0] rfl ?_
      exact (ih _ _ _) h
def tc_f7_image_137 (N : Nat) (μ : tc_Mem) : Option (Int32 × tc_Mem) :=
  tc_f7_image_139 N N 0 μ
theorem tc_b7_image_137 (N : Nat) (μ : tc_Mem) (z : Int32 × tc_Mem) (h : tc_f7_image_137 N μ = some z) : tc_At l G tc_i7_image (some (.int z.1)) z.2 X 137 [(0, .ref (tc_ad G 50))] [] μ := by
  unfold tc_f7_image_137 at h
  refine tc_iconst (v := 0) tc_d7_image_137 (by decide) ?_
  refine tc_istore_n (L' := [(1, .int 0), (0, .ref (tc_ad G 50))]) tc_d7_image_138 (by decide) rfl ?_
  refine tc_sub [1, 0] rfl ?_
  exact (tc_b7_image_139 N N _ _ _) h
def tc_f7_image_130 (N : Nat) (k7 : Int32 → tc_Mem → Option (Int32 × tc_Mem)) (x1 : Int32) (s1 : Int32) (s2 : Int32) (μ : tc_Mem) : Option (Int32 × tc_Mem) :=
  tc_ck s1 90 (
  tc_lt (tc_wr μ 76 s1.toNatClampNeg s2) fun μ2 =>
  k7 (x1 + 1) μ2)
theorem tc_b7_image_130 (N : Nat) {k7 : Int32 → tc_Mem → Option (Int32 × tc_Mem)} (H7 : ∀ (x1 : Int32) (μ : tc_Mem) (z : Int32 × tc_Mem), k7 x1 μ = some z → tc_At l G tc_i7_image (some (.int z.1)) z.2 X 7 [(0, .ref (tc_ad G 50)), (1, .int x1)] [] μ) (x1 : Int32) (s1 : Int32) (s2 : Int32) (μ : tc_Mem) (z : Int32 × tc_Mem) (h : tc_f7_image_130 N k7 x1 s1 s2 μ = some z) : tc_At l G tc_i7_image (some (.int z.1)) z.2 X 130 [(0, .ref (tc_ad G 50)), (1, .int x1)] [.int s2, .int s1, .ref (tc_ad G 76)] μ := by
  unfold tc_f7_image_130 at h
  obtain ⟨hi1, h⟩ := tc_ckS h
  refine tc_iastL tc_d7_image_130 tc_aL76 hi1 h (fun μ2 h => ?_)
  refine tc_iinc (v := (x1 + 1)) (L' := [(1, .int (x1 + 1)), (0, .ref (tc_ad G 50))]) tc_d7_image_131 1 rfl rfl (by decide) rfl ?_
  refine tc_goto (tgt := 7) tc_d7_image_134 (by decide) ?_
  refine tc_sub [1, 0] rfl ?_
  exact (H7 _ _ _) h
def tc_f7_image_107 (N : Nat) (k7 : Int32 → tc_Mem → Option (Int32 × tc_Mem)) (x1 : Int32) (s1 : Int32) (s2 : Int32) (μ : tc_Mem) : Option (Int32 × tc_Mem) :=
  tc_ck s1 90 (
  tc_lt (tc_wr μ 76 s1.toNatClampNeg s2) fun μ2 =>
  tc_ck x1 8 (
  if (μ2 57 x1.toNatClampNeg) = 0 then
    tc_f7_image_130 N k7 x1 (48 + x1) 0 μ2
  else
    tc_f7_image_130 N k7 x1 (48 + x1) 1 μ2))
theorem tc_b7_image_107 (N : Nat) {k7 : Int32 → tc_Mem → Option (Int32 × tc_Mem)} (H7 : ∀ (x1 : Int32) (μ : tc_Mem) (z : Int32 × tc_Mem), k7 x1 μ = some z → tc_At l G tc_i7_image (some (.int z.1)) z.2 X 7 [(0, .ref (tc_ad G 50)), (1, .int x1)] [] μ) (x1 : Int32) (s1 : Int32) (s2 : Int32) (μ : tc_Mem) (z : Int32 × tc_Mem) (h : tc_f7_image_107 N k7 x1 s1 s2 μ = some z) : tc_At l G tc_i7_image (some (.int z.1)) z.2 X 107 [(0, .ref (tc_ad G 50)), (1, .int x1)] [.int s2, .int s1, .ref (tc_ad G 76)] μ := by
  unfold tc_f7_image_107 at h
  obtain ⟨hi1, h⟩ := tc_ckS h
  refine tc_iastL tc_d7_image_107 tc_aL76 hi1 h (fun μ2 h => ?_)
  refine tc_aload_n tc_d7_image_108 0 rfl ?_
  refine tc_g7_38 tc_d7_image_109 tc_w916 ?_
  refine tc_bipush (v := 48) tc_d7_image_112 (by decide) ?_
  refine tc_iload_n tc_d7_image_114 1 rfl ?_
  refine tc_iadd tc_d7_image_115 ?_
  refine tc_aload_n tc_d7_image_116 0 rfl ?_
  refine tc_g7_7 tc_d7_image_117 tc_w885 ?_
  refine tc_iload_n tc_d7_image_120 1 rfl ?_
  obtain ⟨hi3, h⟩ := tc_ckS h
  refine tc_zald tc_d7_image_121 tc_aL57 hi3 ?_
  refine tc_if_eq (tgt := 129) tc_d7_image_122 (by decide) h (fun h => ?_) (fun h => ?_)
  · refine tc_iconst (v := 0) tc_d7_image_129 (by decide) ?_
    exact (tc_b7_image_130 N H7 _ _ _ _ _) h
  · refine tc_iconst (v := 1) tc_d7_image_125 (by decide) ?_
    refine tc_goto (tgt := 130) tc_d7_image_126 (by decide) ?_
    exact (tc_b7_image_130 N H7 _ _ _ _ _) h
def tc_f7_image_7 (N : Nat) : Nat → Int32 → tc_Mem → Option (Int32 × tc_Mem)
  | 0 => fun _ _ => none
  | n + 1 => fun x1 μ => 
    if (8 : Int32) ≤ x1 then
      tc_f7_image_137 N μ
    else
      tc_ck x1 8 (
      tc_ck x1 90 (
      tc_lt (tc_wr μ 76 x1.toNatClampNeg (μ 51 x1.toNatClampNeg)) fun μ3 =>
      tc_ck x1 8 (
      tc_ck (8 + x1) 90 (
      tc_lt (tc_wr μ3 76 (8 + x1).toNatClampNeg (μ3 52 x1.toNatClampNeg)) fun μ6 =>
      tc_ck x1 8 (
      tc_ck (16 + x1) 90 (
      tc_lt (tc_wr μ6 76 (16 + x1).toNatClampNeg (μ6 53 x1.toNatClampNeg)) fun μ9 =>
      tc_ck x1 8 (
      tc_ck (24 + x1) 90 (
      tc_lt (tc_wr μ9 76 (24 + x1).toNatClampNeg (μ9 54 x1.toNatClampNeg)) fun μ12 =>
      tc_ck x1 8 (
      tc_ck (32 + x1) 90 (
      tc_lt (tc_wr μ12 76 (32 + x1).toNatClampNeg (μ12 55 x1.toNatClampNeg)) fun μ15 =>
      tc_ck x1 8 (
      if (μ15 56 x1.toNatClampNeg) = 0 then
        tc_f7_image_107 N (tc_f7_image_7 N n) x1 (40 + x1) 0 μ15
      else
        tc_f7_image_107 N (tc_f7_image_7 N n) x1 (40 + x1) 1 μ15)))))))))))
theorem tc_b7_image_7 (N : Nat) : ∀ (n : Nat) (x1 : Int32) (μ : tc_Mem) (z : Int32 × tc_Mem), tc_f7_image_7 N n x1 μ = some z → tc_At l G tc_i7_image (some (.int z.1)) z.2 X 7 [(0, .ref (tc_ad G 50)), (1, .int x1)] [] μ := by
  intro n
  induction n with
  | zero => intro x1 μ z h; cases h
  | succ n ih =>
    intro x1 μ z h
    rw [tc_f7_image_7] at h
    refine tc_iload_n tc_d7_image_7 1 rfl ?_
    refine tc_bipush (v := 8) tc_d7_image_8 (by decide) ?_
    refine tc_icmp_ge (tgt := 137) tc_d7_image_10 (by decide) h (fun h => ?_) (fun h => ?_)
    · refine tc_sub [0] rfl ?_
      exact (tc_b7_image_137 N _ _) h
    · refine tc_aload_n tc_d7_image_13 0 rfl ?_
      refine tc_g7_38 tc_d7_image_14 tc_w916 ?_
      refine tc_iload_n tc_d7_image_17 1 rfl ?_
      refine tc_aload_n tc_d7_image_18 0 rfl ?_
      refine tc_g7_1 tc_d7_image_19 tc_w879 ?_
      refine tc_iload_n tc_d7_image_22 1 rfl ?_
      obtain ⟨hi1, h⟩ := tc_ckS h
      refine tc_iald tc_d7_image_23 tc_aL51 hi1 ?_
      obtain ⟨hi2, h⟩ := tc_ckS h
      refine tc_iastL tc_d7_image_24 tc_aL76 hi2 h (fun μ3 h => ?_)
      refine tc_aload_n tc_d7_image_25 0 rfl ?_
      refine tc_g7_38 tc_d7_image_26 tc_w916 ?_
      refine tc_bipush (v := 8) tc_d7_image_29 (by decide) ?_
      refine tc_iload_n tc_d7_image_31 1 rfl ?_
      refine tc_iadd tc_d7_image_32 ?_
      refine tc_aload_n tc_d7_image_33 0 rfl ?_
      refine tc_g7_2 tc_d7_image_34 tc_w880 ?_
      refine tc_iload_n tc_d7_image_37 1 rfl ?_
      obtain ⟨hi4, h⟩ := tc_ckS h
      refine tc_iald tc_d7_image_38 tc_aL52 hi4 ?_
      obtain ⟨hi5, h⟩ := tc_ckS h
      refine tc_iastL tc_d7_image_39 tc_aL76 hi5 h (fun μ6 h => ?_)
      refine tc_aload_n tc_d7_image_40 0 rfl ?_
      refine tc_g7_38 tc_d7_image_41 tc_w916 ?_
      refine tc_bipush (v := 16) tc_d7_image_44 (by decide) ?_
      refine tc_iload_n tc_d7_image_46 1 rfl ?_
      refine tc_iadd tc_d7_image_47 ?_
      refine tc_aload_n tc_d7_image_48 0 rfl ?_
      refine tc_g7_3 tc_d7_image_49 tc_w881 ?_
      refine tc_iload_n tc_d7_image_52 1 rfl ?_
      obtain ⟨hi7, h⟩ := tc_ckS h
      refine tc_iald tc_d7_image_53 tc_aL53 hi7 ?_
      obtain ⟨hi8, h⟩ := tc_ckS h
      refine tc_iastL tc_d7_image_54 tc_aL76 hi8 h (fun μ9 h => ?_)
      refine tc_aload_n tc_d7_image_55 0 rfl ?_
      refine tc_g7_38 tc_d7_image_56 tc_w916 ?_
      refine tc_bipush (v := 24) tc_d7_image_59 (by decide) ?_
      refine tc_iload_n tc_d7_image_61 1 rfl ?_
      refine tc_iadd tc_d7_image_62 ?_
      refine tc_aload_n tc_d7_image_63 0 rfl ?_
      refine tc_g7_4 tc_d7_image_64 tc_w882 ?_
      refine tc_iload_n tc_d7_image_67 1 rfl ?_
      obtain ⟨hi10, h⟩ := tc_ckS h
      refine tc_iald tc_d7_image_68 tc_aL54 hi10 ?_
      obtain ⟨hi11, h⟩ := tc_ckS h
      refine tc_iastL tc_d7_image_69 tc_aL76 hi11 h (fun μ12 h => ?_)
      refine tc_aload_n tc_d7_image_70 0 rfl ?_
      refine tc_g7_38 tc_d7_image_71 tc_w916 ?_
      refine tc_bipush (v := 32) tc_d7_image_74 (by decide) ?_
      refine tc_iload_n tc_d7_image_76 1 rfl ?_
      refine tc_iadd tc_d7_image_77 ?_
      refine tc_aload_n tc_d7_image_78 0 rfl ?_
      refine tc_g7_5 tc_d7_image_79 tc_w883 ?_
      refine tc_iload_n tc_d7_image_82 1 rfl ?_
      obtain ⟨hi13, h⟩ := tc_ckS h
      refine tc_iald tc_d7_image_83 tc_aL55 hi13 ?_
      obtain ⟨hi14, h⟩ := tc_ckS h
      refine tc_iastL tc_d7_image_84 tc_aL76 hi14 h (fun μ15 h => ?_)
      refine tc_aload_n tc_d7_image_85 0 rfl ?_
      refine tc_g7_38 tc_d7_image_86 tc_w916 ?_
      refine tc_bipush (v := 40) tc_d7_image_89 (by decide) ?_
      refine tc_iload_n tc_d7_image_91 1 rfl ?_
      refine tc_iadd tc_d7_image_92 ?_
      refine tc_aload_n tc_d7_image_93 0 rfl ?_
      refine tc_g7_6 tc_d7_image_94 tc_w884 ?_
      refine tc_iload_n tc_d7_image_97 1 rfl ?_
      obtain ⟨hi16, h⟩ := tc_ckS h
      refine tc_zald tc_d7_image_98 tc_aL56 hi16 ?_
      refine tc_if_eq (tgt := 106) tc_d7_image_99 (by decide) h (fun h => ?_) (fun h => ?_)
      · refine tc_iconst (v := 0) tc_d7_image_106 (by decide) ?_
        exact (tc_b7_image_107 N ih _ _ _ _ _) h
      · refine tc_iconst (v := 1) tc_d7_image_102 (by decide) ?_
        refine tc_goto (tgt := 107) tc_d7_image_103 (by decide) ?_
        exact (tc_b7_image_107 N ih _ _ _ _ _) h
def tc_f7_image (N : Nat) (μ : tc_Mem) : Option (Int32 × tc_Mem) :=
  tc_lt (tc_wr μ 50 37 1) fun μ1 =>
  tc_f7_image_7 N N 0 μ1
theorem tc_b7_image_0 (N : Nat) (μ : tc_Mem) (z : Int32 × tc_Mem) (h : tc_f7_image N μ = some z) : tc_At l G tc_i7_image (some (.int z.1)) z.2 X 0 [(0, .ref (tc_ad G 50))] [] μ := by
  unfold tc_f7_image at h
  refine tc_aload_n tc_d7_image_0 0 rfl ?_
  refine tc_iconst (v := 1) tc_d7_image_1 (by decide) ?_
  refine tc_p7_37 tc_d7_image_2 tc_w915 (by decide) (by decide) h (fun μ1 h => ?_)
  refine tc_iconst (v := 0) tc_d7_image_5 (by decide) ?_
  refine tc_istore_n (L' := [(1, .int 0), (0, .ref (tc_ad G 50))]) tc_d7_image_6 (by decide) rfl ?_
  refine tc_sub [1, 0] rfl ?_
  exact (tc_b7_image_7 N N _ _ _) h
theorem tc_c7_image (N : Nat) {μ : tc_Mem} {z : Int32 × tc_Mem} (h : tc_f7_image N μ = some z) : tc_Con l G tc_i7_image [.ref (tc_ad G 50)] μ (some (.int z.1)) z.2 :=
  tc_Con.of (L := [(0, .ref (tc_ad G 50))]) (by decide) (Nat.le_of_ble_eq_true rfl) rfl (fun X => tc_b7_image_0 N  _ _ h)
def tc_f7_isDigitHere (N : Nat) (μ : tc_Mem) : Option (Int32 × tc_Mem) :=
  if (μ 50 17) ≤ (μ 50 32) then
    some (0, μ)
  else
    tc_ck (μ 50 32) 60 (
    tc_bd (tc_f7_in N (μ 63 (μ 50 32).toNatClampNeg) 48 57 μ) fun r2 μ3 =>
    if r2 = 0 then
      some (0, μ3)
    else
      some (1, μ3))
theorem tc_b7_isDigitHere_0 (N : Nat) (μ : tc_Mem) (z : Int32 × tc_Mem) (h : tc_f7_isDigitHere N μ = some z) : tc_At l G tc_i7_isDigitHere (some (.int z.1)) z.2 X 0 [(0, .ref (tc_ad G 50))] [] μ := by
  unfold tc_f7_isDigitHere at h
  refine tc_aload_n tc_d7_isDigitHere_0 0 rfl ?_
  refine tc_g7_32 tc_d7_isDigitHere_1 tc_w910 ?_
  refine tc_aload_n tc_d7_isDigitHere_4 0 rfl ?_
  refine tc_g7_17 tc_d7_isDigitHere_5 tc_w895 ?_
  refine tc_icmp_ge (tgt := 34) tc_d7_isDigitHere_8 (by decide) h (fun h => ?_) (fun h => ?_)
  · refine tc_iconst (v := 0) tc_d7_isDigitHere_34 (by decide) ?_
    exact tc_zret tc_d7_isDigitHere_35 rfl (by decide) (tc_riS h)
  · refine tc_aload_n tc_d7_isDigitHere_11 0 rfl ?_
    refine tc_g7_16 tc_d7_isDigitHere_12 tc_w894 ?_
    refine tc_aload_n tc_d7_isDigitHere_15 0 rfl ?_
    refine tc_g7_32 tc_d7_isDigitHere_16 tc_w910 ?_
    obtain ⟨hi1, h⟩ := tc_ckS h
    refine tc_iald tc_d7_isDigitHere_19 tc_aL63 hi1 ?_
    refine tc_bipush (v := 48) tc_d7_isDigitHere_20 (by decide) ?_
    refine tc_bipush (v := 57) tc_d7_isDigitHere_22 (by decide) ?_
    obtain ⟨r2, μ3, e2, h⟩ := tc_bdS h
    have c2 := tc_c7_in (l := l) (G := G) N e2
    refine tc_callSi (As := [.int (μ 63 (μ 50 32).toNatClampNeg), .int 48, .int 57]) (rest := []) (r1 := r2) (μ1 := μ3) tc_d7_isDigitHere_24 tc_ok7_in tc_w1001 ⟨Nat.le_of_ble_eq_true rfl, Nat.le_of_ble_eq_true rfl⟩ c2 rfl rfl (Nat.le_of_ble_eq_true rfl) ?_
    refine tc_if_eq (tgt := 34) tc_d7_isDigitHere_27 (by decide) h (fun h => ?_) (fun h => ?_)
    · refine tc_iconst (v := 0) tc_d7_isDigitHere_34 (by decide) ?_
      exact tc_zret tc_d7_isDigitHere_35 rfl (by decide) (tc_riS h)
    · refine tc_iconst (v := 1) tc_d7_isDigitHere_30 (by decide) ?_
      refine tc_goto (tgt := 35) tc_d7_isDigitHere_31 (by decide) ?_
      exact tc_zret tc_d7_isDigitHere_35 rfl (by decide) (tc_riS h)
theorem tc_c7_isDigitHere (N : Nat) {μ : tc_Mem} {z : Int32 × tc_Mem} (h : tc_f7_isDigitHere N μ = some z) : tc_Con l G tc_i7_isDigitHere [.ref (tc_ad G 50)] μ (some (.int z.1)) z.2 :=
  tc_Con.of (L := [(0, .ref (tc_ad G 50))]) (by decide) (Nat.le_of_ble_eq_true rfl) rfl (fun X => tc_b7_isDigitHere_0 N  _ _ h)
def tc_f7_isLetterHere (N : Nat) (μ : tc_Mem) : Option (Int32 × tc_Mem) :=
  if (μ 50 17) ≤ (μ 50 32) then
    some (0, μ)
  else
    tc_ck (μ 50 32) 60 (
    tc_bd (tc_f7_in N (μ 63 (μ 50 32).toNatClampNeg) 97 122 μ) fun r2 μ3 =>
    if r2 = 0 then
      some (0, μ3)
    else
      some (1, μ3))
theorem tc_b7_isLetterHere_0 (N : Nat) (μ : tc_Mem) (z : Int32 × tc_Mem) (h : tc_f7_isLetterHere N μ = some z) : tc_At l G tc_i7_isLetterHere (some (.int z.1)) z.2 X 0 [(0, .ref (tc_ad G 50))] [] μ := by
  unfold tc_f7_isLetterHere at h
  refine tc_aload_n tc_d7_isLetterHere_0 0 rfl ?_
  refine tc_g7_32 tc_d7_isLetterHere_1 tc_w910 ?_
  refine tc_aload_n tc_d7_isLetterHere_4 0 rfl ?_
  refine tc_g7_17 tc_d7_isLetterHere_5 tc_w895 ?_
  refine tc_icmp_ge (tgt := 34) tc_d7_isLetterHere_8 (by decide) h (fun h => ?_) (fun h => ?_)
  · refine tc_iconst (v := 0) tc_d7_isLetterHere_34 (by decide) ?_
    exact tc_zret tc_d7_isLetterHere_35 rfl (by decide) (tc_riS h)
  · refine tc_aload_n tc_d7_isLetterHere_11 0 rfl ?_
    refine tc_g7_16 tc_d7_isLetterHere_12 tc_w894 ?_
    refine tc_aload_n tc_d7_isLetterHere_15 0 rfl ?_
    refine tc_g7_32 tc_d7_isLetterHere_16 tc_w910 ?_
    obtain ⟨hi1, h⟩ := tc_ckS h
    refine tc_iald tc_d7_isLetterHere_19 tc_aL63 hi1 ?_
    refine tc_bipush (v := 97) tc_d7_isLetterHere_20 (by decide) ?_
    refine tc_bipush (v := 122) tc_d7_isLetterHere_22 (by decide) ?_
    obtain ⟨r2, μ3, e2, h⟩ := tc_bdS h
    have c2 := tc_c7_in (l := l) (G := G) N e2
    refine tc_callSi (As := [.int (μ 63 (μ 50 32).toNatClampNeg), .int 97, .int 122]) (rest := []) (r1 := r2) (μ1 := μ3) tc_d7_isLetterHere_24 tc_ok7_in tc_w1001 ⟨Nat.le_of_ble_eq_true rfl, Nat.le_of_ble_eq_true rfl⟩ c2 rfl rfl (Nat.le_of_ble_eq_true rfl) ?_
    refine tc_if_eq (tgt := 34) tc_d7_isLetterHere_27 (by decide) h (fun h => ?_) (fun h => ?_)
    · refine tc_iconst (v := 0) tc_d7_isLetterHere_34 (by decide) ?_
      exact tc_zret tc_d7_isLetterHere_35 rfl (by decide) (tc_riS h)
    · refine tc_iconst (v := 1) tc_d7_isLetterHere_30 (by decide) ?_
      refine tc_goto (tgt := 35) tc_d7_isLetterHere_31 (by decide) ?_
      exact tc_zret tc_d7_isLetterHere_35 rfl (by decide) (tc_riS h)
theorem tc_c7_isLetterHere (N : Nat) {μ : tc_Mem} {z : Int32 × tc_Mem} (h : tc_f7_isLetterHere N μ = some z) : tc_Con l G tc_i7_isLetterHere [.ref (tc_ad G 50)] μ (some (.int z.1)) z.2 :=
  tc_Con.of (L := [(0, .ref (tc_ad G 50))]) (by decide) (Nat.le_of_ble_eq_true rfl) rfl (fun X => tc_b7_isLetterHere_0 N  _ _ h)
def tc_f7_load_174 (N : Nat) (k70 : Int32 → Int32 → Int32 → Int32 → Int32 → tc_Mem → Option (Int32 × tc_Mem)) (x1 : Int32) (x3 : Int32) (x4 : Int32) (x6 : Int32) (s0 : Int32) (s1 : Int32) (μ : tc_Mem) : Option (Int32 × tc_Mem) :=
  tc_lt (s0 + s1) fun v1 =>
  k70 x1 x3 x4 v1 (x6 + 1) μ
theorem tc_b7_load_174 (N : Nat) {k70 : Int32 → Int32 → Int32 → Int32 → Int32 → tc_Mem → Option (Int32 × tc_Mem)} (H70 : ∀ (x1 : Int32) (x3 : Int32) (x4 : Int32) (x5 : Int32) (x6 : Int32) (μ : tc_Mem) (z : Int32 × tc_Mem), k70 x1 x3 x4 x5 x6 μ = some z → tc_At l G tc_i7_load (some (.int z.1)) z.2 X 70 [(0, .ref (tc_ad G 50)), (1, .int x1), (3, .int x3), (4, .int x4), (5, .int x5), (6, .int x6)] [] μ) (x1 : Int32) (x3 : Int32) (x4 : Int32) (x6 : Int32) (s0 : Int32) (s1 : Int32) (μ : tc_Mem) (z : Int32 × tc_Mem) (h : tc_f7_load_174 N k70 x1 x3 x4 x6 s0 s1 μ = some z) : tc_At l G tc_i7_load (some (.int z.1)) z.2 X 174 [(0, .ref (tc_ad G 50)), (1, .int x1), (3, .int x3), (4, .int x4), (6, .int x6)] [.int s1, .int s0] μ := by
  unfold tc_f7_load_174 at h
  refine tc_iadd tc_d7_load_174 ?_
  refine tc_ltI h (fun v1 h => ?_)
  refine tc_istore (L' := [(5, .int v1), (0, .ref (tc_ad G 50)), (1, .int x1), (3, .int x3), (4, .int x4), (6, .int x6)]) tc_d7_load_175 (by decide) rfl ?_
  refine tc_iinc (v := (x6 + 1)) (L' := [(6, .int (x6 + 1)), (5, .int v1), (0, .ref (tc_ad G 50)), (1, .int x1), (3, .int x3), (4, .int x4)]) tc_d7_load_177 5 rfl rfl (by decide) rfl ?_
  refine tc_goto (tgt := 70) tc_d7_load_180 (by decide) ?_
  refine tc_sub [2, 3, 4, 5, 1, 0] rfl ?_
  exact (H70 _ _ _ _ _ _ _) h
def tc_f7_load_70 (N : Nat) : Nat → Int32 → Int32 → Int32 → Int32 → Int32 → tc_Mem → Option (Int32 × tc_Mem)
  | 0 => fun _ _ _ _ _ _ => none
  | n + 1 => fun x1 x3 x4 x5 x6 μ => 
    if x4 ≤ x6 then
      some (x5, μ)
    else
      if (lg_cmp (x3.toInt64 + (4 * x6.toInt64)) 0) < 0 then
        some ((-12), μ)
      else
        tc_ck x1 4 (
        if (lg_cmp ((x3.toInt64 + (4 * x6.toInt64)) + 3) ((μ 65 x1.toNatClampNeg).toInt64)) < 0 then
          tc_lt ((40 * x1) + (x3.toInt64 + (4 * x6.toInt64)).toInt32) fun v2 =>
          tc_ck v2 160 (
          tc_ck (v2 + 1) 160 (
          tc_ck (v2 + 2) 160 (
          tc_ck (v2 + 3) 160 (
          tc_bd (tc_f7_section N (μ 66 v2.toNatClampNeg) (μ 66 (v2 + 1).toNatClampNeg) (μ 66 (v2 + 2).toNatClampNeg) (μ 66 (v2 + 3).toNatClampNeg) μ) fun r7 μ8 =>
          if r7 < 0 then
            tc_f7_load_174 N (tc_f7_load_70 N n) x1 x3 x4 x6 x5 0 μ8
          else
            tc_f7_load_174 N (tc_f7_load_70 N n) x1 x3 x4 x6 x5 1 μ8))))
        else
          some ((-12), μ))
theorem tc_b7_load_70 (N : Nat) : ∀ (n : Nat) (x1 : Int32) (x3 : Int32) (x4 : Int32) (x5 : Int32) (x6 : Int32) (μ : tc_Mem) (z : Int32 × tc_Mem), tc_f7_load_70 N n x1 x3 x4 x5 x6 μ = some z → tc_At l G tc_i7_load (some (.int z.1)) z.2 X 70 [(0, .ref (tc_ad G 50)), (1, .int x1), (3, .int x3), (4, .int x4), (5, .int x5), (6, .int x6)] [] μ := by
  intro n
  induction n with
  | zero => intro x1 x3 x4 x5 x6 μ z h; cases h
  | succ n ih =>
    intro x1 x3 x4 x5 x6 μ z h
    rw [tc_f7_load_70] at h
    refine tc_iload tc_d7_load_70 5 rfl ?_
    refine tc_iload tc_d7_load_72 3 rfl ?_
    refine tc_icmp_ge (tgt := 183) tc_d7_load_74 (by decide) h (fun h => ?_) (fun h => ?_)
    · refine tc_iload tc_d7_load_183 4 rfl ?_
      exact tc_iret tc_d7_load_185 rfl (tc_riS h)
    · refine tc_iload_n tc_d7_load_77 2 rfl ?_
      refine tc_i2l tc_d7_load_78 ?_
      refine tc_ldc2 (v := 4) tc_d7_load_79 tc_w1308 ?_
      refine tc_iload tc_d7_load_82 5 rfl ?_
      refine tc_i2l tc_d7_load_84 ?_
      refine tc_lmul tc_d7_load_85 ?_
      refine tc_ladd tc_d7_load_86 ?_
      refine tc_lstore (L' := [(7, .long (x3.toInt64 + (4 * x6.toInt64))), (0, .ref (tc_ad G 50)), (1, .int x1), (3, .int x3), (4, .int x4), (5, .int x5), (6, .int x6)]) tc_d7_load_87 (by decide) rfl ?_
      refine tc_lload tc_d7_load_89 0 rfl ?_
      refine tc_lconst (v := 0) tc_d7_load_91 (by decide) ?_
      refine tc_lcmp tc_d7_load_92 ?_
      refine tc_if_lt (tgt := 113) tc_d7_load_93 (by decide) h (fun h => ?_) (fun h => ?_)
      · refine tc_bipush (v := (-12)) tc_d7_load_113 (by decide) ?_
        exact tc_iret tc_d7_load_115 rfl (tc_riS h)
      · refine tc_lload tc_d7_load_96 0 rfl ?_
        refine tc_ldc2 (v := 3) tc_d7_load_98 tc_w1309 ?_
        refine tc_ladd tc_d7_load_101 ?_
        refine tc_aload_n tc_d7_load_102 1 rfl ?_
        refine tc_g7_19 tc_d7_load_103 tc_w897 ?_
        refine tc_iload_n tc_d7_load_106 2 rfl ?_
        obtain ⟨hi1, h⟩ := tc_ckS h
        refine tc_iald tc_d7_load_107 tc_aL65 hi1 ?_
        refine tc_i2l tc_d7_load_108 ?_
        refine tc_lcmp tc_d7_load_109 ?_
        refine tc_if_lt (tgt := 116) tc_d7_load_110 (by decide) h (fun h => ?_) (fun h => ?_)
        · refine tc_bipush (v := 40) tc_d7_load_116 (by decide) ?_
          refine tc_iload_n tc_d7_load_118 2 rfl ?_
          refine tc_imul tc_d7_load_119 ?_
          refine tc_lload tc_d7_load_120 0 rfl ?_
          refine tc_l2i tc_d7_load_122 ?_
          refine tc_iadd tc_d7_load_123 ?_
          refine tc_ltI h (fun v2 h => ?_)
          refine tc_istore (L' := [(9, .int v2), (7, .long (x3.toInt64 + (4 * x6.toInt64))), (0, .ref (tc_ad G 50)), (1, .int x1), (3, .int x3), (4, .int x4), (5, .int x5), (6, .int x6)]) tc_d7_load_124 (by decide) rfl ?_
          refine tc_iload tc_d7_load_126 6 rfl ?_
          refine tc_aload_n tc_d7_load_128 2 rfl ?_
          refine tc_aload_n tc_d7_load_129 2 rfl ?_
          refine tc_g7_20 tc_d7_load_130 tc_w898 ?_
          refine tc_iload tc_d7_load_133 0 rfl ?_
          obtain ⟨hi3, h⟩ := tc_ckS h
          refine tc_iald tc_d7_load_135 tc_aL66 hi3 ?_
          refine tc_aload_n tc_d7_load_136 2 rfl ?_
          refine tc_g7_20 tc_d7_load_137 tc_w898 ?_
          refine tc_iload tc_d7_load_140 0 rfl ?_
          refine tc_iconst (v := 1) tc_d7_load_142 (by decide) ?_
          refine tc_iadd tc_d7_load_143 ?_
          obtain ⟨hi4, h⟩ := tc_ckS h
          refine tc_iald tc_d7_load_144 tc_aL66 hi4 ?_
          refine tc_aload_n tc_d7_load_145 2 rfl ?_
          refine tc_g7_20 tc_d7_load_146 tc_w898 ?_
          refine tc_iload tc_d7_load_149 0 rfl ?_
          refine tc_iconst (v := 2) tc_d7_load_151 (by decide) ?_
          refine tc_iadd tc_d7_load_152 ?_
          obtain ⟨hi5, h⟩ := tc_ckS h
          refine tc_iald tc_d7_load_153 tc_aL66 hi5 ?_
          refine tc_aload_n tc_d7_load_154 2 rfl ?_
          refine tc_g7_20 tc_d7_load_155 tc_w898 ?_
          refine tc_iload tc_d7_load_158 0 rfl ?_
          refine tc_iconst (v := 3) tc_d7_load_160 (by decide) ?_
          refine tc_iadd tc_d7_load_161 ?_
          obtain ⟨hi6, h⟩ := tc_ckS h
          refine tc_iald tc_d7_load_162 tc_aL66 hi6 ?_
          obtain ⟨r7, μ8, e7, h⟩ := tc_bdS h
          have c7 := tc_c7_section (l := l) (G := G) N e7
          refine tc_callVi (As := [.int (μ 66 v2.toNatClampNeg), .int (μ 66 (v2 + 1).toNatClampNeg), .int (μ 66 (v2 + 2).toNatClampNeg), .int (μ 66 (v2 + 3).toNatClampNeg)]) (rest := [.int x5]) (r1 := r7) (μ1 := μ8) tc_d7_load_163 tc_ok7_section tc_w1289 ⟨Nat.le_of_ble_eq_true rfl, Nat.le_of_ble_eq_true rfl⟩ tc_s7 rfl c7 rfl rfl (Nat.le_of_ble_eq_true rfl) ?_
          refine tc_if_lt (tgt := 173) tc_d7_load_166 (by decide) h (fun h => ?_) (fun h => ?_)
          · refine tc_iconst (v := 0) tc_d7_load_173 (by decide) ?_
            refine tc_sub [2, 3, 4, 5, 7] rfl ?_
            exact (tc_b7_load_174 N ih _ _ _ _ _ _ _ _) h
          · refine tc_iconst (v := 1) tc_d7_load_169 (by decide) ?_
            refine tc_goto (tgt := 174) tc_d7_load_170 (by decide) ?_
            refine tc_sub [2, 3, 4, 5, 7] rfl ?_
            exact (tc_b7_load_174 N ih _ _ _ _ _ _ _ _) h
        · refine tc_bipush (v := (-12)) tc_d7_load_113 (by decide) ?_
          exact tc_iret tc_d7_load_115 rfl (tc_riS h)
def tc_f7_load_52 (N : Nat) (x1 : Int32) (x3 : Int32) (x4 : Int32) (μ : tc_Mem) : Option (Int32 × tc_Mem) :=
  tc_ck x1 4 (
  if (0 : Int32) ≤ (μ 64 x1.toNatClampNeg) then
    tc_f7_load_70 N N x1 x3 x4 0 0 μ
  else
    some ((-11), μ))
theorem tc_b7_load_52 (N : Nat) (x1 : Int32) (x3 : Int32) (x4 : Int32) (μ : tc_Mem) (z : Int32 × tc_Mem) (h : tc_f7_load_52 N x1 x3 x4 μ = some z) : tc_At l G tc_i7_load (some (.int z.1)) z.2 X 52 [(0, .ref (tc_ad G 50)), (1, .int x1), (3, .int x3), (4, .int x4)] [] μ := by
  unfold tc_f7_load_52 at h
  refine tc_aload_n tc_d7_load_52 0 rfl ?_
  refine tc_g7_18 tc_d7_load_53 tc_w896 ?_
  refine tc_iload_n tc_d7_load_56 1 rfl ?_
  obtain ⟨hi1, h⟩ := tc_ckS h
  refine tc_iald tc_d7_load_57 tc_aL64 hi1 ?_
  refine tc_if_ge (tgt := 64) tc_d7_load_58 (by decide) h (fun h => ?_) (fun h => ?_)
  · refine tc_iconst (v := 0) tc_d7_load_64 (by decide) ?_
    refine tc_istore (L' := [(5, .int 0), (0, .ref (tc_ad G 50)), (1, .int x1), (3, .int x3), (4, .int x4)]) tc_d7_load_65 (by decide) rfl ?_
    refine tc_iconst (v := 0) tc_d7_load_67 (by decide) ?_
    refine tc_istore (L' := [(6, .int 0), (5, .int 0), (0, .ref (tc_ad G 50)), (1, .int x1), (3, .int x3), (4, .int x4)]) tc_d7_load_68 (by decide) rfl ?_
    refine tc_sub [2, 3, 4, 5, 1, 0] rfl ?_
    exact (tc_b7_load_70 N N _ _ _ _ _ _ _) h
  · refine tc_bipush (v := (-11)) tc_d7_load_61 (by decide) ?_
    exact tc_iret tc_d7_load_63 rfl (tc_riS h)
def tc_f7_load (N : Nat) (x1 : Int32) (x2 : Int32) (x3 : Int32) (x4 : Int32) (μ : tc_Mem) : Option (Int32 × tc_Mem) :=
  tc_bd (tc_f7_isSheet N x1 μ) fun r1 μ2 =>
  if r1 = 0 then
    some ((-2), μ2)
  else
    tc_bd (tc_f7_in N x2 0 1 μ2) fun r3 μ4 =>
    if r3 = 0 then
      some ((-2), μ4)
    else
      tc_bd (tc_f7_in N x4 0 8 μ4) fun r5 μ6 =>
      if r5 = 0 then
        some ((-2), μ6)
      else
        tc_ck x1 4 (
        if (μ6 64 x1.toNatClampNeg) < 0 then
          tc_f7_load_52 N x1 x3 x4 μ6
        else
          tc_ck x1 4 (
          if (μ6 64 x1.toNatClampNeg) = x2 then
            tc_f7_load_52 N x1 x3 x4 μ6
          else
            some ((-13), μ6)))
theorem tc_b7_load_0 (N : Nat) (x1 : Int32) (x2 : Int32) (x3 : Int32) (x4 : Int32) (μ : tc_Mem) (z : Int32 × tc_Mem) (h : tc_f7_load N x1 x2 x3 x4 μ = some z) : tc_At l G tc_i7_load (some (.int z.1)) z.2 X 0 [(0, .ref (tc_ad G 50)), (1, .int x1), (2, .int x2), (3, .int x3), (4, .int x4)] [] μ := by
  unfold tc_f7_load at h
  refine tc_iload_n tc_d7_load_0 1 rfl ?_
  obtain ⟨r1, μ2, e1, h⟩ := tc_bdS h
  have c1 := tc_c7_isSheet (l := l) (G := G) N e1
  refine tc_callSi (As := [.int x1]) (rest := []) (r1 := r1) (μ1 := μ2) tc_d7_load_1 tc_ok7_isSheet tc_w1223 ⟨Nat.le_of_ble_eq_true rfl, Nat.le_of_ble_eq_true rfl⟩ c1 rfl rfl (Nat.le_of_ble_eq_true rfl) ?_
  refine tc_if_eq (tgt := 27) tc_d7_load_4 (by decide) h (fun h => ?_) (fun h => ?_)
  · refine tc_bipush (v := (-2)) tc_d7_load_27 (by decide) ?_
    exact tc_iret tc_d7_load_29 rfl (tc_riS h)
  · refine tc_iload_n tc_d7_load_7 2 rfl ?_
    refine tc_iconst (v := 0) tc_d7_load_8 (by decide) ?_
    refine tc_iconst (v := 1) tc_d7_load_9 (by decide) ?_
    obtain ⟨r3, μ4, e3, h⟩ := tc_bdS h
    have c3 := tc_c7_in (l := l) (G := G) N e3
    refine tc_callSi (As := [.int x2, .int 0, .int 1]) (rest := []) (r1 := r3) (μ1 := μ4) tc_d7_load_10 tc_ok7_in tc_w1001 ⟨Nat.le_of_ble_eq_true rfl, Nat.le_of_ble_eq_true rfl⟩ c3 rfl rfl (Nat.le_of_ble_eq_true rfl) ?_
    refine tc_if_eq (tgt := 27) tc_d7_load_13 (by decide) h (fun h => ?_) (fun h => ?_)
    · refine tc_bipush (v := (-2)) tc_d7_load_27 (by decide) ?_
      exact tc_iret tc_d7_load_29 rfl (tc_riS h)
    · refine tc_iload tc_d7_load_16 4 rfl ?_
      refine tc_iconst (v := 0) tc_d7_load_18 (by decide) ?_
      refine tc_bipush (v := 8) tc_d7_load_19 (by decide) ?_
      obtain ⟨r5, μ6, e5, h⟩ := tc_bdS h
      have c5 := tc_c7_in (l := l) (G := G) N e5
      refine tc_callSi (As := [.int x4, .int 0, .int 8]) (rest := []) (r1 := r5) (μ1 := μ6) tc_d7_load_21 tc_ok7_in tc_w1001 ⟨Nat.le_of_ble_eq_true rfl, Nat.le_of_ble_eq_true rfl⟩ c5 rfl rfl (Nat.le_of_ble_eq_true rfl) ?_
      refine tc_if_ne (tgt := 30) tc_d7_load_24 (by decide) h (fun h => ?_) (fun h => ?_)
      · refine tc_aload_n tc_d7_load_30 0 rfl ?_
        refine tc_g7_18 tc_d7_load_31 tc_w896 ?_
        refine tc_iload_n tc_d7_load_34 1 rfl ?_
        obtain ⟨hi7, h⟩ := tc_ckS h
        refine tc_iald tc_d7_load_35 tc_aL64 hi7 ?_
        refine tc_if_lt (tgt := 52) tc_d7_load_36 (by decide) h (fun h => ?_) (fun h => ?_)
        · refine tc_sub [0, 1, 3, 4] rfl ?_
          exact (tc_b7_load_52 N _ _ _ _ _) h
        · refine tc_aload_n tc_d7_load_39 0 rfl ?_
          refine tc_g7_18 tc_d7_load_40 tc_w896 ?_
          refine tc_iload_n tc_d7_load_43 1 rfl ?_
          obtain ⟨hi8, h⟩ := tc_ckS h
          refine tc_iald tc_d7_load_44 tc_aL64 hi8 ?_
          refine tc_iload_n tc_d7_load_45 2 rfl ?_
          refine tc_icmp_eq (tgt := 52) tc_d7_load_46 (by decide) h (fun h => ?_) (fun h => ?_)
          · refine tc_sub [0, 1, 3, 4] rfl ?_
            exact (tc_b7_load_52 N _ _ _ _ _) h
          · refine tc_bipush (v := (-13)) tc_d7_load_49 (by decide) ?_
            exact tc_iret tc_d7_load_51 rfl (tc_riS h)
      · refine tc_bipush (v := (-2)) tc_d7_load_27 (by decide) ?_
        exact tc_iret tc_d7_load_29 rfl (tc_riS h)
theorem tc_c7_load (N : Nat) {x1 : Int32} {x2 : Int32} {x3 : Int32} {x4 : Int32} {μ : tc_Mem} {z : Int32 × tc_Mem} (h : tc_f7_load N x1 x2 x3 x4 μ = some z) : tc_Con l G tc_i7_load [.ref (tc_ad G 50), .int x1, .int x2, .int x3, .int x4] μ (some (.int z.1)) z.2 :=
  tc_Con.of (L := [(0, .ref (tc_ad G 50)), (1, .int x1), (2, .int x2), (3, .int x3), (4, .int x4)]) (by decide) (Nat.le_of_ble_eq_true rfl) rfl (fun X => tc_b7_load_0 N  _ _ _ _ _ _ h)
def tc_f7_log (N : Nat) (x1 : Int32) (μ : tc_Mem) : Option (Int32 × tc_Mem) :=
  if ((-1) : Int32) ≤ x1 then
    if x1 = (-1) then
      some ((μ 50 14), μ)
    else
      if (μ 50 14) ≤ x1 then
        some ((-1), μ)
      else
        tc_ck x1 40 (
        some ((μ 62 x1.toNatClampNeg), μ))
  else
    some ((-2), μ)
theorem tc_b7_log_0 (N : Nat) (x1 : Int32) (μ : tc_Mem) (z : Int32 × tc_Mem) (h : tc_f7_log N x1 μ = some z) : tc_At l G tc_i7_log (some (.int z.1)) z.2 X 0 [(0, .ref (tc_ad G 50)), (1, .int x1)] [] μ := by
  unfold tc_f7_log at h
  refine tc_iload_n tc_d7_log_0 1 rfl ?_
  refine tc_iconst (v := (-1)) tc_d7_log_1 (by decide) ?_
  refine tc_icmp_ge (tgt := 8) tc_d7_log_2 (by decide) h (fun h => ?_) (fun h => ?_)
  · refine tc_iload_n tc_d7_log_8 1 rfl ?_
    refine tc_iconst (v := (-1)) tc_d7_log_9 (by decide) ?_
    refine tc_icmp_ne (tgt := 20) tc_d7_log_10 (by decide) h (fun h => ?_) (fun h => ?_)
    · refine tc_iload_n tc_d7_log_20 1 rfl ?_
      refine tc_aload_n tc_d7_log_21 0 rfl ?_
      refine tc_g7_14 tc_d7_log_22 tc_w892 ?_
      refine tc_icmp_ge (tgt := 37) tc_d7_log_25 (by decide) h (fun h => ?_) (fun h => ?_)
      · refine tc_iconst (v := (-1)) tc_d7_log_37 (by decide) ?_
        exact tc_iret tc_d7_log_38 rfl (tc_riS h)
      · refine tc_aload_n tc_d7_log_28 0 rfl ?_
        refine tc_g7_15 tc_d7_log_29 tc_w893 ?_
        refine tc_iload_n tc_d7_log_32 1 rfl ?_
        obtain ⟨hi1, h⟩ := tc_ckS h
        refine tc_iald tc_d7_log_33 tc_aL62 hi1 ?_
        refine tc_goto (tgt := 38) tc_d7_log_34 (by decide) ?_
        exact tc_iret tc_d7_log_38 rfl (tc_riS h)
    · refine tc_aload_n tc_d7_log_13 0 rfl ?_
      refine tc_g7_14 tc_d7_log_14 tc_w892 ?_
      refine tc_goto (tgt := 38) tc_d7_log_17 (by decide) ?_
      exact tc_iret tc_d7_log_38 rfl (tc_riS h)
  · refine tc_bipush (v := (-2)) tc_d7_log_5 (by decide) ?_
    exact tc_iret tc_d7_log_7 rfl (tc_riS h)
theorem tc_c7_log (N : Nat) {x1 : Int32} {μ : tc_Mem} {z : Int32 × tc_Mem} (h : tc_f7_log N x1 μ = some z) : tc_Con l G tc_i7_log [.ref (tc_ad G 50), .int x1] μ (some (.int z.1)) z.2 :=
  tc_Con.of (L := [(0, .ref (tc_ad G 50)), (1, .int x1)]) (by decide) (Nat.le_of_ble_eq_true rfl) rfl (fun X => tc_b7_log_0 N  _ _ _ h)
def tc_f7_moves (N : Nat) (μ : tc_Mem) : Option (Int32 × tc_Mem) :=
  tc_bd (tc_f7_goTrains N μ) fun _ μ2 =>
  tc_bd (tc_f7_bitsOf N 3 μ2) fun r3 μ4 =>
  some (r3, μ4)
theorem tc_b7_moves_0 (N : Nat) (μ : tc_Mem) (z : Int32 × tc_Mem) (h : tc_f7_moves N μ = some z) : tc_At l G tc_i7_moves (some (.int z.1)) z.2 X 0 [(0, .ref (tc_ad G 50))] [] μ := by
  unfold tc_f7_moves at h
  refine tc_aload_n tc_d7_moves_0 0 rfl ?_
  obtain ⟨r1, μ2, e1, h⟩ := tc_bdS h
  have c1 := tc_c7_goTrains (l := l) (G := G) N e1
  refine tc_callVv (As := []) (rest := []) (μ1 := μ2) tc_d7_moves_1 tc_ok7_goTrains tc_w1057 ⟨Nat.le_of_ble_eq_true rfl, Nat.le_of_ble_eq_true rfl⟩ tc_s7 rfl c1 rfl rfl (Nat.le_of_ble_eq_true rfl) ?_
  refine tc_aload_n tc_d7_moves_4 0 rfl ?_
  refine tc_iconst (v := 3) tc_d7_moves_5 (by decide) ?_
  obtain ⟨r3, μ4, e3, h⟩ := tc_bdS h
  have c3 := tc_c7_bitsOf (l := l) (G := G) N e3
  refine tc_callVi (As := [.int 3]) (rest := []) (r1 := r3) (μ1 := μ4) tc_d7_moves_6 tc_ok7_bitsOf tc_w1061 ⟨Nat.le_of_ble_eq_true rfl, Nat.le_of_ble_eq_true rfl⟩ tc_s7 rfl c3 rfl rfl (Nat.le_of_ble_eq_true rfl) ?_
  exact tc_iret tc_d7_moves_9 rfl (tc_riS h)
theorem tc_c7_moves (N : Nat) {μ : tc_Mem} {z : Int32 × tc_Mem} (h : tc_f7_moves N μ = some z) : tc_Con l G tc_i7_moves [.ref (tc_ad G 50)] μ (some (.int z.1)) z.2 :=
  tc_Con.of (L := [(0, .ref (tc_ad G 50))]) (by decide) (Nat.le_of_ble_eq_true rfl) rfl (fun X => tc_b7_moves_0 N  _ _ h)
def tc_f7_numbersOf (N : Nat) (x0 : Int32) (μ : tc_Mem) : Option (Int32 × tc_Mem) :=
  if x0 < 0 ∨ 7 < x0 then
    some (1, μ)
  else if x0 = 0 then
    some (4, μ)
  else if x0 = 1 then
    some (1, μ)
  else if x0 = 2 then
    some (1, μ)
  else if x0 = 3 then
    some (2, μ)
  else if x0 = 4 then
    some (1, μ)
  else if x0 = 5 then
    some (1, μ)
  else if x0 = 6 then
    some (0, μ)
  else if x0 = 7 then
    some (0, μ)
  else none
theorem tc_b7_numbersOf_0 (N : Nat) (x0 : Int32) (μ : tc_Mem) (z : Int32 × tc_Mem) (h : tc_f7_numbersOf N x0 μ = some z) : tc_At l G tc_i7_numbersOf (some (.int z.1)) z.2 X 0 [(0, .int x0)] [] μ := by
  unfold tc_f7_numbersOf at h
  refine tc_iload_n tc_d7_numbersOf_0 0 rfl ?_
  by_cases hq : x0 < 0 ∨ 7 < x0
  · rw [if_pos hq] at h
    refine tc_tswD (a := 0) (b := 7) (tgt := 54) tc_d7_numbersOf_1 ⟨by decide, by decide⟩ hq (by decide) ?_
    refine tc_iconst (v := 1) tc_d7_numbersOf_54 (by decide) ?_
    exact tc_iret tc_d7_numbersOf_55 rfl (tc_riS h)
  · rw [if_neg hq] at h
    by_cases hq : x0 = 0
    · rw [if_pos hq] at h
      refine tc_tswK (k := 0) (off := 47) (tgt := 48) tc_d7_numbersOf_1 hq (by decide) (by decide) rfl (by decide) ?_
      refine tc_iconst (v := 4) tc_d7_numbersOf_48 (by decide) ?_
      exact tc_iret tc_d7_numbersOf_49 rfl (tc_riS h)
    · rw [if_neg hq] at h
      by_cases hq : x0 = 1
      · rw [if_pos hq] at h
        refine tc_tswK (k := 1) (off := 53) (tgt := 54) tc_d7_numbersOf_1 hq (by decide) (by decide) rfl (by decide) ?_
        refine tc_iconst (v := 1) tc_d7_numbersOf_54 (by decide) ?_
        exact tc_iret tc_d7_numbersOf_55 rfl (tc_riS h)
      · rw [if_neg hq] at h
        by_cases hq : x0 = 2
        · rw [if_pos hq] at h
          refine tc_tswK (k := 2) (off := 53) (tgt := 54) tc_d7_numbersOf_1 hq (by decide) (by decide) rfl (by decide) ?_
          refine tc_iconst (v := 1) tc_d7_numbersOf_54 (by decide) ?_
          exact tc_iret tc_d7_numbersOf_55 rfl (tc_riS h)
        · rw [if_neg hq] at h
          by_cases hq : x0 = 3
          · rw [if_pos hq] at h
            refine tc_tswK (k := 3) (off := 49) (tgt := 50) tc_d7_numbersOf_1 hq (by decide) (by decide) rfl (by decide) ?_
            refine tc_iconst (v := 2) tc_d7_numbersOf_50 (by decide) ?_
            exact tc_iret tc_d7_numbersOf_51 rfl (tc_riS h)
          · rw [if_neg hq] at h
            by_cases hq : x0 = 4
            · rw [if_pos hq] at h
              refine tc_tswK (k := 4) (off := 53) (tgt := 54) tc_d7_numbersOf_1 hq (by decide) (by decide) rfl (by decide) ?_
              refine tc_iconst (v := 1) tc_d7_numbersOf_54 (by decide) ?_
              exact tc_iret tc_d7_numbersOf_55 rfl (tc_riS h)
            · rw [if_neg hq] at h
              by_cases hq : x0 = 5
              · rw [if_pos hq] at h
                refine tc_tswK (k := 5) (off := 53) (tgt := 54) tc_d7_numbersOf_1 hq (by decide) (by decide) rfl (by decide) ?_
                refine tc_iconst (v := 1) tc_d7_numbersOf_54 (by decide) ?_
                exact tc_iret tc_d7_numbersOf_55 rfl (tc_riS h)
              · rw [if_neg hq] at h
                by_cases hq : x0 = 6
                · rw [if_pos hq] at h
                  refine tc_tswK (k := 6) (off := 51) (tgt := 52) tc_d7_numbersOf_1 hq (by decide) (by decide) rfl (by decide) ?_
                  refine tc_iconst (v := 0) tc_d7_numbersOf_52 (by decide) ?_
                  exact tc_iret tc_d7_numbersOf_53 rfl (tc_riS h)
                · rw [if_neg hq] at h
                  by_cases hq : x0 = 7
                  · rw [if_pos hq] at h
                    refine tc_tswK (k := 7) (off := 51) (tgt := 52) tc_d7_numbersOf_1 hq (by decide) (by decide) rfl (by decide) ?_
                    refine tc_iconst (v := 0) tc_d7_numbersOf_52 (by decide) ?_
                    exact tc_iret tc_d7_numbersOf_53 rfl (tc_riS h)
                  · rw [if_neg hq] at h
                    cases h
theorem tc_c7_numbersOf (N : Nat) {x0 : Int32} {μ : tc_Mem} {z : Int32 × tc_Mem} (h : tc_f7_numbersOf N x0 μ = some z) : tc_Con l G tc_i7_numbersOf [.int x0] μ (some (.int z.1)) z.2 :=
  tc_Con.of (L := [(0, .int x0)]) (by decide) (Nat.le_of_ble_eq_true rfl) rfl (fun X => tc_b7_numbersOf_0 N  _ _ _ h)
def tc_f7_of (N : Nat) (x1 : Int32) (x2 : Int32) (μ : tc_Mem) : Option (Int32 × tc_Mem) :=
  tc_bd (tc_f7_isSection N x1 μ) fun r1 μ2 =>
  if r1 = 0 then
    some ((-2), μ2)
  else
    if x2 < 0 ∨ 8 < x2 then
      some ((-2), μ2)
    else if x2 = 0 then
      tc_ck x1 8 (
      some ((μ2 52 x1.toNatClampNeg), μ2))
    else if x2 = 1 then
      tc_ck x1 8 (
      some ((μ2 53 x1.toNatClampNeg), μ2))
    else if x2 = 2 then
      tc_ck x1 8 (
      some ((μ2 54 x1.toNatClampNeg), μ2))
    else if x2 = 3 then
      tc_ck x1 8 (
      some ((μ2 51 x1.toNatClampNeg), μ2))
    else if x2 = 4 then
      tc_bd (tc_f7_leakOf N x1 μ2) fun r7 μ8 =>
      some (r7, μ8)
    else if x2 = 5 then
      tc_bd (tc_f7_currentOf N x1 μ2) fun r9 μ10 =>
      some (r9, μ10)
    else if x2 = 6 then
      tc_ck x1 8 (
      if (μ2 56 x1.toNatClampNeg) = 0 then
        some (0, μ2)
      else
        some (1, μ2))
    else if x2 = 7 then
      tc_ck x1 8 (
      some ((μ2 55 x1.toNatClampNeg), μ2))
    else if x2 = 8 then
      tc_ck x1 8 (
      tc_bd (tc_f7_looksOf N (μ2 51 x1.toNatClampNeg) μ2) fun r14 μ15 =>
      some (r14, μ15))
    else none
theorem tc_b7_of_0 (N : Nat) (x1 : Int32) (x2 : Int32) (μ : tc_Mem) (z : Int32 × tc_Mem) (h : tc_f7_of N x1 x2 μ = some z) : tc_At l G tc_i7_of (some (.int z.1)) z.2 X 0 [(0, .ref (tc_ad G 50)), (1, .int x1), (2, .int x2)] [] μ := by
  unfold tc_f7_of at h
  refine tc_aload_n tc_d7_of_0 0 rfl ?_
  refine tc_iload_n tc_d7_of_1 1 rfl ?_
  obtain ⟨r1, μ2, e1, h⟩ := tc_bdS h
  have c1 := tc_c7_isSection (l := l) (G := G) N e1
  refine tc_callVi (As := [.int x1]) (rest := []) (r1 := r1) (μ1 := μ2) tc_d7_of_2 tc_ok7_isSection tc_w1016 ⟨Nat.le_of_ble_eq_true rfl, Nat.le_of_ble_eq_true rfl⟩ tc_s7 rfl c1 rfl rfl (Nat.le_of_ble_eq_true rfl) ?_
  refine tc_if_ne (tgt := 11) tc_d7_of_5 (by decide) h (fun h => ?_) (fun h => ?_)
  · refine tc_iload_n tc_d7_of_11 2 rfl ?_
    by_cases hq : x2 < 0 ∨ 8 < x2
    · rw [if_pos hq] at h
      refine tc_tswD (a := 0) (b := 8) (tgt := 136) tc_d7_of_12 ⟨by decide, by decide⟩ hq (by decide) ?_
      refine tc_bipush (v := (-2)) tc_d7_of_136 (by decide) ?_
      exact tc_iret tc_d7_of_138 rfl (tc_riS h)
    · rw [if_neg hq] at h
      by_cases hq : x2 = 0
      · rw [if_pos hq] at h
        refine tc_tswK (k := 0) (off := 52) (tgt := 64) tc_d7_of_12 hq (by decide) (by decide) rfl (by decide) ?_
        refine tc_aload_n tc_d7_of_64 0 rfl ?_
        refine tc_g7_2 tc_d7_of_65 tc_w880 ?_
        refine tc_iload_n tc_d7_of_68 1 rfl ?_
        obtain ⟨hi3, h⟩ := tc_ckS h
        refine tc_iald tc_d7_of_69 tc_aL52 hi3 ?_
        exact tc_iret tc_d7_of_70 rfl (tc_riS h)
      · rw [if_neg hq] at h
        by_cases hq : x2 = 1
        · rw [if_pos hq] at h
          refine tc_tswK (k := 1) (off := 59) (tgt := 71) tc_d7_of_12 hq (by decide) (by decide) rfl (by decide) ?_
          refine tc_aload_n tc_d7_of_71 0 rfl ?_
          refine tc_g7_3 tc_d7_of_72 tc_w881 ?_
          refine tc_iload_n tc_d7_of_75 1 rfl ?_
          obtain ⟨hi4, h⟩ := tc_ckS h
          refine tc_iald tc_d7_of_76 tc_aL53 hi4 ?_
          exact tc_iret tc_d7_of_77 rfl (tc_riS h)
        · rw [if_neg hq] at h
          by_cases hq : x2 = 2
          · rw [if_pos hq] at h
            refine tc_tswK (k := 2) (off := 66) (tgt := 78) tc_d7_of_12 hq (by decide) (by decide) rfl (by decide) ?_
            refine tc_aload_n tc_d7_of_78 0 rfl ?_
            refine tc_g7_4 tc_d7_of_79 tc_w882 ?_
            refine tc_iload_n tc_d7_of_82 1 rfl ?_
            obtain ⟨hi5, h⟩ := tc_ckS h
            refine tc_iald tc_d7_of_83 tc_aL54 hi5 ?_
            exact tc_iret tc_d7_of_84 rfl (tc_riS h)
          · rw [if_neg hq] at h
            by_cases hq : x2 = 3
            · rw [if_pos hq] at h
              refine tc_tswK (k := 3) (off := 73) (tgt := 85) tc_d7_of_12 hq (by decide) (by decide) rfl (by decide) ?_
              refine tc_aload_n tc_d7_of_85 0 rfl ?_
              refine tc_g7_1 tc_d7_of_86 tc_w879 ?_
              refine tc_iload_n tc_d7_of_89 1 rfl ?_
              obtain ⟨hi6, h⟩ := tc_ckS h
              refine tc_iald tc_d7_of_90 tc_aL51 hi6 ?_
              exact tc_iret tc_d7_of_91 rfl (tc_riS h)
            · rw [if_neg hq] at h
              by_cases hq : x2 = 4
              · rw [if_pos hq] at h
                refine tc_tswK (k := 4) (off := 80) (tgt := 92) tc_d7_of_12 hq (by decide) (by decide) rfl (by decide) ?_
                refine tc_aload_n tc_d7_of_92 0 rfl ?_
                refine tc_iload_n tc_d7_of_93 1 rfl ?_
                obtain ⟨r7, μ8, e7, h⟩ := tc_bdS h
                have c7 := tc_c7_leakOf (l := l) (G := G) N e7
                refine tc_callVi (As := [.int x1]) (rest := []) (r1 := r7) (μ1 := μ8) tc_d7_of_94 tc_ok7_leakOf tc_w1024 ⟨Nat.le_of_ble_eq_true rfl, Nat.le_of_ble_eq_true rfl⟩ tc_s7 rfl c7 rfl rfl (Nat.le_of_ble_eq_true rfl) ?_
                exact tc_iret tc_d7_of_97 rfl (tc_riS h)
              · rw [if_neg hq] at h
                by_cases hq : x2 = 5
                · rw [if_pos hq] at h
                  refine tc_tswK (k := 5) (off := 86) (tgt := 98) tc_d7_of_12 hq (by decide) (by decide) rfl (by decide) ?_
                  refine tc_aload_n tc_d7_of_98 0 rfl ?_
                  refine tc_iload_n tc_d7_of_99 1 rfl ?_
                  obtain ⟨r9, μ10, e9, h⟩ := tc_bdS h
                  have c9 := tc_c7_currentOf (l := l) (G := G) N e9
                  refine tc_callVi (As := [.int x1]) (rest := []) (r1 := r9) (μ1 := μ10) tc_d7_of_100 tc_ok7_currentOf tc_w1028 ⟨Nat.le_of_ble_eq_true rfl, Nat.le_of_ble_eq_true rfl⟩ tc_s7 rfl c9 rfl rfl (Nat.le_of_ble_eq_true rfl) ?_
                  exact tc_iret tc_d7_of_103 rfl (tc_riS h)
                · rw [if_neg hq] at h
                  by_cases hq : x2 = 6
                  · rw [if_pos hq] at h
                    refine tc_tswK (k := 6) (off := 92) (tgt := 104) tc_d7_of_12 hq (by decide) (by decide) rfl (by decide) ?_
                    refine tc_aload_n tc_d7_of_104 0 rfl ?_
                    refine tc_g7_6 tc_d7_of_105 tc_w884 ?_
                    refine tc_iload_n tc_d7_of_108 1 rfl ?_
                    obtain ⟨hi11, h⟩ := tc_ckS h
                    refine tc_zald tc_d7_of_109 tc_aL56 hi11 ?_
                    refine tc_if_eq (tgt := 117) tc_d7_of_110 (by decide) h (fun h => ?_) (fun h => ?_)
                    · refine tc_iconst (v := 0) tc_d7_of_117 (by decide) ?_
                      exact tc_iret tc_d7_of_118 rfl (tc_riS h)
                    · refine tc_iconst (v := 1) tc_d7_of_113 (by decide) ?_
                      refine tc_goto (tgt := 118) tc_d7_of_114 (by decide) ?_
                      exact tc_iret tc_d7_of_118 rfl (tc_riS h)
                  · rw [if_neg hq] at h
                    by_cases hq : x2 = 7
                    · rw [if_pos hq] at h
                      refine tc_tswK (k := 7) (off := 107) (tgt := 119) tc_d7_of_12 hq (by decide) (by decide) rfl (by decide) ?_
                      refine tc_aload_n tc_d7_of_119 0 rfl ?_
                      refine tc_g7_5 tc_d7_of_120 tc_w883 ?_
                      refine tc_iload_n tc_d7_of_123 1 rfl ?_
                      obtain ⟨hi12, h⟩ := tc_ckS h
                      refine tc_iald tc_d7_of_124 tc_aL55 hi12 ?_
                      exact tc_iret tc_d7_of_125 rfl (tc_riS h)
                    · rw [if_neg hq] at h
                      by_cases hq : x2 = 8
                      · rw [if_pos hq] at h
                        refine tc_tswK (k := 8) (off := 114) (tgt := 126) tc_d7_of_12 hq (by decide) (by decide) rfl (by decide) ?_
                        refine tc_aload_n tc_d7_of_126 0 rfl ?_
                        refine tc_g7_1 tc_d7_of_127 tc_w879 ?_
                        refine tc_iload_n tc_d7_of_130 1 rfl ?_
                        obtain ⟨hi13, h⟩ := tc_ckS h
                        refine tc_iald tc_d7_of_131 tc_aL51 hi13 ?_
                        obtain ⟨r14, μ15, e14, h⟩ := tc_bdS h
                        have c14 := tc_c7_looksOf (l := l) (G := G) N e14
                        refine tc_callSi (As := [.int (μ2 51 x1.toNatClampNeg)]) (rest := []) (r1 := r14) (μ1 := μ15) tc_d7_of_132 tc_ok7_looksOf tc_w1038 ⟨Nat.le_of_ble_eq_true rfl, Nat.le_of_ble_eq_true rfl⟩ c14 rfl rfl (Nat.le_of_ble_eq_true rfl) ?_
                        exact tc_iret tc_d7_of_135 rfl (tc_riS h)
                      · rw [if_neg hq] at h
                        cases h
  · refine tc_bipush (v := (-2)) tc_d7_of_8 (by decide) ?_
    exact tc_iret tc_d7_of_10 rfl (tc_riS h)
theorem tc_c7_of (N : Nat) {x1 : Int32} {x2 : Int32} {μ : tc_Mem} {z : Int32 × tc_Mem} (h : tc_f7_of N x1 x2 μ = some z) : tc_Con l G tc_i7_of [.ref (tc_ad G 50), .int x1, .int x2] μ (some (.int z.1)) z.2 :=
  tc_Con.of (L := [(0, .ref (tc_ad G 50)), (1, .int x1), (2, .int x2)]) (by decide) (Nat.le_of_ble_eq_true rfl) rfl (fun X => tc_b7_of_0 N  _ _ _ _ h)
def tc_f7_order_53 (N : Nat) (x1 : Int32) (x2 : Int32) (x4 : Int32) (s0 : Int32) (μ : tc_Mem) : Option (Int32 × tc_Mem) :=
  tc_bd (tc_f7_laysBack N μ) fun _ μ2 =>
  if x2 < 0 then
    some ((-3), μ2)
  else
    if (0 : Int32) ≤ x4 then
      if x1 = 1 then
        some (x4, μ2)
      else
        if s0 = 0 then
          some (0, μ2)
        else
          some (1, μ2)
    else
      some ((-3), μ2)
theorem tc_b7_order_53 (N : Nat) (x1 : Int32) (x2 : Int32) (x4 : Int32) (s0 : Int32) (μ : tc_Mem) (z : Int32 × tc_Mem) (h : tc_f7_order_53 N x1 x2 x4 s0 μ = some z) : tc_At l G tc_i7_order (some (.int z.1)) z.2 X 53 [(0, .ref (tc_ad G 50)), (1, .int x1), (2, .int x2), (4, .int x4)] [.int s0] μ := by
  unfold tc_f7_order_53 at h
  refine tc_istore (L' := [(5, .int s0), (0, .ref (tc_ad G 50)), (1, .int x1), (2, .int x2), (4, .int x4)]) tc_d7_order_53 (by decide) rfl ?_
  refine tc_aload_n tc_d7_order_55 1 rfl ?_
  obtain ⟨r1, μ2, e1, h⟩ := tc_bdS h
  have c1 := tc_c7_laysBack (l := l) (G := G) N e1
  refine tc_callVv (As := []) (rest := []) (μ1 := μ2) tc_d7_order_56 tc_ok7_laysBack tc_w1150 ⟨Nat.le_of_ble_eq_true rfl, Nat.le_of_ble_eq_true rfl⟩ tc_s7 rfl c1 rfl rfl (Nat.le_of_ble_eq_true rfl) ?_
  refine tc_iload_n tc_d7_order_59 3 rfl ?_
  refine tc_if_lt (tgt := 68) tc_d7_order_60 (by decide) h (fun h => ?_) (fun h => ?_)
  · refine tc_bipush (v := (-3)) tc_d7_order_68 (by decide) ?_
    exact tc_iret tc_d7_order_70 rfl (tc_riS h)
  · refine tc_iload tc_d7_order_63 4 rfl ?_
    refine tc_if_ge (tgt := 71) tc_d7_order_65 (by decide) h (fun h => ?_) (fun h => ?_)
    · refine tc_iload_n tc_d7_order_71 2 rfl ?_
      refine tc_iconst (v := 1) tc_d7_order_72 (by decide) ?_
      refine tc_icmp_ne (tgt := 81) tc_d7_order_73 (by decide) h (fun h => ?_) (fun h => ?_)
      · refine tc_iload tc_d7_order_81 0 rfl ?_
        refine tc_if_eq (tgt := 90) tc_d7_order_83 (by decide) h (fun h => ?_) (fun h => ?_)
        · refine tc_iconst (v := 0) tc_d7_order_90 (by decide) ?_
          exact tc_iret tc_d7_order_91 rfl (tc_riS h)
        · refine tc_iconst (v := 1) tc_d7_order_86 (by decide) ?_
          refine tc_goto (tgt := 91) tc_d7_order_87 (by decide) ?_
          exact tc_iret tc_d7_order_91 rfl (tc_riS h)
      · refine tc_iload tc_d7_order_76 4 rfl ?_
        refine tc_goto (tgt := 91) tc_d7_order_78 (by decide) ?_
        exact tc_iret tc_d7_order_91 rfl (tc_riS h)
    · refine tc_bipush (v := (-3)) tc_d7_order_68 (by decide) ?_
      exact tc_iret tc_d7_order_70 rfl (tc_riS h)
def tc_f7_order (N : Nat) (x1 : Int32) (μ : tc_Mem) : Option (Int32 × tc_Mem) :=
  tc_bd (tc_f7_in N x1 0 1 μ) fun r1 μ2 =>
  if r1 = 0 then
    some ((-2), μ2)
  else
    tc_bd (tc_f7_keepsNow N μ2) fun _ μ4 =>
    tc_bd (tc_f7_goes N 0 μ4) fun r5 μ6 =>
    tc_bd (tc_f7_bitsOf N 0 μ6) fun r7 μ8 =>
    tc_bd (tc_f7_laysBack N μ8) fun _ μ10 =>
    tc_bd (tc_f7_goes N 1 μ10) fun r11 μ12 =>
    tc_bd (tc_f7_bitsOf N 0 μ12) fun r13 μ14 =>
    if r13 = r7 then
      tc_f7_order_53 N x1 r5 r11 1 μ14
    else
      tc_f7_order_53 N x1 r5 r11 0 μ14
theorem tc_b7_order_0 (N : Nat) (x1 : Int32) (μ : tc_Mem) (z : Int32 × tc_Mem) (h : tc_f7_order N x1 μ = some z) : tc_At l G tc_i7_order (some (.int z.1)) z.2 X 0 [(0, .ref (tc_ad G 50)), (1, .int x1)] [] μ := by
  unfold tc_f7_order at h
  refine tc_iload_n tc_d7_order_0 1 rfl ?_
  refine tc_iconst (v := 0) tc_d7_order_1 (by decide) ?_
  refine tc_iconst (v := 1) tc_d7_order_2 (by decide) ?_
  obtain ⟨r1, μ2, e1, h⟩ := tc_bdS h
  have c1 := tc_c7_in (l := l) (G := G) N e1
  refine tc_callSi (As := [.int x1, .int 0, .int 1]) (rest := []) (r1 := r1) (μ1 := μ2) tc_d7_order_3 tc_ok7_in tc_w1001 ⟨Nat.le_of_ble_eq_true rfl, Nat.le_of_ble_eq_true rfl⟩ c1 rfl rfl (Nat.le_of_ble_eq_true rfl) ?_
  refine tc_if_ne (tgt := 12) tc_d7_order_6 (by decide) h (fun h => ?_) (fun h => ?_)
  · refine tc_aload_n tc_d7_order_12 0 rfl ?_
    obtain ⟨r3, μ4, e3, h⟩ := tc_bdS h
    have c3 := tc_c7_keepsNow (l := l) (G := G) N e3
    refine tc_callVv (As := []) (rest := []) (μ1 := μ4) tc_d7_order_13 tc_ok7_keepsNow tc_w1145 ⟨Nat.le_of_ble_eq_true rfl, Nat.le_of_ble_eq_true rfl⟩ tc_s7 rfl c3 rfl rfl (Nat.le_of_ble_eq_true rfl) ?_
    refine tc_aload_n tc_d7_order_16 0 rfl ?_
    refine tc_iconst (v := 0) tc_d7_order_17 (by decide) ?_
    obtain ⟨r5, μ6, e5, h⟩ := tc_bdS h
    have c5 := tc_c7_goes (l := l) (G := G) N e5
    refine tc_callVi (As := [.int 0]) (rest := []) (r1 := r5) (μ1 := μ6) tc_d7_order_18 tc_ok7_goes tc_w1097 ⟨Nat.le_of_ble_eq_true rfl, Nat.le_of_ble_eq_true rfl⟩ tc_s7 rfl c5 rfl rfl (Nat.le_of_ble_eq_true rfl) ?_
    refine tc_istore_n (L' := [(2, .int r5), (0, .ref (tc_ad G 50)), (1, .int x1)]) tc_d7_order_21 (by decide) rfl ?_
    refine tc_aload_n tc_d7_order_22 1 rfl ?_
    refine tc_iconst (v := 0) tc_d7_order_23 (by decide) ?_
    obtain ⟨r7, μ8, e7, h⟩ := tc_bdS h
    have c7 := tc_c7_bitsOf (l := l) (G := G) N e7
    refine tc_callVi (As := [.int 0]) (rest := []) (r1 := r7) (μ1 := μ8) tc_d7_order_24 tc_ok7_bitsOf tc_w1061 ⟨Nat.le_of_ble_eq_true rfl, Nat.le_of_ble_eq_true rfl⟩ tc_s7 rfl c7 rfl rfl (Nat.le_of_ble_eq_true rfl) ?_
    refine tc_istore_n (L' := [(3, .int r7), (2, .int r5), (0, .ref (tc_ad G 50)), (1, .int x1)]) tc_d7_order_27 (by decide) rfl ?_
    refine tc_aload_n tc_d7_order_28 2 rfl ?_
    obtain ⟨r9, μ10, e9, h⟩ := tc_bdS h
    have c9 := tc_c7_laysBack (l := l) (G := G) N e9
    refine tc_callVv (As := []) (rest := []) (μ1 := μ10) tc_d7_order_29 tc_ok7_laysBack tc_w1150 ⟨Nat.le_of_ble_eq_true rfl, Nat.le_of_ble_eq_true rfl⟩ tc_s7 rfl c9 rfl rfl (Nat.le_of_ble_eq_true rfl) ?_
    refine tc_aload_n tc_d7_order_32 2 rfl ?_
    refine tc_iconst (v := 1) tc_d7_order_33 (by decide) ?_
    obtain ⟨r11, μ12, e11, h⟩ := tc_bdS h
    have c11 := tc_c7_goes (l := l) (G := G) N e11
    refine tc_callVi (As := [.int 1]) (rest := []) (r1 := r11) (μ1 := μ12) tc_d7_order_34 tc_ok7_goes tc_w1097 ⟨Nat.le_of_ble_eq_true rfl, Nat.le_of_ble_eq_true rfl⟩ tc_s7 rfl c11 rfl rfl (Nat.le_of_ble_eq_true rfl) ?_
    refine tc_istore (L' := [(4, .int r11), (3, .int r7), (2, .int r5), (0, .ref (tc_ad G 50)), (1, .int x1)]) tc_d7_order_37 (by decide) rfl ?_
    refine tc_aload_n tc_d7_order_39 3 rfl ?_
    refine tc_iconst (v := 0) tc_d7_order_40 (by decide) ?_
    obtain ⟨r13, μ14, e13, h⟩ := tc_bdS h
    have c13 := tc_c7_bitsOf (l := l) (G := G) N e13
    refine tc_callVi (As := [.int 0]) (rest := []) (r1 := r13) (μ1 := μ14) tc_d7_order_41 tc_ok7_bitsOf tc_w1061 ⟨Nat.le_of_ble_eq_true rfl, Nat.le_of_ble_eq_true rfl⟩ tc_s7 rfl c13 rfl rfl (Nat.le_of_ble_eq_true rfl) ?_
    refine tc_iload_n tc_d7_order_44 1 rfl ?_
    refine tc_icmp_ne (tgt := 52) tc_d7_order_45 (by decide) h (fun h => ?_) (fun h => ?_)
    · refine tc_iconst (v := 0) tc_d7_order_52 (by decide) ?_
      refine tc_sub [3, 4, 2, 0] rfl ?_
      exact (tc_b7_order_53 N _ _ _ _ _ _) h
    · refine tc_iconst (v := 1) tc_d7_order_48 (by decide) ?_
      refine tc_goto (tgt := 53) tc_d7_order_49 (by decide) ?_
      refine tc_sub [3, 4, 2, 0] rfl ?_
      exact (tc_b7_order_53 N _ _ _ _ _ _) h
  · refine tc_bipush (v := (-2)) tc_d7_order_9 (by decide) ?_
    exact tc_iret tc_d7_order_11 rfl (tc_riS h)
theorem tc_c7_order (N : Nat) {x1 : Int32} {μ : tc_Mem} {z : Int32 × tc_Mem} (h : tc_f7_order N x1 μ = some z) : tc_Con l G tc_i7_order [.ref (tc_ad G 50), .int x1] μ (some (.int z.1)) z.2 :=
  tc_Con.of (L := [(0, .ref (tc_ad G 50)), (1, .int x1)]) (by decide) (Nat.le_of_ble_eq_true rfl) rfl (fun X => tc_b7_order_0 N  _ _ _ h)
def tc_f7_otherBy_61 (N : Nat) (k9 : Int32 → Int32 → Int32 → Int32 → tc_Mem → Option (Int32 × tc_Mem)) (x1 : Int32) (x2 : Int32) (x4 : Int32) (μ : tc_Mem) : Option (Int32 × tc_Mem) :=
  k9 x1 x2 x4 (x4 + 1) μ
theorem tc_b7_otherBy_61 (N : Nat) {k9 : Int32 → Int32 → Int32 → Int32 → tc_Mem → Option (Int32 × tc_Mem)} (H9 : ∀ (x1 : Int32) (x2 : Int32) (x3 : Int32) (x4 : Int32) (μ : tc_Mem) (z : Int32 × tc_Mem), k9 x1 x2 x3 x4 μ = some z → tc_At l G tc_i7_otherBy (some (.int z.1)) z.2 X 9 [(0, .ref (tc_ad G 50)), (1, .int x1), (2, .int x2), (3, .int x3), (4, .int x4)] [] μ) (x1 : Int32) (x2 : Int32) (x4 : Int32) (μ : tc_Mem) (z : Int32 × tc_Mem) (h : tc_f7_otherBy_61 N k9 x1 x2 x4 μ = some z) : tc_At l G tc_i7_otherBy (some (.int z.1)) z.2 X 61 [(0, .ref (tc_ad G 50)), (1, .int x1), (2, .int x2), (4, .int x4)] [] μ := by
  unfold tc_f7_otherBy_61 at h
  refine tc_iload tc_d7_otherBy_61 3 rfl ?_
  refine tc_istore_n (L' := [(3, .int x4), (0, .ref (tc_ad G 50)), (1, .int x1), (2, .int x2), (4, .int x4)]) tc_d7_otherBy_63 (by decide) rfl ?_
  refine tc_goto (tgt := 71) tc_d7_otherBy_64 (by decide) ?_
  refine tc_iinc (v := (x4 + 1)) (L' := [(4, .int (x4 + 1)), (3, .int x4), (0, .ref (tc_ad G 50)), (1, .int x1), (2, .int x2)]) tc_d7_otherBy_71 4 rfl rfl (by decide) rfl ?_
  refine tc_goto (tgt := 9) tc_d7_otherBy_74 (by decide) ?_
  refine tc_sub [2, 3, 4, 1, 0] rfl ?_
  exact (H9 _ _ _ _ _ _) h
def tc_f7_otherBy_58 (N : Nat) (k9 : Int32 → Int32 → Int32 → Int32 → tc_Mem → Option (Int32 × tc_Mem)) (x1 : Int32) (x2 : Int32) (x3 : Int32) (x4 : Int32) (s0 : Int32) (s1 : Int32) (μ : tc_Mem) : Option (Int32 × tc_Mem) :=
  if s0 = s1 then
    tc_bd (tc_f7_goTrains N μ) fun _ μ2 =>
    k9 x1 x2 x3 (x4 + 1) μ2
  else
    tc_f7_otherBy_61 N k9 x1 x2 x4 μ
theorem tc_b7_otherBy_58 (N : Nat) {k9 : Int32 → Int32 → Int32 → Int32 → tc_Mem → Option (Int32 × tc_Mem)} (H9 : ∀ (x1 : Int32) (x2 : Int32) (x3 : Int32) (x4 : Int32) (μ : tc_Mem) (z : Int32 × tc_Mem), k9 x1 x2 x3 x4 μ = some z → tc_At l G tc_i7_otherBy (some (.int z.1)) z.2 X 9 [(0, .ref (tc_ad G 50)), (1, .int x1), (2, .int x2), (3, .int x3), (4, .int x4)] [] μ) (x1 : Int32) (x2 : Int32) (x3 : Int32) (x4 : Int32) (s0 : Int32) (s1 : Int32) (μ : tc_Mem) (z : Int32 × tc_Mem) (h : tc_f7_otherBy_58 N k9 x1 x2 x3 x4 s0 s1 μ = some z) : tc_At l G tc_i7_otherBy (some (.int z.1)) z.2 X 58 [(0, .ref (tc_ad G 50)), (1, .int x1), (2, .int x2), (3, .int x3), (4, .int x4)] [.int s1, .int s0] μ := by
  unfold tc_f7_otherBy_58 at h
  refine tc_icmp_eq (tgt := 67) tc_d7_otherBy_58 (by decide) h (fun h => ?_) (fun h => ?_)
  · refine tc_aload_n tc_d7_otherBy_67 0 rfl ?_
    obtain ⟨r1, μ2, e1, h⟩ := tc_bdS h
    have c1 := tc_c7_goTrains (l := l) (G := G) N e1
    refine tc_callVv (As := []) (rest := []) (μ1 := μ2) tc_d7_otherBy_68 tc_ok7_goTrains tc_w1057 ⟨Nat.le_of_ble_eq_true rfl, Nat.le_of_ble_eq_true rfl⟩ tc_s7 rfl c1 rfl rfl (Nat.le_of_ble_eq_true rfl) ?_
    refine tc_iinc (v := (x4 + 1)) (L' := [(4, .int (x4 + 1)), (0, .ref (tc_ad G 50)), (1, .int x1), (2, .int x2), (3, .int x3)]) tc_d7_otherBy_71 4 rfl rfl (by decide) rfl ?_
    refine tc_goto (tgt := 9) tc_d7_otherBy_74 (by decide) ?_
    refine tc_sub [1, 2, 3, 4, 0] rfl ?_
    exact (H9 _ _ _ _ _ _) h
  · refine tc_sub [0, 1, 2, 4] rfl ?_
    exact (tc_b7_otherBy_61 N H9 _ _ _ _ _) h
def tc_f7_otherBy_77 (N : Nat) (x3 : Int32) (μ : tc_Mem) : Option (Int32 × tc_Mem) :=
  tc_bd (tc_f7_laysBack N μ) fun _ μ2 =>
  some (x3, μ2)
theorem tc_b7_otherBy_77 (N : Nat) (x3 : Int32) (μ : tc_Mem) (z : Int32 × tc_Mem) (h : tc_f7_otherBy_77 N x3 μ = some z) : tc_At l G tc_i7_otherBy (some (.int z.1)) z.2 X 77 [(0, .ref (tc_ad G 50)), (3, .int x3)] [] μ := by
  unfold tc_f7_otherBy_77 at h
  refine tc_aload_n tc_d7_otherBy_77 0 rfl ?_
  obtain ⟨r1, μ2, e1, h⟩ := tc_bdS h
  have c1 := tc_c7_laysBack (l := l) (G := G) N e1
  refine tc_callVv (As := []) (rest := []) (μ1 := μ2) tc_d7_otherBy_78 tc_ok7_laysBack tc_w1150 ⟨Nat.le_of_ble_eq_true rfl, Nat.le_of_ble_eq_true rfl⟩ tc_s7 rfl c1 rfl rfl (Nat.le_of_ble_eq_true rfl) ?_
  refine tc_iload_n tc_d7_otherBy_81 1 rfl ?_
  exact tc_iret tc_d7_otherBy_82 rfl (tc_riS h)
def tc_f7_otherBy_9 (N : Nat) : Nat → Int32 → Int32 → Int32 → Int32 → tc_Mem → Option (Int32 × tc_Mem)
  | 0 => fun _ _ _ _ _ => none
  | n + 1 => fun x1 x2 x3 x4 μ => 
    tc_ck x1 4 (
    if (μ 65 x1.toNatClampNeg) ≤ x4 then
      tc_f7_otherBy_77 N x3 μ
    else
      if (0 : Int32) ≤ x3 then
        tc_f7_otherBy_77 N x3 μ
      else
        tc_bd (tc_f7_goes N 0 μ) fun r2 μ3 =>
        if r2 < 0 then
          tc_f7_otherBy_61 N (tc_f7_otherBy_9 N n) x1 x2 x4 μ3
        else
          tc_ck ((40 * x1) + x4) 160 (
          tc_ck x2 8 (
          if (μ3 56 x2.toNatClampNeg) = 0 then
            tc_f7_otherBy_58 N (tc_f7_otherBy_9 N n) x1 x2 x3 x4 (μ3 66 ((40 * x1) + x4).toNatClampNeg) 0 μ3
          else
            tc_f7_otherBy_58 N (tc_f7_otherBy_9 N n) x1 x2 x3 x4 (μ3 66 ((40 * x1) + x4).toNatClampNeg) 1 μ3)))
theorem tc_b7_otherBy_9 (N : Nat) : ∀ (n : Nat) (x1 : Int32) (x2 : Int32) (x3 : Int32) (x4 : Int32) (μ : tc_Mem) (z : Int32 × tc_Mem), tc_f7_otherBy_9 N n x1 x2 x3 x4 μ = some z → tc_At l G tc_i7_otherBy (some (.int z.1)) z.2 X 9 [(0, .ref (tc_ad G 50)), (1, .int x1), (2, .int x2), (3, .int x3), (4, .int x4)] [] μ := by
  intro n
  induction n with
  | zero => intro x1 x2 x3 x4 μ z h; cases h
  | succ n ih =>
    intro x1 x2 x3 x4 μ z h
    rw [tc_f7_otherBy_9] at h
    refine tc_iload tc_d7_otherBy_9 4 rfl ?_
    refine tc_aload_n tc_d7_otherBy_11 0 rfl ?_
    refine tc_g7_19 tc_d7_otherBy_12 tc_w897 ?_
    refine tc_iload_n tc_d7_otherBy_15 1 rfl ?_
    obtain ⟨hi1, h⟩ := tc_ckS h
    refine tc_iald tc_d7_otherBy_16 tc_aL65 hi1 ?_
    refine tc_icmp_ge (tgt := 77) tc_d7_otherBy_17 (by decide) h (fun h => ?_) (fun h => ?_)
    · refine tc_sub [0, 3] rfl ?_
      exact (tc_b7_otherBy_77 N _ _ _) h
    · refine tc_iload_n tc_d7_otherBy_20 3 rfl ?_
      refine tc_if_ge (tgt := 77) tc_d7_otherBy_21 (by decide) h (fun h => ?_) (fun h => ?_)
      · refine tc_sub [0, 3] rfl ?_
        exact (tc_b7_otherBy_77 N _ _ _) h
      · refine tc_aload_n tc_d7_otherBy_24 0 rfl ?_
        refine tc_iconst (v := 0) tc_d7_otherBy_25 (by decide) ?_
        obtain ⟨r2, μ3, e2, h⟩ := tc_bdS h
        have c2 := tc_c7_goes (l := l) (G := G) N e2
        refine tc_callVi (As := [.int 0]) (rest := []) (r1 := r2) (μ1 := μ3) tc_d7_otherBy_26 tc_ok7_goes tc_w1097 ⟨Nat.le_of_ble_eq_true rfl, Nat.le_of_ble_eq_true rfl⟩ tc_s7 rfl c2 rfl rfl (Nat.le_of_ble_eq_true rfl) ?_
        refine tc_if_lt (tgt := 61) tc_d7_otherBy_29 (by decide) h (fun h => ?_) (fun h => ?_)
        · refine tc_sub [0, 1, 2, 4] rfl ?_
          exact (tc_b7_otherBy_61 N ih _ _ _ _ _) h
        · refine tc_aload_n tc_d7_otherBy_32 0 rfl ?_
          refine tc_g7_20 tc_d7_otherBy_33 tc_w898 ?_
          refine tc_bipush (v := 40) tc_d7_otherBy_36 (by decide) ?_
          refine tc_iload_n tc_d7_otherBy_38 1 rfl ?_
          refine tc_imul tc_d7_otherBy_39 ?_
          refine tc_iload tc_d7_otherBy_40 4 rfl ?_
          refine tc_iadd tc_d7_otherBy_42 ?_
          obtain ⟨hi4, h⟩ := tc_ckS h
          refine tc_iald tc_d7_otherBy_43 tc_aL66 hi4 ?_
          refine tc_aload_n tc_d7_otherBy_44 0 rfl ?_
          refine tc_g7_6 tc_d7_otherBy_45 tc_w884 ?_
          refine tc_iload_n tc_d7_otherBy_48 2 rfl ?_
          obtain ⟨hi5, h⟩ := tc_ckS h
          refine tc_zald tc_d7_otherBy_49 tc_aL56 hi5 ?_
          refine tc_if_eq (tgt := 57) tc_d7_otherBy_50 (by decide) h (fun h => ?_) (fun h => ?_)
          · refine tc_iconst (v := 0) tc_d7_otherBy_57 (by decide) ?_
            exact (tc_b7_otherBy_58 N ih _ _ _ _ _ _ _ _) h
          · refine tc_iconst (v := 1) tc_d7_otherBy_53 (by decide) ?_
            refine tc_goto (tgt := 58) tc_d7_otherBy_54 (by decide) ?_
            exact (tc_b7_otherBy_58 N ih _ _ _ _ _ _ _ _) h
def tc_f7_otherBy (N : Nat) (x1 : Int32) (x2 : Int32) (μ : tc_Mem) : Option (Int32 × tc_Mem) :=
  tc_bd (tc_f7_keepsNow N μ) fun _ μ2 =>
  tc_f7_otherBy_9 N N x1 x2 (-1) 0 μ2
theorem tc_b7_otherBy_0 (N : Nat) (x1 : Int32) (x2 : Int32) (μ : tc_Mem) (z : Int32 × tc_Mem) (h : tc_f7_otherBy N x1 x2 μ = some z) : tc_At l G tc_i7_otherBy (some (.int z.1)) z.2 X 0 [(0, .ref (tc_ad G 50)), (1, .int x1), (2, .int x2)] [] μ := by
  unfold tc_f7_otherBy at h
  refine tc_aload_n tc_d7_otherBy_0 0 rfl ?_
  obtain ⟨r1, μ2, e1, h⟩ := tc_bdS h
  have c1 := tc_c7_keepsNow (l := l) (G := G) N e1
  refine tc_callVv (As := []) (rest := []) (μ1 := μ2) tc_d7_otherBy_1 tc_ok7_keepsNow tc_w1145 ⟨Nat.le_of_ble_eq_true rfl, Nat.le_of_ble_eq_true rfl⟩ tc_s7 rfl c1 rfl rfl (Nat.le_of_ble_eq_true rfl) ?_
  refine tc_iconst (v := (-1)) tc_d7_otherBy_4 (by decide) ?_
  refine tc_istore_n (L' := [(3, .int (-1)), (0, .ref (tc_ad G 50)), (1, .int x1), (2, .int x2)]) tc_d7_otherBy_5 (by decide) rfl ?_
  refine tc_iconst (v := 0) tc_d7_otherBy_6 (by decide) ?_
  refine tc_istore (L' := [(4, .int 0), (3, .int (-1)), (0, .ref (tc_ad G 50)), (1, .int x1), (2, .int x2)]) tc_d7_otherBy_7 (by decide) rfl ?_
  refine tc_sub [2, 3, 4, 1, 0] rfl ?_
  exact (tc_b7_otherBy_9 N N _ _ _ _ _ _) h
theorem tc_c7_otherBy (N : Nat) {x1 : Int32} {x2 : Int32} {μ : tc_Mem} {z : Int32 × tc_Mem} (h : tc_f7_otherBy N x1 x2 μ = some z) : tc_Con l G tc_i7_otherBy [.ref (tc_ad G 50), .int x1, .int x2] μ (some (.int z.1)) z.2 :=
  tc_Con.of (L := [(0, .ref (tc_ad G 50)), (1, .int x1), (2, .int x2)]) (by decide) (Nat.le_of_ble_eq_true rfl) rfl (fun X => tc_b7_otherBy_0 N  _ _ _ _ h)
def tc_f7_pick_90 (N : Nat) (x2 : Int32) (x3 : Int32) (μ : tc_Mem) : Option (Int32 × tc_Mem) :=
  tc_ck 0 3 (
  tc_lt (tc_wr μ 58 (0 : Int32).toNatClampNeg x2) fun μ2 =>
  some (x3, μ2))
theorem tc_b7_pick_90 (N : Nat) (x2 : Int32) (x3 : Int32) (μ : tc_Mem) (z : Int32 × tc_Mem) (h : tc_f7_pick_90 N x2 x3 μ = some z) : tc_At l G tc_i7_pick (some (.int z.1)) z.2 X 90 [(0, .ref (tc_ad G 50)), (2, .int x2), (3, .int x3)] [] μ := by
  unfold tc_f7_pick_90 at h
  refine tc_aload_n tc_d7_pick_90 0 rfl ?_
  refine tc_g7_8 tc_d7_pick_91 tc_w886 ?_
  refine tc_iconst (v := 0) tc_d7_pick_94 (by decide) ?_
  refine tc_iload_n tc_d7_pick_95 1 rfl ?_
  obtain ⟨hi1, h⟩ := tc_ckS h
  refine tc_iastL tc_d7_pick_96 tc_aL58 hi1 h (fun μ2 h => ?_)
  refine tc_iload_n tc_d7_pick_97 2 rfl ?_
  exact tc_iret tc_d7_pick_98 rfl (tc_riS h)
def tc_f7_pick_77 (N : Nat) (k24 : Int32 → Int32 → Int32 → Int32 → tc_Mem → Option (Int32 × tc_Mem)) (x1 : Int32) (x2 : Int32) (x4 : Int32) (μ : tc_Mem) : Option (Int32 × tc_Mem) :=
  tc_ck 0 3 (
  tc_lt (μ 58 (0 : Int32).toNatClampNeg) fun v2 =>
  k24 x1 x2 v2 (x4 + 1) μ)
theorem tc_b7_pick_77 (N : Nat) {k24 : Int32 → Int32 → Int32 → Int32 → tc_Mem → Option (Int32 × tc_Mem)} (H24 : ∀ (x1 : Int32) (x2 : Int32) (x3 : Int32) (x4 : Int32) (μ : tc_Mem) (z : Int32 × tc_Mem), k24 x1 x2 x3 x4 μ = some z → tc_At l G tc_i7_pick (some (.int z.1)) z.2 X 24 [(0, .ref (tc_ad G 50)), (1, .int x1), (2, .int x2), (3, .int x3), (4, .int x4)] [] μ) (x1 : Int32) (x2 : Int32) (x4 : Int32) (μ : tc_Mem) (z : Int32 × tc_Mem) (h : tc_f7_pick_77 N k24 x1 x2 x4 μ = some z) : tc_At l G tc_i7_pick (some (.int z.1)) z.2 X 77 [(0, .ref (tc_ad G 50)), (1, .int x1), (2, .int x2), (4, .int x4)] [] μ := by
  unfold tc_f7_pick_77 at h
  refine tc_aload_n tc_d7_pick_77 0 rfl ?_
  refine tc_g7_8 tc_d7_pick_78 tc_w886 ?_
  refine tc_iconst (v := 0) tc_d7_pick_81 (by decide) ?_
  obtain ⟨hi1, h⟩ := tc_ckS h
  refine tc_iald tc_d7_pick_82 tc_aL58 hi1 ?_
  refine tc_ltI h (fun v2 h => ?_)
  refine tc_istore_n (L' := [(3, .int v2), (0, .ref (tc_ad G 50)), (1, .int x1), (2, .int x2), (4, .int x4)]) tc_d7_pick_83 (by decide) rfl ?_
  refine tc_iinc (v := (x4 + 1)) (L' := [(4, .int (x4 + 1)), (3, .int v2), (0, .ref (tc_ad G 50)), (1, .int x1), (2, .int x2)]) tc_d7_pick_84 4 rfl rfl (by decide) rfl ?_
  refine tc_goto (tgt := 24) tc_d7_pick_87 (by decide) ?_
  refine tc_sub [2, 3, 4, 1, 0] rfl ?_
  exact (H24 _ _ _ _ _ _) h
def tc_f7_pick_54 (N : Nat) (k24 : Int32 → Int32 → Int32 → Int32 → tc_Mem → Option (Int32 × tc_Mem)) (x1 : Int32) (x2 : Int32) (x3 : Int32) (x4 : Int32) (s1 : Int32) (s2 : Int32) (μ : tc_Mem) : Option (Int32 × tc_Mem) :=
  tc_ck s1 3 (
  tc_lt (tc_wr μ 58 s1.toNatClampNeg s2) fun μ2 =>
  if x1 = 0 then
    tc_bd (tc_f7_failsFrom N 0 μ2) fun r5 μ6 =>
    if (0 : Int32) ≤ r5 then
      k24 x1 x2 x3 (x4 + 1) μ6
    else
      tc_f7_pick_77 N k24 x1 x2 x4 μ6
  else
    tc_bd (tc_f7_isRight N μ2) fun r3 μ4 =>
    if r3 = 0 then
      k24 x1 x2 x3 (x4 + 1) μ4
    else
      tc_f7_pick_77 N k24 x1 x2 x4 μ4)
theorem tc_b7_pick_54 (N : Nat) {k24 : Int32 → Int32 → Int32 → Int32 → tc_Mem → Option (Int32 × tc_Mem)} (H24 : ∀ (x1 : Int32) (x2 : Int32) (x3 : Int32) (x4 : Int32) (μ : tc_Mem) (z : Int32 × tc_Mem), k24 x1 x2 x3 x4 μ = some z → tc_At l G tc_i7_pick (some (.int z.1)) z.2 X 24 [(0, .ref (tc_ad G 50)), (1, .int x1), (2, .int x2), (3, .int x3), (4, .int x4)] [] μ) (x1 : Int32) (x2 : Int32) (x3 : Int32) (x4 : Int32) (s1 : Int32) (s2 : Int32) (μ : tc_Mem) (z : Int32 × tc_Mem) (h : tc_f7_pick_54 N k24 x1 x2 x3 x4 s1 s2 μ = some z) : tc_At l G tc_i7_pick (some (.int z.1)) z.2 X 54 [(0, .ref (tc_ad G 50)), (1, .int x1), (2, .int x2), (3, .int x3), (4, .int x4)] [.int s2, .int s1, .ref (tc_ad G 58)] μ := by
  unfold tc_f7_pick_54 at h
  obtain ⟨hi1, h⟩ := tc_ckS h
  refine tc_iastL tc_d7_pick_54 tc_aL58 hi1 h (fun μ2 h => ?_)
  refine tc_iload_n tc_d7_pick_55 1 rfl ?_
  refine tc_if_ne (tgt := 70) tc_d7_pick_56 (by decide) h (fun h => ?_) (fun h => ?_)
  · refine tc_aload_n tc_d7_pick_70 0 rfl ?_
    obtain ⟨r3, μ4, e3, h⟩ := tc_bdS h
    have c3 := tc_c7_isRight (l := l) (G := G) N e3
    refine tc_callVi (As := []) (rest := []) (r1 := r3) (μ1 := μ4) tc_d7_pick_71 tc_ok7_isRight tc_w1174 ⟨Nat.le_of_ble_eq_true rfl, Nat.le_of_ble_eq_true rfl⟩ tc_s7 rfl c3 rfl rfl (Nat.le_of_ble_eq_true rfl) ?_
    refine tc_if_eq (tgt := 84) tc_d7_pick_74 (by decide) h (fun h => ?_) (fun h => ?_)
    · refine tc_iinc (v := (x4 + 1)) (L' := [(4, .int (x4 + 1)), (0, .ref (tc_ad G 50)), (1, .int x1), (2, .int x2), (3, .int x3)]) tc_d7_pick_84 4 rfl rfl (by decide) rfl ?_
      refine tc_goto (tgt := 24) tc_d7_pick_87 (by decide) ?_
      refine tc_sub [1, 2, 3, 4, 0] rfl ?_
      exact (H24 _ _ _ _ _ _) h
    · refine tc_sub [0, 1, 2, 4] rfl ?_
      exact (tc_b7_pick_77 N H24 _ _ _ _ _) h
  · refine tc_aload_n tc_d7_pick_59 0 rfl ?_
    refine tc_iconst (v := 0) tc_d7_pick_60 (by decide) ?_
    obtain ⟨r5, μ6, e5, h⟩ := tc_bdS h
    have c5 := tc_c7_failsFrom (l := l) (G := G) N e5
    refine tc_callVi (As := [.int 0]) (rest := []) (r1 := r5) (μ1 := μ6) tc_d7_pick_61 tc_ok7_failsFrom tc_w1186 ⟨Nat.le_of_ble_eq_true rfl, Nat.le_of_ble_eq_true rfl⟩ tc_s7 rfl c5 rfl rfl (Nat.le_of_ble_eq_true rfl) ?_
    refine tc_if_ge (tgt := 84) tc_d7_pick_64 (by decide) h (fun h => ?_) (fun h => ?_)
    · refine tc_iinc (v := (x4 + 1)) (L' := [(4, .int (x4 + 1)), (0, .ref (tc_ad G 50)), (1, .int x1), (2, .int x2), (3, .int x3)]) tc_d7_pick_84 4 rfl rfl (by decide) rfl ?_
      refine tc_goto (tgt := 24) tc_d7_pick_87 (by decide) ?_
      refine tc_sub [1, 2, 3, 4, 0] rfl ?_
      exact (H24 _ _ _ _ _ _) h
    · refine tc_goto (tgt := 77) tc_d7_pick_67 (by decide) ?_
      refine tc_sub [0, 1, 2, 4] rfl ?_
      exact (tc_b7_pick_77 N H24 _ _ _ _ _) h
def tc_f7_pick_24 (N : Nat) : Nat → Int32 → Int32 → Int32 → Int32 → tc_Mem → Option (Int32 × tc_Mem)
  | 0 => fun _ _ _ _ _ => none
  | n + 1 => fun x1 x2 x3 x4 μ => 
    if (100 : Int32) ≤ x4 then
      tc_f7_pick_90 N x2 x3 μ
    else
      if (0 : Int32) ≤ x3 then
        tc_f7_pick_90 N x2 x3 μ
      else
        if x1 = 0 then
          tc_f7_pick_54 N (tc_f7_pick_24 N n) x1 x2 x3 x4 0 x4 μ
        else
          tc_f7_pick_54 N (tc_f7_pick_24 N n) x1 x2 x3 x4 0 (99 - x4) μ
theorem tc_b7_pick_24 (N : Nat) : ∀ (n : Nat) (x1 : Int32) (x2 : Int32) (x3 : Int32) (x4 : Int32) (μ : tc_Mem) (z : Int32 × tc_Mem), tc_f7_pick_24 N n x1 x2 x3 x4 μ = some z → tc_At l G tc_i7_pick (some (.int z.1)) z.2 X 24 [(0, .ref (tc_ad G 50)), (1, .int x1), (2, .int x2), (3, .int x3), (4, .int x4)] [] μ := by
  intro n
  induction n with
  | zero => intro x1 x2 x3 x4 μ z h; cases h
  | succ n ih =>
    intro x1 x2 x3 x4 μ z h
    rw [tc_f7_pick_24] at h
    refine tc_iload tc_d7_pick_24 4 rfl ?_
    refine tc_bipush (v := 100) tc_d7_pick_26 (by decide) ?_
    refine tc_icmp_ge (tgt := 90) tc_d7_pick_28 (by decide) h (fun h => ?_) (fun h => ?_)
    · refine tc_sub [0, 2, 3] rfl ?_
      exact (tc_b7_pick_90 N _ _ _ _) h
    · refine tc_iload_n tc_d7_pick_31 3 rfl ?_
      refine tc_if_ge (tgt := 90) tc_d7_pick_32 (by decide) h (fun h => ?_) (fun h => ?_)
      · refine tc_sub [0, 2, 3] rfl ?_
        exact (tc_b7_pick_90 N _ _ _ _) h
      · refine tc_aload_n tc_d7_pick_35 0 rfl ?_
        refine tc_g7_8 tc_d7_pick_36 tc_w886 ?_
        refine tc_iconst (v := 0) tc_d7_pick_39 (by decide) ?_
        refine tc_iload_n tc_d7_pick_40 1 rfl ?_
        refine tc_if_ne (tgt := 49) tc_d7_pick_41 (by decide) h (fun h => ?_) (fun h => ?_)
        · refine tc_bipush (v := 99) tc_d7_pick_49 (by decide) ?_
          refine tc_iload tc_d7_pick_51 4 rfl ?_
          refine tc_isub tc_d7_pick_53 ?_
          exact (tc_b7_pick_54 N ih _ _ _ _ _ _ _ _) h
        · refine tc_iload tc_d7_pick_44 4 rfl ?_
          refine tc_goto (tgt := 54) tc_d7_pick_46 (by decide) ?_
          exact (tc_b7_pick_54 N ih _ _ _ _ _ _ _ _) h
def tc_f7_pick (N : Nat) (x1 : Int32) (μ : tc_Mem) : Option (Int32 × tc_Mem) :=
  tc_bd (tc_f7_in N x1 0 1 μ) fun r1 μ2 =>
  if r1 = 0 then
    some ((-2), μ2)
  else
    tc_ck 0 3 (
    tc_lt (μ2 58 (0 : Int32).toNatClampNeg) fun v4 =>
    tc_f7_pick_24 N N x1 v4 (-1) 0 μ2)
theorem tc_b7_pick_0 (N : Nat) (x1 : Int32) (μ : tc_Mem) (z : Int32 × tc_Mem) (h : tc_f7_pick N x1 μ = some z) : tc_At l G tc_i7_pick (some (.int z.1)) z.2 X 0 [(0, .ref (tc_ad G 50)), (1, .int x1)] [] μ := by
  unfold tc_f7_pick at h
  refine tc_iload_n tc_d7_pick_0 1 rfl ?_
  refine tc_iconst (v := 0) tc_d7_pick_1 (by decide) ?_
  refine tc_iconst (v := 1) tc_d7_pick_2 (by decide) ?_
  obtain ⟨r1, μ2, e1, h⟩ := tc_bdS h
  have c1 := tc_c7_in (l := l) (G := G) N e1
  refine tc_callSi (As := [.int x1, .int 0, .int 1]) (rest := []) (r1 := r1) (μ1 := μ2) tc_d7_pick_3 tc_ok7_in tc_w1001 ⟨Nat.le_of_ble_eq_true rfl, Nat.le_of_ble_eq_true rfl⟩ c1 rfl rfl (Nat.le_of_ble_eq_true rfl) ?_
  refine tc_if_ne (tgt := 12) tc_d7_pick_6 (by decide) h (fun h => ?_) (fun h => ?_)
  · refine tc_aload_n tc_d7_pick_12 0 rfl ?_
    refine tc_g7_8 tc_d7_pick_13 tc_w886 ?_
    refine tc_iconst (v := 0) tc_d7_pick_16 (by decide) ?_
    obtain ⟨hi3, h⟩ := tc_ckS h
    refine tc_iald tc_d7_pick_17 tc_aL58 hi3 ?_
    refine tc_ltI h (fun v4 h => ?_)
    refine tc_istore_n (L' := [(2, .int v4), (0, .ref (tc_ad G 50)), (1, .int x1)]) tc_d7_pick_18 (by decide) rfl ?_
    refine tc_iconst (v := (-1)) tc_d7_pick_19 (by decide) ?_
    refine tc_istore_n (L' := [(3, .int (-1)), (2, .int v4), (0, .ref (tc_ad G 50)), (1, .int x1)]) tc_d7_pick_20 (by decide) rfl ?_
    refine tc_iconst (v := 0) tc_d7_pick_21 (by decide) ?_
    refine tc_istore (L' := [(4, .int 0), (3, .int (-1)), (2, .int v4), (0, .ref (tc_ad G 50)), (1, .int x1)]) tc_d7_pick_22 (by decide) rfl ?_
    refine tc_sub [3, 4, 2, 1, 0] rfl ?_
    exact (tc_b7_pick_24 N N _ _ _ _ _ _) h
  · refine tc_bipush (v := (-2)) tc_d7_pick_9 (by decide) ?_
    exact tc_iret tc_d7_pick_11 rfl (tc_riS h)
theorem tc_c7_pick (N : Nat) {x1 : Int32} {μ : tc_Mem} {z : Int32 × tc_Mem} (h : tc_f7_pick N x1 μ = some z) : tc_Con l G tc_i7_pick [.ref (tc_ad G 50), .int x1] μ (some (.int z.1)) z.2 :=
  tc_Con.of (L := [(0, .ref (tc_ad G 50)), (1, .int x1)]) (by decide) (Nat.le_of_ble_eq_true rfl) rfl (fun X => tc_b7_pick_0 N  _ _ _ h)
def tc_f7_proof_54 (N : Nat) : Nat → Int32 → Int32 → tc_Mem → Option (Int32 × tc_Mem)
  | 0 => fun _ _ _ => none
  | n + 1 => fun x2 x3 μ => 
    if x2 < 0 then
      some (x3, μ)
    else
      tc_bd (tc_f7_failsFrom N (x2 + 1) μ) fun r1 μ2 =>
      tc_f7_proof_54 N  n r1 (x3 + 1) μ2
theorem tc_b7_proof_54 (N : Nat) : ∀ (n : Nat) (x2 : Int32) (x3 : Int32) (μ : tc_Mem) (z : Int32 × tc_Mem), tc_f7_proof_54 N n x2 x3 μ = some z → tc_At l G tc_i7_proof (some (.int z.1)) z.2 X 54 [(0, .ref (tc_ad G 50)), (2, .int x2), (3, .int x3)] [] μ := by
  intro n
  induction n with
  | zero => intro x2 x3 μ z h; cases h
  | succ n ih =>
    intro x2 x3 μ z h
    rw [tc_f7_proof_54] at h
    refine tc_iload_n tc_d7_proof_54 1 rfl ?_
    refine tc_if_lt (tgt := 72) tc_d7_proof_55 (by decide) h (fun h => ?_) (fun h => ?_)
    · refine tc_iload_n tc_d7_proof_72 2 rfl ?_
      exact tc_iret tc_d7_proof_73 rfl (tc_riS h)
    · refine tc_iinc (v := (x3 + 1)) (L' := [(3, .int (x3 + 1)), (0, .ref (tc_ad G 50)), (2, .int x2)]) tc_d7_proof_58 2 rfl rfl (by decide) rfl ?_
      refine tc_aload_n tc_d7_proof_61 1 rfl ?_
      refine tc_iload_n tc_d7_proof_62 2 rfl ?_
      refine tc_iconst (v := 1) tc_d7_proof_63 (by decide) ?_
      refine tc_iadd tc_d7_proof_64 ?_
      obtain ⟨r1, μ2, e1, h⟩ := tc_bdS h
      have c1 := tc_c7_failsFrom (l := l) (G := G) N e1
      refine tc_callVi (As := [.int (x2 + 1)]) (rest := []) (r1 := r1) (μ1 := μ2) tc_d7_proof_65 tc_ok7_failsFrom tc_w1186 ⟨Nat.le_of_ble_eq_true rfl, Nat.le_of_ble_eq_true rfl⟩ tc_s7 rfl c1 rfl rfl (Nat.le_of_ble_eq_true rfl) ?_
      refine tc_istore_n (L' := [(2, .int r1), (3, .int (x3 + 1)), (0, .ref (tc_ad G 50))]) tc_d7_proof_68 (by decide) rfl ?_
      refine tc_goto (tgt := 54) tc_d7_proof_69 (by decide) ?_
      refine tc_sub [2, 0, 1] rfl ?_
      exact (ih _ _ _ _) h
def tc_f7_proof (N : Nat) (x1 : Int32) (μ : tc_Mem) : Option (Int32 × tc_Mem) :=
  tc_bd (tc_f7_in N x1 0 1 μ) fun r1 μ2 =>
  if r1 = 0 then
    some ((-2), μ2)
  else
    tc_bd (tc_f7_failsFrom N 0 μ2) fun r3 μ4 =>
    if x1 = 1 then
      if (0 : Int32) ≤ r3 then
        tc_nz ((μ4 50 0) + 1) (
        tc_nz ((μ4 50 0) + 1) (
        some (((100 * (r3 / ((μ4 50 0) + 1))) + (r3 - r3 / ((μ4 50 0) + 1) * ((μ4 50 0) + 1))), μ4)))
      else
        some ((-1), μ4)
    else
      tc_f7_proof_54 N N r3 0 μ4
theorem tc_b7_proof_0 (N : Nat) (x1 : Int32) (μ : tc_Mem) (z : Int32 × tc_Mem) (h : tc_f7_proof N x1 μ = some z) : tc_At l G tc_i7_proof (some (.int z.1)) z.2 X 0 [(0, .ref (tc_ad G 50)), (1, .int x1)] [] μ := by
  unfold tc_f7_proof at h
  refine tc_iload_n tc_d7_proof_0 1 rfl ?_
  refine tc_iconst (v := 0) tc_d7_proof_1 (by decide) ?_
  refine tc_iconst (v := 1) tc_d7_proof_2 (by decide) ?_
  obtain ⟨r1, μ2, e1, h⟩ := tc_bdS h
  have c1 := tc_c7_in (l := l) (G := G) N e1
  refine tc_callSi (As := [.int x1, .int 0, .int 1]) (rest := []) (r1 := r1) (μ1 := μ2) tc_d7_proof_3 tc_ok7_in tc_w1001 ⟨Nat.le_of_ble_eq_true rfl, Nat.le_of_ble_eq_true rfl⟩ c1 rfl rfl (Nat.le_of_ble_eq_true rfl) ?_
  refine tc_if_ne (tgt := 12) tc_d7_proof_6 (by decide) h (fun h => ?_) (fun h => ?_)
  · refine tc_aload_n tc_d7_proof_12 0 rfl ?_
    refine tc_iconst (v := 0) tc_d7_proof_13 (by decide) ?_
    obtain ⟨r3, μ4, e3, h⟩ := tc_bdS h
    have c3 := tc_c7_failsFrom (l := l) (G := G) N e3
    refine tc_callVi (As := [.int 0]) (rest := []) (r1 := r3) (μ1 := μ4) tc_d7_proof_14 tc_ok7_failsFrom tc_w1186 ⟨Nat.le_of_ble_eq_true rfl, Nat.le_of_ble_eq_true rfl⟩ tc_s7 rfl c3 rfl rfl (Nat.le_of_ble_eq_true rfl) ?_
    refine tc_istore_n (L' := [(2, .int r3), (0, .ref (tc_ad G 50)), (1, .int x1)]) tc_d7_proof_17 (by decide) rfl ?_
    refine tc_iload_n tc_d7_proof_18 2 rfl ?_
    refine tc_iconst (v := 1) tc_d7_proof_19 (by decide) ?_
    refine tc_icmp_ne (tgt := 52) tc_d7_proof_20 (by decide) h (fun h => ?_) (fun h => ?_)
    · refine tc_iconst (v := 0) tc_d7_proof_52 (by decide) ?_
      refine tc_istore_n (L' := [(3, .int 0), (2, .int r3), (0, .ref (tc_ad G 50)), (1, .int x1)]) tc_d7_proof_53 (by decide) rfl ?_
      refine tc_sub [2, 1, 0] rfl ?_
      exact (tc_b7_proof_54 N N _ _ _ _) h
    · refine tc_iload_n tc_d7_proof_23 0 rfl ?_
      refine tc_if_ge (tgt := 31) tc_d7_proof_24 (by decide) h (fun h => ?_) (fun h => ?_)
      · refine tc_bipush (v := 100) tc_d7_proof_31 (by decide) ?_
        refine tc_iload_n tc_d7_proof_33 0 rfl ?_
        refine tc_aload_n tc_d7_proof_34 1 rfl ?_
        refine tc_g7_0 tc_d7_proof_35 tc_w878 ?_
        refine tc_iconst (v := 1) tc_d7_proof_38 (by decide) ?_
        refine tc_iadd tc_d7_proof_39 ?_
        obtain ⟨hn5, h⟩ := tc_nzS h
        refine tc_idiv tc_d7_proof_40 hn5 ?_
        refine tc_imul tc_d7_proof_41 ?_
        refine tc_iload_n tc_d7_proof_42 0 rfl ?_
        refine tc_aload_n tc_d7_proof_43 1 rfl ?_
        refine tc_g7_0 tc_d7_proof_44 tc_w878 ?_
        refine tc_iconst (v := 1) tc_d7_proof_47 (by decide) ?_
        refine tc_iadd tc_d7_proof_48 ?_
        obtain ⟨hn6, h⟩ := tc_nzS h
        refine tc_irem tc_d7_proof_49 hn6 ?_
        refine tc_iadd tc_d7_proof_50 ?_
        exact tc_iret tc_d7_proof_51 rfl (tc_riS h)
      · refine tc_iconst (v := (-1)) tc_d7_proof_27 (by decide) ?_
        refine tc_goto (tgt := 51) tc_d7_proof_28 (by decide) ?_
        exact tc_iret tc_d7_proof_51 rfl (tc_riS h)
  · refine tc_bipush (v := (-2)) tc_d7_proof_9 (by decide) ?_
    exact tc_iret tc_d7_proof_11 rfl (tc_riS h)
theorem tc_c7_proof (N : Nat) {x1 : Int32} {μ : tc_Mem} {z : Int32 × tc_Mem} (h : tc_f7_proof N x1 μ = some z) : tc_Con l G tc_i7_proof [.ref (tc_ad G 50), .int x1] μ (some (.int z.1)) z.2 :=
  tc_Con.of (L := [(0, .ref (tc_ad G 50)), (1, .int x1)]) (by decide) (Nat.le_of_ble_eq_true rfl) rfl (fun X => tc_b7_proof_0 N  _ _ _ h)
def tc_f7_put_66 (N : Nat) (s1 : Int32) (s2 : Int32) (μ : tc_Mem) : Option (Int32 × tc_Mem) :=
  tc_ck s1 160 (
  tc_lt (tc_wr μ 66 s1.toNatClampNeg s2) fun μ2 =>
  some (1, μ2))
theorem tc_b7_put_66 (N : Nat) (s1 : Int32) (s2 : Int32) (μ : tc_Mem) (z : Int32 × tc_Mem) (h : tc_f7_put_66 N s1 s2 μ = some z) : tc_At l G tc_i7_put (some (.int z.1)) z.2 X 66 [] [.int s2, .int s1, .ref (tc_ad G 66)] μ := by
  unfold tc_f7_put_66 at h
  obtain ⟨hi1, h⟩ := tc_ckS h
  refine tc_iastL tc_d7_put_66 tc_aL66 hi1 h (fun μ2 h => ?_)
  refine tc_iconst (v := 1) tc_d7_put_67 (by decide) ?_
  exact tc_iret tc_d7_put_68 rfl (tc_riS h)
def tc_f7_put (N : Nat) (x1 : Int32) (x2 : Int32) (x3 : Int32) (μ : tc_Mem) : Option (Int32 × tc_Mem) :=
  tc_bd (tc_f7_isSheet N x1 μ) fun r1 μ2 =>
  if r1 = 0 then
    some ((-2), μ2)
  else
    tc_ck x1 4 (
    if (0 : Int32) ≤ (μ2 64 x1.toNatClampNeg) then
      tc_ck x1 4 (
      tc_bd (tc_f7_in N x2 0 ((μ2 65 x1.toNatClampNeg) - 1) μ2) fun r5 μ6 =>
      if r5 = 0 then
        some ((-12), μ6)
      else
        tc_ck x1 4 (
        if (μ6 64 x1.toNatClampNeg) = 0 then
          tc_f7_put_66 N ((40 * x1) + x2) x3.toInt16.toInt32 μ6
        else
          tc_f7_put_66 N ((40 * x1) + x2) x3 μ6))
    else
      some ((-11), μ2))
theorem tc_b7_put_0 (N : Nat) (x1 : Int32) (x2 : Int32) (x3 : Int32) (μ : tc_Mem) (z : Int32 × tc_Mem) (h : tc_f7_put N x1 x2 x3 μ = some z) : tc_At l G tc_i7_put (some (.int z.1)) z.2 X 0 [(0, .ref (tc_ad G 50)), (1, .int x1), (2, .int x2), (3, .int x3)] [] μ := by
  unfold tc_f7_put at h
  refine tc_iload_n tc_d7_put_0 1 rfl ?_
  obtain ⟨r1, μ2, e1, h⟩ := tc_bdS h
  have c1 := tc_c7_isSheet (l := l) (G := G) N e1
  refine tc_callSi (As := [.int x1]) (rest := []) (r1 := r1) (μ1 := μ2) tc_d7_put_1 tc_ok7_isSheet tc_w1223 ⟨Nat.le_of_ble_eq_true rfl, Nat.le_of_ble_eq_true rfl⟩ c1 rfl rfl (Nat.le_of_ble_eq_true rfl) ?_
  refine tc_if_ne (tgt := 10) tc_d7_put_4 (by decide) h (fun h => ?_) (fun h => ?_)
  · refine tc_aload_n tc_d7_put_10 0 rfl ?_
    refine tc_g7_18 tc_d7_put_11 tc_w896 ?_
    refine tc_iload_n tc_d7_put_14 1 rfl ?_
    obtain ⟨hi3, h⟩ := tc_ckS h
    refine tc_iald tc_d7_put_15 tc_aL64 hi3 ?_
    refine tc_if_ge (tgt := 22) tc_d7_put_16 (by decide) h (fun h => ?_) (fun h => ?_)
    · refine tc_iload_n tc_d7_put_22 2 rfl ?_
      refine tc_iconst (v := 0) tc_d7_put_23 (by decide) ?_
      refine tc_aload_n tc_d7_put_24 0 rfl ?_
      refine tc_g7_19 tc_d7_put_25 tc_w897 ?_
      refine tc_iload_n tc_d7_put_28 1 rfl ?_
      obtain ⟨hi4, h⟩ := tc_ckS h
      refine tc_iald tc_d7_put_29 tc_aL65 hi4 ?_
      refine tc_iconst (v := 1) tc_d7_put_30 (by decide) ?_
      refine tc_isub tc_d7_put_31 ?_
      obtain ⟨r5, μ6, e5, h⟩ := tc_bdS h
      have c5 := tc_c7_in (l := l) (G := G) N e5
      refine tc_callSi (As := [.int x2, .int 0, .int ((μ2 65 x1.toNatClampNeg) - 1)]) (rest := []) (r1 := r5) (μ1 := μ6) tc_d7_put_32 tc_ok7_in tc_w1001 ⟨Nat.le_of_ble_eq_true rfl, Nat.le_of_ble_eq_true rfl⟩ c5 rfl rfl (Nat.le_of_ble_eq_true rfl) ?_
      refine tc_if_ne (tgt := 41) tc_d7_put_35 (by decide) h (fun h => ?_) (fun h => ?_)
      · refine tc_aload_n tc_d7_put_41 0 rfl ?_
        refine tc_g7_20 tc_d7_put_42 tc_w898 ?_
        refine tc_bipush (v := 40) tc_d7_put_45 (by decide) ?_
        refine tc_iload_n tc_d7_put_47 1 rfl ?_
        refine tc_imul tc_d7_put_48 ?_
        refine tc_iload_n tc_d7_put_49 2 rfl ?_
        refine tc_iadd tc_d7_put_50 ?_
        refine tc_aload_n tc_d7_put_51 0 rfl ?_
        refine tc_g7_18 tc_d7_put_52 tc_w896 ?_
        refine tc_iload_n tc_d7_put_55 1 rfl ?_
        obtain ⟨hi7, h⟩ := tc_ckS h
        refine tc_iald tc_d7_put_56 tc_aL64 hi7 ?_
        refine tc_if_ne (tgt := 65) tc_d7_put_57 (by decide) h (fun h => ?_) (fun h => ?_)
        · refine tc_iload_n tc_d7_put_65 3 rfl ?_
          refine tc_sub [] rfl ?_
          exact (tc_b7_put_66 N _ _ _ _) h
        · refine tc_iload_n tc_d7_put_60 3 rfl ?_
          refine tc_i2s tc_d7_put_61 ?_
          refine tc_goto (tgt := 66) tc_d7_put_62 (by decide) ?_
          refine tc_sub [] rfl ?_
          exact (tc_b7_put_66 N _ _ _ _) h
      · refine tc_bipush (v := (-12)) tc_d7_put_38 (by decide) ?_
        exact tc_iret tc_d7_put_40 rfl (tc_riS h)
    · refine tc_bipush (v := (-11)) tc_d7_put_19 (by decide) ?_
      exact tc_iret tc_d7_put_21 rfl (tc_riS h)
  · refine tc_bipush (v := (-2)) tc_d7_put_7 (by decide) ?_
    exact tc_iret tc_d7_put_9 rfl (tc_riS h)
theorem tc_c7_put (N : Nat) {x1 : Int32} {x2 : Int32} {x3 : Int32} {μ : tc_Mem} {z : Int32 × tc_Mem} (h : tc_f7_put N x1 x2 x3 μ = some z) : tc_Con l G tc_i7_put [.ref (tc_ad G 50), .int x1, .int x2, .int x3] μ (some (.int z.1)) z.2 :=
  tc_Con.of (L := [(0, .ref (tc_ad G 50)), (1, .int x1), (2, .int x2), (3, .int x3)]) (by decide) (Nat.le_of_ble_eq_true rfl) rfl (fun X => tc_b7_put_0 N  _ _ _ _ _ h)
def tc_f7_run_65 (N : Nat) (k37 : Int32 → Int32 → Int32 → Int32 → Int32 → Int32 → tc_Mem → Option (Int32 × tc_Mem)) (x1 : Int32) (x2 : Int32) (x3 : Int32) (x4 : Int32) (x6 : Int32) (x7 : Int32) (s0 : Int32) (μ : tc_Mem) : Option (Int32 × tc_Mem) :=
  if s0 = 0 then
    k37 x1 x2 x3 x4 s0 (x6 + 1) μ
  else
    tc_lt (x4 + x7) fun v1 =>
    tc_bd (tc_f7_bitsOf N 1 μ) fun r2 μ3 =>
    tc_bd (tc_f8_bitCount N r2 μ3) fun r4 μ5 =>
    tc_lt (x3 + r4) fun v6 =>
    tc_bd (tc_f7_goTrains N μ5) fun _ μ8 =>
    k37 x1 x2 v6 v1 s0 (x6 + 1) μ8
theorem tc_b7_run_65 (N : Nat) {k37 : Int32 → Int32 → Int32 → Int32 → Int32 → Int32 → tc_Mem → Option (Int32 × tc_Mem)} (H37 : ∀ (x1 : Int32) (x2 : Int32) (x3 : Int32) (x4 : Int32) (x5 : Int32) (x6 : Int32) (μ : tc_Mem) (z : Int32 × tc_Mem), k37 x1 x2 x3 x4 x5 x6 μ = some z → tc_At l G tc_i7_run (some (.int z.1)) z.2 X 37 [(0, .ref (tc_ad G 50)), (1, .int x1), (2, .int x2), (3, .int x3), (4, .int x4), (5, .int x5), (6, .int x6)] [] μ) (x1 : Int32) (x2 : Int32) (x3 : Int32) (x4 : Int32) (x6 : Int32) (x7 : Int32) (s0 : Int32) (μ : tc_Mem) (z : Int32 × tc_Mem) (h : tc_f7_run_65 N k37 x1 x2 x3 x4 x6 x7 s0 μ = some z) : tc_At l G tc_i7_run (some (.int z.1)) z.2 X 65 [(0, .ref (tc_ad G 50)), (1, .int x1), (2, .int x2), (3, .int x3), (4, .int x4), (6, .int x6), (7, .int x7)] [.int s0] μ := by
  unfold tc_f7_run_65 at h
  refine tc_istore (L' := [(5, .int s0), (0, .ref (tc_ad G 50)), (1, .int x1), (2, .int x2), (3, .int x3), (4, .int x4), (6, .int x6), (7, .int x7)]) tc_d7_run_65 (by decide) rfl ?_
  refine tc_iload tc_d7_run_67 0 rfl ?_
  refine tc_if_eq (tgt := 94) tc_d7_run_69 (by decide) h (fun h => ?_) (fun h => ?_)
  · refine tc_iinc (v := (x6 + 1)) (L' := [(6, .int (x6 + 1)), (5, .int s0), (0, .ref (tc_ad G 50)), (1, .int x1), (2, .int x2), (3, .int x3), (4, .int x4), (7, .int x7)]) tc_d7_run_94 6 rfl rfl (by decide) rfl ?_
    refine tc_goto (tgt := 37) tc_d7_run_97 (by decide) ?_
    refine tc_sub [2, 3, 4, 5, 6, 1, 0] rfl ?_
    exact (H37 _ _ _ _ _ _ _ _) h
  · refine tc_iload tc_d7_run_72 5 rfl ?_
    refine tc_iload tc_d7_run_74 7 rfl ?_
    refine tc_iadd tc_d7_run_76 ?_
    refine tc_ltI h (fun v1 h => ?_)
    refine tc_istore (L' := [(4, .int v1), (5, .int s0), (0, .ref (tc_ad G 50)), (1, .int x1), (2, .int x2), (3, .int x3), (6, .int x6), (7, .int x7)]) tc_d7_run_77 (by decide) rfl ?_
    refine tc_iload_n tc_d7_run_79 5 rfl ?_
    refine tc_aload_n tc_d7_run_80 2 rfl ?_
    refine tc_iconst (v := 1) tc_d7_run_81 (by decide) ?_
    obtain ⟨r2, μ3, e2, h⟩ := tc_bdS h
    have c2 := tc_c7_bitsOf (l := l) (G := G) N e2
    refine tc_callVi (As := [.int 1]) (rest := [.int x3]) (r1 := r2) (μ1 := μ3) tc_d7_run_82 tc_ok7_bitsOf tc_w1061 ⟨Nat.le_of_ble_eq_true rfl, Nat.le_of_ble_eq_true rfl⟩ tc_s7 rfl c2 rfl rfl (Nat.le_of_ble_eq_true rfl) ?_
    obtain ⟨r4, μ5, e4, h⟩ := tc_bdS h
    have c4 := tc_c8_bitCount (l := l) (G := G) N e4
    refine tc_callSi (As := [.int r2]) (rest := [.int x3]) (r1 := r4) (μ1 := μ5) tc_d7_run_85 tc_ok8_bitCount tc_w1149 ⟨Nat.le_of_ble_eq_true rfl, Nat.le_of_ble_eq_true rfl⟩ c4 rfl rfl (Nat.le_of_ble_eq_true rfl) ?_
    refine tc_iadd tc_d7_run_88 ?_
    refine tc_ltI h (fun v6 h => ?_)
    refine tc_istore_n (L' := [(3, .int v6), (4, .int v1), (5, .int s0), (0, .ref (tc_ad G 50)), (1, .int x1), (2, .int x2), (6, .int x6), (7, .int x7)]) tc_d7_run_89 (by decide) rfl ?_
    refine tc_aload_n tc_d7_run_90 3 rfl ?_
    obtain ⟨r7, μ8, e7, h⟩ := tc_bdS h
    have c7 := tc_c7_goTrains (l := l) (G := G) N e7
    refine tc_callVv (As := []) (rest := []) (μ1 := μ8) tc_d7_run_91 tc_ok7_goTrains tc_w1057 ⟨Nat.le_of_ble_eq_true rfl, Nat.le_of_ble_eq_true rfl⟩ tc_s7 rfl c7 rfl rfl (Nat.le_of_ble_eq_true rfl) ?_
    refine tc_iinc (v := (x6 + 1)) (L' := [(6, .int (x6 + 1)), (3, .int v6), (4, .int v1), (5, .int s0), (0, .ref (tc_ad G 50)), (1, .int x1), (2, .int x2), (7, .int x7)]) tc_d7_run_94 6 rfl rfl (by decide) rfl ?_
    refine tc_goto (tgt := 37) tc_d7_run_97 (by decide) ?_
    refine tc_sub [4, 5, 6, 1, 2, 3, 0] rfl ?_
    exact (H37 _ _ _ _ _ _ _ _) h
def tc_f7_run_146 (N : Nat) (s0 : Int32) (μ : tc_Mem) : Option (Int32 × tc_Mem) :=
  tc_bd (tc_f7_laysBack N μ) fun _ μ2 =>
  some (s0, μ2)
theorem tc_b7_run_146 (N : Nat) (s0 : Int32) (μ : tc_Mem) (z : Int32 × tc_Mem) (h : tc_f7_run_146 N s0 μ = some z) : tc_At l G tc_i7_run (some (.int z.1)) z.2 X 146 [(0, .ref (tc_ad G 50))] [.int s0] μ := by
  unfold tc_f7_run_146 at h
  refine tc_istore (L' := [(6, .int s0), (0, .ref (tc_ad G 50))]) tc_d7_run_146 (by decide) rfl ?_
  refine tc_aload_n tc_d7_run_148 1 rfl ?_
  obtain ⟨r1, μ2, e1, h⟩ := tc_bdS h
  have c1 := tc_c7_laysBack (l := l) (G := G) N e1
  refine tc_callVv (As := []) (rest := []) (μ1 := μ2) tc_d7_run_149 tc_ok7_laysBack tc_w1150 ⟨Nat.le_of_ble_eq_true rfl, Nat.le_of_ble_eq_true rfl⟩ tc_s7 rfl c1 rfl rfl (Nat.le_of_ble_eq_true rfl) ?_
  refine tc_iload tc_d7_run_152 0 rfl ?_
  exact tc_iret tc_d7_run_154 rfl (tc_riS h)
def tc_f7_run_100 (N : Nat) (x2 : Int32) (x3 : Int32) (x4 : Int32) (x5 : Int32) (μ : tc_Mem) : Option (Int32 × tc_Mem) :=
  if x5 = 0 then
    tc_f7_run_146 N (-3) μ
  else
    if x2 = 0 then
      tc_bd (tc_f7_bitsOf N 0 μ) fun r3 μ4 =>
      tc_f7_run_146 N r3 μ4
    else
      if x2 = 1 then
        tc_f7_run_146 N x3 μ
      else
        if x2 = 2 then
          tc_f7_run_146 N x4 μ
        else
          tc_bd (tc_f7_bitsOf N 3 μ) fun r1 μ2 =>
          tc_f7_run_146 N r1 μ2
theorem tc_b7_run_100 (N : Nat) (x2 : Int32) (x3 : Int32) (x4 : Int32) (x5 : Int32) (μ : tc_Mem) (z : Int32 × tc_Mem) (h : tc_f7_run_100 N x2 x3 x4 x5 μ = some z) : tc_At l G tc_i7_run (some (.int z.1)) z.2 X 100 [(0, .ref (tc_ad G 50)), (2, .int x2), (3, .int x3), (4, .int x4), (5, .int x5)] [] μ := by
  unfold tc_f7_run_100 at h
  refine tc_iload tc_d7_run_100 4 rfl ?_
  refine tc_if_ne (tgt := 110) tc_d7_run_102 (by decide) h (fun h => ?_) (fun h => ?_)
  · refine tc_iload_n tc_d7_run_110 1 rfl ?_
    refine tc_if_ne (tgt := 122) tc_d7_run_111 (by decide) h (fun h => ?_) (fun h => ?_)
    · refine tc_iload_n tc_d7_run_122 1 rfl ?_
      refine tc_iconst (v := 1) tc_d7_run_123 (by decide) ?_
      refine tc_icmp_ne (tgt := 131) tc_d7_run_124 (by decide) h (fun h => ?_) (fun h => ?_)
      · refine tc_iload_n tc_d7_run_131 1 rfl ?_
        refine tc_iconst (v := 2) tc_d7_run_132 (by decide) ?_
        refine tc_icmp_ne (tgt := 141) tc_d7_run_133 (by decide) h (fun h => ?_) (fun h => ?_)
        · refine tc_aload_n tc_d7_run_141 0 rfl ?_
          refine tc_iconst (v := 3) tc_d7_run_142 (by decide) ?_
          obtain ⟨r1, μ2, e1, h⟩ := tc_bdS h
          have c1 := tc_c7_bitsOf (l := l) (G := G) N e1
          refine tc_callVi (As := [.int 3]) (rest := []) (r1 := r1) (μ1 := μ2) tc_d7_run_143 tc_ok7_bitsOf tc_w1061 ⟨Nat.le_of_ble_eq_true rfl, Nat.le_of_ble_eq_true rfl⟩ tc_s7 rfl c1 rfl rfl (Nat.le_of_ble_eq_true rfl) ?_
          refine tc_sub [0] rfl ?_
          exact (tc_b7_run_146 N _ _ _) h
        · refine tc_iload tc_d7_run_136 3 rfl ?_
          refine tc_goto (tgt := 146) tc_d7_run_138 (by decide) ?_
          refine tc_sub [0] rfl ?_
          exact (tc_b7_run_146 N _ _ _) h
      · refine tc_iload_n tc_d7_run_127 2 rfl ?_
        refine tc_goto (tgt := 146) tc_d7_run_128 (by decide) ?_
        refine tc_sub [0] rfl ?_
        exact (tc_b7_run_146 N _ _ _) h
    · refine tc_aload_n tc_d7_run_114 0 rfl ?_
      refine tc_iconst (v := 0) tc_d7_run_115 (by decide) ?_
      obtain ⟨r3, μ4, e3, h⟩ := tc_bdS h
      have c3 := tc_c7_bitsOf (l := l) (G := G) N e3
      refine tc_callVi (As := [.int 0]) (rest := []) (r1 := r3) (μ1 := μ4) tc_d7_run_116 tc_ok7_bitsOf tc_w1061 ⟨Nat.le_of_ble_eq_true rfl, Nat.le_of_ble_eq_true rfl⟩ tc_s7 rfl c3 rfl rfl (Nat.le_of_ble_eq_true rfl) ?_
      refine tc_goto (tgt := 146) tc_d7_run_119 (by decide) ?_
      refine tc_sub [0] rfl ?_
      exact (tc_b7_run_146 N _ _ _) h
  · refine tc_bipush (v := (-3)) tc_d7_run_105 (by decide) ?_
    refine tc_goto (tgt := 146) tc_d7_run_107 (by decide) ?_
    refine tc_sub [0] rfl ?_
    exact (tc_b7_run_146 N _ _ _) h
def tc_f7_run_37 (N : Nat) : Nat → Int32 → Int32 → Int32 → Int32 → Int32 → Int32 → tc_Mem → Option (Int32 × tc_Mem)
  | 0 => fun _ _ _ _ _ _ _ => none
  | n + 1 => fun x1 x2 x3 x4 x5 x6 μ => 
    if x1 ≤ x6 then
      tc_f7_run_100 N x2 x3 x4 x5 μ
    else
      if x5 = 0 then
        tc_f7_run_100 N x2 x3 x4 x5 μ
      else
        tc_bd (tc_f7_goes N 0 μ) fun r1 μ2 =>
        if r1 < 0 then
          tc_f7_run_65 N (tc_f7_run_37 N n) x1 x2 x3 x4 x6 r1 0 μ2
        else
          tc_f7_run_65 N (tc_f7_run_37 N n) x1 x2 x3 x4 x6 r1 1 μ2
theorem tc_b7_run_37 (N : Nat) : ∀ (n : Nat) (x1 : Int32) (x2 : Int32) (x3 : Int32) (x4 : Int32) (x5 : Int32) (x6 : Int32) (μ : tc_Mem) (z : Int32 × tc_Mem), tc_f7_run_37 N n x1 x2 x3 x4 x5 x6 μ = some z → tc_At l G tc_i7_run (some (.int z.1)) z.2 X 37 [(0, .ref (tc_ad G 50)), (1, .int x1), (2, .int x2), (3, .int x3), (4, .int x4), (5, .int x5), (6, .int x6)] [] μ := by
  intro n
  induction n with
  | zero => intro x1 x2 x3 x4 x5 x6 μ z h; cases h
  | succ n ih =>
    intro x1 x2 x3 x4 x5 x6 μ z h
    rw [tc_f7_run_37] at h
    refine tc_iload tc_d7_run_37 6 rfl ?_
    refine tc_iload_n tc_d7_run_39 1 rfl ?_
    refine tc_icmp_ge (tgt := 100) tc_d7_run_40 (by decide) h (fun h => ?_) (fun h => ?_)
    · refine tc_sub [0, 2, 3, 4, 5] rfl ?_
      exact (tc_b7_run_100 N _ _ _ _ _ _) h
    · refine tc_iload tc_d7_run_43 5 rfl ?_
      refine tc_if_eq (tgt := 100) tc_d7_run_45 (by decide) h (fun h => ?_) (fun h => ?_)
      · refine tc_sub [0, 2, 3, 4, 5] rfl ?_
        exact (tc_b7_run_100 N _ _ _ _ _ _) h
      · refine tc_aload_n tc_d7_run_48 0 rfl ?_
        refine tc_iconst (v := 0) tc_d7_run_49 (by decide) ?_
        obtain ⟨r1, μ2, e1, h⟩ := tc_bdS h
        have c1 := tc_c7_goes (l := l) (G := G) N e1
        refine tc_callVi (As := [.int 0]) (rest := []) (r1 := r1) (μ1 := μ2) tc_d7_run_50 tc_ok7_goes tc_w1097 ⟨Nat.le_of_ble_eq_true rfl, Nat.le_of_ble_eq_true rfl⟩ tc_s7 rfl c1 rfl rfl (Nat.le_of_ble_eq_true rfl) ?_
        refine tc_istore (L' := [(7, .int r1), (0, .ref (tc_ad G 50)), (1, .int x1), (2, .int x2), (3, .int x3), (4, .int x4), (5, .int x5), (6, .int x6)]) tc_d7_run_53 (by decide) rfl ?_
        refine tc_iload tc_d7_run_55 0 rfl ?_
        refine tc_if_lt (tgt := 64) tc_d7_run_57 (by decide) h (fun h => ?_) (fun h => ?_)
        · refine tc_iconst (v := 0) tc_d7_run_64 (by decide) ?_
          refine tc_sub [1, 2, 3, 4, 5, 7, 0] rfl ?_
          exact (tc_b7_run_65 N ih _ _ _ _ _ _ _ _ _) h
        · refine tc_iconst (v := 1) tc_d7_run_60 (by decide) ?_
          refine tc_goto (tgt := 65) tc_d7_run_61 (by decide) ?_
          refine tc_sub [1, 2, 3, 4, 5, 7, 0] rfl ?_
          exact (tc_b7_run_65 N ih _ _ _ _ _ _ _ _ _) h
def tc_f7_run (N : Nat) (x1 : Int32) (x2 : Int32) (μ : tc_Mem) : Option (Int32 × tc_Mem) :=
  tc_bd (tc_f7_in N x1 0 20 μ) fun r1 μ2 =>
  if r1 = 0 then
    some ((-2), μ2)
  else
    tc_bd (tc_f7_in N x2 0 3 μ2) fun r3 μ4 =>
    if r3 = 0 then
      some ((-2), μ4)
    else
      tc_bd (tc_f7_keepsNow N μ4) fun _ μ6 =>
      tc_f7_run_37 N N x1 x2 0 0 1 0 μ6
theorem tc_b7_run_0 (N : Nat) (x1 : Int32) (x2 : Int32) (μ : tc_Mem) (z : Int32 × tc_Mem) (h : tc_f7_run N x1 x2 μ = some z) : tc_At l G tc_i7_run (some (.int z.1)) z.2 X 0 [(0, .ref (tc_ad G 50)), (1, .int x1), (2, .int x2)] [] μ := by
  unfold tc_f7_run at h
  refine tc_iload_n tc_d7_run_0 1 rfl ?_
  refine tc_iconst (v := 0) tc_d7_run_1 (by decide) ?_
  refine tc_bipush (v := 20) tc_d7_run_2 (by decide) ?_
  obtain ⟨r1, μ2, e1, h⟩ := tc_bdS h
  have c1 := tc_c7_in (l := l) (G := G) N e1
  refine tc_callSi (As := [.int x1, .int 0, .int 20]) (rest := []) (r1 := r1) (μ1 := μ2) tc_d7_run_4 tc_ok7_in tc_w1001 ⟨Nat.le_of_ble_eq_true rfl, Nat.le_of_ble_eq_true rfl⟩ c1 rfl rfl (Nat.le_of_ble_eq_true rfl) ?_
  refine tc_if_eq (tgt := 19) tc_d7_run_7 (by decide) h (fun h => ?_) (fun h => ?_)
  · refine tc_bipush (v := (-2)) tc_d7_run_19 (by decide) ?_
    exact tc_iret tc_d7_run_21 rfl (tc_riS h)
  · refine tc_iload_n tc_d7_run_10 2 rfl ?_
    refine tc_iconst (v := 0) tc_d7_run_11 (by decide) ?_
    refine tc_iconst (v := 3) tc_d7_run_12 (by decide) ?_
    obtain ⟨r3, μ4, e3, h⟩ := tc_bdS h
    have c3 := tc_c7_in (l := l) (G := G) N e3
    refine tc_callSi (As := [.int x2, .int 0, .int 3]) (rest := []) (r1 := r3) (μ1 := μ4) tc_d7_run_13 tc_ok7_in tc_w1001 ⟨Nat.le_of_ble_eq_true rfl, Nat.le_of_ble_eq_true rfl⟩ c3 rfl rfl (Nat.le_of_ble_eq_true rfl) ?_
    refine tc_if_ne (tgt := 22) tc_d7_run_16 (by decide) h (fun h => ?_) (fun h => ?_)
    · refine tc_aload_n tc_d7_run_22 0 rfl ?_
      obtain ⟨r5, μ6, e5, h⟩ := tc_bdS h
      have c5 := tc_c7_keepsNow (l := l) (G := G) N e5
      refine tc_callVv (As := []) (rest := []) (μ1 := μ6) tc_d7_run_23 tc_ok7_keepsNow tc_w1145 ⟨Nat.le_of_ble_eq_true rfl, Nat.le_of_ble_eq_true rfl⟩ tc_s7 rfl c5 rfl rfl (Nat.le_of_ble_eq_true rfl) ?_
      refine tc_iconst (v := 0) tc_d7_run_26 (by decide) ?_
      refine tc_istore_n (L' := [(3, .int 0), (0, .ref (tc_ad G 50)), (1, .int x1), (2, .int x2)]) tc_d7_run_27 (by decide) rfl ?_
      refine tc_iconst (v := 0) tc_d7_run_28 (by decide) ?_
      refine tc_istore (L' := [(4, .int 0), (3, .int 0), (0, .ref (tc_ad G 50)), (1, .int x1), (2, .int x2)]) tc_d7_run_29 (by decide) rfl ?_
      refine tc_iconst (v := 1) tc_d7_run_31 (by decide) ?_
      refine tc_istore (L' := [(5, .int 1), (4, .int 0), (3, .int 0), (0, .ref (tc_ad G 50)), (1, .int x1), (2, .int x2)]) tc_d7_run_32 (by decide) rfl ?_
      refine tc_iconst (v := 0) tc_d7_run_34 (by decide) ?_
      refine tc_istore (L' := [(6, .int 0), (5, .int 1), (4, .int 0), (3, .int 0), (0, .ref (tc_ad G 50)), (1, .int x1), (2, .int x2)]) tc_d7_run_35 (by decide) rfl ?_
      refine tc_sub [4, 5, 6, 3, 2, 1, 0] rfl ?_
      exact (tc_b7_run_37 N N _ _ _ _ _ _ _ _) h
    · refine tc_bipush (v := (-2)) tc_d7_run_19 (by decide) ?_
      exact tc_iret tc_d7_run_21 rfl (tc_riS h)
theorem tc_c7_run (N : Nat) {x1 : Int32} {x2 : Int32} {μ : tc_Mem} {z : Int32 × tc_Mem} (h : tc_f7_run N x1 x2 μ = some z) : tc_Con l G tc_i7_run [.ref (tc_ad G 50), .int x1, .int x2] μ (some (.int z.1)) z.2 :=
  tc_Con.of (L := [(0, .ref (tc_ad G 50)), (1, .int x1), (2, .int x2)]) (by decide) (Nat.le_of_ble_eq_true rfl) rfl (fun X => tc_b7_run_0 N  _ _ _ _ h)
def tc_f7_seen (N : Nat) (x1 : Int32) (μ : tc_Mem) : Option (Int32 × tc_Mem) :=
  tc_bd (tc_f7_isSection N x1 μ) fun r1 μ2 =>
  if r1 = 0 then
    some ((-2), μ2)
  else
    tc_bd (tc_f7_broken N x1 μ2) fun r3 μ4 =>
    if r3 = 0 then
      some (1, μ4)
    else
      some (0, μ4)
theorem tc_b7_seen_0 (N : Nat) (x1 : Int32) (μ : tc_Mem) (z : Int32 × tc_Mem) (h : tc_f7_seen N x1 μ = some z) : tc_At l G tc_i7_seen (some (.int z.1)) z.2 X 0 [(0, .ref (tc_ad G 50)), (1, .int x1)] [] μ := by
  unfold tc_f7_seen at h
  refine tc_aload_n tc_d7_seen_0 0 rfl ?_
  refine tc_iload_n tc_d7_seen_1 1 rfl ?_
  obtain ⟨r1, μ2, e1, h⟩ := tc_bdS h
  have c1 := tc_c7_isSection (l := l) (G := G) N e1
  refine tc_callVi (As := [.int x1]) (rest := []) (r1 := r1) (μ1 := μ2) tc_d7_seen_2 tc_ok7_isSection tc_w1016 ⟨Nat.le_of_ble_eq_true rfl, Nat.le_of_ble_eq_true rfl⟩ tc_s7 rfl c1 rfl rfl (Nat.le_of_ble_eq_true rfl) ?_
  refine tc_if_ne (tgt := 13) tc_d7_seen_5 (by decide) h (fun h => ?_) (fun h => ?_)
  · refine tc_aload_n tc_d7_seen_13 0 rfl ?_
    refine tc_iload_n tc_d7_seen_14 1 rfl ?_
    obtain ⟨r3, μ4, e3, h⟩ := tc_bdS h
    have c3 := tc_c7_broken (l := l) (G := G) N e3
    refine tc_callVi (As := [.int x1]) (rest := []) (r1 := r3) (μ1 := μ4) tc_d7_seen_15 tc_ok7_broken tc_w1166 ⟨Nat.le_of_ble_eq_true rfl, Nat.le_of_ble_eq_true rfl⟩ tc_s7 rfl c3 rfl rfl (Nat.le_of_ble_eq_true rfl) ?_
    refine tc_if_ne (tgt := 25) tc_d7_seen_18 (by decide) h (fun h => ?_) (fun h => ?_)
    · refine tc_iconst (v := 0) tc_d7_seen_25 (by decide) ?_
      exact tc_iret tc_d7_seen_26 rfl (tc_riS h)
    · refine tc_iconst (v := 1) tc_d7_seen_21 (by decide) ?_
      refine tc_goto (tgt := 26) tc_d7_seen_22 (by decide) ?_
      exact tc_iret tc_d7_seen_26 rfl (tc_riS h)
  · refine tc_bipush (v := (-2)) tc_d7_seen_8 (by decide) ?_
    refine tc_goto (tgt := 26) tc_d7_seen_10 (by decide) ?_
    exact tc_iret tc_d7_seen_26 rfl (tc_riS h)
theorem tc_c7_seen (N : Nat) {x1 : Int32} {μ : tc_Mem} {z : Int32 × tc_Mem} (h : tc_f7_seen N x1 μ = some z) : tc_Con l G tc_i7_seen [.ref (tc_ad G 50), .int x1] μ (some (.int z.1)) z.2 :=
  tc_Con.of (L := [(0, .ref (tc_ad G 50)), (1, .int x1)]) (by decide) (Nat.le_of_ble_eq_true rfl) rfl (fun X => tc_b7_seen_0 N  _ _ _ h)
def tc_f7_set (N : Nat) (x1 : Int32) (x2 : Int32) (x3 : Int32) (μ : tc_Mem) : Option (Int32 × tc_Mem) :=
  tc_bd (tc_f7_isSection N x1 μ) fun r1 μ2 =>
  if r1 = 0 then
    some ((-2), μ2)
  else
    tc_bd (tc_f7_in N x2 0 3 μ2) fun r3 μ4 =>
    if r3 = 0 then
      some ((-2), μ4)
    else
      if x2 < 0 ∨ 2 < x2 then
        tc_bd (tc_f7_in N x3 0 5 μ4) fun r5 μ6 =>
        if r5 = 0 then
          some ((-2), μ6)
        else
          tc_ck x1 8 (
          tc_lt (μ6 51 x1.toNatClampNeg) fun v8 =>
          tc_ck x1 8 (
          tc_lt (tc_wr μ6 51 x1.toNatClampNeg x3) fun μ10 =>
          some (v8, μ10)))
      else if x2 = 0 then
        tc_bd (tc_f7_in N x3 1 99 μ4) fun r11 μ12 =>
        if r11 = 0 then
          some ((-2), μ12)
        else
          tc_ck x1 8 (
          tc_lt (μ12 52 x1.toNatClampNeg) fun v14 =>
          tc_ck x1 8 (
          tc_lt (tc_wr μ12 52 x1.toNatClampNeg x3) fun μ16 =>
          some (v14, μ16)))
      else if x2 = 1 then
        tc_bd (tc_f7_in N x3 0 9 μ4) fun r17 μ18 =>
        if r17 = 0 then
          some ((-2), μ18)
        else
          tc_ck x1 8 (
          tc_lt (μ18 53 x1.toNatClampNeg) fun v20 =>
          tc_ck x1 8 (
          tc_lt (tc_wr μ18 53 x1.toNatClampNeg x3) fun μ22 =>
          some (v20, μ22)))
      else if x2 = 2 then
        tc_bd (tc_f7_in N x3 1 9 μ4) fun r23 μ24 =>
        if r23 = 0 then
          some ((-2), μ24)
        else
          tc_ck x1 8 (
          tc_lt (μ24 54 x1.toNatClampNeg) fun v26 =>
          tc_ck x1 8 (
          tc_lt (tc_wr μ24 54 x1.toNatClampNeg x3) fun μ28 =>
          some (v26, μ28)))
      else none
theorem tc_b7_set_0 (N : Nat) (x1 : Int32) (x2 : Int32) (x3 : Int32) (μ : tc_Mem) (z : Int32 × tc_Mem) (h : tc_f7_set N x1 x2 x3 μ = some z) : tc_At l G tc_i7_set (some (.int z.1)) z.2 X 0 [(0, .ref (tc_ad G 50)), (1, .int x1), (2, .int x2), (3, .int x3)] [] μ := by
  unfold tc_f7_set at h
  refine tc_aload_n tc_d7_set_0 0 rfl ?_
  refine tc_iload_n tc_d7_set_1 1 rfl ?_
  obtain ⟨r1, μ2, e1, h⟩ := tc_bdS h
  have c1 := tc_c7_isSection (l := l) (G := G) N e1
  refine tc_callVi (As := [.int x1]) (rest := []) (r1 := r1) (μ1 := μ2) tc_d7_set_2 tc_ok7_isSection tc_w1016 ⟨Nat.le_of_ble_eq_true rfl, Nat.le_of_ble_eq_true rfl⟩ tc_s7 rfl c1 rfl rfl (Nat.le_of_ble_eq_true rfl) ?_
  refine tc_if_eq (tgt := 17) tc_d7_set_5 (by decide) h (fun h => ?_) (fun h => ?_)
  · refine tc_bipush (v := (-2)) tc_d7_set_17 (by decide) ?_
    exact tc_iret tc_d7_set_19 rfl (tc_riS h)
  · refine tc_iload_n tc_d7_set_8 2 rfl ?_
    refine tc_iconst (v := 0) tc_d7_set_9 (by decide) ?_
    refine tc_iconst (v := 3) tc_d7_set_10 (by decide) ?_
    obtain ⟨r3, μ4, e3, h⟩ := tc_bdS h
    have c3 := tc_c7_in (l := l) (G := G) N e3
    refine tc_callSi (As := [.int x2, .int 0, .int 3]) (rest := []) (r1 := r3) (μ1 := μ4) tc_d7_set_11 tc_ok7_in tc_w1001 ⟨Nat.le_of_ble_eq_true rfl, Nat.le_of_ble_eq_true rfl⟩ c3 rfl rfl (Nat.le_of_ble_eq_true rfl) ?_
    refine tc_if_ne (tgt := 20) tc_d7_set_14 (by decide) h (fun h => ?_) (fun h => ?_)
    · refine tc_iload_n tc_d7_set_20 2 rfl ?_
      by_cases hq : x2 < 0 ∨ 2 < x2
      · rw [if_pos hq] at h
        refine tc_tswD (a := 0) (b := 2) (tgt := 141) tc_d7_set_21 ⟨by decide, by decide⟩ hq (by decide) ?_
        refine tc_iload_n tc_d7_set_141 3 rfl ?_
        refine tc_iconst (v := 0) tc_d7_set_142 (by decide) ?_
        refine tc_iconst (v := 5) tc_d7_set_143 (by decide) ?_
        obtain ⟨r5, μ6, e5, h⟩ := tc_bdS h
        have c5 := tc_c7_in (l := l) (G := G) N e5
        refine tc_callSi (As := [.int x3, .int 0, .int 5]) (rest := []) (r1 := r5) (μ1 := μ6) tc_d7_set_144 tc_ok7_in tc_w1001 ⟨Nat.le_of_ble_eq_true rfl, Nat.le_of_ble_eq_true rfl⟩ c5 rfl rfl (Nat.le_of_ble_eq_true rfl) ?_
        refine tc_if_ne (tgt := 153) tc_d7_set_147 (by decide) h (fun h => ?_) (fun h => ?_)
        · refine tc_aload_n tc_d7_set_153 0 rfl ?_
          refine tc_g7_1 tc_d7_set_154 tc_w879 ?_
          refine tc_iload_n tc_d7_set_157 1 rfl ?_
          obtain ⟨hi7, h⟩ := tc_ckS h
          refine tc_iald tc_d7_set_158 tc_aL51 hi7 ?_
          refine tc_ltI h (fun v8 h => ?_)
          refine tc_istore (L' := [(4, .int v8), (0, .ref (tc_ad G 50)), (1, .int x1), (2, .int x2), (3, .int x3)]) tc_d7_set_159 (by decide) rfl ?_
          refine tc_aload_n tc_d7_set_161 1 rfl ?_
          refine tc_g7_1 tc_d7_set_162 tc_w879 ?_
          refine tc_iload_n tc_d7_set_165 2 rfl ?_
          refine tc_iload_n tc_d7_set_166 4 rfl ?_
          obtain ⟨hi9, h⟩ := tc_ckS h
          refine tc_iastL tc_d7_set_167 tc_aL51 hi9 h (fun μ10 h => ?_)
          refine tc_iload tc_d7_set_168 0 rfl ?_
          exact tc_iret tc_d7_set_170 rfl (tc_riS h)
        · refine tc_bipush (v := (-2)) tc_d7_set_150 (by decide) ?_
          exact tc_iret tc_d7_set_152 rfl (tc_riS h)
      · rw [if_neg hq] at h
        by_cases hq : x2 = 0
        · rw [if_pos hq] at h
          refine tc_tswK (k := 0) (off := 27) (tgt := 48) tc_d7_set_21 hq (by decide) (by decide) rfl (by decide) ?_
          refine tc_iload_n tc_d7_set_48 3 rfl ?_
          refine tc_iconst (v := 1) tc_d7_set_49 (by decide) ?_
          refine tc_bipush (v := 99) tc_d7_set_50 (by decide) ?_
          obtain ⟨r11, μ12, e11, h⟩ := tc_bdS h
          have c11 := tc_c7_in (l := l) (G := G) N e11
          refine tc_callSi (As := [.int x3, .int 1, .int 99]) (rest := []) (r1 := r11) (μ1 := μ12) tc_d7_set_52 tc_ok7_in tc_w1001 ⟨Nat.le_of_ble_eq_true rfl, Nat.le_of_ble_eq_true rfl⟩ c11 rfl rfl (Nat.le_of_ble_eq_true rfl) ?_
          refine tc_if_ne (tgt := 61) tc_d7_set_55 (by decide) h (fun h => ?_) (fun h => ?_)
          · refine tc_aload_n tc_d7_set_61 0 rfl ?_
            refine tc_g7_2 tc_d7_set_62 tc_w880 ?_
            refine tc_iload_n tc_d7_set_65 1 rfl ?_
            obtain ⟨hi13, h⟩ := tc_ckS h
            refine tc_iald tc_d7_set_66 tc_aL52 hi13 ?_
            refine tc_ltI h (fun v14 h => ?_)
            refine tc_istore (L' := [(4, .int v14), (0, .ref (tc_ad G 50)), (1, .int x1), (2, .int x2), (3, .int x3)]) tc_d7_set_67 (by decide) rfl ?_
            refine tc_aload_n tc_d7_set_69 1 rfl ?_
            refine tc_g7_2 tc_d7_set_70 tc_w880 ?_
            refine tc_iload_n tc_d7_set_73 2 rfl ?_
            refine tc_iload_n tc_d7_set_74 4 rfl ?_
            obtain ⟨hi15, h⟩ := tc_ckS h
            refine tc_iastL tc_d7_set_75 tc_aL52 hi15 h (fun μ16 h => ?_)
            refine tc_iload tc_d7_set_76 0 rfl ?_
            exact tc_iret tc_d7_set_78 rfl (tc_riS h)
          · refine tc_bipush (v := (-2)) tc_d7_set_58 (by decide) ?_
            exact tc_iret tc_d7_set_60 rfl (tc_riS h)
        · rw [if_neg hq] at h
          by_cases hq : x2 = 1
          · rw [if_pos hq] at h
            refine tc_tswK (k := 1) (off := 58) (tgt := 79) tc_d7_set_21 hq (by decide) (by decide) rfl (by decide) ?_
            refine tc_iload_n tc_d7_set_79 3 rfl ?_
            refine tc_iconst (v := 0) tc_d7_set_80 (by decide) ?_
            refine tc_bipush (v := 9) tc_d7_set_81 (by decide) ?_
            obtain ⟨r17, μ18, e17, h⟩ := tc_bdS h
            have c17 := tc_c7_in (l := l) (G := G) N e17
            refine tc_callSi (As := [.int x3, .int 0, .int 9]) (rest := []) (r1 := r17) (μ1 := μ18) tc_d7_set_83 tc_ok7_in tc_w1001 ⟨Nat.le_of_ble_eq_true rfl, Nat.le_of_ble_eq_true rfl⟩ c17 rfl rfl (Nat.le_of_ble_eq_true rfl) ?_
            refine tc_if_ne (tgt := 92) tc_d7_set_86 (by decide) h (fun h => ?_) (fun h => ?_)
            · refine tc_aload_n tc_d7_set_92 0 rfl ?_
              refine tc_g7_3 tc_d7_set_93 tc_w881 ?_
              refine tc_iload_n tc_d7_set_96 1 rfl ?_
              obtain ⟨hi19, h⟩ := tc_ckS h
              refine tc_iald tc_d7_set_97 tc_aL53 hi19 ?_
              refine tc_ltI h (fun v20 h => ?_)
              refine tc_istore (L' := [(4, .int v20), (0, .ref (tc_ad G 50)), (1, .int x1), (2, .int x2), (3, .int x3)]) tc_d7_set_98 (by decide) rfl ?_
              refine tc_aload_n tc_d7_set_100 1 rfl ?_
              refine tc_g7_3 tc_d7_set_101 tc_w881 ?_
              refine tc_iload_n tc_d7_set_104 2 rfl ?_
              refine tc_iload_n tc_d7_set_105 4 rfl ?_
              obtain ⟨hi21, h⟩ := tc_ckS h
              refine tc_iastL tc_d7_set_106 tc_aL53 hi21 h (fun μ22 h => ?_)
              refine tc_iload tc_d7_set_107 0 rfl ?_
              exact tc_iret tc_d7_set_109 rfl (tc_riS h)
            · refine tc_bipush (v := (-2)) tc_d7_set_89 (by decide) ?_
              exact tc_iret tc_d7_set_91 rfl (tc_riS h)
          · rw [if_neg hq] at h
            by_cases hq : x2 = 2
            · rw [if_pos hq] at h
              refine tc_tswK (k := 2) (off := 89) (tgt := 110) tc_d7_set_21 hq (by decide) (by decide) rfl (by decide) ?_
              refine tc_iload_n tc_d7_set_110 3 rfl ?_
              refine tc_iconst (v := 1) tc_d7_set_111 (by decide) ?_
              refine tc_bipush (v := 9) tc_d7_set_112 (by decide) ?_
              obtain ⟨r23, μ24, e23, h⟩ := tc_bdS h
              have c23 := tc_c7_in (l := l) (G := G) N e23
              refine tc_callSi (As := [.int x3, .int 1, .int 9]) (rest := []) (r1 := r23) (μ1 := μ24) tc_d7_set_114 tc_ok7_in tc_w1001 ⟨Nat.le_of_ble_eq_true rfl, Nat.le_of_ble_eq_true rfl⟩ c23 rfl rfl (Nat.le_of_ble_eq_true rfl) ?_
              refine tc_if_ne (tgt := 123) tc_d7_set_117 (by decide) h (fun h => ?_) (fun h => ?_)
              · refine tc_aload_n tc_d7_set_123 0 rfl ?_
                refine tc_g7_4 tc_d7_set_124 tc_w882 ?_
                refine tc_iload_n tc_d7_set_127 1 rfl ?_
                obtain ⟨hi25, h⟩ := tc_ckS h
                refine tc_iald tc_d7_set_128 tc_aL54 hi25 ?_
                refine tc_ltI h (fun v26 h => ?_)
                refine tc_istore (L' := [(4, .int v26), (0, .ref (tc_ad G 50)), (1, .int x1), (2, .int x2), (3, .int x3)]) tc_d7_set_129 (by decide) rfl ?_
                refine tc_aload_n tc_d7_set_131 1 rfl ?_
                refine tc_g7_4 tc_d7_set_132 tc_w882 ?_
                refine tc_iload_n tc_d7_set_135 2 rfl ?_
                refine tc_iload_n tc_d7_set_136 4 rfl ?_
                obtain ⟨hi27, h⟩ := tc_ckS h
                refine tc_iastL tc_d7_set_137 tc_aL54 hi27 h (fun μ28 h => ?_)
                refine tc_iload tc_d7_set_138 0 rfl ?_
                exact tc_iret tc_d7_set_140 rfl (tc_riS h)
              · refine tc_bipush (v := (-2)) tc_d7_set_120 (by decide) ?_
                exact tc_iret tc_d7_set_122 rfl (tc_riS h)
            · rw [if_neg hq] at h
              cases h
    · refine tc_bipush (v := (-2)) tc_d7_set_17 (by decide) ?_
      exact tc_iret tc_d7_set_19 rfl (tc_riS h)
theorem tc_c7_set (N : Nat) {x1 : Int32} {x2 : Int32} {x3 : Int32} {μ : tc_Mem} {z : Int32 × tc_Mem} (h : tc_f7_set N x1 x2 x3 μ = some z) : tc_Con l G tc_i7_set [.ref (tc_ad G 50), .int x1, .int x2, .int x3] μ (some (.int z.1)) z.2 :=
  tc_Con.of (L := [(0, .ref (tc_ad G 50)), (1, .int x1), (2, .int x2), (3, .int x3)]) (by decide) (Nat.le_of_ble_eq_true rfl) rfl (fun X => tc_b7_set_0 N  _ _ _ _ _ h)
def tc_f7_sheet_66 (N : Nat) : Nat → Int32 → Int32 → Int32 → tc_Mem → Option (Int32 × tc_Mem)
  | 0 => fun _ _ _ _ => none
  | n + 1 => fun x1 x3 x4 μ => 
    if x3 ≤ x4 then
      some (1, μ)
    else
      tc_ck ((40 * x1) + x4) 160 (
      tc_lt (tc_wr μ 66 ((40 * x1) + x4).toNatClampNeg 0) fun μ2 =>
      tc_f7_sheet_66 N  n x1 x3 (x4 + 1) μ2)
theorem tc_b7_sheet_66 (N : Nat) : ∀ (n : Nat) (x1 : Int32) (x3 : Int32) (x4 : Int32) (μ : tc_Mem) (z : Int32 × tc_Mem), tc_f7_sheet_66 N n x1 x3 x4 μ = some z → tc_At l G tc_i7_sheet (some (.int z.1)) z.2 X 66 [(0, .ref (tc_ad G 50)), (1, .int x1), (3, .int x3), (4, .int x4)] [] μ := by
  intro n
  induction n with
  | zero => intro x1 x3 x4 μ z h; cases h
  | succ n ih =>
    intro x1 x3 x4 μ z h
    rw [tc_f7_sheet_66] at h
    refine tc_iload tc_d7_sheet_66 3 rfl ?_
    refine tc_iload_n tc_d7_sheet_68 2 rfl ?_
    refine tc_icmp_ge (tgt := 91) tc_d7_sheet_69 (by decide) h (fun h => ?_) (fun h => ?_)
    · refine tc_iconst (v := 1) tc_d7_sheet_91 (by decide) ?_
      exact tc_iret tc_d7_sheet_92 rfl (tc_riS h)
    · refine tc_aload_n tc_d7_sheet_72 0 rfl ?_
      refine tc_g7_20 tc_d7_sheet_73 tc_w898 ?_
      refine tc_bipush (v := 40) tc_d7_sheet_76 (by decide) ?_
      refine tc_iload_n tc_d7_sheet_78 1 rfl ?_
      refine tc_imul tc_d7_sheet_79 ?_
      refine tc_iload tc_d7_sheet_80 3 rfl ?_
      refine tc_iadd tc_d7_sheet_82 ?_
      refine tc_iconst (v := 0) tc_d7_sheet_83 (by decide) ?_
      obtain ⟨hi1, h⟩ := tc_ckS h
      refine tc_iastL tc_d7_sheet_84 tc_aL66 hi1 h (fun μ2 h => ?_)
      refine tc_iinc (v := (x4 + 1)) (L' := [(4, .int (x4 + 1)), (0, .ref (tc_ad G 50)), (1, .int x1), (3, .int x3)]) tc_d7_sheet_85 3 rfl rfl (by decide) rfl ?_
      refine tc_goto (tgt := 66) tc_d7_sheet_88 (by decide) ?_
      refine tc_sub [1, 2, 3, 0] rfl ?_
      exact (ih _ _ _ _ _) h
def tc_f7_sheet (N : Nat) (x1 : Int32) (x2 : Int32) (x3 : Int32) (μ : tc_Mem) : Option (Int32 × tc_Mem) :=
  tc_bd (tc_f7_isSheet N x1 μ) fun r1 μ2 =>
  if r1 = 0 then
    some ((-2), μ2)
  else
    tc_bd (tc_f7_in N x2 (-1) 1 μ2) fun r3 μ4 =>
    if r3 = 0 then
      some ((-2), μ4)
    else
      if x2 = (-1) then
        tc_ck x1 4 (
        tc_lt (tc_wr μ4 64 x1.toNatClampNeg (-1)) fun μ10 =>
        some (1, μ10))
      else
        if x3 ≤ 40 then
          if (0 : Int32) ≤ x3 then
            tc_ck x1 4 (
            tc_lt (tc_wr μ4 64 x1.toNatClampNeg x2) fun μ6 =>
            tc_ck x1 4 (
            tc_lt (tc_wr μ6 65 x1.toNatClampNeg x3) fun μ8 =>
            tc_f7_sheet_66 N N x1 x3 0 μ8))
          else
            some ((-14), μ4)
        else
          some ((-2), μ4)
theorem tc_b7_sheet_0 (N : Nat) (x1 : Int32) (x2 : Int32) (x3 : Int32) (μ : tc_Mem) (z : Int32 × tc_Mem) (h : tc_f7_sheet N x1 x2 x3 μ = some z) : tc_At l G tc_i7_sheet (some (.int z.1)) z.2 X 0 [(0, .ref (tc_ad G 50)), (1, .int x1), (2, .int x2), (3, .int x3)] [] μ := by
  unfold tc_f7_sheet at h
  refine tc_iload_n tc_d7_sheet_0 1 rfl ?_
  obtain ⟨r1, μ2, e1, h⟩ := tc_bdS h
  have c1 := tc_c7_isSheet (l := l) (G := G) N e1
  refine tc_callSi (As := [.int x1]) (rest := []) (r1 := r1) (μ1 := μ2) tc_d7_sheet_1 tc_ok7_isSheet tc_w1223 ⟨Nat.le_of_ble_eq_true rfl, Nat.le_of_ble_eq_true rfl⟩ c1 rfl rfl (Nat.le_of_ble_eq_true rfl) ?_
  refine tc_if_eq (tgt := 16) tc_d7_sheet_4 (by decide) h (fun h => ?_) (fun h => ?_)
  · refine tc_bipush (v := (-2)) tc_d7_sheet_16 (by decide) ?_
    exact tc_iret tc_d7_sheet_18 rfl (tc_riS h)
  · refine tc_iload_n tc_d7_sheet_7 2 rfl ?_
    refine tc_iconst (v := (-1)) tc_d7_sheet_8 (by decide) ?_
    refine tc_iconst (v := 1) tc_d7_sheet_9 (by decide) ?_
    obtain ⟨r3, μ4, e3, h⟩ := tc_bdS h
    have c3 := tc_c7_in (l := l) (G := G) N e3
    refine tc_callSi (As := [.int x2, .int (-1), .int 1]) (rest := []) (r1 := r3) (μ1 := μ4) tc_d7_sheet_10 tc_ok7_in tc_w1001 ⟨Nat.le_of_ble_eq_true rfl, Nat.le_of_ble_eq_true rfl⟩ c3 rfl rfl (Nat.le_of_ble_eq_true rfl) ?_
    refine tc_if_ne (tgt := 19) tc_d7_sheet_13 (by decide) h (fun h => ?_) (fun h => ?_)
    · refine tc_iload_n tc_d7_sheet_19 2 rfl ?_
      refine tc_iconst (v := (-1)) tc_d7_sheet_20 (by decide) ?_
      refine tc_icmp_ne (tgt := 33) tc_d7_sheet_21 (by decide) h (fun h => ?_) (fun h => ?_)
      · refine tc_iload_n tc_d7_sheet_33 3 rfl ?_
        refine tc_bipush (v := 40) tc_d7_sheet_34 (by decide) ?_
        refine tc_icmp_le (tgt := 42) tc_d7_sheet_36 (by decide) h (fun h => ?_) (fun h => ?_)
        · refine tc_iload_n tc_d7_sheet_42 3 rfl ?_
          refine tc_if_ge (tgt := 49) tc_d7_sheet_43 (by decide) h (fun h => ?_) (fun h => ?_)
          · refine tc_aload_n tc_d7_sheet_49 0 rfl ?_
            refine tc_g7_18 tc_d7_sheet_50 tc_w896 ?_
            refine tc_iload_n tc_d7_sheet_53 1 rfl ?_
            refine tc_iload_n tc_d7_sheet_54 2 rfl ?_
            obtain ⟨hi5, h⟩ := tc_ckS h
            refine tc_iastL tc_d7_sheet_55 tc_aL64 hi5 h (fun μ6 h => ?_)
            refine tc_aload_n tc_d7_sheet_56 0 rfl ?_
            refine tc_g7_19 tc_d7_sheet_57 tc_w897 ?_
            refine tc_iload_n tc_d7_sheet_60 1 rfl ?_
            refine tc_iload_n tc_d7_sheet_61 3 rfl ?_
            obtain ⟨hi7, h⟩ := tc_ckS h
            refine tc_iastL tc_d7_sheet_62 tc_aL65 hi7 h (fun μ8 h => ?_)
            refine tc_iconst (v := 0) tc_d7_sheet_63 (by decide) ?_
            refine tc_istore (L' := [(4, .int 0), (0, .ref (tc_ad G 50)), (1, .int x1), (2, .int x2), (3, .int x3)]) tc_d7_sheet_64 (by decide) rfl ?_
            refine tc_sub [1, 2, 4, 0] rfl ?_
            exact (tc_b7_sheet_66 N N _ _ _ _ _) h
          · refine tc_bipush (v := (-14)) tc_d7_sheet_46 (by decide) ?_
            exact tc_iret tc_d7_sheet_48 rfl (tc_riS h)
        · refine tc_bipush (v := (-2)) tc_d7_sheet_39 (by decide) ?_
          exact tc_iret tc_d7_sheet_41 rfl (tc_riS h)
      · refine tc_aload_n tc_d7_sheet_24 0 rfl ?_
        refine tc_g7_18 tc_d7_sheet_25 tc_w896 ?_
        refine tc_iload_n tc_d7_sheet_28 1 rfl ?_
        refine tc_iconst (v := (-1)) tc_d7_sheet_29 (by decide) ?_
        obtain ⟨hi9, h⟩ := tc_ckS h
        refine tc_iastL tc_d7_sheet_30 tc_aL64 hi9 h (fun μ10 h => ?_)
        refine tc_iconst (v := 1) tc_d7_sheet_31 (by decide) ?_
        exact tc_iret tc_d7_sheet_32 rfl (tc_riS h)
    · refine tc_bipush (v := (-2)) tc_d7_sheet_16 (by decide) ?_
      exact tc_iret tc_d7_sheet_18 rfl (tc_riS h)
theorem tc_c7_sheet (N : Nat) {x1 : Int32} {x2 : Int32} {x3 : Int32} {μ : tc_Mem} {z : Int32 × tc_Mem} (h : tc_f7_sheet N x1 x2 x3 μ = some z) : tc_Con l G tc_i7_sheet [.ref (tc_ad G 50), .int x1, .int x2, .int x3] μ (some (.int z.1)) z.2 :=
  tc_Con.of (L := [(0, .ref (tc_ad G 50)), (1, .int x1), (2, .int x2), (3, .int x3)]) (by decide) (Nat.le_of_ble_eq_true rfl) rfl (fun X => tc_b7_sheet_0 N  _ _ _ _ _ h)
def tc_f7_taken_69 (N : Nat) (x1 : Int32) (s0 : Int32) (μ : tc_Mem) : Option (Int32 × tc_Mem) :=
  if s0 = 0 then
    some ((-13), μ)
  else
    tc_ck x1 8 (
    some ((μ 52 x1.toNatClampNeg), μ))
theorem tc_b7_taken_69 (N : Nat) (x1 : Int32) (s0 : Int32) (μ : tc_Mem) (z : Int32 × tc_Mem) (h : tc_f7_taken_69 N x1 s0 μ = some z) : tc_At l G tc_i7_taken (some (.int z.1)) z.2 X 69 [(0, .ref (tc_ad G 50)), (1, .int x1)] [.int s0] μ := by
  unfold tc_f7_taken_69 at h
  refine tc_istore_n (L' := [(3, .int s0), (0, .ref (tc_ad G 50)), (1, .int x1)]) tc_d7_taken_69 (by decide) rfl ?_
  refine tc_iload_n tc_d7_taken_70 0 rfl ?_
  refine tc_if_eq (tgt := 83) tc_d7_taken_71 (by decide) h (fun h => ?_) (fun h => ?_)
  · refine tc_bipush (v := (-13)) tc_d7_taken_83 (by decide) ?_
    exact tc_iret tc_d7_taken_85 rfl (tc_riS h)
  · refine tc_aload_n tc_d7_taken_74 1 rfl ?_
    refine tc_g7_2 tc_d7_taken_75 tc_w880 ?_
    refine tc_iload_n tc_d7_taken_78 2 rfl ?_
    obtain ⟨hi1, h⟩ := tc_ckS h
    refine tc_iald tc_d7_taken_79 tc_aL52 hi1 ?_
    refine tc_goto (tgt := 85) tc_d7_taken_80 (by decide) ?_
    exact tc_iret tc_d7_taken_85 rfl (tc_riS h)
def tc_f7_taken_64 (N : Nat) (x1 : Int32) (μ : tc_Mem) : Option (Int32 × tc_Mem) :=
  tc_f7_taken_69 N x1 1 μ
theorem tc_b7_taken_64 (N : Nat) (x1 : Int32) (μ : tc_Mem) (z : Int32 × tc_Mem) (h : tc_f7_taken_64 N x1 μ = some z) : tc_At l G tc_i7_taken (some (.int z.1)) z.2 X 64 [(0, .ref (tc_ad G 50)), (1, .int x1)] [] μ := by
  unfold tc_f7_taken_64 at h
  refine tc_iconst (v := 1) tc_d7_taken_64 (by decide) ?_
  refine tc_goto (tgt := 69) tc_d7_taken_65 (by decide) ?_
  exact (tc_b7_taken_69 N _ _ _ _) h
def tc_f7_taken_68 (N : Nat) (x1 : Int32) (μ : tc_Mem) : Option (Int32 × tc_Mem) :=
  tc_f7_taken_69 N x1 0 μ
theorem tc_b7_taken_68 (N : Nat) (x1 : Int32) (μ : tc_Mem) (z : Int32 × tc_Mem) (h : tc_f7_taken_68 N x1 μ = some z) : tc_At l G tc_i7_taken (some (.int z.1)) z.2 X 68 [(0, .ref (tc_ad G 50)), (1, .int x1)] [] μ := by
  unfold tc_f7_taken_68 at h
  refine tc_iconst (v := 0) tc_d7_taken_68 (by decide) ?_
  exact (tc_b7_taken_69 N _ _ _ _) h
def tc_f7_taken_49 (N : Nat) (x1 : Int32) (x2 : Int32) (μ : tc_Mem) : Option (Int32 × tc_Mem) :=
  if x2 = 2 then
    tc_ck x1 8 (
    if (μ 51 x1.toNatClampNeg) = 5 then
      tc_f7_taken_64 N x1 μ
    else
      tc_f7_taken_68 N x1 μ)
  else
    tc_f7_taken_68 N x1 μ
theorem tc_b7_taken_49 (N : Nat) (x1 : Int32) (x2 : Int32) (μ : tc_Mem) (z : Int32 × tc_Mem) (h : tc_f7_taken_49 N x1 x2 μ = some z) : tc_At l G tc_i7_taken (some (.int z.1)) z.2 X 49 [(0, .ref (tc_ad G 50)), (1, .int x1), (2, .int x2)] [] μ := by
  unfold tc_f7_taken_49 at h
  refine tc_iload_n tc_d7_taken_49 2 rfl ?_
  refine tc_iconst (v := 2) tc_d7_taken_50 (by decide) ?_
  refine tc_icmp_ne (tgt := 68) tc_d7_taken_51 (by decide) h (fun h => ?_) (fun h => ?_)
  · refine tc_sub [0, 1] rfl ?_
    exact (tc_b7_taken_68 N _ _ _) h
  · refine tc_aload_n tc_d7_taken_54 0 rfl ?_
    refine tc_g7_1 tc_d7_taken_55 tc_w879 ?_
    refine tc_iload_n tc_d7_taken_58 1 rfl ?_
    obtain ⟨hi1, h⟩ := tc_ckS h
    refine tc_iald tc_d7_taken_59 tc_aL51 hi1 ?_
    refine tc_iconst (v := 5) tc_d7_taken_60 (by decide) ?_
    refine tc_icmp_ne (tgt := 68) tc_d7_taken_61 (by decide) h (fun h => ?_) (fun h => ?_)
    · refine tc_sub [0, 1] rfl ?_
      exact (tc_b7_taken_68 N _ _ _) h
    · refine tc_sub [0, 1] rfl ?_
      exact (tc_b7_taken_64 N _ _ _) h
def tc_f7_taken (N : Nat) (x1 : Int32) (x2 : Int32) (μ : tc_Mem) : Option (Int32 × tc_Mem) :=
  tc_bd (tc_f7_isSection N x1 μ) fun r1 μ2 =>
  if r1 = 0 then
    some ((-2), μ2)
  else
    tc_bd (tc_f7_in N x2 0 5 μ2) fun r3 μ4 =>
    if r3 = 0 then
      some ((-2), μ4)
    else
      if x2 = 0 then
        tc_f7_taken_64 N x1 μ4
      else
        tc_ck x1 8 (
        if (μ4 51 x1.toNatClampNeg) = x2 then
          tc_f7_taken_64 N x1 μ4
        else
          if x2 = 1 then
            tc_ck x1 8 (
            if (μ4 51 x1.toNatClampNeg) = 3 then
              tc_f7_taken_64 N x1 μ4
            else
              tc_f7_taken_49 N x1 x2 μ4)
          else
            tc_f7_taken_49 N x1 x2 μ4)
theorem tc_b7_taken_0 (N : Nat) (x1 : Int32) (x2 : Int32) (μ : tc_Mem) (z : Int32 × tc_Mem) (h : tc_f7_taken N x1 x2 μ = some z) : tc_At l G tc_i7_taken (some (.int z.1)) z.2 X 0 [(0, .ref (tc_ad G 50)), (1, .int x1), (2, .int x2)] [] μ := by
  unfold tc_f7_taken at h
  refine tc_aload_n tc_d7_taken_0 0 rfl ?_
  refine tc_iload_n tc_d7_taken_1 1 rfl ?_
  obtain ⟨r1, μ2, e1, h⟩ := tc_bdS h
  have c1 := tc_c7_isSection (l := l) (G := G) N e1
  refine tc_callVi (As := [.int x1]) (rest := []) (r1 := r1) (μ1 := μ2) tc_d7_taken_2 tc_ok7_isSection tc_w1016 ⟨Nat.le_of_ble_eq_true rfl, Nat.le_of_ble_eq_true rfl⟩ tc_s7 rfl c1 rfl rfl (Nat.le_of_ble_eq_true rfl) ?_
  refine tc_if_eq (tgt := 17) tc_d7_taken_5 (by decide) h (fun h => ?_) (fun h => ?_)
  · refine tc_bipush (v := (-2)) tc_d7_taken_17 (by decide) ?_
    exact tc_iret tc_d7_taken_19 rfl (tc_riS h)
  · refine tc_iload_n tc_d7_taken_8 2 rfl ?_
    refine tc_iconst (v := 0) tc_d7_taken_9 (by decide) ?_
    refine tc_iconst (v := 5) tc_d7_taken_10 (by decide) ?_
    obtain ⟨r3, μ4, e3, h⟩ := tc_bdS h
    have c3 := tc_c7_in (l := l) (G := G) N e3
    refine tc_callSi (As := [.int x2, .int 0, .int 5]) (rest := []) (r1 := r3) (μ1 := μ4) tc_d7_taken_11 tc_ok7_in tc_w1001 ⟨Nat.le_of_ble_eq_true rfl, Nat.le_of_ble_eq_true rfl⟩ c3 rfl rfl (Nat.le_of_ble_eq_true rfl) ?_
    refine tc_if_ne (tgt := 20) tc_d7_taken_14 (by decide) h (fun h => ?_) (fun h => ?_)
    · refine tc_iload_n tc_d7_taken_20 2 rfl ?_
      refine tc_if_eq (tgt := 64) tc_d7_taken_21 (by decide) h (fun h => ?_) (fun h => ?_)
      · refine tc_sub [0, 1] rfl ?_
        exact (tc_b7_taken_64 N _ _ _) h
      · refine tc_aload_n tc_d7_taken_24 0 rfl ?_
        refine tc_g7_1 tc_d7_taken_25 tc_w879 ?_
        refine tc_iload_n tc_d7_taken_28 1 rfl ?_
        obtain ⟨hi5, h⟩ := tc_ckS h
        refine tc_iald tc_d7_taken_29 tc_aL51 hi5 ?_
        refine tc_iload_n tc_d7_taken_30 2 rfl ?_
        refine tc_icmp_eq (tgt := 64) tc_d7_taken_31 (by decide) h (fun h => ?_) (fun h => ?_)
        · refine tc_sub [0, 1] rfl ?_
          exact (tc_b7_taken_64 N _ _ _) h
        · refine tc_iload_n tc_d7_taken_34 2 rfl ?_
          refine tc_iconst (v := 1) tc_d7_taken_35 (by decide) ?_
          refine tc_icmp_ne (tgt := 49) tc_d7_taken_36 (by decide) h (fun h => ?_) (fun h => ?_)
          · exact (tc_b7_taken_49 N _ _ _ _) h
          · refine tc_aload_n tc_d7_taken_39 0 rfl ?_
            refine tc_g7_1 tc_d7_taken_40 tc_w879 ?_
            refine tc_iload_n tc_d7_taken_43 1 rfl ?_
            obtain ⟨hi6, h⟩ := tc_ckS h
            refine tc_iald tc_d7_taken_44 tc_aL51 hi6 ?_
            refine tc_iconst (v := 3) tc_d7_taken_45 (by decide) ?_
            refine tc_icmp_eq (tgt := 64) tc_d7_taken_46 (by decide) h (fun h => ?_) (fun h => ?_)
            · refine tc_sub [0, 1] rfl ?_
              exact (tc_b7_taken_64 N _ _ _) h
            · exact (tc_b7_taken_49 N _ _ _ _) h
    · refine tc_bipush (v := (-2)) tc_d7_taken_17 (by decide) ?_
      exact tc_iret tc_d7_taken_19 rfl (tc_riS h)
theorem tc_c7_taken (N : Nat) {x1 : Int32} {x2 : Int32} {μ : tc_Mem} {z : Int32 × tc_Mem} (h : tc_f7_taken N x1 x2 μ = some z) : tc_Con l G tc_i7_taken [.ref (tc_ad G 50), .int x1, .int x2] μ (some (.int z.1)) z.2 :=
  tc_Con.of (L := [(0, .ref (tc_ad G 50)), (1, .int x1), (2, .int x2)]) (by decide) (Nat.le_of_ble_eq_true rfl) rfl (fun X => tc_b7_taken_0 N  _ _ _ _ h)
def tc_f7_tells_112 (N : Nat) (k78 : Int32 → Int32 → Int32 → Int32 → Int32 → tc_Mem → Option (Int32 × tc_Mem)) (x1 : Int32) (x2 : Int32) (x4 : Int32) (x6 : Int32) (s0 : Int32) (s1 : Int32) (μ : tc_Mem) : Option (Int32 × tc_Mem) :=
  tc_lt (s0 ||| s1) fun v1 =>
  k78 x1 x2 x4 v1 (x6 + 1) μ
theorem tc_b7_tells_112 (N : Nat) {k78 : Int32 → Int32 → Int32 → Int32 → Int32 → tc_Mem → Option (Int32 × tc_Mem)} (H78 : ∀ (x1 : Int32) (x2 : Int32) (x4 : Int32) (x5 : Int32) (x6 : Int32) (μ : tc_Mem) (z : Int32 × tc_Mem), k78 x1 x2 x4 x5 x6 μ = some z → tc_At l G tc_i7_tells (some (.int z.1)) z.2 X 78 [(0, .ref (tc_ad G 50)), (1, .int x1), (2, .int x2), (4, .int x4), (5, .int x5), (6, .int x6)] [] μ) (x1 : Int32) (x2 : Int32) (x4 : Int32) (x6 : Int32) (s0 : Int32) (s1 : Int32) (μ : tc_Mem) (z : Int32 × tc_Mem) (h : tc_f7_tells_112 N k78 x1 x2 x4 x6 s0 s1 μ = some z) : tc_At l G tc_i7_tells (some (.int z.1)) z.2 X 112 [(0, .ref (tc_ad G 50)), (1, .int x1), (2, .int x2), (4, .int x4), (6, .int x6)] [.int s1, .int s0] μ := by
  unfold tc_f7_tells_112 at h
  refine tc_ior tc_d7_tells_112 ?_
  refine tc_ltI h (fun v1 h => ?_)
  refine tc_istore (L' := [(5, .int v1), (0, .ref (tc_ad G 50)), (1, .int x1), (2, .int x2), (4, .int x4), (6, .int x6)]) tc_d7_tells_113 (by decide) rfl ?_
  refine tc_iinc (v := (x6 + 1)) (L' := [(6, .int (x6 + 1)), (5, .int v1), (0, .ref (tc_ad G 50)), (1, .int x1), (2, .int x2), (4, .int x4)]) tc_d7_tells_115 5 rfl rfl (by decide) rfl ?_
  refine tc_goto (tgt := 78) tc_d7_tells_118 (by decide) ?_
  refine tc_sub [2, 3, 4, 5, 1, 0] rfl ?_
  exact (H78 _ _ _ _ _ _ _) h
def tc_f7_tells_121 (N : Nat) (x2 : Int32) (x4 : Int32) (x5 : Int32) (μ : tc_Mem) : Option (Int32 × tc_Mem) :=
  tc_ck x2 8 (
  tc_lt (tc_wr μ 51 x2.toNatClampNeg x4) fun μ2 =>
  some (x5, μ2))
theorem tc_b7_tells_121 (N : Nat) (x2 : Int32) (x4 : Int32) (x5 : Int32) (μ : tc_Mem) (z : Int32 × tc_Mem) (h : tc_f7_tells_121 N x2 x4 x5 μ = some z) : tc_At l G tc_i7_tells (some (.int z.1)) z.2 X 121 [(0, .ref (tc_ad G 50)), (2, .int x2), (4, .int x4), (5, .int x5)] [] μ := by
  unfold tc_f7_tells_121 at h
  refine tc_aload_n tc_d7_tells_121 0 rfl ?_
  refine tc_g7_1 tc_d7_tells_122 tc_w879 ?_
  refine tc_iload_n tc_d7_tells_125 1 rfl ?_
  refine tc_iload tc_d7_tells_126 2 rfl ?_
  obtain ⟨hi1, h⟩ := tc_ckS h
  refine tc_iastL tc_d7_tells_128 tc_aL51 hi1 h (fun μ2 h => ?_)
  refine tc_iload tc_d7_tells_129 3 rfl ?_
  exact tc_iret tc_d7_tells_131 rfl (tc_riS h)
def tc_f7_tells_78 (N : Nat) : Nat → Int32 → Int32 → Int32 → Int32 → Int32 → tc_Mem → Option (Int32 × tc_Mem)
  | 0 => fun _ _ _ _ _ _ => none
  | n + 1 => fun x1 x2 x4 x5 x6 μ => 
    if (6 : Int32) ≤ x6 then
      tc_f7_tells_121 N x2 x4 x5 μ
    else
      tc_ck x2 8 (
      tc_lt (tc_wr μ 51 x2.toNatClampNeg x6) fun μ2 =>
      tc_bd (tc_f7_otherBy N x1 x2 μ2) fun r3 μ4 =>
      if (0 : Int32) ≤ r3 then
        tc_f7_tells_112 N (tc_f7_tells_78 N n) x1 x2 x4 x6 x5 0 μ4
      else
        tc_f7_tells_112 N (tc_f7_tells_78 N n) x1 x2 x4 x6 x5 (1 <<< (x6 &&& 31)) μ4)
theorem tc_b7_tells_78 (N : Nat) : ∀ (n : Nat) (x1 : Int32) (x2 : Int32) (x4 : Int32) (x5 : Int32) (x6 : Int32) (μ : tc_Mem) (z : Int32 × tc_Mem), tc_f7_tells_78 N n x1 x2 x4 x5 x6 μ = some z → tc_At l G tc_i7_tells (some (.int z.1)) z.2 X 78 [(0, .ref (tc_ad G 50)), (1, .int x1), (2, .int x2), (4, .int x4), (5, .int x5), (6, .int x6)] [] μ := by
  intro n
  induction n with
  | zero => intro x1 x2 x4 x5 x6 μ z h; cases h
  | succ n ih =>
    intro x1 x2 x4 x5 x6 μ z h
    rw [tc_f7_tells_78] at h
    refine tc_iload tc_d7_tells_78 5 rfl ?_
    refine tc_bipush (v := 6) tc_d7_tells_80 (by decide) ?_
    refine tc_icmp_ge (tgt := 121) tc_d7_tells_82 (by decide) h (fun h => ?_) (fun h => ?_)
    · refine tc_sub [0, 2, 3, 4] rfl ?_
      exact (tc_b7_tells_121 N _ _ _ _ _) h
    · refine tc_aload_n tc_d7_tells_85 0 rfl ?_
      refine tc_g7_1 tc_d7_tells_86 tc_w879 ?_
      refine tc_iload_n tc_d7_tells_89 2 rfl ?_
      refine tc_iload tc_d7_tells_90 5 rfl ?_
      obtain ⟨hi1, h⟩ := tc_ckS h
      refine tc_iastL tc_d7_tells_92 tc_aL51 hi1 h (fun μ2 h => ?_)
      refine tc_iload tc_d7_tells_93 4 rfl ?_
      refine tc_aload_n tc_d7_tells_95 0 rfl ?_
      refine tc_iload_n tc_d7_tells_96 1 rfl ?_
      refine tc_iload_n tc_d7_tells_97 2 rfl ?_
      obtain ⟨r3, μ4, e3, h⟩ := tc_bdS h
      have c3 := tc_c7_otherBy (l := l) (G := G) N e3
      refine tc_callVi (As := [.int x1, .int x2]) (rest := [.int x5]) (r1 := r3) (μ1 := μ4) tc_d7_tells_98 tc_ok7_otherBy tc_w1226 ⟨Nat.le_of_ble_eq_true rfl, Nat.le_of_ble_eq_true rfl⟩ tc_s7 rfl c3 rfl rfl (Nat.le_of_ble_eq_true rfl) ?_
      refine tc_if_ge (tgt := 111) tc_d7_tells_101 (by decide) h (fun h => ?_) (fun h => ?_)
      · refine tc_iconst (v := 0) tc_d7_tells_111 (by decide) ?_
        refine tc_sub [0, 1, 2, 3, 5] rfl ?_
        exact (tc_b7_tells_112 N ih _ _ _ _ _ _ _ _) h
      · refine tc_iconst (v := 1) tc_d7_tells_104 (by decide) ?_
        refine tc_iload tc_d7_tells_105 5 rfl ?_
        refine tc_ishl tc_d7_tells_107 ?_
        refine tc_goto (tgt := 112) tc_d7_tells_108 (by decide) ?_
        refine tc_sub [0, 1, 2, 3, 5] rfl ?_
        exact (tc_b7_tells_112 N ih _ _ _ _ _ _ _ _) h
def tc_f7_tells (N : Nat) (x1 : Int32) (x2 : Int32) (x3 : Int32) (μ : tc_Mem) : Option (Int32 × tc_Mem) :=
  tc_bd (tc_f7_isSheet N x1 μ) fun r1 μ2 =>
  if r1 = 0 then
    some ((-2), μ2)
  else
    tc_bd (tc_f7_isSection N x2 μ2) fun r3 μ4 =>
    if r3 = 0 then
      some ((-2), μ4)
    else
      tc_bd (tc_f7_in N x3 0 1 μ4) fun r5 μ6 =>
      if r5 = 0 then
        some ((-2), μ6)
      else
        tc_ck x1 4 (
        if (0 : Int32) ≤ (μ6 64 x1.toNatClampNeg) then
          tc_ck x1 4 (
          if (μ6 65 x1.toNatClampNeg) ≤ 10 then
            if x3 = 0 then
              tc_bd (tc_f7_otherBy N x1 x2 μ6) fun r11 μ12 =>
              some (r11, μ12)
            else
              tc_ck x2 8 (
              tc_lt (μ6 51 x2.toNatClampNeg) fun v10 =>
              tc_f7_tells_78 N N x1 x2 v10 0 0 μ6)
          else
            some ((-2), μ6))
        else
          some ((-11), μ6))
theorem tc_b7_tells_0 (N : Nat) (x1 : Int32) (x2 : Int32) (x3 : Int32) (μ : tc_Mem) (z : Int32 × tc_Mem) (h : tc_f7_tells N x1 x2 x3 μ = some z) : tc_At l G tc_i7_tells (some (.int z.1)) z.2 X 0 [(0, .ref (tc_ad G 50)), (1, .int x1), (2, .int x2), (3, .int x3)] [] μ := by
  unfold tc_f7_tells at h
  refine tc_iload_n tc_d7_tells_0 1 rfl ?_
  obtain ⟨r1, μ2, e1, h⟩ := tc_bdS h
  have c1 := tc_c7_isSheet (l := l) (G := G) N e1
  refine tc_callSi (As := [.int x1]) (rest := []) (r1 := r1) (μ1 := μ2) tc_d7_tells_1 tc_ok7_isSheet tc_w1223 ⟨Nat.le_of_ble_eq_true rfl, Nat.le_of_ble_eq_true rfl⟩ c1 rfl rfl (Nat.le_of_ble_eq_true rfl) ?_
  refine tc_if_eq (tgt := 24) tc_d7_tells_4 (by decide) h (fun h => ?_) (fun h => ?_)
  · refine tc_bipush (v := (-2)) tc_d7_tells_24 (by decide) ?_
    exact tc_iret tc_d7_tells_26 rfl (tc_riS h)
  · refine tc_aload_n tc_d7_tells_7 0 rfl ?_
    refine tc_iload_n tc_d7_tells_8 2 rfl ?_
    obtain ⟨r3, μ4, e3, h⟩ := tc_bdS h
    have c3 := tc_c7_isSection (l := l) (G := G) N e3
    refine tc_callVi (As := [.int x2]) (rest := []) (r1 := r3) (μ1 := μ4) tc_d7_tells_9 tc_ok7_isSection tc_w1016 ⟨Nat.le_of_ble_eq_true rfl, Nat.le_of_ble_eq_true rfl⟩ tc_s7 rfl c3 rfl rfl (Nat.le_of_ble_eq_true rfl) ?_
    refine tc_if_eq (tgt := 24) tc_d7_tells_12 (by decide) h (fun h => ?_) (fun h => ?_)
    · refine tc_bipush (v := (-2)) tc_d7_tells_24 (by decide) ?_
      exact tc_iret tc_d7_tells_26 rfl (tc_riS h)
    · refine tc_iload_n tc_d7_tells_15 3 rfl ?_
      refine tc_iconst (v := 0) tc_d7_tells_16 (by decide) ?_
      refine tc_iconst (v := 1) tc_d7_tells_17 (by decide) ?_
      obtain ⟨r5, μ6, e5, h⟩ := tc_bdS h
      have c5 := tc_c7_in (l := l) (G := G) N e5
      refine tc_callSi (As := [.int x3, .int 0, .int 1]) (rest := []) (r1 := r5) (μ1 := μ6) tc_d7_tells_18 tc_ok7_in tc_w1001 ⟨Nat.le_of_ble_eq_true rfl, Nat.le_of_ble_eq_true rfl⟩ c5 rfl rfl (Nat.le_of_ble_eq_true rfl) ?_
      refine tc_if_ne (tgt := 27) tc_d7_tells_21 (by decide) h (fun h => ?_) (fun h => ?_)
      · refine tc_aload_n tc_d7_tells_27 0 rfl ?_
        refine tc_g7_18 tc_d7_tells_28 tc_w896 ?_
        refine tc_iload_n tc_d7_tells_31 1 rfl ?_
        obtain ⟨hi7, h⟩ := tc_ckS h
        refine tc_iald tc_d7_tells_32 tc_aL64 hi7 ?_
        refine tc_if_ge (tgt := 39) tc_d7_tells_33 (by decide) h (fun h => ?_) (fun h => ?_)
        · refine tc_aload_n tc_d7_tells_39 0 rfl ?_
          refine tc_g7_19 tc_d7_tells_40 tc_w897 ?_
          refine tc_iload_n tc_d7_tells_43 1 rfl ?_
          obtain ⟨hi8, h⟩ := tc_ckS h
          refine tc_iald tc_d7_tells_44 tc_aL65 hi8 ?_
          refine tc_bipush (v := 10) tc_d7_tells_45 (by decide) ?_
          refine tc_icmp_le (tgt := 53) tc_d7_tells_47 (by decide) h (fun h => ?_) (fun h => ?_)
          · refine tc_iload_n tc_d7_tells_53 3 rfl ?_
            refine tc_if_ne (tgt := 64) tc_d7_tells_54 (by decide) h (fun h => ?_) (fun h => ?_)
            · refine tc_aload_n tc_d7_tells_64 0 rfl ?_
              refine tc_g7_1 tc_d7_tells_65 tc_w879 ?_
              refine tc_iload_n tc_d7_tells_68 2 rfl ?_
              obtain ⟨hi9, h⟩ := tc_ckS h
              refine tc_iald tc_d7_tells_69 tc_aL51 hi9 ?_
              refine tc_ltI h (fun v10 h => ?_)
              refine tc_istore (L' := [(4, .int v10), (0, .ref (tc_ad G 50)), (1, .int x1), (2, .int x2), (3, .int x3)]) tc_d7_tells_70 (by decide) rfl ?_
              refine tc_iconst (v := 0) tc_d7_tells_72 (by decide) ?_
              refine tc_istore (L' := [(5, .int 0), (4, .int v10), (0, .ref (tc_ad G 50)), (1, .int x1), (2, .int x2), (3, .int x3)]) tc_d7_tells_73 (by decide) rfl ?_
              refine tc_iconst (v := 0) tc_d7_tells_75 (by decide) ?_
              refine tc_istore (L' := [(6, .int 0), (5, .int 0), (4, .int v10), (0, .ref (tc_ad G 50)), (1, .int x1), (2, .int x2), (3, .int x3)]) tc_d7_tells_76 (by decide) rfl ?_
              refine tc_sub [3, 4, 5, 2, 1, 0] rfl ?_
              exact (tc_b7_tells_78 N N _ _ _ _ _ _ _) h
            · refine tc_aload_n tc_d7_tells_57 0 rfl ?_
              refine tc_iload_n tc_d7_tells_58 1 rfl ?_
              refine tc_iload_n tc_d7_tells_59 2 rfl ?_
              obtain ⟨r11, μ12, e11, h⟩ := tc_bdS h
              have c11 := tc_c7_otherBy (l := l) (G := G) N e11
              refine tc_callVi (As := [.int x1, .int x2]) (rest := []) (r1 := r11) (μ1 := μ12) tc_d7_tells_60 tc_ok7_otherBy tc_w1226 ⟨Nat.le_of_ble_eq_true rfl, Nat.le_of_ble_eq_true rfl⟩ tc_s7 rfl c11 rfl rfl (Nat.le_of_ble_eq_true rfl) ?_
              exact tc_iret tc_d7_tells_63 rfl (tc_riS h)
          · refine tc_bipush (v := (-2)) tc_d7_tells_50 (by decide) ?_
            exact tc_iret tc_d7_tells_52 rfl (tc_riS h)
        · refine tc_bipush (v := (-11)) tc_d7_tells_36 (by decide) ?_
          exact tc_iret tc_d7_tells_38 rfl (tc_riS h)
      · refine tc_bipush (v := (-2)) tc_d7_tells_24 (by decide) ?_
        exact tc_iret tc_d7_tells_26 rfl (tc_riS h)
theorem tc_c7_tells (N : Nat) {x1 : Int32} {x2 : Int32} {x3 : Int32} {μ : tc_Mem} {z : Int32 × tc_Mem} (h : tc_f7_tells N x1 x2 x3 μ = some z) : tc_Con l G tc_i7_tells [.ref (tc_ad G 50), .int x1, .int x2, .int x3] μ (some (.int z.1)) z.2 :=
  tc_Con.of (L := [(0, .ref (tc_ad G 50)), (1, .int x1), (2, .int x2), (3, .int x3)]) (by decide) (Nat.le_of_ble_eq_true rfl) rfl (fun X => tc_b7_tells_0 N  _ _ _ _ _ h)
def tc_f7_who (N : Nat) (x1 : Int32) (μ : tc_Mem) : Option (Int32 × tc_Mem) :=
  tc_bd (tc_f7_in N x1 0 4 μ) fun r1 μ2 =>
  if r1 = 0 then
    some ((-2), μ2)
  else
    tc_bd (tc_f7_bitsOf N x1 μ2) fun r3 μ4 =>
    some (r3, μ4)
theorem tc_b7_who_0 (N : Nat) (x1 : Int32) (μ : tc_Mem) (z : Int32 × tc_Mem) (h : tc_f7_who N x1 μ = some z) : tc_At l G tc_i7_who (some (.int z.1)) z.2 X 0 [(0, .ref (tc_ad G 50)), (1, .int x1)] [] μ := by
  unfold tc_f7_who at h
  refine tc_iload_n tc_d7_who_0 1 rfl ?_
  refine tc_iconst (v := 0) tc_d7_who_1 (by decide) ?_
  refine tc_iconst (v := 4) tc_d7_who_2 (by decide) ?_
  obtain ⟨r1, μ2, e1, h⟩ := tc_bdS h
  have c1 := tc_c7_in (l := l) (G := G) N e1
  refine tc_callSi (As := [.int x1, .int 0, .int 4]) (rest := []) (r1 := r1) (μ1 := μ2) tc_d7_who_3 tc_ok7_in tc_w1001 ⟨Nat.le_of_ble_eq_true rfl, Nat.le_of_ble_eq_true rfl⟩ c1 rfl rfl (Nat.le_of_ble_eq_true rfl) ?_
  refine tc_if_eq (tgt := 17) tc_d7_who_6 (by decide) h (fun h => ?_) (fun h => ?_)
  · refine tc_bipush (v := (-2)) tc_d7_who_17 (by decide) ?_
    exact tc_iret tc_d7_who_19 rfl (tc_riS h)
  · refine tc_aload_n tc_d7_who_9 0 rfl ?_
    refine tc_iload_n tc_d7_who_10 1 rfl ?_
    obtain ⟨r3, μ4, e3, h⟩ := tc_bdS h
    have c3 := tc_c7_bitsOf (l := l) (G := G) N e3
    refine tc_callVi (As := [.int x1]) (rest := []) (r1 := r3) (μ1 := μ4) tc_d7_who_11 tc_ok7_bitsOf tc_w1061 ⟨Nat.le_of_ble_eq_true rfl, Nat.le_of_ble_eq_true rfl⟩ tc_s7 rfl c3 rfl rfl (Nat.le_of_ble_eq_true rfl) ?_
    refine tc_goto (tgt := 19) tc_d7_who_14 (by decide) ?_
    exact tc_iret tc_d7_who_19 rfl (tc_riS h)
theorem tc_c7_who (N : Nat) {x1 : Int32} {μ : tc_Mem} {z : Int32 × tc_Mem} (h : tc_f7_who N x1 μ = some z) : tc_Con l G tc_i7_who [.ref (tc_ad G 50), .int x1] μ (some (.int z.1)) z.2 :=
  tc_Con.of (L := [(0, .ref (tc_ad G 50)), (1, .int x1)]) (by decide) (Nat.le_of_ble_eq_true rfl) rfl (fun X => tc_b7_who_0 N  _ _ _ h)
end WALK
