theorem tc_tabof {args : Array Value} {s : State} {n : String} {N : Nat} {f : Nat → Int32} {A : Nat → Prop} (hN : N < 2 ^ 31) (hs : ∀ c ∈ flatC (Jvm.Cond.and given_1 narrow_1), c.before args s = true) (hl : (Cond.laysStatic "TrackCircuits" n "[I").before args s = true) (hini : (Cond.initialized "TrackCircuits").before args s = true) (h1 : Cond.arrayOf (.static "TrackCircuits" n "[I") .int ∈ flatC (Jvm.Cond.and given_1 narrow_1)) (h2 : Cond.eq (.length (.static "TrackCircuits" n "[I")) (.int (Int32.ofNat N)) ∈ flatC (Jvm.Cond.and given_1 narrow_1)) (h3 : ∀ j, j < N → Cond.eq (.elem (.static "TrackCircuits" n "[I") (.int (Int32.ofNat j))) (.int (f j)) ∈ flatC (Jvm.Cond.and given_1 narrow_1)) (hA : ∀ a : Nat, a < s.heap.size → ¬ A a) : ∃ t : Nat, tc_Tab "TrackCircuits" n t N f A s s.heap := by
  obtain ⟨t, ht, hT⟩ := va_Tof (f := fun j => .int (f j)) (A := A) hN (hs _ h1) (va_eqt (hs _ h2)) (fun j hj => va_eqt (hs _ (h3 j hj))) hA
  exact ⟨t, va_Zref hl hini ht hA, hT⟩
def tc_tm4 (i : Nat) : Term := .string "TrackCircuits$Tape" (tc_txI4.getD i 0)
def tc_tm7 (i : Nat) : Term := .string "TrackCircuitsModel" (tc_txI7.getD i 0)
theorem tc_sm1 : ∀ i, i < 8 → Cond.exactly (tc_tm4 i) "java/lang/String" ∈ flatC (Jvm.Cond.and given_1 narrow_1) := by decide +kernel
theorem tc_sm2 : ∀ i, i < 8 → Cond.eq (.field (tc_tm4 i) "java/lang/String" "coder" "B") (.int 0) ∈ flatC (Jvm.Cond.and given_1 narrow_1) := by decide +kernel
theorem tc_sm3 : ∀ i, i < 8 → Cond.arrayOf (.field (tc_tm4 i) "java/lang/String" "value" "[B") .byte ∈ flatC (Jvm.Cond.and given_1 narrow_1) := by decide +kernel
theorem tc_sm4 : ∀ i, i < 8 → Cond.eq (.length (.field (tc_tm4 i) "java/lang/String" "value" "[B")) (.int (Int32.ofNat (tc_txL.getD i 0))) ∈ flatC (Jvm.Cond.and given_1 narrow_1) := by decide +kernel
theorem tc_sm5 : ∀ i, i < 8 → ∀ j, j < tc_txL.getD i 0 → Cond.eq (.elem (.field (tc_tm4 i) "java/lang/String" "value" "[B") (.int (Int32.ofNat j))) (.int ((tc_txB.getD i []).getD j 0)) ∈ flatC (Jvm.Cond.and given_1 narrow_1) := by decide +kernel
theorem tc_sm6 : ∀ i, i < 8 → ∀ j, j < 8 → i ≠ j → (Cond.not (Cond.eq (tc_tm4 i) (tc_tm4 j)) ∈ flatC (Jvm.Cond.and given_1 narrow_1) ∨ Cond.not (Cond.eq (tc_tm4 j) (tc_tm4 i)) ∈ flatC (Jvm.Cond.and given_1 narrow_1)) := by decide +kernel
theorem tc_sm7 : ∀ i, i < 8 → Cond.eq (tc_tm4 i) (tc_tm7 i) ∈ flatC (Jvm.Cond.and given_1 narrow_1) := by decide +kernel
theorem tc_sm8 : ∀ i, i < 8 → Cond.stringRef "TrackCircuits$Tape" (tc_txI4.getD i 0) (tc_txt.getD i "") ∈ lw_tbl ∧ Cond.stringRef "TrackCircuitsModel" (tc_txI7.getD i 0) (tc_txt.getD i "") ∈ lw_tbl := by decide +kernel
theorem tc_sm9 : ∀ w ∈ [Cond.methodLinkNest "TrackCircuits$Yard" 69 tc_withBit "TrackCircuits", .methodLinkNest "TrackCircuits$Asking" 59 tc_withBit "TrackCircuits", .methodLinkNest "TrackCircuits$Mind" 99 tc_withBit "TrackCircuits", .methodLinkNest "TrackCircuits$Sheets" 21 tc_isWithin "TrackCircuits", .fieldLinkNest "TrackCircuits$Yard" 66 "TrackCircuits" "LOOKS" "[I" "TrackCircuits", .fieldLinkNest "TrackCircuits$Tape" 45 "TrackCircuits" "NUMBERS" "[I" "TrackCircuits", .laysStatic "TrackCircuits" "LOOKS" "[I", .laysStatic "TrackCircuits" "ABOVE" "[I", .laysStatic "TrackCircuits" "NUMBERS" "[I", .initialized "TrackCircuits", .laysStatic "java/lang/String" "COMPACT_STRINGS" "Z", .initialized "java/lang/String", .laysStatic "jdk/internal/util/Preconditions" "SIOOBE_FORMATTER" "Ljava/util/function/BiFunction;", .initialized "jdk/internal/util/Preconditions", .arrayClass .int, .arrayClass .boolean], w ∈ lw_tbl := by decide +kernel
theorem tc_t01 : Cond.arrayOf (.static "TrackCircuits" "LOOKS" "[I") .int ∈ flatC (Jvm.Cond.and given_1 narrow_1) ∧ Cond.eq (.length (.static "TrackCircuits" "LOOKS" "[I")) (.int (Int32.ofNat 6)) ∈ flatC (Jvm.Cond.and given_1 narrow_1) ∧ ∀ j, j < 6 → Cond.eq (.elem (.static "TrackCircuits" "LOOKS" "[I") (.int (Int32.ofNat j))) (.int (tc_LOOKS j)) ∈ flatC (Jvm.Cond.and given_1 narrow_1) := by decide +kernel
theorem tc_t02 : Cond.arrayOf (.static "TrackCircuits" "ABOVE" "[I") .int ∈ flatC (Jvm.Cond.and given_1 narrow_1) ∧ Cond.eq (.length (.static "TrackCircuits" "ABOVE" "[I")) (.int (Int32.ofNat 6)) ∈ flatC (Jvm.Cond.and given_1 narrow_1) ∧ ∀ j, j < 6 → Cond.eq (.elem (.static "TrackCircuits" "ABOVE" "[I") (.int (Int32.ofNat j))) (.int (tc_ABOVE j)) ∈ flatC (Jvm.Cond.and given_1 narrow_1) := by decide +kernel
theorem tc_t03 : Cond.arrayOf (.static "TrackCircuits" "NUMBERS" "[I") .int ∈ flatC (Jvm.Cond.and given_1 narrow_1) ∧ Cond.eq (.length (.static "TrackCircuits" "NUMBERS" "[I")) (.int (Int32.ofNat 8)) ∈ flatC (Jvm.Cond.and given_1 narrow_1) ∧ ∀ j, j < 8 → Cond.eq (.elem (.static "TrackCircuits" "NUMBERS" "[I") (.int (Int32.ofNat j))) (.int (tc_NUMBERS j)) ∈ flatC (Jvm.Cond.and given_1 narrow_1) := by decide +kernel
theorem tc_t04 : Cond.eq (.static "java/lang/String" "COMPACT_STRINGS" "Z") (.int 1) ∈ flatC (Jvm.Cond.and given_1 narrow_1) ∧ Cond.isRef (.static "jdk/internal/util/Preconditions" "SIOOBE_FORMATTER" "Ljava/util/function/BiFunction;") ∈ flatC (Jvm.Cond.and given_1 narrow_1) := by decide +kernel
/-- what the start gives: classes, array classes, tables, texts -/
theorem tc_frame {p : Program} {s : State} {m : MethodId} {meth : Method} {c : Code} {b Ls : Nat} {xs : Nat → Int32} (C0 : lw_At p s m meth c b Ls xs) : ∃ (D : va_G) (c0 c1 : ClassId) (tb sK sV : Nat → Nat), va_K D tc_classes [(c0, .int), (c1, .boolean)] s ∧ tc_Nest s ∧ ∀ ad : Nat → Nat, tc_Stat (D, ad, (fun t => if t = 0 then c0 else c1), tb, sK, sV) (fun q => s.heap.size ≤ q) s s.heap ∧ tc_StrR (D, ad, (fun t => if t = 0 then c0 else c1), tb, sK, sV) s := by
  obtain ⟨hx, hb, hr, hml, hown, hts, hX, hbl, hlocks, hgv⟩ := C0
  have hs := flat_of_before _ hgv
  have hA : ∀ a : Nat, a < s.heap.size → ¬ (fun q : Nat => s.heap.size ≤ q) a := fun a h => Nat.not_le.mpr h
  obtain ⟨d0, iS0, hKn0⟩ := u_known (C := tc_R0) (T := tc_T0) (N := 6) (n := 6) hts (fun w h => (tc_in0 w h).1) (hts (.instantiable tc_R0 6) (List.mem_of_getElem? (i := 174) (by decide +kernel)))
  obtain ⟨d1, iS1, hKn1⟩ := u_known (C := tc_R1) (T := tc_T1) (N := 4) (n := 4) hts (fun w h => (tc_in1 w h).1) (hts (.instantiable tc_R1 4) (List.mem_of_getElem? (i := 87) (by decide +kernel)))
  obtain ⟨d2, iS2, hKn2⟩ := u_known (C := tc_R2) (T := tc_T2) (N := 3) (n := 3) hts (fun w h => (tc_in2 w h).1) (hts (.instantiable tc_R2 3) (List.mem_of_getElem? (i := 202) (by decide +kernel)))
  obtain ⟨d3, iS3, hKn3⟩ := u_known (C := tc_R3) (T := tc_T3) (N := 3) (n := 3) hts (fun w h => (tc_in3 w h).1) (hts (.instantiable tc_R3 3) (List.mem_of_getElem? (i := 250) (by decide +kernel)))
  obtain ⟨d4, iS4, hKn4⟩ := u_known (C := tc_R4) (T := tc_T4) (N := 6) (n := 6) hts (fun w h => (tc_in4 w h).1) (hts (.instantiable tc_R4 6) (List.mem_of_getElem? (i := 222) (by decide +kernel)))
  obtain ⟨d5, iS5, hKn5⟩ := u_known (C := tc_R5) (T := tc_T5) (N := 13) (n := 13) hts (fun w h => (tc_in5 w h).1) (hts (.instantiable tc_R5 13) (List.mem_of_getElem? (i := 81) (by decide +kernel)))
  obtain ⟨d6, iS6, hKn6⟩ := u_known (C := tc_R6) (T := tc_T6) (N := 9) (n := 9) hts (fun w h => (tc_in6 w h).1) (hts (.instantiable tc_R6 9) (List.mem_of_getElem? (i := 73) (by decide +kernel)))
  obtain ⟨d7, iS7, hKn7⟩ := u_known (C := tc_R7) (T := tc_T7) (N := 39) (n := 39) hts (fun w h => (tc_in7 w h).1) (hts (.instantiable tc_R7 39) (List.mem_of_getElem? (i := 873) (by decide +kernel)))
  obtain ⟨cA, kA, compA, hfA, hkA, hkindA⟩ := Cond.arrayClass_spec (hts (.arrayClass .int) (tc_sm9 _ (List.mem_of_getElem? (i := 14) rfl)))
  obtain ⟨cB, kB, compB, hfB, hkB, hkindB⟩ := Cond.arrayClass_spec (hts (.arrayClass .boolean) (tc_sm9 _ (List.mem_of_getElem? (i := 15) rfl)))
  obtain ⟨t0, hT0⟩ := tc_tabof (A := fun q => s.heap.size ≤ q) (by decide) hs (hts _ (tc_sm9 _ (List.mem_of_getElem? (i := 6) rfl))) (hts _ (tc_sm9 _ (List.mem_of_getElem? (i := 9) rfl))) tc_t01.1 tc_t01.2.1 tc_t01.2.2 hA
  obtain ⟨t1, hT1⟩ := tc_tabof (A := fun q => s.heap.size ≤ q) (by decide) hs (hts _ (tc_sm9 _ (List.mem_of_getElem? (i := 7) rfl))) (hts _ (tc_sm9 _ (List.mem_of_getElem? (i := 9) rfl))) tc_t02.1 tc_t02.2.1 tc_t02.2.2 hA
  obtain ⟨t2, hT2⟩ := tc_tabof (A := fun q => s.heap.size ≤ q) (by decide) hs (hts _ (tc_sm9 _ (List.mem_of_getElem? (i := 8) rfl))) (hts _ (tc_sm9 _ (List.mem_of_getElem? (i := 9) rfl))) tc_t03.1 tc_t03.2.1 tc_t03.2.2 hA
  obtain ⟨sK, sV, hStr, hEv⟩ := vk_Sof (tm := tc_tm4) (len := tc_txL) (byt := tc_txB) (N := 8) (A := fun q => s.heap.size ≤ q) (by decide) (fun i h => hs _ (tc_sm1 i h)) (fun i h => hs _ (tc_sm2 i h)) (fun i h => hs _ (tc_sm3 i h)) (fun i h => hs _ (tc_sm4 i h)) (fun i h j hj => hs _ (tc_sm5 i h j hj)) (fun i j hi hj hij => (tc_sm6 i hi j hj hij).imp (fun h => hs _ h) (fun h => hs _ h)) hA
  refine ⟨(fun k => match k with
    | 0 => d0
    | 1 => d1
    | 2 => d2
    | 3 => d3
    | 4 => d4
    | 5 => d5
    | 6 => d6
    | _ => d7, fun k => match k with
    | 0 => iS0
    | 1 => iS1
    | 2 => iS2
    | 3 => iS3
    | 4 => iS4
    | 5 => iS5
    | 6 => iS6
    | _ => iS7), cA, cB, (fun k => match k with
    | 0 => t0
    | 1 => t1
    | _ => t2), sK, sV, ⟨fun k q hq => ?_, fun k q hq => ?_⟩, ⟨va_Nw.of rfl (hts _ (tc_sm9 _ (List.mem_of_getElem? (i := 0) rfl))), va_Nw.of rfl (hts _ (tc_sm9 _ (List.mem_of_getElem? (i := 1) rfl))), va_Nw.of rfl (hts _ (tc_sm9 _ (List.mem_of_getElem? (i := 2) rfl))), va_Nw.of rfl (hts _ (tc_sm9 _ (List.mem_of_getElem? (i := 3) rfl))), va_Nw.of rfl (hts _ (tc_sm9 _ (List.mem_of_getElem? (i := 4) rfl))), va_Nw.of rfl (hts _ (tc_sm9 _ (List.mem_of_getElem? (i := 5) rfl)))⟩, fun ad => ⟨⟨hT0, hT1, hT2, hStr, va_Zof (hts _ (tc_sm9 _ (List.mem_of_getElem? (i := 10) rfl))) (hts _ (tc_sm9 _ (List.mem_of_getElem? (i := 11) rfl))) (va_eqi (hs _ tc_t04.1)) hA, va_Zqof (hts _ (tc_sm9 _ (List.mem_of_getElem? (i := 12) rfl))) (hts _ (tc_sm9 _ (List.mem_of_getElem? (i := 13) rfl))) (hs _ tc_t04.2) hA⟩, fun i hi => ⟨vk_R.of (hts _ (tc_sm8 i hi).1) (hEv i hi), vk_R.of (hts _ (tc_sm8 i hi).2) (va_eqR (hs _ (tc_sm7 i hi)) (hEv i hi))⟩⟩⟩
  · match k, hq with
    | 0, hq => cases hq; exact hKn0
    | 1, hq => cases hq; exact hKn1
    | 2, hq => cases hq; exact hKn2
    | 3, hq => cases hq; exact hKn3
    | 4, hq => cases hq; exact hKn4
    | 5, hq => cases hq; exact hKn5
    | 6, hq => cases hq; exact hKn6
    | 7, hq => cases hq; exact hKn7
    | k + 8, hq => simp [tc_classes] at hq
  · match k, hq with
    | 0, hq => cases hq; exact ⟨fun n z => ⟨fun k h => (by cases h), kA, hkA, compA, hkindA⟩, hfA⟩
    | 1, hq => cases hq; exact ⟨fun n z => ⟨fun k h => (by cases h), kB, hkB, compB, hkindB⟩, hfB⟩
    | k + 2, hq => simp at hq
