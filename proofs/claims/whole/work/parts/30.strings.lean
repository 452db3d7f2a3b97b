theorem tc_w757 : (Cond.methodLink "java/lang/String" (335 : Nat) ({ cls := "java/lang/String", name := "coder", desc := "()B" } : MethodName)) ∈ tc_gw := tc_gm 757 (by decide +kernel) (by decide +kernel)
theorem tc_w767 : (Cond.methodLink "java/lang/String" (492 : Nat) ({ cls := "java/lang/String", name := "isLatin1", desc := "()Z" } : MethodName)) ∈ tc_gw := tc_gm 767 (by decide +kernel) (by decide +kernel)
theorem tc_w771 : (Cond.methodLink "java/lang/String" (495 : Nat) ({ cls := "java/lang/StringLatin1", name := "charAt", desc := "([BI)C" } : MethodName)) ∈ tc_gw := tc_gm 771 (by decide +kernel) (by decide +kernel)
theorem tc_w779 : (Cond.methodLink "java/lang/String" (1059 : Nat) ({ cls := "jdk/internal/util/Preconditions", name := "checkIndex", desc := "(IILjava/util/function/BiFunction;)I" } : MethodName)) ∈ tc_gw := tc_gm 779 (by decide +kernel) (by decide +kernel)
theorem tc_w774 : (Cond.methodLink "java/lang/StringLatin1" (9 : Nat) ({ cls := "java/lang/String", name := "checkIndex", desc := "(II)V" } : MethodName)) ∈ tc_gw := tc_gm 774 (by decide +kernel) (by decide +kernel)
theorem tc_w68 : (Cond.initialized "java/lang/String") ∈ tc_gw := tc_gm 68 (by decide +kernel) (by decide +kernel)
theorem tc_w69 : (Cond.initialized "java/lang/StringLatin1") ∈ tc_gw := tc_gm 69 (by decide +kernel) (by decide +kernel)
theorem tc_w70 : (Cond.initialized "jdk/internal/util/Preconditions") ∈ tc_gw := tc_gm 70 (by decide +kernel) (by decide +kernel)
theorem tc_w754 : (Cond.instanceMethod ({ cls := "java/lang/String", name := "length", desc := "()I" } : MethodName)) ∈ tc_gw := tc_gm 754 (by decide +kernel) (by decide +kernel)
theorem tc_w755 : (Cond.selects "java/lang/String" ({ cls := "java/lang/String", name := "length", desc := "()I" } : MethodName) ({ cls := "java/lang/String", name := "length", desc := "()I" } : MethodName)) ∈ tc_gw := tc_gm 755 (by decide +kernel) (by decide +kernel)
theorem tc_w756 : (Cond.code ({ cls := "java/lang/String", name := "length", desc := "()I" } : MethodName) prog_12_method_54_code (1 : Nat) (Option.some FieldType.int)) ∈ tc_gw := tc_gm 756 (by decide +kernel) (by decide +kernel)
theorem tc_w758 : (Cond.instanceMethod ({ cls := "java/lang/String", name := "coder", desc := "()B" } : MethodName)) ∈ tc_gw := tc_gm 758 (by decide +kernel) (by decide +kernel)
theorem tc_w759 : (Cond.selects "java/lang/String" ({ cls := "java/lang/String", name := "coder", desc := "()B" } : MethodName) ({ cls := "java/lang/String", name := "coder", desc := "()B" } : MethodName)) ∈ tc_gw := tc_gm 759 (by decide +kernel) (by decide +kernel)
theorem tc_w760 : (Cond.code ({ cls := "java/lang/String", name := "coder", desc := "()B" } : MethodName) prog_12_method_152_code (1 : Nat) (Option.some FieldType.byte)) ∈ tc_gw := tc_gm 760 (by decide +kernel) (by decide +kernel)
theorem tc_w764 : (Cond.instanceMethod ({ cls := "java/lang/String", name := "charAt", desc := "(I)C" } : MethodName)) ∈ tc_gw := tc_gm 764 (by decide +kernel) (by decide +kernel)
theorem tc_w765 : (Cond.selects "java/lang/String" ({ cls := "java/lang/String", name := "charAt", desc := "(I)C" } : MethodName) ({ cls := "java/lang/String", name := "charAt", desc := "(I)C" } : MethodName)) ∈ tc_gw := tc_gm 765 (by decide +kernel) (by decide +kernel)
theorem tc_w766 : (Cond.code ({ cls := "java/lang/String", name := "charAt", desc := "(I)C" } : MethodName) prog_12_method_56_code (2 : Nat) (Option.some FieldType.char)) ∈ tc_gw := tc_gm 766 (by decide +kernel) (by decide +kernel)
theorem tc_w768 : (Cond.instanceMethod ({ cls := "java/lang/String", name := "isLatin1", desc := "()Z" } : MethodName)) ∈ tc_gw := tc_gm 768 (by decide +kernel) (by decide +kernel)
theorem tc_w769 : (Cond.selects "java/lang/String" ({ cls := "java/lang/String", name := "isLatin1", desc := "()Z" } : MethodName) ({ cls := "java/lang/String", name := "isLatin1", desc := "()Z" } : MethodName)) ∈ tc_gw := tc_gm 769 (by decide +kernel) (by decide +kernel)
theorem tc_w770 : (Cond.code ({ cls := "java/lang/String", name := "isLatin1", desc := "()Z" } : MethodName) prog_12_method_154_code (1 : Nat) (Option.some FieldType.boolean)) ∈ tc_gw := tc_gm 770 (by decide +kernel) (by decide +kernel)
theorem tc_w772 : (Cond.static ({ cls := "java/lang/StringLatin1", name := "charAt", desc := "([BI)C" } : MethodName)) ∈ tc_gw := tc_gm 772 (by decide +kernel) (by decide +kernel)
theorem tc_w773 : (Cond.code ({ cls := "java/lang/StringLatin1", name := "charAt", desc := "([BI)C" } : MethodName) prog_13_method_2_code (2 : Nat) (Option.some FieldType.char)) ∈ tc_gw := tc_gm 773 (by decide +kernel) (by decide +kernel)
theorem tc_w775 : (Cond.static ({ cls := "java/lang/String", name := "checkIndex", desc := "(II)V" } : MethodName)) ∈ tc_gw := tc_gm 775 (by decide +kernel) (by decide +kernel)
theorem tc_w776 : (Cond.code ({ cls := "java/lang/String", name := "checkIndex", desc := "(II)V" } : MethodName) prog_12_method_155_code (2 : Nat) (Option.none : Option FieldType)) ∈ tc_gw := tc_gm 776 (by decide +kernel) (by decide +kernel)
theorem tc_w780 : (Cond.static ({ cls := "jdk/internal/util/Preconditions", name := "checkIndex", desc := "(IILjava/util/function/BiFunction;)I" } : MethodName)) ∈ tc_gw := tc_gm 780 (by decide +kernel) (by decide +kernel)
theorem tc_w781 : (Cond.code ({ cls := "jdk/internal/util/Preconditions", name := "checkIndex", desc := "(IILjava/util/function/BiFunction;)I" } : MethodName) prog_16_method_11_code (3 : Nat) (Option.some FieldType.int)) ∈ tc_gw := tc_gm 781 (by decide +kernel) (by decide +kernel)
theorem tc_w761 : (Cond.fieldLink "java/lang/String" (38 : Nat) "java/lang/String" "COMPACT_STRINGS" "Z") ∈ tc_gw := tc_gm 761 (by decide +kernel) (by decide +kernel)
theorem tc_w1326 : (Cond.fieldLink "java/lang/String" (9 : Nat) "java/lang/String" "value" "[B") ∈ tc_gw := tc_gm 1326 (by decide +kernel) (by decide +kernel)
theorem tc_w1327 : (Cond.fieldLink "java/lang/String" (15 : Nat) "java/lang/String" "coder" "B") ∈ tc_gw := tc_gm 1327 (by decide +kernel) (by decide +kernel)
theorem tc_w777 : (Cond.fieldLink "java/lang/String" (1053 : Nat) "jdk/internal/util/Preconditions" "SIOOBE_FORMATTER" "Ljava/util/function/BiFunction;") ∈ tc_gw := tc_gm 777 (by decide +kernel) (by decide +kernel)
def tc_j_coder : tc_MI := (⟨"java/lang/String", "coder", "()B"⟩, prog_12_method_152_code, 1, (some .byte), { frames := 0, cells := 0, slots := 0, locals := 0 })
theorem tc_okj_coder : tc_OkV tc_j_coder 0 := ⟨⟨tc_w760, tc_w68, ⟨by decide, by decide, by decide +kernel⟩, rfl, rfl⟩, tc_w758, tc_w759⟩
def tc_j_latin : tc_MI := (⟨"java/lang/String", "isLatin1", "()Z"⟩, prog_12_method_154_code, 1, (some .boolean), { frames := 0, cells := 0, slots := 0, locals := 0 })
theorem tc_okj_latin : tc_OkV tc_j_latin 0 := ⟨⟨tc_w770, tc_w68, ⟨by decide, by decide, by decide +kernel⟩, rfl, rfl⟩, tc_w768, tc_w769⟩
def tc_j_pck : tc_MI := (⟨"jdk/internal/util/Preconditions", "checkIndex", "(IILjava/util/function/BiFunction;)I"⟩, prog_16_method_11_code, 3, (some .int), { frames := 0, cells := 0, slots := 0, locals := 0 })
theorem tc_okj_pck : tc_OkS tc_j_pck 3 := ⟨⟨tc_w781, tc_w70, ⟨by decide, by decide, by decide +kernel⟩, rfl, rfl⟩, tc_w780⟩
def tc_j_sck : tc_MI := (⟨"java/lang/String", "checkIndex", "(II)V"⟩, prog_12_method_155_code, 2, none, { frames := 1, cells := 0, slots := 0, locals := 22 })
theorem tc_okj_sck : tc_OkS tc_j_sck 2 := ⟨⟨tc_w776, tc_w68, ⟨by decide, by decide, by decide +kernel⟩, rfl, rfl⟩, tc_w775⟩
def tc_j_l1c : tc_MI := (⟨"java/lang/StringLatin1", "charAt", "([BI)C"⟩, prog_13_method_2_code, 2, (some .char), { frames := 2, cells := 0, slots := 0, locals := 43 })
theorem tc_okj_l1c : tc_OkS tc_j_l1c 2 := ⟨⟨tc_w773, tc_w69, ⟨by decide, by decide, by decide +kernel⟩, rfl, rfl⟩, tc_w772⟩
def tc_j_len : tc_MI := (⟨"java/lang/String", "length", "()I"⟩, prog_12_method_54_code, 1, (some .int), { frames := 1, cells := 0, slots := 0, locals := 20 })
theorem tc_okj_len : tc_OkV tc_j_len 0 := ⟨⟨tc_w756, tc_w68, ⟨by decide, by decide, by decide +kernel⟩, rfl, rfl⟩, tc_w754, tc_w755⟩
def tc_j_chr : tc_MI := (⟨"java/lang/String", "charAt", "(I)C"⟩, prog_12_method_56_code, 2, (some .char), { frames := 3, cells := 0, slots := 0, locals := 64 })
theorem tc_okj_chr : tc_OkV tc_j_chr 1 := ⟨⟨tc_w766, tc_w68, ⟨by decide, by decide, by decide +kernel⟩, rfl, rfl⟩, tc_w764, tc_w765⟩
theorem tc_dj_len_0 : decode tc_j_len.2.1 0 = .ok (.aload_n 0, 1) := by decide +kernel
theorem tc_dj_len_1 : decode tc_j_len.2.1 1 = .ok (.getfield 9, 3) := by decide +kernel
theorem tc_dj_len_4 : decode tc_j_len.2.1 4 = .ok (.arraylength, 1) := by decide +kernel
theorem tc_dj_len_5 : decode tc_j_len.2.1 5 = .ok (.aload_n 0, 1) := by decide +kernel
theorem tc_dj_len_6 : decode tc_j_len.2.1 6 = .ok (.invokevirtual 335, 3) := by decide +kernel
theorem tc_dj_len_9 : decode tc_j_len.2.1 9 = .ok (.ishr, 1) := by decide +kernel
theorem tc_dj_len_10 : decode tc_j_len.2.1 10 = .ok (.ireturn, 1) := by decide +kernel
theorem tc_dj_chr_0 : decode tc_j_chr.2.1 0 = .ok (.aload_n 0, 1) := by decide +kernel
theorem tc_dj_chr_1 : decode tc_j_chr.2.1 1 = .ok (.invokevirtual 492, 3) := by decide +kernel
theorem tc_dj_chr_4 : decode tc_j_chr.2.1 4 = .ok (.ifCond .eq 12, 3) := by decide +kernel
theorem tc_dj_chr_7 : decode tc_j_chr.2.1 7 = .ok (.aload_n 0, 1) := by decide +kernel
theorem tc_dj_chr_8 : decode tc_j_chr.2.1 8 = .ok (.getfield 9, 3) := by decide +kernel
theorem tc_dj_chr_11 : decode tc_j_chr.2.1 11 = .ok (.iload_n 1, 1) := by decide +kernel
theorem tc_dj_chr_12 : decode tc_j_chr.2.1 12 = .ok (.invokestatic 495, 3) := by decide +kernel
theorem tc_dj_chr_15 : decode tc_j_chr.2.1 15 = .ok (.ireturn, 1) := by decide +kernel
theorem tc_dj_chr_16 : decode tc_j_chr.2.1 16 = .ok (.aload_n 0, 1) := by decide +kernel
theorem tc_dj_chr_17 : decode tc_j_chr.2.1 17 = .ok (.getfield 9, 3) := by decide +kernel
theorem tc_dj_chr_20 : decode tc_j_chr.2.1 20 = .ok (.iload_n 1, 1) := by decide +kernel
theorem tc_dj_chr_21 : decode tc_j_chr.2.1 21 = .ok (.invokestatic 498, 3) := by decide +kernel
theorem tc_dj_chr_24 : decode tc_j_chr.2.1 24 = .ok (.ireturn, 1) := by decide +kernel
theorem tc_dj_coder_0 : decode tc_j_coder.2.1 0 = .ok (.getstatic 38, 3) := by decide +kernel
theorem tc_dj_coder_3 : decode tc_j_coder.2.1 3 = .ok (.ifCond .eq 10, 3) := by decide +kernel
theorem tc_dj_coder_6 : decode tc_j_coder.2.1 6 = .ok (.aload_n 0, 1) := by decide +kernel
theorem tc_dj_coder_7 : decode tc_j_coder.2.1 7 = .ok (.getfield 15, 3) := by decide +kernel
theorem tc_dj_coder_10 : decode tc_j_coder.2.1 10 = .ok (.goto 4, 3) := by decide +kernel
theorem tc_dj_coder_13 : decode tc_j_coder.2.1 13 = .ok (.iconst 1, 1) := by decide +kernel
theorem tc_dj_coder_14 : decode tc_j_coder.2.1 14 = .ok (.ireturn, 1) := by decide +kernel
theorem tc_dj_latin_0 : decode tc_j_latin.2.1 0 = .ok (.getstatic 38, 3) := by decide +kernel
theorem tc_dj_latin_3 : decode tc_j_latin.2.1 3 = .ok (.ifCond .eq 14, 3) := by decide +kernel
theorem tc_dj_latin_6 : decode tc_j_latin.2.1 6 = .ok (.aload_n 0, 1) := by decide +kernel
theorem tc_dj_latin_7 : decode tc_j_latin.2.1 7 = .ok (.getfield 15, 3) := by decide +kernel
theorem tc_dj_latin_10 : decode tc_j_latin.2.1 10 = .ok (.ifCond .ne 7, 3) := by decide +kernel
theorem tc_dj_latin_13 : decode tc_j_latin.2.1 13 = .ok (.iconst 1, 1) := by decide +kernel
theorem tc_dj_latin_14 : decode tc_j_latin.2.1 14 = .ok (.goto 4, 3) := by decide +kernel
theorem tc_dj_latin_17 : decode tc_j_latin.2.1 17 = .ok (.iconst 0, 1) := by decide +kernel
theorem tc_dj_latin_18 : decode tc_j_latin.2.1 18 = .ok (.ireturn, 1) := by decide +kernel
theorem tc_dj_sck_0 : decode tc_j_sck.2.1 0 = .ok (.iload_n 0, 1) := by decide +kernel
theorem tc_dj_sck_1 : decode tc_j_sck.2.1 1 = .ok (.iload_n 1, 1) := by decide +kernel
theorem tc_dj_sck_2 : decode tc_j_sck.2.1 2 = .ok (.getstatic 1053, 3) := by decide +kernel
theorem tc_dj_sck_5 : decode tc_j_sck.2.1 5 = .ok (.invokestatic 1059, 3) := by decide +kernel
theorem tc_dj_sck_8 : decode tc_j_sck.2.1 8 = .ok (.pop, 1) := by decide +kernel
theorem tc_dj_sck_9 : decode tc_j_sck.2.1 9 = .ok (.return_, 1) := by decide +kernel
theorem tc_dj_l1c_0 : decode tc_j_l1c.2.1 0 = .ok (.iload_n 1, 1) := by decide +kernel
theorem tc_dj_l1c_1 : decode tc_j_l1c.2.1 1 = .ok (.aload_n 0, 1) := by decide +kernel
theorem tc_dj_l1c_2 : decode tc_j_l1c.2.1 2 = .ok (.arraylength, 1) := by decide +kernel
theorem tc_dj_l1c_3 : decode tc_j_l1c.2.1 3 = .ok (.invokestatic 9, 3) := by decide +kernel
theorem tc_dj_l1c_6 : decode tc_j_l1c.2.1 6 = .ok (.aload_n 0, 1) := by decide +kernel
theorem tc_dj_l1c_7 : decode tc_j_l1c.2.1 7 = .ok (.iload_n 1, 1) := by decide +kernel
theorem tc_dj_l1c_8 : decode tc_j_l1c.2.1 8 = .ok (.baload, 1) := by decide +kernel
theorem tc_dj_l1c_9 : decode tc_j_l1c.2.1 9 = .ok (.sipush 255, 3) := by decide +kernel
theorem tc_dj_l1c_12 : decode tc_j_l1c.2.1 12 = .ok (.iand, 1) := by decide +kernel
theorem tc_dj_l1c_13 : decode tc_j_l1c.2.1 13 = .ok (.i2c, 1) := by decide +kernel
theorem tc_dj_l1c_14 : decode tc_j_l1c.2.1 14 = .ok (.ireturn, 1) := by decide +kernel
theorem tc_dj_pck_0 : decode tc_j_pck.2.1 0 = .ok (.iload_n 0, 1) := by decide +kernel
theorem tc_dj_pck_1 : decode tc_j_pck.2.1 1 = .ok (.ifCond .lt 8, 3) := by decide +kernel
theorem tc_dj_pck_4 : decode tc_j_pck.2.1 4 = .ok (.iload_n 0, 1) := by decide +kernel
theorem tc_dj_pck_5 : decode tc_j_pck.2.1 5 = .ok (.iload_n 1, 1) := by decide +kernel
theorem tc_dj_pck_6 : decode tc_j_pck.2.1 6 = .ok (.if_icmp .lt 10, 3) := by decide +kernel
theorem tc_dj_pck_9 : decode tc_j_pck.2.1 9 = .ok (.aload_n 2, 1) := by decide +kernel
theorem tc_dj_pck_10 : decode tc_j_pck.2.1 10 = .ok (.iload_n 0, 1) := by decide +kernel
theorem tc_dj_pck_11 : decode tc_j_pck.2.1 11 = .ok (.iload_n 1, 1) := by decide +kernel
theorem tc_dj_pck_12 : decode tc_j_pck.2.1 12 = .ok (.invokestatic 95, 3) := by decide +kernel
theorem tc_dj_pck_15 : decode tc_j_pck.2.1 15 = .ok (.athrow, 1) := by decide +kernel
theorem tc_dj_pck_16 : decode tc_j_pck.2.1 16 = .ok (.iload_n 0, 1) := by decide +kernel
theorem tc_dj_pck_17 : decode tc_j_pck.2.1 17 = .ok (.ireturn, 1) := by decide +kernel

def tc_slen (k : Nat) : Int32 := Int32.ofNat (tc_txL.getD k 0)
def tc_sch (k j : Nat) : Int32 := (tc_txB.getD k []).getD j 0
theorem tc_txt_ok : ∀ k, k < 8 → tc_txL.getD k 0 < 8 ∧ ∀ j, j < tc_txL.getD k 0 → (((tc_sch k j &&& 255).toUInt32 % 65536).toInt32 = tc_sch k j ∧ narrow .char (.int (tc_sch k j)) = .int (tc_sch k j)) := by decide +kernel
section STRS
variable {l : Launch} {G : tc_G} {y : tc_MI} {ρ : Option Value} {μ' : tc_Mem} {X : tc_X} {pc : Nat} {L : List (Nat × Value)} {st : List Value} {μ : tc_Mem}
theorem tc_nret {v : Int32} {ty : FieldType} (hd : decode y.2.1 pc = .ok (.ireturn, 1)) (hr : y.2.2.2.1 = some ty) (hn : narrow ty (.int v) = .int v) (h : ρ = some (.int v) ∧ μ' = μ) : tc_At l G y ρ μ' X pc L [.int v] μ := by
  obtain ⟨rfl, rfl⟩ := h
  obtain ⟨p, e, s, m, args, below, meth, c⟩ := X
  intro hC H locs ls hP hS hl
  have hlocks : meth.locks = false := hC.2.2.2.2.2.2.1
  exact W.zret hC.1 hC.2.1 (hC.2.2.1.trans hr) hn (fun t ht _ => ⟨rfl, by rw [ht]; exact hP, hS.F ht⟩) hS.2.2 hd
theorem tc_i2c {a v : Int32} (hd : decode y.2.1 pc = .ok (.i2c, 1)) (hv : (a.toUInt32 % 65536).toInt32 = v) (K : tc_At l G y ρ μ' X (pc + 1) L (.int v :: st) μ) : tc_At l G y ρ μ' X pc L (.int a :: st) μ := by
  obtain ⟨p, e, s, m, args, below, meth, c⟩ := X
  intro hC H locs ls hP hS hl
  exact lv_i2c hC.1 hC.2.1 hd hv (K hC H locs ls hP hS hl)
theorem tc_sget {index k : Nat} {n d : String} {v : Value} (hd : decode y.2.1 pc = .ok (.getfield index, 3)) (hw : Cond.fieldLink y.1.cls index "java/lang/String" n d ∈ tc_gw) (hv : ∀ A U H, tc_Stat G A U H → va_OF "java/lang/String" n d v (tc_sK G k) A U H) (K : tc_At l G y ρ μ' X (pc + 3) L (v :: st) μ) : tc_At l G y ρ μ' X pc L (.ref (tc_sK G k) :: st) μ := by
  obtain ⟨p, e, s, m, args, below, meth, c⟩ := X
  intro hC H locs ls hP hS hl
  exact vk_getf hC.1 hC.2.1 (hv _ _ _ hC.2.2.2.2.2.2.2.2.2.1) hS hC.2.2.2.2.1 (hC.2.2.2.2.2.1 _ (List.mem_cons_of_mem _ hw)) (fun _ h => h) hd (K hC H locs ls hP hS hl)
theorem tc_gets1 {index : Nat} {C n d : String} {v : Value} (hd : decode y.2.1 pc = .ok (.getstatic index, 3)) (hlk : Cond.fieldLink y.1.cls index C n d ∈ tc_gw) (hT : ∀ A U H, tc_Stat G A U H → va_Z C n d v A U H) (K : tc_At l G y ρ μ' X (pc + 3) L (v :: st) μ) : tc_At l G y ρ μ' X pc L st μ := by
  obtain ⟨p, e, s, m, args, below, meth, c⟩ := X
  intro hC H locs ls hP hS hl
  exact va_gets hC.1 hC.2.1 (hT _ _ _ hC.2.2.2.2.2.2.2.2.2.1) hS hC.2.2.2.2.1 (hC.2.2.2.2.2.1 _ (List.mem_cons_of_mem _ hlk)) (fun _ h => h) hd (K hC H locs ls hP hS hl)
/-- a static of which nobody asks what it holds -/
theorem tc_getsQ {index : Nat} {C n d : String} (hd : decode y.2.1 pc = .ok (.getstatic index, 3)) (hlk : Cond.fieldLink y.1.cls index C n d ∈ tc_gw) (hT : ∀ A U H, tc_Stat G A U H → va_Zq C n d A U H) (K : ∀ v : Value, v.category = 1 → tc_At l G y ρ μ' X (pc + 3) L (v :: st) μ) : tc_At l G y ρ μ' X pc L st μ := by
  obtain ⟨p, e, s, m, args, below, meth, c⟩ := X
  intro hC H locs ls hP hS hl
  rcases hT _ _ _ hC.2.2.2.2.2.2.2.2.2.1 with h | ⟨t, h⟩
  · exact va_gets hC.1 hC.2.1 h hS hC.2.2.2.2.1 (hC.2.2.2.2.2.1 _ (List.mem_cons_of_mem _ hlk)) (fun _ h => h) hd (K _ rfl hC H locs ls hP hS hl)
  · exact va_gets hC.1 hC.2.1 h hS hC.2.2.2.2.1 (hC.2.2.2.2.2.1 _ (List.mem_cons_of_mem _ hlk)) (fun _ h => h) hd (K _ rfl hC H locs ls hP hS hl)
theorem tc_svlen {k : Nat} {v : Int32} (hd : decode y.2.1 pc = .ok (.arraylength, 1)) (hk : k < 8) (hv : Int32.ofNat (tc_txL.getD k 0) = v) (K : tc_At l G y ρ μ' X (pc + 1) L (.int v :: st) μ) : tc_At l G y ρ μ' X pc L (.ref (tc_sV G k) :: st) μ := by
  obtain ⟨p, e, s, m, args, below, meth, c⟩ := X
  intro hC H locs ls hP hS hl
  exact va_tlen hC.1 hC.2.1 (hC.2.2.2.2.2.2.2.2.2.1.2.2.2.1.1 k hk).2.2.2 hS hv hd (K hC H locs ls hP hS hl)
theorem tc_svld {k : Nat} {i : Int32} (hd : decode y.2.1 pc = .ok (.baload, 1)) (hk : k < 8) (hi : vp_in i (tc_txL.getD k 0)) (K : tc_At l G y ρ μ' X (pc + 1) L (.int (tc_sch k i.toNatClampNeg) :: st) μ) : tc_At l G y ρ μ' X pc L (.int i :: .ref (tc_sV G k) :: st) μ := by
  obtain ⟨p, e, s, m, args, below, meth, c⟩ := X
  intro hC H locs ls hP hS hl
  exact va_tb hC.1 hC.2.1 (hC.2.2.2.2.2.2.2.2.2.1.2.2.2.1.1 k hk).2.2.2 hS hi rfl hd (K hC H locs ls hP hS hl)
theorem tc_callT {z : tc_MI} {index n k : Nat} {As rest : List Value} {ρ1 : Option Value} {μ1 : tc_Mem} {st0 : List Value}
    (hd : decode y.2.1 pc = .ok (.invokevirtual index, 3)) (hz : tc_OkV z n) (hlk : Cond.methodLink y.1.cls index z.1 ∈ tc_gw) (hR : tc_Rm y z) (hk : k < 8) (hc : z.1.cls = "java/lang/String")
    (hcon : tc_Con l G z (.ref (tc_sK G k) :: As) μ ρ1 μ1) (hn : As.length = n) (hst : st0 = As.reverse ++ .ref (tc_sK G k) :: rest) (hrest : (rest.map fun v => v.category).sum ≤ 8) (K : tc_At l G y ρ μ' X (pc + 3) L (ρ1.toList ++ rest) μ1) : tc_At l G y ρ μ' X pc L st0 μ := by
  subst hst
  obtain ⟨p, e, s, m, args, below, meth, c⟩ := X
  intro hC H locs ls hP hS hl
  obtain ⟨hx, hb, hr, hml, hown, hts, hlk0, hSt⟩ := id hC
  obtain ⟨⟨z1, z2, z3, z4, z5⟩, z6, z7⟩ := hz
  have hg : ∀ w, w ∈ tc_gw → w.before args s = true := fun w h => hts w (List.mem_cons_of_mem _ h)
  have hcw : CallW y.2.2.2.2 s args y.1.cls z.1.cls index z.1 z.2.1 z.2.2.1 z.2.2.2.1 (tc_ws z) z.2.2.2.2 0 0 n := ⟨callB_of n hts (tc_goodIn z1) rfl z4 z5 (hg _ z2) (hg _ hlk) z3 hR, hg _ z6, hg _ z7⟩
  exact tc_go (va_runV (As := As) (rest := rest) (b := tc_sK G k) ⟨hx, hb, hml, hown, hts⟩ (hcon H.size) hcw ⟨tc_blind, by rw [hc]; exact vk_recv hSt.2.2.1.2.2.2.1 hk hS, fun U hU hW => ⟨rfl, by rw [hU], by rw [hU]; exact hP, hSt.enter hS hU hW⟩⟩ rfl hn hl.1 rfl (lv_room hrest) hd ⟨Nat.zero_le _, Nat.zero_le _⟩) hS (fun H1 locs1 hP1 hS1 => K hC H1 locs1 ls hP1 hS1 hl)
theorem tc_zCS (A : Nat → Prop) (U : State) (H : Heap) (h : tc_Stat G A U H) : va_Z "java/lang/String" "COMPACT_STRINGS" "Z" (.int 1) A U H := h.2.2.2.2.1
theorem tc_zQ (A : Nat → Prop) (U : State) (H : Heap) (h : tc_Stat G A U H) : va_Zq "jdk/internal/util/Preconditions" "SIOOBE_FORMATTER" "Ljava/util/function/BiFunction;" A U H := h.2.2.2.2.2
theorem tc_oC {k : Nat} (hk : k < 8) (A : Nat → Prop) (U : State) (H : Heap) (h : tc_Stat G A U H) : va_OF "java/lang/String" "coder" "B" (.int 0) (tc_sK G k) A U H := (h.2.2.2.1.1 k hk).2.1
theorem tc_oV {k : Nat} (hk : k < 8) (A : Nat → Prop) (U : State) (H : Heap) (h : tc_Stat G A U H) : va_OF "java/lang/String" "value" "[B" (.ref (tc_sV G k)) (tc_sK G k) A U H := (h.2.2.2.1.1 k hk).2.2.1
theorem tc_cj_coder {k : Nat} (hk : k < 8) : tc_Con l G tc_j_coder [.ref (tc_sK G k)] μ (some (.int 0)) μ :=
  tc_Con.of (L := [(0, .ref (tc_sK G k))]) (by decide) (Nat.le_of_ble_eq_true rfl) rfl (fun X => by
    refine tc_gets1 tc_dj_coder_0 tc_w761 tc_zCS ?_
    refine tc_if_eq (tgt := 13) (A := none) (B := some (0 : Int32)) (z := 0) tc_dj_coder_3 (by decide) rfl (fun h => by cases h) (fun _ => ?_)
    refine tc_aload_n tc_dj_coder_6 0 rfl ?_
    refine tc_sget tc_dj_coder_7 tc_w1327 (tc_oC hk) ?_
    refine tc_goto (tgt := 14) tc_dj_coder_10 (by decide) ?_
    exact tc_nret tc_dj_coder_14 rfl (by decide) ⟨rfl, rfl⟩)
theorem tc_cj_latin {k : Nat} (hk : k < 8) : tc_Con l G tc_j_latin [.ref (tc_sK G k)] μ (some (.int 1)) μ :=
  tc_Con.of (L := [(0, .ref (tc_sK G k))]) (by decide) (Nat.le_of_ble_eq_true rfl) rfl (fun X => by
    refine tc_gets1 tc_dj_latin_0 tc_w761 tc_zCS ?_
    refine tc_if_eq (tgt := 17) (A := none) (B := some (0 : Int32)) (z := 0) tc_dj_latin_3 (by decide) rfl (fun h => by cases h) (fun _ => ?_)
    refine tc_aload_n tc_dj_latin_6 0 rfl ?_
    refine tc_sget tc_dj_latin_7 tc_w1327 (tc_oC hk) ?_
    refine tc_if_ne (tgt := 17) (A := none) (B := some (0 : Int32)) (z := 0) tc_dj_latin_10 (by decide) rfl (fun h => by cases h) (fun _ => ?_)
    refine tc_iconst (v := 1) tc_dj_latin_13 (by decide) ?_
    refine tc_goto (tgt := 18) tc_dj_latin_14 (by decide) ?_
    exact tc_zret tc_dj_latin_18 rfl (by decide) ⟨rfl, rfl⟩)
theorem tc_cj_pck {i n : Int32} {q : Value} (hq : q.category = 1) (h0 : ¬ i < 0) (h1 : i < n) : tc_Con l G tc_j_pck [.int i, .int n, q] μ (some (.int i)) μ :=
  tc_Con.of (L := [(0, .int i), (1, .int n), (2, q)]) (by decide) (by cases q <;> simp_all [lg_sl, Value.category, tc_j_pck]) (by simp [lv_args, Value.category]) (fun X => by
    refine tc_iload_n tc_dj_pck_0 0 rfl ?_
    refine tc_if_lt (tgt := 9) (A := none) (B := some (0 : Int32)) (z := 0) tc_dj_pck_1 (by decide) (if_neg h0) (fun h => by cases h) (fun _ => ?_)
    refine tc_iload_n tc_dj_pck_4 0 rfl ?_
    refine tc_iload_n tc_dj_pck_5 1 rfl ?_
    refine tc_icmp_lt (tgt := 16) (A := some (0 : Int32)) (B := none) (z := 0) tc_dj_pck_6 (by decide) (if_pos h1) (fun _ => ?_) (fun h => by cases h)
    refine tc_iload_n tc_dj_pck_16 0 rfl ?_
    exact tc_iret tc_dj_pck_17 rfl ⟨rfl, rfl⟩)
theorem tc_cj_sck {i n : Int32} (h0 : ¬ i < 0) (h1 : i < n) : tc_Con l G tc_j_sck [.int i, .int n] μ none μ :=
  tc_Con.of (L := [(0, .int i), (1, .int n)]) (by decide) (Nat.le_of_ble_eq_true rfl) rfl (fun X => by
    refine tc_iload_n tc_dj_sck_0 0 rfl ?_
    refine tc_iload_n tc_dj_sck_1 1 rfl ?_
    refine tc_getsQ tc_dj_sck_2 tc_w777 tc_zQ (fun v hv => ?_)
    refine tc_callSi (As := [.int i, .int n, v]) (rest := []) (r1 := i) (μ1 := μ) tc_dj_sck_5 tc_okj_pck tc_w779 ⟨Nat.le_of_ble_eq_true rfl, Nat.le_of_ble_eq_true rfl⟩ (tc_cj_pck hv h0 h1) rfl rfl (Nat.le_of_ble_eq_true rfl) ?_
    refine tc_pop tc_dj_sck_8 rfl ?_
    exact tc_vret tc_dj_sck_9 rfl ⟨rfl, rfl⟩)
theorem tc_txin {k : Nat} {i : Int32} (hk : k < 8) (hi : vp_in i (tc_txL.getD k 0)) : ¬ i < 0 ∧ i < Int32.ofNat (tc_txL.getD k 0) ∧ i.toNatClampNeg < tc_txL.getD k 0 := by
  have hL := (tc_txt_ok k hk).1
  obtain ⟨j, hj, rfl⟩ := vp_in_of hi (by omega)
  refine ⟨nI_pos (by omega), nI_lt hj (by omega), ?_⟩
  rw [nI_clamp (by omega)]; exact hj
theorem tc_cj_l1c {k : Nat} {i : Int32} (hk : k < 8) (hi : vp_in i (tc_txL.getD k 0)) : tc_Con l G tc_j_l1c [.ref (tc_sV G k), .int i] μ (some (.int (tc_sch k i.toNatClampNeg))) μ :=
  tc_Con.of (L := [(0, .ref (tc_sV G k)), (1, .int i)]) (by decide) (Nat.le_of_ble_eq_true rfl) rfl (fun X => by
    obtain ⟨h0, h1, h2⟩ := tc_txin hk hi
    have h3 := (tc_txt_ok k hk).2 _ h2
    refine tc_iload_n tc_dj_l1c_0 1 rfl ?_
    refine tc_aload_n tc_dj_l1c_1 0 rfl ?_
    refine tc_svlen tc_dj_l1c_2 hk rfl ?_
    refine tc_callS (As := [.int i, .int (Int32.ofNat (tc_txL.getD k 0))]) (rest := []) (ρ1 := none) (μ1 := μ) tc_dj_l1c_3 tc_okj_sck tc_w774 ⟨Nat.le_of_ble_eq_true rfl, Nat.le_of_ble_eq_true rfl⟩ (tc_cj_sck h0 h1) rfl rfl (Nat.le_of_ble_eq_true rfl) ?_
    refine tc_aload_n tc_dj_l1c_6 0 rfl ?_
    refine tc_iload_n tc_dj_l1c_7 1 rfl ?_
    refine tc_svld tc_dj_l1c_8 hk hi ?_
    refine tc_sipush (v := 255) tc_dj_l1c_9 (by decide) ?_
    refine tc_iand tc_dj_l1c_12 ?_
    refine tc_i2c tc_dj_l1c_13 h3.1 ?_
    exact tc_nret tc_dj_l1c_14 rfl h3.2 ⟨rfl, rfl⟩)
theorem tc_cj_len {k : Nat} (hk : k < 8) : tc_Con l G tc_j_len [.ref (tc_sK G k)] μ (some (.int (tc_slen k))) μ :=
  tc_Con.of (L := [(0, .ref (tc_sK G k))]) (by decide) (Nat.le_of_ble_eq_true rfl) rfl (fun X => by
    refine tc_aload_n tc_dj_len_0 0 rfl ?_
    refine tc_sget tc_dj_len_1 tc_w1326 (tc_oV hk) ?_
    refine tc_svlen tc_dj_len_4 hk rfl ?_
    refine tc_aload_n tc_dj_len_5 0 rfl ?_
    refine tc_callT (As := []) (rest := [.int (Int32.ofNat (tc_txL.getD k 0))]) (ρ1 := some (.int 0)) (μ1 := μ) tc_dj_len_6 tc_okj_coder tc_w757 ⟨Nat.le_of_ble_eq_true rfl, Nat.le_of_ble_eq_true rfl⟩ hk rfl (tc_cj_coder hk) rfl rfl (Nat.le_of_ble_eq_true rfl) ?_
    refine tc_ishr (a := Int32.ofNat (tc_txL.getD k 0)) (b := 0) tc_dj_len_9 ?_
    have e : Int32.ofNat (tc_txL.getD k 0) >>> ((0 : Int32) &&& 31) = tc_slen k := (by decide +kernel : ∀ k, k < 8 → Int32.ofNat (tc_txL.getD k 0) >>> ((0 : Int32) &&& 31) = tc_slen k) k hk
    rw [e]
    exact tc_iret tc_dj_len_10 rfl ⟨rfl, rfl⟩)
theorem tc_cj_chr {k : Nat} {i : Int32} (hk : k < 8) (hi : vp_in i (tc_txL.getD k 0)) : tc_Con l G tc_j_chr [.ref (tc_sK G k), .int i] μ (some (.int (tc_sch k i.toNatClampNeg))) μ :=
  tc_Con.of (L := [(0, .ref (tc_sK G k)), (1, .int i)]) (by decide) (Nat.le_of_ble_eq_true rfl) rfl (fun X => by
    have h3 := (tc_txt_ok k hk).2 _ (tc_txin hk hi).2.2
    refine tc_aload_n tc_dj_chr_0 0 rfl ?_
    refine tc_callT (As := []) (rest := []) (ρ1 := some (.int 1)) (μ1 := μ) tc_dj_chr_1 tc_okj_latin tc_w767 ⟨Nat.le_of_ble_eq_true rfl, Nat.le_of_ble_eq_true rfl⟩ hk rfl (tc_cj_latin hk) rfl rfl (Nat.le_of_ble_eq_true rfl) ?_
    refine tc_if_eq (x := 1) (tgt := 16) (A := none) (B := some (0 : Int32)) (z := 0) tc_dj_chr_4 (by decide) rfl (fun h => by cases h) (fun _ => ?_)
    refine tc_aload_n tc_dj_chr_7 0 rfl ?_
    refine tc_sget tc_dj_chr_8 tc_w1326 (tc_oV hk) ?_
    refine tc_iload_n tc_dj_chr_11 1 rfl ?_
    refine tc_callSi (As := [.ref (tc_sV G k), .int i]) (rest := []) (r1 := tc_sch k i.toNatClampNeg) (μ1 := μ) tc_dj_chr_12 tc_okj_l1c tc_w771 ⟨Nat.le_of_ble_eq_true rfl, Nat.le_of_ble_eq_true rfl⟩ (tc_cj_l1c hk hi) rfl rfl (Nat.le_of_ble_eq_true rfl) ?_
    exact tc_nret tc_dj_chr_15 rfl h3.2 ⟨rfl, rfl⟩)
theorem tc_callL {index k : Nat} {rest st0 : List Value} (hd : decode y.2.1 pc = .ok (.invokevirtual index, 3)) (hlk : Cond.methodLink y.1.cls index ⟨"java/lang/String", "length", "()I"⟩ ∈ tc_gw) (hrest : (rest.map fun v => v.category).sum ≤ 8) (hk : k < 8) (hst : st0 = .ref (tc_sK G k) :: rest) (hR : tc_Rm y tc_j_len) (K : tc_At l G y ρ μ' X (pc + 3) L (.int (tc_slen k) :: rest) μ) : tc_At l G y ρ μ' X pc L st0 μ := by
  subst hst
  exact tc_callT (z := tc_j_len) (As := []) (rest := rest) (ρ1 := some (.int (tc_slen k))) (μ1 := μ) hd tc_okj_len hlk hR hk rfl (tc_cj_len hk) rfl rfl hrest K
theorem tc_callC {index k : Nat} {i : Int32} {rest st0 : List Value} (hd : decode y.2.1 pc = .ok (.invokevirtual index, 3)) (hlk : Cond.methodLink y.1.cls index ⟨"java/lang/String", "charAt", "(I)C"⟩ ∈ tc_gw) (hrest : (rest.map fun v => v.category).sum ≤ 8) (hk : k < 8) (hi : vp_in i (tc_txL.getD k 0)) (hst : st0 = .int i :: .ref (tc_sK G k) :: rest) (hR : tc_Rm y tc_j_chr) (K : tc_At l G y ρ μ' X (pc + 3) L (.int (tc_sch k i.toNatClampNeg) :: rest) μ) : tc_At l G y ρ μ' X pc L st0 μ := by
  subst hst
  exact tc_callT (z := tc_j_chr) (As := [.int i]) (rest := rest) (ρ1 := some (.int (tc_sch k i.toNatClampNeg))) (μ1 := μ) hd tc_okj_chr hlk hR hk rfl (tc_cj_chr hk hi) rfl rfl hrest K
end STRS
