section
-- ===== PART A: goes FIRST, ahead of the names: the tables' words, and 'selects' of the private methods out of them =====
/-- a private method of a class that the tables say can be made, by its rows of tables_1 -/
def lw_okq (q : MethodName × Nat) : Prop := (q.1.cls ≠ "java/lang/invoke/MethodHandle" ∧ q.1.cls ≠ "java/lang/invoke/VarHandle") ∧ Cond.instantiable q.1.cls q.2 ∈ tables_1 ∧ Cond.privateMethod q.1 ∈ tables_1 ∧ Cond.instanceMethod q.1 ∈ tables_1
theorem lw_p0 : lw_okq (⟨"TrackCircuits$Faults", "bringTo", "(ILTrackCircuits$Faults;I)V"⟩, 4) := ⟨⟨by decide +kernel, by decide +kernel⟩, List.mem_of_getElem? (i := 31) (by decide +kernel), List.mem_of_getElem? (i := 270) (by decide +kernel), List.mem_of_getElem? (i := 271) (by decide +kernel)⟩
theorem lw_p1 : lw_okq (⟨"TrackCircuits$Yard", "shunt", "(I)V"⟩, 13) := ⟨⟨by decide +kernel, by decide +kernel⟩, List.mem_of_getElem? (i := 25) (by decide +kernel), List.mem_of_getElem? (i := 310) (by decide +kernel), List.mem_of_getElem? (i := 311) (by decide +kernel)⟩
theorem lw_p2 : lw_okq (⟨"TrackCircuits$Yard", "all", "()I"⟩, 13) := ⟨⟨by decide +kernel, by decide +kernel⟩, List.mem_of_getElem? (i := 25) (by decide +kernel), List.mem_of_getElem? (i := 354) (by decide +kernel), List.mem_of_getElem? (i := 355) (by decide +kernel)⟩
theorem lw_p3 : lw_okq (⟨"TrackCircuits$Asking", "enterAll", "(IZ)V"⟩, 6) := ⟨⟨by decide +kernel, by decide +kernel⟩, List.mem_of_getElem? (i := 118) (by decide +kernel), List.mem_of_getElem? (i := 396) (by decide +kernel), List.mem_of_getElem? (i := 397) (by decide +kernel)⟩
theorem lw_p4 : lw_okq (⟨"TrackCircuits$Asking", "enter", "(I)V"⟩, 6) := ⟨⟨by decide +kernel, by decide +kernel⟩, List.mem_of_getElem? (i := 118) (by decide +kernel), List.mem_of_getElem? (i := 400) (by decide +kernel), List.mem_of_getElem? (i := 401) (by decide +kernel)⟩
theorem lw_p5 : lw_okq (⟨"TrackCircuits$Asking", "takeFirst", "()I"⟩, 6) := ⟨⟨by decide +kernel, by decide +kernel⟩, List.mem_of_getElem? (i := 118) (by decide +kernel), List.mem_of_getElem? (i := 404) (by decide +kernel), List.mem_of_getElem? (i := 405) (by decide +kernel)⟩
theorem lw_p6 : lw_okq (⟨"TrackCircuits$Yard", "isEnough", "(IZ)Z"⟩, 13) := ⟨⟨by decide +kernel, by decide +kernel⟩, List.mem_of_getElem? (i := 25) (by decide +kernel), List.mem_of_getElem? (i := 416) (by decide +kernel), List.mem_of_getElem? (i := 417) (by decide +kernel)⟩
theorem lw_p7 : lw_okq (⟨"TrackCircuits$Asking", "enterBeside", "(LTrackCircuits$Yard;I)V"⟩, 6) := ⟨⟨by decide +kernel, by decide +kernel⟩, List.mem_of_getElem? (i := 118) (by decide +kernel), List.mem_of_getElem? (i := 422) (by decide +kernel), List.mem_of_getElem? (i := 423) (by decide +kernel)⟩
theorem lw_p8 : lw_okq (⟨"TrackCircuits$Yard", "troubled", "()I"⟩, 13) := ⟨⟨by decide +kernel, by decide +kernel⟩, List.mem_of_getElem? (i := 25) (by decide +kernel), List.mem_of_getElem? (i := 451) (by decide +kernel), List.mem_of_getElem? (i := 452) (by decide +kernel)⟩
theorem lw_p9 : lw_okq (⟨"TrackCircuits$Mind", "settlesWithBreak", "(II)Z"⟩, 3) := ⟨⟨by decide +kernel, by decide +kernel⟩, List.mem_of_getElem? (i := 146) (by decide +kernel), List.mem_of_getElem? (i := 517) (by decide +kernel), List.mem_of_getElem? (i := 518) (by decide +kernel)⟩
theorem lw_p10 : lw_okq (⟨"TrackCircuits$Mind", "isFair", "(II)Z"⟩, 3) := ⟨⟨by decide +kernel, by decide +kernel⟩, List.mem_of_getElem? (i := 146) (by decide +kernel), List.mem_of_getElem? (i := 530) (by decide +kernel), List.mem_of_getElem? (i := 531) (by decide +kernel)⟩
theorem lw_p11 : lw_okq (⟨"TrackCircuits$Mind", "layCaseFault", "(II)V"⟩, 3) := ⟨⟨by decide +kernel, by decide +kernel⟩, List.mem_of_getElem? (i := 146) (by decide +kernel), List.mem_of_getElem? (i := 547) (by decide +kernel), List.mem_of_getElem? (i := 548) (by decide +kernel)⟩
theorem lw_p12 : lw_okq (⟨"TrackCircuits$Mind", "failsWithTrain", "(I)Z"⟩, 3) := ⟨⟨by decide +kernel, by decide +kernel⟩, List.mem_of_getElem? (i := 146) (by decide +kernel), List.mem_of_getElem? (i := 551) (by decide +kernel), List.mem_of_getElem? (i := 552) (by decide +kernel)⟩
theorem lw_p13 : lw_okq (⟨"TrackCircuits$Mind", "troubleWithout", "(I)I"⟩, 3) := ⟨⟨by decide +kernel, by decide +kernel⟩, List.mem_of_getElem? (i := 146) (by decide +kernel), List.mem_of_getElem? (i := 581) (by decide +kernel), List.mem_of_getElem? (i := 582) (by decide +kernel)⟩
theorem lw_p14 : lw_okq (⟨"TrackCircuits$Tape", "readClause", "(I)I"⟩, 6) := ⟨⟨by decide +kernel, by decide +kernel⟩, List.mem_of_getElem? (i := 166) (by decide +kernel), List.mem_of_getElem? (i := 667) (by decide +kernel), List.mem_of_getElem? (i := 668) (by decide +kernel)⟩
theorem lw_p15 : lw_okq (⟨"TrackCircuits$Tape", "skipBlanks", "()V"⟩, 6) := ⟨⟨by decide +kernel, by decide +kernel⟩, List.mem_of_getElem? (i := 166) (by decide +kernel), List.mem_of_getElem? (i := 671) (by decide +kernel), List.mem_of_getElem? (i := 672) (by decide +kernel)⟩
def lw_privs_1 : List (MethodName × Nat) := [(⟨"TrackCircuits$Faults", "bringTo", "(ILTrackCircuits$Faults;I)V"⟩, 4), (⟨"TrackCircuits$Yard", "shunt", "(I)V"⟩, 13), (⟨"TrackCircuits$Yard", "all", "()I"⟩, 13), (⟨"TrackCircuits$Asking", "enterAll", "(IZ)V"⟩, 6), (⟨"TrackCircuits$Asking", "enter", "(I)V"⟩, 6), (⟨"TrackCircuits$Asking", "takeFirst", "()I"⟩, 6), (⟨"TrackCircuits$Yard", "isEnough", "(IZ)Z"⟩, 13), (⟨"TrackCircuits$Asking", "enterBeside", "(LTrackCircuits$Yard;I)V"⟩, 6), (⟨"TrackCircuits$Yard", "troubled", "()I"⟩, 13), (⟨"TrackCircuits$Mind", "settlesWithBreak", "(II)Z"⟩, 3), (⟨"TrackCircuits$Mind", "isFair", "(II)Z"⟩, 3), (⟨"TrackCircuits$Mind", "layCaseFault", "(II)V"⟩, 3), (⟨"TrackCircuits$Mind", "failsWithTrain", "(I)Z"⟩, 3), (⟨"TrackCircuits$Mind", "troubleWithout", "(I)I"⟩, 3), (⟨"TrackCircuits$Tape", "readClause", "(I)I"⟩, 6), (⟨"TrackCircuits$Tape", "skipBlanks", "()V"⟩, 6)]
theorem lw_r1 : ∀ q ∈ lw_privs_1, lw_okq q := List.forall_mem_cons.mpr ⟨lw_p0, List.forall_mem_cons.mpr ⟨lw_p1, List.forall_mem_cons.mpr ⟨lw_p2, List.forall_mem_cons.mpr ⟨lw_p3, List.forall_mem_cons.mpr ⟨lw_p4, List.forall_mem_cons.mpr ⟨lw_p5, List.forall_mem_cons.mpr ⟨lw_p6, List.forall_mem_cons.mpr ⟨lw_p7, List.forall_mem_cons.mpr ⟨lw_p8, List.forall_mem_cons.mpr ⟨lw_p9, List.forall_mem_cons.mpr ⟨lw_p10, List.forall_mem_cons.mpr ⟨lw_p11, List.forall_mem_cons.mpr ⟨lw_p12, List.forall_mem_cons.mpr ⟨lw_p13, List.forall_mem_cons.mpr ⟨lw_p14, List.forall_mem_cons.mpr ⟨lw_p15, fun _ h => absurd h List.not_mem_nil⟩⟩⟩⟩⟩⟩⟩⟩⟩⟩⟩⟩⟩⟩⟩⟩
theorem lw_p16 : lw_okq (⟨"TrackCircuits$Tape", "skipAll", "(II)V"⟩, 6) := ⟨⟨by decide +kernel, by decide +kernel⟩, List.mem_of_getElem? (i := 166) (by decide +kernel), List.mem_of_getElem? (i := 675) (by decide +kernel), List.mem_of_getElem? (i := 676) (by decide +kernel)⟩
theorem lw_p17 : lw_okq (⟨"TrackCircuits$Tape", "wordFrom", "(I)I"⟩, 6) := ⟨⟨by decide +kernel, by decide +kernel⟩, List.mem_of_getElem? (i := 166) (by decide +kernel), List.mem_of_getElem? (i := 679) (by decide +kernel), List.mem_of_getElem? (i := 680) (by decide +kernel)⟩
theorem lw_p18 : lw_okq (⟨"TrackCircuits$Tape", "isSpelt", "(Ljava/lang/String;I)Z"⟩, 6) := ⟨⟨by decide +kernel, by decide +kernel⟩, List.mem_of_getElem? (i := 166) (by decide +kernel), List.mem_of_getElem? (i := 694) (by decide +kernel), List.mem_of_getElem? (i := 695) (by decide +kernel)⟩
theorem lw_p19 : lw_okq (⟨"TrackCircuits$Tape", "numberFrom", "(I)I"⟩, 6) := ⟨⟨by decide +kernel, by decide +kernel⟩, List.mem_of_getElem? (i := 166) (by decide +kernel), List.mem_of_getElem? (i := 748) (by decide +kernel), List.mem_of_getElem? (i := 749) (by decide +kernel)⟩
theorem lw_p20 : lw_okq (⟨"TrackCircuits", "answerOfClause", "(I)I"⟩, 9) := ⟨⟨by decide +kernel, by decide +kernel⟩, List.mem_of_getElem? (i := 17) (by decide +kernel), List.mem_of_getElem? (i := 752) (by decide +kernel), List.mem_of_getElem? (i := 753) (by decide +kernel)⟩
theorem lw_p21 : lw_okq (⟨"TrackCircuitsModel", "mends", "(I)I"⟩, 39) := ⟨⟨by decide +kernel, by decide +kernel⟩, List.mem_of_getElem? (i := 817) (by decide +kernel), List.mem_of_getElem? (i := 953) (by decide +kernel), List.mem_of_getElem? (i := 954) (by decide +kernel)⟩
theorem lw_p22 : lw_okq (⟨"TrackCircuitsModel", "isSection", "(I)Z"⟩, 39) := ⟨⟨by decide +kernel, by decide +kernel⟩, List.mem_of_getElem? (i := 817) (by decide +kernel), List.mem_of_getElem? (i := 961) (by decide +kernel), List.mem_of_getElem? (i := 962) (by decide +kernel)⟩
theorem lw_p23 : lw_okq (⟨"TrackCircuitsModel", "leakOf", "(I)I"⟩, 39) := ⟨⟨by decide +kernel, by decide +kernel⟩, List.mem_of_getElem? (i := 817) (by decide +kernel), List.mem_of_getElem? (i := 969) (by decide +kernel), List.mem_of_getElem? (i := 970) (by decide +kernel)⟩
theorem lw_p24 : lw_okq (⟨"TrackCircuitsModel", "currentOf", "(I)I"⟩, 39) := ⟨⟨by decide +kernel, by decide +kernel⟩, List.mem_of_getElem? (i := 817) (by decide +kernel), List.mem_of_getElem? (i := 973) (by decide +kernel), List.mem_of_getElem? (i := 974) (by decide +kernel)⟩
theorem lw_p25 : lw_okq (⟨"TrackCircuitsModel", "hasFault", "(II)Z"⟩, 39) := ⟨⟨by decide +kernel, by decide +kernel⟩, List.mem_of_getElem? (i := 817) (by decide +kernel), List.mem_of_getElem? (i := 979) (by decide +kernel), List.mem_of_getElem? (i := 980) (by decide +kernel)⟩
theorem lw_p26 : lw_okq (⟨"TrackCircuitsModel", "goTrains", "()V"⟩, 39) := ⟨⟨by decide +kernel, by decide +kernel⟩, List.mem_of_getElem? (i := 817) (by decide +kernel), List.mem_of_getElem? (i := 1002) (by decide +kernel), List.mem_of_getElem? (i := 1003) (by decide +kernel)⟩
theorem lw_p27 : lw_okq (⟨"TrackCircuitsModel", "bitsOf", "(I)I"⟩, 39) := ⟨⟨by decide +kernel, by decide +kernel⟩, List.mem_of_getElem? (i := 817) (by decide +kernel), List.mem_of_getElem? (i := 1006) (by decide +kernel), List.mem_of_getElem? (i := 1007) (by decide +kernel)⟩
theorem lw_p28 : lw_okq (⟨"TrackCircuitsModel", "isTroubled", "(I)Z"⟩, 39) := ⟨⟨by decide +kernel, by decide +kernel⟩, List.mem_of_getElem? (i := 817) (by decide +kernel), List.mem_of_getElem? (i := 1010) (by decide +kernel), List.mem_of_getElem? (i := 1011) (by decide +kernel)⟩
theorem lw_p29 : lw_okq (⟨"TrackCircuitsModel", "addFault", "(II)V"⟩, 39) := ⟨⟨by decide +kernel, by decide +kernel⟩, List.mem_of_getElem? (i := 817) (by decide +kernel), List.mem_of_getElem? (i := 1022) (by decide +kernel), List.mem_of_getElem? (i := 1023) (by decide +kernel)⟩
theorem lw_p30 : lw_okq (⟨"TrackCircuitsModel", "caughtBy", "(II)I"⟩, 39) := ⟨⟨by decide +kernel, by decide +kernel⟩, List.mem_of_getElem? (i := 817) (by decide +kernel), List.mem_of_getElem? (i := 1026) (by decide +kernel), List.mem_of_getElem? (i := 1027) (by decide +kernel)⟩
theorem lw_p31 : lw_okq (⟨"TrackCircuitsModel", "goes", "(Z)I"⟩, 39) := ⟨⟨by decide +kernel, by decide +kernel⟩, List.mem_of_getElem? (i := 817) (by decide +kernel), List.mem_of_getElem? (i := 1042) (by decide +kernel), List.mem_of_getElem? (i := 1043) (by decide +kernel)⟩
def lw_privs_2 : List (MethodName × Nat) := [(⟨"TrackCircuits$Tape", "skipAll", "(II)V"⟩, 6), (⟨"TrackCircuits$Tape", "wordFrom", "(I)I"⟩, 6), (⟨"TrackCircuits$Tape", "isSpelt", "(Ljava/lang/String;I)Z"⟩, 6), (⟨"TrackCircuits$Tape", "numberFrom", "(I)I"⟩, 6), (⟨"TrackCircuits", "answerOfClause", "(I)I"⟩, 9), (⟨"TrackCircuitsModel", "mends", "(I)I"⟩, 39), (⟨"TrackCircuitsModel", "isSection", "(I)Z"⟩, 39), (⟨"TrackCircuitsModel", "leakOf", "(I)I"⟩, 39), (⟨"TrackCircuitsModel", "currentOf", "(I)I"⟩, 39), (⟨"TrackCircuitsModel", "hasFault", "(II)Z"⟩, 39), (⟨"TrackCircuitsModel", "goTrains", "()V"⟩, 39), (⟨"TrackCircuitsModel", "bitsOf", "(I)I"⟩, 39), (⟨"TrackCircuitsModel", "isTroubled", "(I)Z"⟩, 39), (⟨"TrackCircuitsModel", "addFault", "(II)V"⟩, 39), (⟨"TrackCircuitsModel", "caughtBy", "(II)I"⟩, 39), (⟨"TrackCircuitsModel", "goes", "(Z)I"⟩, 39)]
theorem lw_r2 : ∀ q ∈ lw_privs_2, lw_okq q := List.forall_mem_cons.mpr ⟨lw_p16, List.forall_mem_cons.mpr ⟨lw_p17, List.forall_mem_cons.mpr ⟨lw_p18, List.forall_mem_cons.mpr ⟨lw_p19, List.forall_mem_cons.mpr ⟨lw_p20, List.forall_mem_cons.mpr ⟨lw_p21, List.forall_mem_cons.mpr ⟨lw_p22, List.forall_mem_cons.mpr ⟨lw_p23, List.forall_mem_cons.mpr ⟨lw_p24, List.forall_mem_cons.mpr ⟨lw_p25, List.forall_mem_cons.mpr ⟨lw_p26, List.forall_mem_cons.mpr ⟨lw_p27, List.forall_mem_cons.mpr ⟨lw_p28, List.forall_mem_cons.mpr ⟨lw_p29, List.forall_mem_cons.mpr ⟨lw_p30, List.forall_mem_cons.mpr ⟨lw_p31, fun _ h => absurd h List.not_mem_nil⟩⟩⟩⟩⟩⟩⟩⟩⟩⟩⟩⟩⟩⟩⟩⟩
theorem lw_p32 : lw_okq (⟨"TrackCircuitsModel", "comes", "(I)V"⟩, 39) := ⟨⟨by decide +kernel, by decide +kernel⟩, List.mem_of_getElem? (i := 817) (by decide +kernel), List.mem_of_getElem? (i := 1046) (by decide +kernel), List.mem_of_getElem? (i := 1047) (by decide +kernel)⟩
theorem lw_p33 : lw_okq (⟨"TrackCircuitsModel", "goesUp", "(I)Z"⟩, 39) := ⟨⟨by decide +kernel, by decide +kernel⟩, List.mem_of_getElem? (i := 817) (by decide +kernel), List.mem_of_getElem? (i := 1050) (by decide +kernel), List.mem_of_getElem? (i := 1051) (by decide +kernel)⟩
theorem lw_p34 : lw_okq (⟨"TrackCircuitsModel", "goesPlain", "(II)Z"⟩, 39) := ⟨⟨by decide +kernel, by decide +kernel⟩, List.mem_of_getElem? (i := 817) (by decide +kernel), List.mem_of_getElem? (i := 1054) (by decide +kernel), List.mem_of_getElem? (i := 1055) (by decide +kernel)⟩
theorem lw_p35 : lw_okq (⟨"TrackCircuitsModel", "goesSlow", "(II)Z"⟩, 39) := ⟨⟨by decide +kernel, by decide +kernel⟩, List.mem_of_getElem? (i := 817) (by decide +kernel), List.mem_of_getElem? (i := 1058) (by decide +kernel), List.mem_of_getElem? (i := 1059) (by decide +kernel)⟩
theorem lw_p36 : lw_okq (⟨"TrackCircuitsModel", "goesStick", "(II)Z"⟩, 39) := ⟨⟨by decide +kernel, by decide +kernel⟩, List.mem_of_getElem? (i := 817) (by decide +kernel), List.mem_of_getElem? (i := 1062) (by decide +kernel), List.mem_of_getElem? (i := 1063) (by decide +kernel)⟩
theorem lw_p37 : lw_okq (⟨"TrackCircuitsModel", "isUpRight", "(I)Z"⟩, 39) := ⟨⟨by decide +kernel, by decide +kernel⟩, List.mem_of_getElem? (i := 817) (by decide +kernel), List.mem_of_getElem? (i := 1066) (by decide +kernel), List.mem_of_getElem? (i := 1067) (by decide +kernel)⟩
theorem lw_p38 : lw_okq (⟨"TrackCircuitsModel", "isUpLeft", "(I)Z"⟩, 39) := ⟨⟨by decide +kernel, by decide +kernel⟩, List.mem_of_getElem? (i := 817) (by decide +kernel), List.mem_of_getElem? (i := 1070) (by decide +kernel), List.mem_of_getElem? (i := 1071) (by decide +kernel)⟩
theorem lw_p39 : lw_okq (⟨"TrackCircuitsModel", "keepsNow", "()V"⟩, 39) := ⟨⟨by decide +kernel, by decide +kernel⟩, List.mem_of_getElem? (i := 817) (by decide +kernel), List.mem_of_getElem? (i := 1090) (by decide +kernel), List.mem_of_getElem? (i := 1091) (by decide +kernel)⟩
theorem lw_p40 : lw_okq (⟨"TrackCircuitsModel", "laysBack", "()V"⟩, 39) := ⟨⟨by decide +kernel, by decide +kernel⟩, List.mem_of_getElem? (i := 817) (by decide +kernel), List.mem_of_getElem? (i := 1095) (by decide +kernel), List.mem_of_getElem? (i := 1096) (by decide +kernel)⟩
theorem lw_p41 : lw_okq (⟨"TrackCircuitsModel", "broken", "(I)I"⟩, 39) := ⟨⟨by decide +kernel, by decide +kernel⟩, List.mem_of_getElem? (i := 817) (by decide +kernel), List.mem_of_getElem? (i := 1111) (by decide +kernel), List.mem_of_getElem? (i := 1112) (by decide +kernel)⟩
theorem lw_p42 : lw_okq (⟨"TrackCircuitsModel", "isRight", "()Z"⟩, 39) := ⟨⟨by decide +kernel, by decide +kernel⟩, List.mem_of_getElem? (i := 817) (by decide +kernel), List.mem_of_getElem? (i := 1119) (by decide +kernel), List.mem_of_getElem? (i := 1120) (by decide +kernel)⟩
theorem lw_p43 : lw_okq (⟨"TrackCircuitsModel", "isUnseen", "()Z"⟩, 39) := ⟨⟨by decide +kernel, by decide +kernel⟩, List.mem_of_getElem? (i := 817) (by decide +kernel), List.mem_of_getElem? (i := 1123) (by decide +kernel), List.mem_of_getElem? (i := 1124) (by decide +kernel)⟩
theorem lw_p44 : lw_okq (⟨"TrackCircuitsModel", "failsFrom", "(I)I"⟩, 39) := ⟨⟨by decide +kernel, by decide +kernel⟩, List.mem_of_getElem? (i := 817) (by decide +kernel), List.mem_of_getElem? (i := 1131) (by decide +kernel), List.mem_of_getElem? (i := 1132) (by decide +kernel)⟩
theorem lw_p45 : lw_okq (⟨"TrackCircuitsModel", "fails", "(II)Z"⟩, 39) := ⟨⟨by decide +kernel, by decide +kernel⟩, List.mem_of_getElem? (i := 817) (by decide +kernel), List.mem_of_getElem? (i := 1135) (by decide +kernel), List.mem_of_getElem? (i := 1136) (by decide +kernel)⟩
theorem lw_p46 : lw_okq (⟨"TrackCircuitsModel", "amiss", "()I"⟩, 39) := ⟨⟨by decide +kernel, by decide +kernel⟩, List.mem_of_getElem? (i := 817) (by decide +kernel), List.mem_of_getElem? (i := 1147) (by decide +kernel), List.mem_of_getElem? (i := 1148) (by decide +kernel)⟩
theorem lw_p47 : lw_okq (⟨"TrackCircuitsModel", "drawnBy", "(II)I"⟩, 39) := ⟨⟨by decide +kernel, by decide +kernel⟩, List.mem_of_getElem? (i := 817) (by decide +kernel), List.mem_of_getElem? (i := 1155) (by decide +kernel), List.mem_of_getElem? (i := 1156) (by decide +kernel)⟩
def lw_privs_3 : List (MethodName × Nat) := [(⟨"TrackCircuitsModel", "comes", "(I)V"⟩, 39), (⟨"TrackCircuitsModel", "goesUp", "(I)Z"⟩, 39), (⟨"TrackCircuitsModel", "goesPlain", "(II)Z"⟩, 39), (⟨"TrackCircuitsModel", "goesSlow", "(II)Z"⟩, 39), (⟨"TrackCircuitsModel", "goesStick", "(II)Z"⟩, 39), (⟨"TrackCircuitsModel", "isUpRight", "(I)Z"⟩, 39), (⟨"TrackCircuitsModel", "isUpLeft", "(I)Z"⟩, 39), (⟨"TrackCircuitsModel", "keepsNow", "()V"⟩, 39), (⟨"TrackCircuitsModel", "laysBack", "()V"⟩, 39), (⟨"TrackCircuitsModel", "broken", "(I)I"⟩, 39), (⟨"TrackCircuitsModel", "isRight", "()Z"⟩, 39), (⟨"TrackCircuitsModel", "isUnseen", "()Z"⟩, 39), (⟨"TrackCircuitsModel", "failsFrom", "(I)I"⟩, 39), (⟨"TrackCircuitsModel", "fails", "(II)Z"⟩, 39), (⟨"TrackCircuitsModel", "amiss", "()I"⟩, 39), (⟨"TrackCircuitsModel", "drawnBy", "(II)I"⟩, 39)]
theorem lw_r3 : ∀ q ∈ lw_privs_3, lw_okq q := List.forall_mem_cons.mpr ⟨lw_p32, List.forall_mem_cons.mpr ⟨lw_p33, List.forall_mem_cons.mpr ⟨lw_p34, List.forall_mem_cons.mpr ⟨lw_p35, List.forall_mem_cons.mpr ⟨lw_p36, List.forall_mem_cons.mpr ⟨lw_p37, List.forall_mem_cons.mpr ⟨lw_p38, List.forall_mem_cons.mpr ⟨lw_p39, List.forall_mem_cons.mpr ⟨lw_p40, List.forall_mem_cons.mpr ⟨lw_p41, List.forall_mem_cons.mpr ⟨lw_p42, List.forall_mem_cons.mpr ⟨lw_p43, List.forall_mem_cons.mpr ⟨lw_p44, List.forall_mem_cons.mpr ⟨lw_p45, List.forall_mem_cons.mpr ⟨lw_p46, List.forall_mem_cons.mpr ⟨lw_p47, fun _ h => absurd h List.not_mem_nil⟩⟩⟩⟩⟩⟩⟩⟩⟩⟩⟩⟩⟩⟩⟩⟩
theorem lw_p48 : lw_okq (⟨"TrackCircuitsModel", "otherBy", "(II)I"⟩, 39) := ⟨⟨by decide +kernel, by decide +kernel⟩, List.mem_of_getElem? (i := 817) (by decide +kernel), List.mem_of_getElem? (i := 1171) (by decide +kernel), List.mem_of_getElem? (i := 1172) (by decide +kernel)⟩
theorem lw_p49 : lw_okq (⟨"TrackCircuitsModel", "adds", "(I)V"⟩, 39) := ⟨⟨by decide +kernel, by decide +kernel⟩, List.mem_of_getElem? (i := 817) (by decide +kernel), List.mem_of_getElem? (i := 1186) (by decide +kernel), List.mem_of_getElem? (i := 1187) (by decide +kernel)⟩
theorem lw_p50 : lw_okq (⟨"TrackCircuitsModel", "reads", "(Z)I"⟩, 39) := ⟨⟨by decide +kernel, by decide +kernel⟩, List.mem_of_getElem? (i := 817) (by decide +kernel), List.mem_of_getElem? (i := 1194) (by decide +kernel), List.mem_of_getElem? (i := 1195) (by decide +kernel)⟩
theorem lw_p51 : lw_okq (⟨"TrackCircuitsModel", "next", "()V"⟩, 39) := ⟨⟨by decide +kernel, by decide +kernel⟩, List.mem_of_getElem? (i := 817) (by decide +kernel), List.mem_of_getElem? (i := 1198) (by decide +kernel), List.mem_of_getElem? (i := 1199) (by decide +kernel)⟩
theorem lw_p52 : lw_okq (⟨"TrackCircuitsModel", "isLetterHere", "()Z"⟩, 39) := ⟨⟨by decide +kernel, by decide +kernel⟩, List.mem_of_getElem? (i := 817) (by decide +kernel), List.mem_of_getElem? (i := 1202) (by decide +kernel), List.mem_of_getElem? (i := 1203) (by decide +kernel)⟩
theorem lw_p53 : lw_okq (⟨"TrackCircuitsModel", "isWord", "(Ljava/lang/String;)Z"⟩, 39) := ⟨⟨by decide +kernel, by decide +kernel⟩, List.mem_of_getElem? (i := 817) (by decide +kernel), List.mem_of_getElem? (i := 1217) (by decide +kernel), List.mem_of_getElem? (i := 1218) (by decide +kernel)⟩
theorem lw_p54 : lw_okq (⟨"TrackCircuitsModel", "isDigitHere", "()Z"⟩, 39) := ⟨⟨by decide +kernel, by decide +kernel⟩, List.mem_of_getElem? (i := 817) (by decide +kernel), List.mem_of_getElem? (i := 1223) (by decide +kernel), List.mem_of_getElem? (i := 1224) (by decide +kernel)⟩
theorem lw_p55 : lw_okq (⟨"TrackCircuitsModel", "does", "(I)Z"⟩, 39) := ⟨⟨by decide +kernel, by decide +kernel⟩, List.mem_of_getElem? (i := 817) (by decide +kernel), List.mem_of_getElem? (i := 1230) (by decide +kernel), List.mem_of_getElem? (i := 1231) (by decide +kernel)⟩
def lw_privs_4 : List (MethodName × Nat) := [(⟨"TrackCircuitsModel", "otherBy", "(II)I"⟩, 39), (⟨"TrackCircuitsModel", "adds", "(I)V"⟩, 39), (⟨"TrackCircuitsModel", "reads", "(Z)I"⟩, 39), (⟨"TrackCircuitsModel", "next", "()V"⟩, 39), (⟨"TrackCircuitsModel", "isLetterHere", "()Z"⟩, 39), (⟨"TrackCircuitsModel", "isWord", "(Ljava/lang/String;)Z"⟩, 39), (⟨"TrackCircuitsModel", "isDigitHere", "()Z"⟩, 39), (⟨"TrackCircuitsModel", "does", "(I)Z"⟩, 39)]
theorem lw_r4 : ∀ q ∈ lw_privs_4, lw_okq q := List.forall_mem_cons.mpr ⟨lw_p48, List.forall_mem_cons.mpr ⟨lw_p49, List.forall_mem_cons.mpr ⟨lw_p50, List.forall_mem_cons.mpr ⟨lw_p51, List.forall_mem_cons.mpr ⟨lw_p52, List.forall_mem_cons.mpr ⟨lw_p53, List.forall_mem_cons.mpr ⟨lw_p54, List.forall_mem_cons.mpr ⟨lw_p55, fun _ h => absurd h List.not_mem_nil⟩⟩⟩⟩⟩⟩⟩⟩
def lw_privs : List (MethodName × Nat) := lw_privs_1 ++ (lw_privs_2 ++ (lw_privs_3 ++ (lw_privs_4)))
def lw_tbl : List Cond := k2_sels lw_privs ++ tables_1
theorem lw_privs_ok : ∀ q ∈ lw_privs, lw_okq q := by
  show ∀ q ∈ lw_privs_1 ++ (lw_privs_2 ++ (lw_privs_3 ++ (lw_privs_4))), lw_okq q
  exact List.forall_mem_append.mpr ⟨lw_r1, List.forall_mem_append.mpr ⟨lw_r2, List.forall_mem_append.mpr ⟨lw_r3, lw_r4⟩⟩⟩
end
section
def tc_R0 : String := "TrackCircuits$Asking"
def tc_T0 : u_T := fun k => match k with
  | 0 => ("TrackCircuits$Asking", "changes", "[I", true)
  | 1 => ("TrackCircuits$Asking", "changed", "I", false)
  | 2 => ("TrackCircuits$Asking", "queue", "[I", true)
  | 3 => ("TrackCircuits$Asking", "first", "I", false)
  | 4 => ("TrackCircuits$Asking", "waiting", "I", false)
  | _ => ("TrackCircuits$Asking", "inQueue", "I", false)
def tc_ty0 : Nat → FieldType := fun k => match k with
  | 0 => .array .int
  | 1 => .int
  | 2 => .array .int
  | 3 => .int
  | 4 => .int
  | _ => .int
theorem tc_nm0 : ∀ a, a < 6 → ∀ b, b < 6 → a ≠ b → (tc_T0 a).2.1 ≠ (tc_T0 b).2.1 := by decide +kernel
theorem tc_tk0 : ∀ k, k < 6 → parseFieldDescriptor (tc_T0 k).2.2.1 = some (tc_ty0 k) := by decide +kernel
def tc_R1 : String := "TrackCircuits$Faults"
def tc_T1 : u_T := fun k => match k with
  | 0 => ("TrackCircuits$Faults", "many", "I", false)
  | 1 => ("TrackCircuits$Faults", "kinds", "[I", true)
  | 2 => ("TrackCircuits$Faults", "places", "[I", true)
  | _ => ("TrackCircuits$Faults", "caught", "[I", true)
def tc_ty1 : Nat → FieldType := fun k => match k with
  | 0 => .int
  | 1 => .array .int
  | 2 => .array .int
  | _ => .array .int
theorem tc_nm1 : ∀ a, a < 4 → ∀ b, b < 4 → a ≠ b → (tc_T1 a).2.1 ≠ (tc_T1 b).2.1 := by decide +kernel
theorem tc_tk1 : ∀ k, k < 4 → parseFieldDescriptor (tc_T1 k).2.2.1 = some (tc_ty1 k) := by decide +kernel
def tc_R2 : String := "TrackCircuits$Mind"
def tc_T2 : u_T := fun k => match k with
  | 0 => ("TrackCircuits$Mind", "real", "LTrackCircuits$Yard;", true)
  | 1 => ("TrackCircuits$Mind", "thought", "LTrackCircuits$Yard;", true)
  | _ => ("TrackCircuits$Mind", "asking", "LTrackCircuits$Asking;", true)
def tc_ty2 : Nat → FieldType := fun k => match k with
  | 0 => .object "TrackCircuits$Yard"
  | 1 => .object "TrackCircuits$Yard"
  | _ => .object "TrackCircuits$Asking"
theorem tc_nm2 : ∀ a, a < 3 → ∀ b, b < 3 → a ≠ b → (tc_T2 a).2.1 ≠ (tc_T2 b).2.1 := by decide +kernel
theorem tc_tk2 : ∀ k, k < 3 → parseFieldDescriptor (tc_T2 k).2.2.1 = some (tc_ty2 k) := by decide +kernel
def tc_R3 : String := "TrackCircuits$Sheets"
def tc_T3 : u_T := fun k => match k with
  | 0 => ("TrackCircuits$Sheets", "sorts", "[I", true)
  | 1 => ("TrackCircuits$Sheets", "sizes", "[I", true)
  | _ => ("TrackCircuits$Sheets", "items", "[I", true)
def tc_ty3 : Nat → FieldType := fun k => match k with
  | 0 => .array .int
  | 1 => .array .int
  | _ => .array .int
theorem tc_nm3 : ∀ a, a < 3 → ∀ b, b < 3 → a ≠ b → (tc_T3 a).2.1 ≠ (tc_T3 b).2.1 := by decide +kernel
theorem tc_tk3 : ∀ k, k < 3 → parseFieldDescriptor (tc_T3 k).2.2.1 = some (tc_ty3 k) := by decide +kernel
def tc_R4 : String := "TrackCircuits$Tape"
def tc_T4 : u_T := fun k => match k with
  | 0 => ("TrackCircuits$Tape", "bytes", "[I", true)
  | 1 => ("TrackCircuits$Tape", "size", "I", false)
  | 2 => ("TrackCircuits$Tape", "at", "I", false)
  | 3 => ("TrackCircuits$Tape", "words", "[I", true)
  | 4 => ("TrackCircuits$Tape", "numbers", "[I", true)
  | _ => ("TrackCircuits$Tape", "clauses", "I", false)
def tc_ty4 : Nat → FieldType := fun k => match k with
  | 0 => .array .int
  | 1 => .int
  | 2 => .int
  | 3 => .array .int
  | 4 => .array .int
  | _ => .int
theorem tc_nm4 : ∀ a, a < 6 → ∀ b, b < 6 → a ≠ b → (tc_T4 a).2.1 ≠ (tc_T4 b).2.1 := by decide +kernel
theorem tc_tk4 : ∀ k, k < 6 → parseFieldDescriptor (tc_T4 k).2.2.1 = some (tc_ty4 k) := by decide +kernel
def tc_R5 : String := "TrackCircuits$Yard"
def tc_T5 : u_T := fun k => match k with
  | 0 => ("TrackCircuits$Yard", "size", "I", false)
  | 1 => ("TrackCircuits$Yard", "kinds", "[I", true)
  | 2 => ("TrackCircuits$Yard", "feeds", "[I", true)
  | 3 => ("TrackCircuits$Yard", "losses", "[I", true)
  | 4 => ("TrackCircuits$Yard", "lengths", "[I", true)
  | 5 => ("TrackCircuits$Yard", "waits", "[I", true)
  | 6 => ("TrackCircuits$Yard", "currents", "[I", true)
  | 7 => ("TrackCircuits$Yard", "faults", "LTrackCircuits$Faults;", true)
  | 8 => ("TrackCircuits$Yard", "up", "I", false)
  | 9 => ("TrackCircuits$Yard", "trains", "I", false)
  | 10 => ("TrackCircuits$Yard", "pick", "I", false)
  | 11 => ("TrackCircuits$Yard", "hold", "I", false)
  | _ => ("TrackCircuits$Yard", "weather", "I", false)
def tc_ty5 : Nat → FieldType := fun k => match k with
  | 0 => .int
  | 1 => .array .int
  | 2 => .array .int
  | 3 => .array .int
  | 4 => .array .int
  | 5 => .array .int
  | 6 => .array .int
  | 7 => .object "TrackCircuits$Faults"
  | 8 => .int
  | 9 => .int
  | 10 => .int
  | 11 => .int
  | _ => .int
theorem tc_nm5 : ∀ a, a < 13 → ∀ b, b < 13 → a ≠ b → (tc_T5 a).2.1 ≠ (tc_T5 b).2.1 := by decide +kernel
theorem tc_tk5 : ∀ k, k < 13 → parseFieldDescriptor (tc_T5 k).2.2.1 = some (tc_ty5 k) := by decide +kernel
def tc_R6 : String := "TrackCircuits"
def tc_T6 : u_T := fun k => match k with
  | 0 => ("TrackCircuits", "yard", "LTrackCircuits$Yard;", true)
  | 1 => ("TrackCircuits", "kept", "LTrackCircuits$Yard;", true)
  | 2 => ("TrackCircuits", "isKept", "Z", false)
  | 3 => ("TrackCircuits", "asking", "LTrackCircuits$Asking;", true)
  | 4 => ("TrackCircuits", "latest", "[I", true)
  | 5 => ("TrackCircuits", "latestChanges", "I", false)
  | 6 => ("TrackCircuits", "mind", "LTrackCircuits$Mind;", true)
  | 7 => ("TrackCircuits", "tape", "LTrackCircuits$Tape;", true)
  | _ => ("TrackCircuits", "sheets", "LTrackCircuits$Sheets;", true)
def tc_ty6 : Nat → FieldType := fun k => match k with
  | 0 => .object "TrackCircuits$Yard"
  | 1 => .object "TrackCircuits$Yard"
  | 2 => .boolean
  | 3 => .object "TrackCircuits$Asking"
  | 4 => .array .int
  | 5 => .int
  | 6 => .object "TrackCircuits$Mind"
  | 7 => .object "TrackCircuits$Tape"
  | _ => .object "TrackCircuits$Sheets"
theorem tc_nm6 : ∀ a, a < 9 → ∀ b, b < 9 → a ≠ b → (tc_T6 a).2.1 ≠ (tc_T6 b).2.1 := by decide +kernel
theorem tc_tk6 : ∀ k, k < 9 → parseFieldDescriptor (tc_T6 k).2.2.1 = some (tc_ty6 k) := by decide +kernel
def tc_R7 : String := "TrackCircuitsModel"
def tc_T7 : u_T := fun k => match k with
  | 0 => ("TrackCircuitsModel", "sections", "I", false)
  | 1 => ("TrackCircuitsModel", "kind", "[I", true)
  | 2 => ("TrackCircuitsModel", "feed", "[I", true)
  | 3 => ("TrackCircuitsModel", "loss", "[I", true)
  | 4 => ("TrackCircuitsModel", "length", "[I", true)
  | 5 => ("TrackCircuitsModel", "waits", "[I", true)
  | 6 => ("TrackCircuitsModel", "up", "[Z", true)
  | 7 => ("TrackCircuitsModel", "train", "[Z", true)
  | 8 => ("TrackCircuitsModel", "rule", "[I", true)
  | 9 => ("TrackCircuitsModel", "faults", "I", false)
  | 10 => ("TrackCircuitsModel", "faultKind", "[I", true)
  | 11 => ("TrackCircuitsModel", "faultAt", "[I", true)
  | 12 => ("TrackCircuitsModel", "caught", "[I", true)
  | 13 => ("TrackCircuitsModel", "without", "I", false)
  | 14 => ("TrackCircuitsModel", "logged", "I", false)
  | 15 => ("TrackCircuitsModel", "log", "[I", true)
  | 16 => ("TrackCircuitsModel", "tape", "[I", true)
  | 17 => ("TrackCircuitsModel", "taped", "I", false)
  | 18 => ("TrackCircuitsModel", "sort", "[I", true)
  | 19 => ("TrackCircuitsModel", "size", "[I", true)
  | 20 => ("TrackCircuitsModel", "cell", "[I", true)
  | 21 => ("TrackCircuitsModel", "between", "[I", true)
  | 22 => ("TrackCircuitsModel", "queue", "[I", true)
  | 23 => ("TrackCircuitsModel", "queued", "[Z", true)
  | 24 => ("TrackCircuitsModel", "first", "I", false)
  | 25 => ("TrackCircuitsModel", "waiting", "I", false)
  | 26 => ("TrackCircuitsModel", "ahead", "[Z", true)
  | 27 => ("TrackCircuitsModel", "changed", "[I", true)
  | 28 => ("TrackCircuitsModel", "keptUp", "[Z", true)
  | 29 => ("TrackCircuitsModel", "keptTrain", "[Z", true)
  | 30 => ("TrackCircuitsModel", "keptWaits", "[I", true)
  | 31 => ("TrackCircuitsModel", "keptFaults", "I", false)
  | 32 => ("TrackCircuitsModel", "at", "I", false)
  | 33 => ("TrackCircuitsModel", "token", "I", false)
  | 34 => ("TrackCircuitsModel", "tokenAt", "I", false)
  | 35 => ("TrackCircuitsModel", "value", "I", false)
  | 36 => ("TrackCircuitsModel", "told", "[I", true)
  | 37 => ("TrackCircuitsModel", "hasImage", "Z", false)
  | _ => ("TrackCircuitsModel", "imaged", "[I", true)
def tc_ty7 : Nat → FieldType := fun k => match k with
  | 0 => .int
  | 1 => .array .int
  | 2 => .array .int
  | 3 => .array .int
  | 4 => .array .int
  | 5 => .array .int
  | 6 => .array .boolean
  | 7 => .array .boolean
  | 8 => .array .int
  | 9 => .int
  | 10 => .array .int
  | 11 => .array .int
  | 12 => .array .int
  | 13 => .int
  | 14 => .int
  | 15 => .array .int
  | 16 => .array .int
  | 17 => .int
  | 18 => .array .int
  | 19 => .array .int
  | 20 => .array .int
  | 21 => .array .int
  | 22 => .array .int
  | 23 => .array .boolean
  | 24 => .int
  | 25 => .int
  | 26 => .array .boolean
  | 27 => .array .int
  | 28 => .array .boolean
  | 29 => .array .boolean
  | 30 => .array .int
  | 31 => .int
  | 32 => .int
  | 33 => .int
  | 34 => .int
  | 35 => .int
  | 36 => .array .int
  | 37 => .boolean
  | _ => .array .int
theorem tc_nm7 : ∀ a, a < 39 → ∀ b, b < 39 → a ≠ b → (tc_T7 a).2.1 ≠ (tc_T7 b).2.1 := by decide +kernel
theorem tc_tk7 : ∀ k, k < 39 → parseFieldDescriptor (tc_T7 k).2.2.1 = some (tc_ty7 k) := by decide +kernel
def tc_classes : List vw_C := [(tc_R0, tc_T0, 6), (tc_R1, tc_T1, 4), (tc_R2, tc_T2, 3), (tc_R3, tc_T3, 3), (tc_R4, tc_T4, 6), (tc_R5, tc_T5, 13), (tc_R6, tc_T6, 9), (tc_R7, tc_T7, 39)]
def tc_sk : List ((Nat × Nat) ⊕ (Nat × List (Option Nat))) := [
  .inr (6, [some 1, some 12, none, some 23, some 26, none, some 27, some 42, some 46]),
  .inr (5, [none, some 2, some 3, some 4, some 5, some 6, some 7, some 8, none, none, none, none, none]),
  .inl (0, 8),
  .inl (0, 8),
  .inl (0, 8),
  .inl (0, 8),
  .inl (0, 8),
  .inl (0, 8),
  .inr (1, [none, some 9, some 10, some 11]),
  .inl (0, 15),
  .inl (0, 15),
  .inl (0, 15),
  .inr (5, [none, some 13, some 14, some 15, some 16, some 17, some 18, some 19, none, none, none, none, none]),
  .inl (0, 8),
  .inl (0, 8),
  .inl (0, 8),
  .inl (0, 8),
  .inl (0, 8),
  .inl (0, 8),
  .inr (1, [none, some 20, some 21, some 22]),
  .inl (0, 15),
  .inl (0, 15),
  .inl (0, 15),
  .inr (0, [some 24, none, some 25, none, none, none]),
  .inl (0, 40),
  .inl (0, 8),
  .inl (0, 40),
  .inr (2, [some 1, some 28, some 39]),
  .inr (5, [none, some 29, some 30, some 31, some 32, some 33, some 34, some 35, none, none, none, none, none]),
  .inl (0, 8),
  .inl (0, 8),
  .inl (0, 8),
  .inl (0, 8),
  .inl (0, 8),
  .inl (0, 8),
  .inr (1, [none, some 36, some 37, some 38]),
  .inl (0, 15),
  .inl (0, 15),
  .inl (0, 15),
  .inr (0, [some 40, none, some 41, none, none, none]),
  .inl (0, 40),
  .inl (0, 8),
  .inr (4, [some 43, none, none, some 44, some 45, none]),
  .inl (0, 60),
  .inl (0, 15),
  .inl (0, 60),
  .inr (3, [some 47, some 48, some 49]),
  .inl (0, 4),
  .inl (0, 4),
  .inl (0, 160),
  .inr (7, [none, some 51, some 52, some 53, some 54, some 55, some 56, some 57, some 58, none, some 59, some 60, some 61, none, none, some 62, some 63, none, some 64, some 65, some 66, some 67, some 68, some 69, none, none, some 70, some 71, some 72, some 73, some 74, none, none, none, none, none, some 75, none, some 76]),
  .inl (0, 8),
  .inl (0, 8),
  .inl (0, 8),
  .inl (0, 8),
  .inl (0, 8),
  .inl (1, 8),
  .inl (1, 8),
  .inl (0, 3),
  .inl (0, 20),
  .inl (0, 20),
  .inl (0, 20),
  .inl (0, 40),
  .inl (0, 60),
  .inl (0, 4),
  .inl (0, 4),
  .inl (0, 160),
  .inl (0, 40),
  .inl (0, 8),
  .inl (1, 8),
  .inl (1, 8),
  .inl (0, 40),
  .inl (1, 8),
  .inl (1, 8),
  .inl (0, 8),
  .inl (0, 4),
  .inl (0, 90)]
theorem tc_sk_len : tc_sk.length = 77 := by decide +kernel
theorem tc_in0 : ∀ w ∈ u_ws tc_R0 tc_T0 6, w ∈ lw_tbl ∧ goodWord w = true := by decide +kernel
theorem tc_in1 : ∀ w ∈ u_ws tc_R1 tc_T1 4, w ∈ lw_tbl ∧ goodWord w = true := by decide +kernel
theorem tc_in2 : ∀ w ∈ u_ws tc_R2 tc_T2 3, w ∈ lw_tbl ∧ goodWord w = true := by decide +kernel
theorem tc_in3 : ∀ w ∈ u_ws tc_R3 tc_T3 3, w ∈ lw_tbl ∧ goodWord w = true := by decide +kernel
theorem tc_in4 : ∀ w ∈ u_ws tc_R4 tc_T4 6, w ∈ lw_tbl ∧ goodWord w = true := by decide +kernel
theorem tc_in5 : ∀ w ∈ u_ws tc_R5 tc_T5 13, w ∈ lw_tbl ∧ goodWord w = true := by decide +kernel
theorem tc_in6 : ∀ w ∈ u_ws tc_R6 tc_T6 9, w ∈ lw_tbl ∧ goodWord w = true := by decide +kernel
theorem tc_in7 : ∀ w ∈ u_ws tc_R7 tc_T7 39, w ∈ lw_tbl ∧ goodWord w = true := by decide +kernel
end
section
/-! the memory of ints: cell, place; the skeleton never changes behind the constructors -/
abbrev tc_Mem : Type := Nat → Nat → Int32
def tc_row (μ : tc_Mem) (k : Nat) (g : Nat → Int32) : tc_Mem := fun k' => if k' = k then g else μ k'
def tc_wr (μ : tc_Mem) (k i : Nat) (v : Int32) : tc_Mem := tc_row μ k (upd (μ k) i v)
abbrev tc_Sk : Type := (Nat × Nat) ⊕ (Nat × List (Option Nat))
def tc_fv (ad : Nat → Nat) (f : Nat → Int32) (j : Nat) (o : Option Nat) : Value := match o with
  | some q => .ref (ad q)
  | none => .int (f j)
def tc_cell (ad : Nat → Nat) (tc : Nat → ClassId) (μ : tc_Mem) (k : Nat) (c : tc_Sk) : Nat × va_E := match c with
  | .inl q => (ad k, .inl (tc q.1, q.2, .inl (μ k)))
  | .inr o => (ad k, .inr (o.1, o.2.mapIdx (tc_fv ad (μ k))))
def tc_world (ad : Nat → Nat) (tc : Nat → ClassId) (μ : tc_Mem) : va_W := tc_sk.mapIdx (tc_cell ad tc μ)
theorem tc_world_at {ad : Nat → Nat} {tc : Nat → ClassId} {μ : tc_Mem} {k : Nat} {c : tc_Sk} (h : tc_sk[k]? = some c) : (tc_world ad tc μ)[k]? = some (tc_cell ad tc μ k c) := by
  unfold tc_world
  rw [List.getElem?_mapIdx, h]
  rfl
theorem tc_cell_ad {ad : Nat → Nat} {tc : Nat → ClassId} {μ : tc_Mem} {k : Nat} {c : tc_Sk} : (tc_cell ad tc μ k c).1 = ad k := by
  cases c <;> rfl
theorem tc_world_inv {ad : Nat → Nat} {tc : Nat → ClassId} {μ : tc_Mem} {k : Nat} {q : Nat × va_E} (h : (tc_world ad tc μ)[k]? = some q) : ∃ c, tc_sk[k]? = some c ∧ q = tc_cell ad tc μ k c := by
  unfold tc_world at h
  rw [List.getElem?_mapIdx] at h
  cases hc : tc_sk[k]? with
  | none => rw [hc] at h; cases h
  | some c => rw [hc] at h; exact ⟨c, rfl, (Option.some.inj h).symm⟩
theorem tc_cell_off {ad : Nat → Nat} {tc : Nat → ClassId} {μ : tc_Mem} {k j : Nat} {g : Nat → Int32} (c : tc_Sk) (h : j ≠ k) : tc_cell ad tc (tc_row μ k g) j c = tc_cell ad tc μ j c := by
  unfold tc_cell tc_row
  rw [if_neg h]
theorem tc_world_set {ad : Nat → Nat} {tc : Nat → ClassId} {μ : tc_Mem} {k : Nat} {c : tc_Sk} {g : Nat → Int32} {z : Nat × va_E} (h : tc_sk[k]? = some c) (hz : tc_cell ad tc (tc_row μ k g) k c = z) : (tc_world ad tc μ).set k z = tc_world ad tc (tc_row μ k g) := by
  apply List.ext_getElem?
  intro j
  by_cases hj : j = k
  · subst hj
    rw [tc_world_at h, hz, List.getElem?_set_self]
    exact (List.getElem?_eq_some_iff.mp (tc_world_at (ad := ad) (tc := tc) (μ := μ) h)).1
  · rw [List.getElem?_set_ne (Ne.symm hj)]
    cases hc : tc_sk[j]? with
    | none =>
      unfold tc_world
      rw [List.getElem?_mapIdx, List.getElem?_mapIdx, hc]
      rfl
    | some d => rw [tc_world_at hc, tc_world_at hc, tc_cell_off d hj]
theorem tc_row_self (μ : tc_Mem) (k : Nat) (g : Nat → Int32) : tc_row μ k g k = g := if_pos rfl
theorem tc_row_off {μ : tc_Mem} {k j : Nat} {g : Nat → Int32} (h : j ≠ k) : tc_row μ k g j = μ j := if_neg h
theorem tc_fields_set {ad : Nat → Nat} {f : Nat → Int32} {fs : List (Option Nat)} {j : Nat} {v : Int32} (h : fs[j]? = some none) : (fs.mapIdx (tc_fv ad f)).set j (.int v) = fs.mapIdx (tc_fv ad (upd f j v)) := by
  apply List.ext_getElem?
  intro i
  by_cases hi : i = j
  · subst hi
    rw [List.getElem?_set_self (by rw [List.length_mapIdx]; exact (List.getElem?_eq_some_iff.mp h).1), List.getElem?_mapIdx, h]
    simp [tc_fv, upd]
  · rw [List.getElem?_set_ne (Ne.symm hi), List.getElem?_mapIdx, List.getElem?_mapIdx]
    cases fs[i]? with
    | none => rfl
    | some o =>
      cases o with
      | none => simp [tc_fv, upd, hi]
      | some q => simp [tc_fv]
/-! the frame of the world: addresses, array classes, tables, texts -/
abbrev tc_G : Type := va_G × (Nat → Nat) × (Nat → ClassId) × (Nat → Nat) × (Nat → Nat) × (Nat → Nat)
def tc_ad (G : tc_G) (k : Nat) : Nat := G.2.1 k
def tc_tb (G : tc_G) (k : Nat) : Nat := G.2.2.2.1 k
def tc_sK (G : tc_G) (k : Nat) : Nat := G.2.2.2.2.1 k
def tc_sV (G : tc_G) (k : Nat) : Nat := G.2.2.2.2.2 k
def tc_tys (G : tc_G) : List (ClassId × FieldType) := [(G.2.2.1 0, .int), (G.2.2.1 1, .boolean)]
def tc_wd (G : tc_G) (μ : tc_Mem) : va_W := tc_world G.2.1 G.2.2.1 μ
def tc_A (G : tc_G) (sz : Nat) : Nat → Prop := fun q => (∃ k, k < 77 ∧ q = tc_ad G k) ∨ sz ≤ q
def tc_inj (G : tc_G) : Prop := ∀ i j, i < 77 → j < 77 → tc_ad G i = tc_ad G j → i = j
theorem tc_A.mono {G : tc_G} {a b : Nat} (h : a ≤ b) (q : Nat) (hq : tc_A G b q) : tc_A G a q := by
  rcases hq with hq | hq
  · exact Or.inl hq
  · exact Or.inr (Nat.le_trans h hq)
theorem tc_sk_lt {k : Nat} {c : tc_Sk} (h : tc_sk[k]? = some c) : k < 77 := by
  have h1 := (List.getElem?_eq_some_iff.mp h).1
  rw [tc_sk_len] at h1
  exact h1
theorem tc_D {G : tc_G} {sz : Nat} (hi : tc_inj G) (μ : tc_Mem) : va_D (tc_A G sz) (tc_wd G μ) := by
  refine ⟨fun i j p q hp hq e => ?_, fun k q hq => ?_⟩
  · obtain ⟨c, h1, rfl⟩ := tc_world_inv hp
    obtain ⟨d, h2, rfl⟩ := tc_world_inv hq
    rw [tc_cell_ad, tc_cell_ad] at e
    exact hi i j (tc_sk_lt h1) (tc_sk_lt h2) e
  · obtain ⟨c, h1, rfl⟩ := tc_world_inv hq
    rw [tc_cell_ad]
    exact Or.inl ⟨k, tc_sk_lt h1, rfl⟩
/-! static tables, nest mates' words, texts -/
def tc_LOOKS (j : Nat) : Int32 := ([0, 0, 1, 2, 2, 3] : List Int32).getD j 0
def tc_ABOVE (j : Nat) : Int32 := ([-1, 0, 0, 1, 0, 2] : List Int32).getD j 0
def tc_NUMBERS (j : Nat) : Int32 := ([4, 1, 1, 2, 1, 1, 0, 0] : List Int32).getD j 0
def tc_Tab (C n : String) (t N : Nat) (f : Nat → Int32) (A : Nat → Prop) (U : State) (H : Heap) : Prop := va_Z C n "[I" (.ref t) A U H ∧ va_T .int t N (fun j => .int (f j)) A U H
theorem tc_Tab.moved {C n : String} {t N : Nat} {f : Nat → Int32} {A : Nat → Prop} {u U : State} {H : Heap} (hvm : u.vm.Alike U.vm) (h : tc_Tab C n t N f A u H) : tc_Tab C n t N f A U H := ⟨va_Z.moved hvm h.1, va_T.moved hvm h.2⟩
theorem tc_Tab.kept {C n : String} {t N : Nat} {f : Nat → Int32} {A : Nat → Prop} {U : State} {H H1 : Heap} (h : tc_Tab C n t N f A U H) (hq : ∀ a : Nat, a < H.size → ¬ A a → H1[a]? = H[a]?) : tc_Tab C n t N f A U H1 := ⟨h.1.kept hq, h.2.kept hq⟩
theorem tc_Tab.narrow {C n : String} {t N : Nat} {f : Nat → Int32} {A B : Nat → Prop} {U : State} {H : Heap} (h : tc_Tab C n t N f A U H) (hAB : ∀ q, B q → A q) : tc_Tab C n t N f B U H := ⟨h.1.narrow hAB, h.2.narrow hAB⟩
def tc_withBit : MethodName := ⟨"TrackCircuits", "withBit", "(IIZ)I"⟩
def tc_isWithin : MethodName := ⟨"TrackCircuits", "isWithin", "(III)Z"⟩
def tc_Nest (U : State) : Prop := va_Nw (.methodLinkNest "TrackCircuits$Yard" 69 tc_withBit "TrackCircuits") U ∧ va_Nw (.methodLinkNest "TrackCircuits$Asking" 59 tc_withBit "TrackCircuits") U ∧ va_Nw (.methodLinkNest "TrackCircuits$Mind" 99 tc_withBit "TrackCircuits") U ∧ va_Nw (.methodLinkNest "TrackCircuits$Sheets" 21 tc_isWithin "TrackCircuits") U ∧ va_Nw (.fieldLinkNest "TrackCircuits$Yard" 66 "TrackCircuits" "LOOKS" "[I" "TrackCircuits") U ∧ va_Nw (.fieldLinkNest "TrackCircuits$Tape" 45 "TrackCircuits" "NUMBERS" "[I" "TrackCircuits") U
theorem tc_Nest.warm {s U : State} (hW : s.WarmedH U.vm) (h : tc_Nest s) : tc_Nest U := by
  obtain ⟨h1, h2, h3, h4, h5, h6⟩ := h
  exact ⟨va_Nw.warmM hW h1, va_Nw.warmM hW h2, va_Nw.warmM hW h3, va_Nw.warmM hW h4, va_Nw.warmF hW h5, va_Nw.warmF hW h6⟩
theorem tc_Nest.same {u U : State} (hv : u.vm = U.vm) (h : tc_Nest u) : tc_Nest U := by
  obtain ⟨h1, h2, h3, h4, h5, h6⟩ := h
  exact ⟨va_Nw.same rfl hv h1, va_Nw.same rfl hv h2, va_Nw.same rfl hv h3, va_Nw.same rfl hv h4, va_Nw.same rfl hv h5, va_Nw.same rfl hv h6⟩
def tc_txt : List String := ["section", "train", "gone", "fault", "mend", "weather", "moment", "drop"]
def tc_txI4 : List Nat := [69, 71, 73, 75, 77, 79, 81, 83]
def tc_txI7 : List Nat := [237, 239, 240, 242, 244, 246, 248, 250]
def tc_txB : List (List Int32) := [[115, 101, 99, 116, 105, 111, 110], [116, 114, 97, 105, 110], [103, 111, 110, 101], [102, 97, 117, 108, 116], [109, 101, 110, 100], [119, 101, 97, 116, 104, 101, 114], [109, 111, 109, 101, 110, 116], [100, 114, 111, 112]]
def tc_txL : List Nat := [7, 5, 4, 5, 4, 7, 6, 4]
def tc_StrR (G : tc_G) (U : State) : Prop := ∀ i, i < 8 → vk_R "TrackCircuits$Tape" (tc_txI4.getD i 0) (tc_txt.getD i "") (tc_sK G i) U ∧ vk_R "TrackCircuitsModel" (tc_txI7.getD i 0) (tc_txt.getD i "") (tc_sK G i) U
def tc_Str (G : tc_G) (A : Nat → Prop) (U : State) (H : Heap) : Prop := vk_S 8 tc_txL tc_txB (tc_sK G) (tc_sV G) A U H ∧ va_Z "java/lang/String" "COMPACT_STRINGS" "Z" (.int 1) A U H ∧ va_Zq "jdk/internal/util/Preconditions" "SIOOBE_FORMATTER" "Ljava/util/function/BiFunction;" A U H
def tc_Stat (G : tc_G) (A : Nat → Prop) (U : State) (H : Heap) : Prop := tc_Tab "TrackCircuits" "LOOKS" (tc_tb G 0) 6 tc_LOOKS A U H ∧ tc_Tab "TrackCircuits" "ABOVE" (tc_tb G 1) 6 tc_ABOVE A U H ∧ tc_Tab "TrackCircuits" "NUMBERS" (tc_tb G 2) 8 tc_NUMBERS A U H ∧ tc_Str G A U H
theorem tc_Stat.moved {G : tc_G} {A : Nat → Prop} {u U : State} {H : Heap} (hvm : u.vm.Alike U.vm) (h : tc_Stat G A u H) : tc_Stat G A U H := by
  obtain ⟨h1, h2, h3, h4, h5, h6⟩ := h
  exact ⟨h1.moved hvm, h2.moved hvm, h3.moved hvm, h4.moved hvm, h5.moved hvm, h6.moved hvm⟩
theorem tc_Stat.kept {G : tc_G} {A : Nat → Prop} {U : State} {H H1 : Heap} (h : tc_Stat G A U H) (hq : ∀ a : Nat, a < H.size → ¬ A a → H1[a]? = H[a]?) : tc_Stat G A U H1 := by
  obtain ⟨h1, h2, h3, h4, h5, h6⟩ := h
  exact ⟨h1.kept hq, h2.kept hq, h3.kept hq, h4.kept hq, h5.kept hq, h6.kept hq⟩
theorem tc_Stat.narrow {G : tc_G} {A B : Nat → Prop} {U : State} {H : Heap} (h : tc_Stat G A U H) (hAB : ∀ q, B q → A q) : tc_Stat G B U H := by
  obtain ⟨h1, h2, h3, h4, h5, h6⟩ := h
  exact ⟨h1.narrow hAB, h2.narrow hAB, h3.narrow hAB, h4.narrow hAB, h5.narrow hAB, h6.narrow hAB⟩
theorem tc_StrR.warm {G : tc_G} {s U : State} (hW : s.WarmedH U.vm) (h : tc_StrR G s) : tc_StrR G U := fun i hi => ⟨vk_R.warm hW (h i hi).1, vk_R.warm hW (h i hi).2⟩
theorem tc_StrR.same {G : tc_G} {u U : State} (hv : U.vm = u.vm) (h : tc_StrR G u) : tc_StrR G U := fun i hi => ⟨vk_R.same hv (h i hi).1, vk_R.same hv (h i hi).2⟩
/-- what stays of the frame, at a state -/
def tc_St (G : tc_G) (sz : Nat) (U : State) : Prop := va_K G.1 tc_classes (tc_tys G) U ∧ tc_inj G ∧ tc_Stat G (tc_A G sz) U U.heap ∧ tc_Nest U ∧ tc_StrR G U
/-! methods -/
abbrev tc_MI : Type := MethodName × ByteArray × Nat × Option FieldType × Room
def tc_gw : List Cond := lw_tbl.filter goodWord
def tc_ws (y : tc_MI) : List Cond := Cond.code y.1 y.2.1 y.2.2.1 y.2.2.2.1 :: tc_gw
theorem tc_gm {w : Cond} (i : Nat) (h : lw_tbl[i]? = some w) (hg : goodWord w = true) : w ∈ tc_gw := List.mem_filter.mpr ⟨List.mem_of_getElem? h, hg⟩
theorem tc_goodIn {y z : tc_MI} (h : Cond.code z.1 z.2.1 z.2.2.1 z.2.2.2.1 ∈ tc_gw) : GoodIn (tc_ws y) (tc_ws z) := by
  intro w hw
  have hw' : w ∈ tc_gw := by
    rcases List.mem_cons.mp hw with rfl | hw
    · exact h
    · exact hw
  exact ⟨List.mem_cons_of_mem _ hw', good_of_word (List.mem_filter.mp hw').2⟩
/-- the end of a method: its answer, its world -/
def tc_Qc (G : tc_G) (sz : Nat) (ρ : Option Value) (μ' : tc_Mem) : Array Value → State → Outcome → State → Prop := fun _ st oc t => oc = .returned ρ ∧ va_P G.1 tc_classes (tc_wd G μ') t.heap ∧ va_F (tc_A G sz) st t
def tc_Pc (G : tc_G) (sz : Nat) (av : List Value) (μ : tc_Mem) : Array Value → State → Prop := va_Pc av (fun U => U.heap.size = sz ∧ va_P G.1 tc_classes (tc_wd G μ) U.heap ∧ tc_St G sz U)
/-- a method's contract at arguments and a memory -/
def tc_Con (l : Launch) (G : tc_G) (y : tc_MI) (av : List Value) (μ : tc_Mem) (ρ : Option Value) (μ' : tc_Mem) : Prop := ∀ sz : Nat, Met l y.1 (tc_ws y) y.2.2.2.2 (tc_Pc G sz av μ) (tc_Qc G sz ρ μ') 0 0 (tc_A G sz)
abbrev tc_X : Type := Program × Env × State × MethodId × Array Value × List Frame × Method × Code
def tc_Ctx (G : tc_G) (y : tc_MI) : tc_X → Prop
  | (p, _, s, m, args, _, meth, c) => p.tables.exec = Jvm.exec ∧ c.code = y.2.1 ∧ meth.sig.returnType = y.2.2.2.1 ∧ c.maxLocals = y.2.2.1 ∧ s.vm.findClass y.1.cls = some m.cls ∧ (∀ w ∈ tc_ws y, w.before args s = true) ∧ meth.locks = false ∧ tc_St G s.heap.size s
def tc_At (l : Launch) (G : tc_G) (y : tc_MI) (ρ : Option Value) (μ' : tc_Mem) : tc_X → Nat → List (Nat × Value) → List Value → tc_Mem → Prop
  | (p, e, s, m, args, below, meth, c), pc, L, st, μ => tc_Ctx G y (p, e, s, m, args, below, meth, c) → ∀ (H : Heap) (locs : List Loc) (ls : Array Slot), va_P G.1 tc_classes (tc_wd G μ) H → va_S (tc_A G s.heap.size) s.heap H locs → lv_has ls y.2.2.1 L → W p l e y.2.2.2.2 s m args below meth c H locs 0 0 (MQ below (tc_Qc G s.heap.size ρ μ') args s 0 0 (tc_A G s.heap.size)) (F0 m pc ls st)
theorem tc_St.blind {G : tc_G} {sz : Nat} {U V : State} (hv : V.vm = U.vm) (hh : V.heap = U.heap) (h : tc_St G sz U) : tc_St G sz V := by
  obtain ⟨h1, h2, h3, h4, h5⟩ := h
  have ha : U.vm.Alike V.vm := by rw [hv]; exact Vm.Alike.refl _
  exact ⟨va_K.moved ha h1, h2, by rw [hh]; exact h3.moved ha, h4.same hv.symm, h5.same hv⟩
theorem tc_blind {G : tc_G} {sz : Nat} {av : List Value} {μ : tc_Mem} : FrameBlind (tc_Pc G sz av μ) := by
  intro a U g mk q
  obtain ⟨q0, q1, q2, q3⟩ := q
  exact ⟨q0, q1, q2, tc_St.blind (U := U) rfl rfl q3⟩
/-- a method's contract out of its walk -/
theorem tc_Con.of {l : Launch} {G : tc_G} {y : tc_MI} {av : List Value} {μ : tc_Mem} {ρ : Option Value} {μ' : tc_Mem} {L : List (Nat × Value)} (hp : plainName y.1.cls = true) (hn : (lg_sl av).length ≤ y.2.2.1) (hL : lv_args 0 av = L) (h : ∀ X : tc_X, tc_At l G y ρ μ' X 0 L [] μ) : tc_Con l G y av μ ρ μ' := by
  intro sz
  refine Met.ofW (cc := y.2.1) (maxL := y.2.2.1) (ret := y.2.2.2.1) hp rfl ?_
  intro p e s m args below meth c s₁ B hml hv
  obtain ⟨rfl, hsz, hP, hSt⟩ := hv
  subst hsz
  have hl := lv_entry av (n := y.2.2.1) hn
  rw [hL] at hl
  rw [lg_entry_eq]
  exact h (p, e, s, m, av.toArray, below, meth, c) ⟨B.exec, B.bytes, B.returns, hml, findClass_of_methodNamed B.named, atoms_spec (ws := tc_ws y) B.pre, B.notSynchronized, hSt⟩ s.heap [] _ hP va_S.rf hl
end
section
section RULES
variable {l : Launch} {G : tc_G} {y : tc_MI} {ρ : Option Value} {μ' : tc_Mem} {X : tc_X} {pc : Nat} {L : List (Nat × Value)} {st : List Value} {μ : tc_Mem}

theorem tc_iconst {n : Int} {v : Int32} (hd : decode y.2.1 pc = .ok (.iconst n, 1)) (hv : Int32.ofInt n = v) (K : tc_At l G y ρ μ' X (pc + 1) L (.int v :: st) μ) : tc_At l G y ρ μ' X pc L (st) μ := by
  obtain ⟨p, e, s, m, args, below, meth, c⟩ := X
  intro hC H locs ls hP hS hl
  exact lv_iconst hC.1 hC.2.1 hd hv (K hC H locs ls hP hS hl)
theorem tc_bipush {n : Int} {v : Int32} (hd : decode y.2.1 pc = .ok (.bipush n, 2)) (hv : (Int8.ofInt n).toInt32 = v) (K : tc_At l G y ρ μ' X (pc + 2) L (.int v :: st) μ) : tc_At l G y ρ μ' X pc L (st) μ := by
  obtain ⟨p, e, s, m, args, below, meth, c⟩ := X
  intro hC H locs ls hP hS hl
  exact lv_bipush hC.1 hC.2.1 hd hv (K hC H locs ls hP hS hl)
theorem tc_sipush {n : Int} {v : Int32} (hd : decode y.2.1 pc = .ok (.sipush n, 3)) (hv : (Int16.ofInt n).toInt32 = v) (K : tc_At l G y ρ μ' X (pc + 3) L (.int v :: st) μ) : tc_At l G y ρ μ' X pc L (st) μ := by
  obtain ⟨p, e, s, m, args, below, meth, c⟩ := X
  intro hC H locs ls hP hS hl
  exact lv_sipush hC.1 hC.2.1 hd hv (K hC H locs ls hP hS hl)
theorem tc_lconst {n : Fin 2} {v : Int64} (hd : decode y.2.1 pc = .ok (.lconst n, 1)) (hv : Int64.ofNat (n : Nat) = v) (K : tc_At l G y ρ μ' X (pc + 1) L (.long v :: st) μ) : tc_At l G y ρ μ' X pc L (st) μ := by
  obtain ⟨p, e, s, m, args, below, meth, c⟩ := X
  intro hC H locs ls hP hS hl
  exact lv_lconst hC.1 hC.2.1 hd hv (K hC H locs ls hP hS hl)
theorem tc_ldc {index : Nat} {v : Int32} (hd : decode y.2.1 pc = .ok (.ldc index, 2)) (hw : Cond.constant y.1.cls index v ∈ tc_gw) (K : tc_At l G y ρ μ' X (pc + 2) L (.int v :: st) μ) : tc_At l G y ρ μ' X pc L (st) μ := by
  obtain ⟨p, e, s, m, args, below, meth, c⟩ := X
  intro hC H locs ls hP hS hl
  exact lv_ldc hC.1 hC.2.1 hC.2.2.2.2.1 (hC.2.2.2.2.2.1 _ (List.mem_cons_of_mem _ hw)) hd (K hC H locs ls hP hS hl)
theorem tc_ldc2 {index : Nat} {v : Int64} (hd : decode y.2.1 pc = .ok (.ldc2_w index, 3)) (hw : Cond.constantLong y.1.cls index v ∈ tc_gw) (K : tc_At l G y ρ μ' X (pc + 3) L (.long v :: st) μ) : tc_At l G y ρ μ' X pc L (st) μ := by
  obtain ⟨p, e, s, m, args, below, meth, c⟩ := X
  intro hC H locs ls hP hS hl
  exact lv_ldc2 hC.1 hC.2.1 hC.2.2.2.2.1 (hC.2.2.2.2.2.1 _ (List.mem_cons_of_mem _ hw)) hd (K hC H locs ls hP hS hl)
theorem tc_iload_n {k : Fin 4} {x : Int32} (hd : decode y.2.1 pc = .ok (.iload_n k, 1)) (j : Nat) (hj : L[j]? = some ((k : Nat), .int x)) (K : tc_At l G y ρ μ' X (pc + 1) L (.int x :: st) μ) : tc_At l G y ρ μ' X pc L (st) μ := by
  obtain ⟨p, e, s, m, args, below, meth, c⟩ := X
  intro hC H locs ls hP hS hl
  exact lv_iload_n hC.1 hC.2.1 hd rfl (lv_at hl j hj) (K hC H locs ls hP hS hl)
theorem tc_iload {i : Nat} {x : Int32} (hd : decode y.2.1 pc = .ok (.iload i, 2)) (j : Nat) (hj : L[j]? = some (i, .int x)) (K : tc_At l G y ρ μ' X (pc + 2) L (.int x :: st) μ) : tc_At l G y ρ μ' X pc L (st) μ := by
  obtain ⟨p, e, s, m, args, below, meth, c⟩ := X
  intro hC H locs ls hP hS hl
  exact lv_iload hC.1 hC.2.1 hd (lv_at hl j hj) (K hC H locs ls hP hS hl)
theorem tc_aload_n {k : Fin 4} {x : Nat} (hd : decode y.2.1 pc = .ok (.aload_n k, 1)) (j : Nat) (hj : L[j]? = some ((k : Nat), .ref x)) (K : tc_At l G y ρ μ' X (pc + 1) L (.ref x :: st) μ) : tc_At l G y ρ μ' X pc L (st) μ := by
  obtain ⟨p, e, s, m, args, below, meth, c⟩ := X
  intro hC H locs ls hP hS hl
  exact lv_aload_n hC.1 hC.2.1 hd rfl (lv_at hl j hj) (K hC H locs ls hP hS hl)
theorem tc_aload {i : Nat} {x : Nat} (hd : decode y.2.1 pc = .ok (.aload i, 2)) (j : Nat) (hj : L[j]? = some (i, .ref x)) (K : tc_At l G y ρ μ' X (pc + 2) L (.ref x :: st) μ) : tc_At l G y ρ μ' X pc L (st) μ := by
  obtain ⟨p, e, s, m, args, below, meth, c⟩ := X
  intro hC H locs ls hP hS hl
  exact lv_aload hC.1 hC.2.1 hd (lv_at hl j hj) (K hC H locs ls hP hS hl)
theorem tc_lload_n {k : Fin 4} {x : Int64} (hd : decode y.2.1 pc = .ok (.lload_n k, 1)) (j : Nat) (hj : L[j]? = some ((k : Nat), .long x)) (K : tc_At l G y ρ μ' X (pc + 1) L (.long x :: st) μ) : tc_At l G y ρ μ' X pc L (st) μ := by
  obtain ⟨p, e, s, m, args, below, meth, c⟩ := X
  intro hC H locs ls hP hS hl
  exact lv_lload_n hC.1 hC.2.1 hd rfl (lv_at hl j hj) (K hC H locs ls hP hS hl)
theorem tc_lload {i : Nat} {x : Int64} (hd : decode y.2.1 pc = .ok (.lload i, 2)) (j : Nat) (hj : L[j]? = some (i, .long x)) (K : tc_At l G y ρ μ' X (pc + 2) L (.long x :: st) μ) : tc_At l G y ρ μ' X pc L (st) μ := by
  obtain ⟨p, e, s, m, args, below, meth, c⟩ := X
  intro hC H locs ls hP hS hl
  exact lv_lload hC.1 hC.2.1 hd (lv_at hl j hj) (K hC H locs ls hP hS hl)
theorem tc_istore_n {k : Fin 4} {x : Int32} {L' : List (Nat × Value)} (hd : decode y.2.1 pc = .ok (.istore_n k, 1)) (hn : (k : Nat) < y.2.2.1) (hl' : ((k : Nat), Value.int x) :: L.filter (fun q => !(q.1 == (k : Nat)) && !(q.1 + 1 == (k : Nat) && q.2.category == 2)) = L') (K : tc_At l G y ρ μ' X (pc + 1) L' st μ) : tc_At l G y ρ μ' X pc L (.int x :: st) μ := by
  obtain ⟨p, e, s, m, args, below, meth, c⟩ := X
  intro hC H locs ls hP hS hl
  exact lv_istore_n hC.1 hC.2.1 hd rfl hl hn hl' (fun ls' h' => K hC H locs ls' hP hS h')
theorem tc_istore {i : Nat} {x : Int32} {L' : List (Nat × Value)} (hd : decode y.2.1 pc = .ok (.istore i, 2)) (hn : i < y.2.2.1) (hl' : (i, Value.int x) :: L.filter (fun q => !(q.1 == i) && !(q.1 + 1 == i && q.2.category == 2)) = L') (K : tc_At l G y ρ μ' X (pc + 2) L' st μ) : tc_At l G y ρ μ' X pc L (.int x :: st) μ := by
  obtain ⟨p, e, s, m, args, below, meth, c⟩ := X
  intro hC H locs ls hP hS hl
  exact lv_istore hC.1 hC.2.1 hd hl hn hl' (fun ls' h' => K hC H locs ls' hP hS h')
theorem tc_astore_n {k : Fin 4} {x : Nat} {L' : List (Nat × Value)} (hd : decode y.2.1 pc = .ok (.astore_n k, 1)) (hn : (k : Nat) < y.2.2.1) (hl' : ((k : Nat), Value.ref x) :: L.filter (fun q => !(q.1 == (k : Nat)) && !(q.1 + 1 == (k : Nat) && q.2.category == 2)) = L') (K : tc_At l G y ρ μ' X (pc + 1) L' st μ) : tc_At l G y ρ μ' X pc L (.ref x :: st) μ := by
  obtain ⟨p, e, s, m, args, below, meth, c⟩ := X
  intro hC H locs ls hP hS hl
  exact lv_astore_n hC.1 hC.2.1 hd rfl hl hn hl' (fun ls' h' => K hC H locs ls' hP hS h')
theorem tc_astore {i : Nat} {x : Nat} {L' : List (Nat × Value)} (hd : decode y.2.1 pc = .ok (.astore i, 2)) (hn : i < y.2.2.1) (hl' : (i, Value.ref x) :: L.filter (fun q => !(q.1 == i) && !(q.1 + 1 == i && q.2.category == 2)) = L') (K : tc_At l G y ρ μ' X (pc + 2) L' st μ) : tc_At l G y ρ μ' X pc L (.ref x :: st) μ := by
  obtain ⟨p, e, s, m, args, below, meth, c⟩ := X
  intro hC H locs ls hP hS hl
  exact lv_astore hC.1 hC.2.1 hd hl hn hl' (fun ls' h' => K hC H locs ls' hP hS h')
theorem tc_lstore {i : Nat} {x : Int64} {L' : List (Nat × Value)} (hd : decode y.2.1 pc = .ok (.lstore i, 2)) (hn : i + 1 < y.2.2.1) (hl' : (i, Value.long x) :: L.filter (fun q => !(q.1 == i) && (!(q.1 == i + 1) && !(q.1 + 1 == i && q.2.category == 2))) = L') (K : tc_At l G y ρ μ' X (pc + 2) L' st μ) : tc_At l G y ρ μ' X pc L (.long x :: st) μ := by
  obtain ⟨p, e, s, m, args, below, meth, c⟩ := X
  intro hC H locs ls hP hS hl
  exact lv_lstore hC.1 hC.2.1 hd hl hn hl' (fun ls' h' => K hC H locs ls' hP hS h')
theorem tc_iinc {i : Nat} {n : Int} {x v : Int32} {L' : List (Nat × Value)} (hd : decode y.2.1 pc = .ok (.iinc i n, 3)) (j : Nat) (hj : L[j]? = some (i, .int x)) (hv : x + Int32.ofInt n = v) (hn : i < y.2.2.1) (hl' : (i, Value.int v) :: L.filter (fun q => !(q.1 == i) && !(q.1 + 1 == i && q.2.category == 2)) = L') (K : tc_At l G y ρ μ' X (pc + 3) L' st μ) : tc_At l G y ρ μ' X pc L (st) μ := by
  obtain ⟨p, e, s, m, args, below, meth, c⟩ := X
  intro hC H locs ls hP hS hl
  exact lv_iinc hC.1 hC.2.1 hd hl hj hv hn hl' (fun ls' h' => K hC H locs ls' hP hS h')
theorem tc_iadd {a b : Int32} (hd : decode y.2.1 pc = .ok (.iadd, 1)) (K : tc_At l G y ρ μ' X (pc + 1) L (.int (a + b) :: st) μ) : tc_At l G y ρ μ' X pc L (.int b :: .int a :: st) μ := by
  obtain ⟨p, e, s, m, args, below, meth, c⟩ := X
  intro hC H locs ls hP hS hl
  exact lv_iadd hC.1 hC.2.1 hd (K hC H locs ls hP hS hl)
theorem tc_isub {a b : Int32} (hd : decode y.2.1 pc = .ok (.isub, 1)) (K : tc_At l G y ρ μ' X (pc + 1) L (.int (a - b) :: st) μ) : tc_At l G y ρ μ' X pc L (.int b :: .int a :: st) μ := by
  obtain ⟨p, e, s, m, args, below, meth, c⟩ := X
  intro hC H locs ls hP hS hl
  exact lv_isub hC.1 hC.2.1 hd (K hC H locs ls hP hS hl)
theorem tc_imul {a b : Int32} (hd : decode y.2.1 pc = .ok (.imul, 1)) (K : tc_At l G y ρ μ' X (pc + 1) L (.int (a * b) :: st) μ) : tc_At l G y ρ μ' X pc L (.int b :: .int a :: st) μ := by
  obtain ⟨p, e, s, m, args, below, meth, c⟩ := X
  intro hC H locs ls hP hS hl
  exact lv_imul hC.1 hC.2.1 hd (K hC H locs ls hP hS hl)
theorem tc_iand {a b : Int32} (hd : decode y.2.1 pc = .ok (.iand, 1)) (K : tc_At l G y ρ μ' X (pc + 1) L (.int (a &&& b) :: st) μ) : tc_At l G y ρ μ' X pc L (.int b :: .int a :: st) μ := by
  obtain ⟨p, e, s, m, args, below, meth, c⟩ := X
  intro hC H locs ls hP hS hl
  exact lv_iand hC.1 hC.2.1 hd (K hC H locs ls hP hS hl)
theorem tc_ior {a b : Int32} (hd : decode y.2.1 pc = .ok (.ior, 1)) (K : tc_At l G y ρ μ' X (pc + 1) L (.int (a ||| b) :: st) μ) : tc_At l G y ρ μ' X pc L (.int b :: .int a :: st) μ := by
  obtain ⟨p, e, s, m, args, below, meth, c⟩ := X
  intro hC H locs ls hP hS hl
  exact lv_ior hC.1 hC.2.1 hd (K hC H locs ls hP hS hl)
theorem tc_ixor {a b : Int32} (hd : decode y.2.1 pc = .ok (.ixor, 1)) (K : tc_At l G y ρ μ' X (pc + 1) L (.int (a ^^^ b) :: st) μ) : tc_At l G y ρ μ' X pc L (.int b :: .int a :: st) μ := by
  obtain ⟨p, e, s, m, args, below, meth, c⟩ := X
  intro hC H locs ls hP hS hl
  exact lv_ixor hC.1 hC.2.1 hd (K hC H locs ls hP hS hl)
theorem tc_ishl {a b : Int32} (hd : decode y.2.1 pc = .ok (.ishl, 1)) (K : tc_At l G y ρ μ' X (pc + 1) L (.int (a <<< (b &&& 31)) :: st) μ) : tc_At l G y ρ μ' X pc L (.int b :: .int a :: st) μ := by
  obtain ⟨p, e, s, m, args, below, meth, c⟩ := X
  intro hC H locs ls hP hS hl
  exact lv_ishl hC.1 hC.2.1 hd (K hC H locs ls hP hS hl)
theorem tc_ishr {a b : Int32} (hd : decode y.2.1 pc = .ok (.ishr, 1)) (K : tc_At l G y ρ μ' X (pc + 1) L (.int (a >>> (b &&& 31)) :: st) μ) : tc_At l G y ρ μ' X pc L (.int b :: .int a :: st) μ := by
  obtain ⟨p, e, s, m, args, below, meth, c⟩ := X
  intro hC H locs ls hP hS hl
  exact lv_ishr hC.1 hC.2.1 hd (K hC H locs ls hP hS hl)
theorem tc_idiv {a b : Int32} (hd : decode y.2.1 pc = .ok (.idiv, 1)) (hne : ¬ b = 0) (K : tc_At l G y ρ μ' X (pc + 1) L (.int (a / b) :: st) μ) : tc_At l G y ρ μ' X pc L (.int b :: .int a :: st) μ := by
  obtain ⟨p, e, s, m, args, below, meth, c⟩ := X
  intro hC H locs ls hP hS hl
  exact lv_idiv hC.1 hC.2.1 hd hne (K hC H locs ls hP hS hl)
theorem tc_irem {a b : Int32} (hd : decode y.2.1 pc = .ok (.irem, 1)) (hne : ¬ b = 0) (K : tc_At l G y ρ μ' X (pc + 1) L (.int (a - a / b * b) :: st) μ) : tc_At l G y ρ μ' X pc L (.int b :: .int a :: st) μ := by
  obtain ⟨p, e, s, m, args, below, meth, c⟩ := X
  intro hC H locs ls hP hS hl
  exact lv_irem hC.1 hC.2.1 hd hne (K hC H locs ls hP hS hl)
theorem tc_iushr {a b : Int32} (hd : decode y.2.1 pc = .ok (.iushr, 1)) (K : tc_At l G y ρ μ' X (pc + 1) L (.int (a.toUInt32 >>> (b.toUInt32 &&& Int32.toUInt32 31)).toInt32 :: st) μ) : tc_At l G y ρ μ' X pc L (.int b :: .int a :: st) μ := by
  obtain ⟨p, e, s, m, args, below, meth, c⟩ := X
  intro hC H locs ls hP hS hl
  exact lv_iushr hC.1 hC.2.1 hd rfl (K hC H locs ls hP hS hl)
theorem tc_ladd {a b : Int64} (hd : decode y.2.1 pc = .ok (.ladd, 1)) (K : tc_At l G y ρ μ' X (pc + 1) L (.long (a + b) :: st) μ) : tc_At l G y ρ μ' X pc L (.long b :: .long a :: st) μ := by
  obtain ⟨p, e, s, m, args, below, meth, c⟩ := X
  intro hC H locs ls hP hS hl
  exact lv_ladd hC.1 hC.2.1 hd (K hC H locs ls hP hS hl)
theorem tc_lmul {a b : Int64} (hd : decode y.2.1 pc = .ok (.lmul, 1)) (K : tc_At l G y ρ μ' X (pc + 1) L (.long (a * b) :: st) μ) : tc_At l G y ρ μ' X pc L (.long b :: .long a :: st) μ := by
  obtain ⟨p, e, s, m, args, below, meth, c⟩ := X
  intro hC H locs ls hP hS hl
  exact lv_lmul hC.1 hC.2.1 hd (K hC H locs ls hP hS hl)
theorem tc_lcmp {a b : Int64} (hd : decode y.2.1 pc = .ok (.lcmp, 1)) (K : tc_At l G y ρ μ' X (pc + 1) L (.int (lg_cmp a b) :: st) μ) : tc_At l G y ρ μ' X pc L (.long b :: .long a :: st) μ := by
  obtain ⟨p, e, s, m, args, below, meth, c⟩ := X
  intro hC H locs ls hP hS hl
  exact W.lcmp hC.1 hC.2.1 hd (K hC H locs ls hP hS hl)
theorem tc_i2l {a : Int32} (hd : decode y.2.1 pc = .ok (.i2l, 1)) (K : tc_At l G y ρ μ' X (pc + 1) L (.long a.toInt64 :: st) μ) : tc_At l G y ρ μ' X pc L (.int a :: st) μ := by
  obtain ⟨p, e, s, m, args, below, meth, c⟩ := X
  intro hC H locs ls hP hS hl
  exact lv_i2l hC.1 hC.2.1 hd rfl (K hC H locs ls hP hS hl)
theorem tc_l2i {a : Int64} (hd : decode y.2.1 pc = .ok (.l2i, 1)) (K : tc_At l G y ρ μ' X (pc + 1) L (.int a.toInt32 :: st) μ) : tc_At l G y ρ μ' X pc L (.long a :: st) μ := by
  obtain ⟨p, e, s, m, args, below, meth, c⟩ := X
  intro hC H locs ls hP hS hl
  exact lv_l2i hC.1 hC.2.1 hd rfl (K hC H locs ls hP hS hl)
theorem tc_i2s {a : Int32} (hd : decode y.2.1 pc = .ok (.i2s, 1)) (K : tc_At l G y ρ μ' X (pc + 1) L (.int a.toInt16.toInt32 :: st) μ) : tc_At l G y ρ μ' X pc L (.int a :: st) μ := by
  obtain ⟨p, e, s, m, args, below, meth, c⟩ := X
  intro hC H locs ls hP hS hl
  exact lv_i2s hC.1 hC.2.1 hd rfl (K hC H locs ls hP hS hl)
theorem tc_dup {v : Value} (hd : decode y.2.1 pc = .ok (.dup, 1)) (hv : v.category = 1) (K : tc_At l G y ρ μ' X (pc + 1) L (v :: v :: st) μ) : tc_At l G y ρ μ' X pc L (v :: st) μ := by
  obtain ⟨p, e, s, m, args, below, meth, c⟩ := X
  intro hC H locs ls hP hS hl
  exact lv_dup hC.1 hC.2.1 hd hv (K hC H locs ls hP hS hl)
theorem tc_pop {v : Value} (hd : decode y.2.1 pc = .ok (.pop, 1)) (hv : v.category = 1) (K : tc_At l G y ρ μ' X (pc + 1) L (st) μ) : tc_At l G y ρ μ' X pc L (v :: st) μ := by
  obtain ⟨p, e, s, m, args, below, meth, c⟩ := X
  intro hC H locs ls hP hS hl
  exact lv_pop hC.1 hC.2.1 hd hv (K hC H locs ls hP hS hl)
theorem tc_goto {off : Int} {tgt : Nat} (hd : decode y.2.1 pc = .ok (.goto off, 3)) (ht : (pc : Int) + off = (tgt : Int)) (K : tc_At l G y ρ μ' X tgt L st μ) : tc_At l G y ρ μ' X pc L st μ := by
  obtain ⟨p, e, s, m, args, below, meth, c⟩ := X
  intro hC H locs ls hP hS hl
  exact lv_goto hC.1 hC.2.1 hd ht (K hC H locs ls hP hS hl)
theorem tc_if_eq {x : Int32} {off : Int} {tgt : Nat} {α : Type} {A B : Option α} {z : α} (hd : decode y.2.1 pc = .ok (.ifCond .eq off, 3)) (ht : (pc : Int) + off = (tgt : Int)) (h : (if x = 0 then A else B) = some z) (kt : A = some z → tc_At l G y ρ μ' X tgt L st μ) (kf : B = some z → tc_At l G y ρ μ' X (pc + 3) L st μ) : tc_At l G y ρ μ' X pc L (.int x :: st) μ := by
  obtain ⟨p, e, s, m, args, below, meth, c⟩ := X
  intro hC H locs ls hP hS hl
  exact lv_if_eq hC.1 hC.2.1 hd ht (fun q => kt (by rw [if_pos q] at h; exact h) hC H locs ls hP hS hl) (fun q => kf (by rw [if_neg q] at h; exact h) hC H locs ls hP hS hl)
theorem tc_if_lt {x : Int32} {off : Int} {tgt : Nat} {α : Type} {A B : Option α} {z : α} (hd : decode y.2.1 pc = .ok (.ifCond .lt off, 3)) (ht : (pc : Int) + off = (tgt : Int)) (h : (if x < 0 then A else B) = some z) (kt : A = some z → tc_At l G y ρ μ' X tgt L st μ) (kf : B = some z → tc_At l G y ρ μ' X (pc + 3) L st μ) : tc_At l G y ρ μ' X pc L (.int x :: st) μ := by
  obtain ⟨p, e, s, m, args, below, meth, c⟩ := X
  intro hC H locs ls hP hS hl
  exact lv_if_lt hC.1 hC.2.1 hd ht (fun q => kt (by rw [if_pos q] at h; exact h) hC H locs ls hP hS hl) (fun q => kf (by rw [if_neg q] at h; exact h) hC H locs ls hP hS hl)
theorem tc_if_ge {x : Int32} {off : Int} {tgt : Nat} {α : Type} {A B : Option α} {z : α} (hd : decode y.2.1 pc = .ok (.ifCond .ge off, 3)) (ht : (pc : Int) + off = (tgt : Int)) (h : (if 0 ≤ x then A else B) = some z) (kt : A = some z → tc_At l G y ρ μ' X tgt L st μ) (kf : B = some z → tc_At l G y ρ μ' X (pc + 3) L st μ) : tc_At l G y ρ μ' X pc L (.int x :: st) μ := by
  obtain ⟨p, e, s, m, args, below, meth, c⟩ := X
  intro hC H locs ls hP hS hl
  exact lv_if_ge hC.1 hC.2.1 hd ht (fun q => kt (by rw [if_pos q] at h; exact h) hC H locs ls hP hS hl) (fun q => kf (by rw [if_neg q] at h; exact h) hC H locs ls hP hS hl)
theorem tc_if_gt {x : Int32} {off : Int} {tgt : Nat} {α : Type} {A B : Option α} {z : α} (hd : decode y.2.1 pc = .ok (.ifCond .gt off, 3)) (ht : (pc : Int) + off = (tgt : Int)) (h : (if 0 < x then A else B) = some z) (kt : A = some z → tc_At l G y ρ μ' X tgt L st μ) (kf : B = some z → tc_At l G y ρ μ' X (pc + 3) L st μ) : tc_At l G y ρ μ' X pc L (.int x :: st) μ := by
  obtain ⟨p, e, s, m, args, below, meth, c⟩ := X
  intro hC H locs ls hP hS hl
  exact lv_if_gt hC.1 hC.2.1 hd ht (fun q => kt (by rw [if_pos q] at h; exact h) hC H locs ls hP hS hl) (fun q => kf (by rw [if_neg q] at h; exact h) hC H locs ls hP hS hl)
theorem tc_if_le {x : Int32} {off : Int} {tgt : Nat} {α : Type} {A B : Option α} {z : α} (hd : decode y.2.1 pc = .ok (.ifCond .le off, 3)) (ht : (pc : Int) + off = (tgt : Int)) (h : (if x ≤ 0 then A else B) = some z) (kt : A = some z → tc_At l G y ρ μ' X tgt L st μ) (kf : B = some z → tc_At l G y ρ μ' X (pc + 3) L st μ) : tc_At l G y ρ μ' X pc L (.int x :: st) μ := by
  obtain ⟨p, e, s, m, args, below, meth, c⟩ := X
  intro hC H locs ls hP hS hl
  exact lv_if_le hC.1 hC.2.1 hd ht (fun q => kt (by rw [if_pos q] at h; exact h) hC H locs ls hP hS hl) (fun q => kf (by rw [if_neg q] at h; exact h) hC H locs ls hP hS hl)
theorem tc_if_ne {x : Int32} {off : Int} {tgt : Nat} {α : Type} {A B : Option α} {z : α} (hd : decode y.2.1 pc = .ok (.ifCond .ne off, 3)) (ht : (pc : Int) + off = (tgt : Int)) (h : (if x = 0 then B else A) = some z) (kt : A = some z → tc_At l G y ρ μ' X tgt L st μ) (kf : B = some z → tc_At l G y ρ μ' X (pc + 3) L st μ) : tc_At l G y ρ μ' X pc L (.int x :: st) μ := by
  obtain ⟨p, e, s, m, args, below, meth, c⟩ := X
  intro hC H locs ls hP hS hl
  exact lv_if_ne hC.1 hC.2.1 hd ht (fun q => kt (by rw [if_neg q] at h; exact h) hC H locs ls hP hS hl) (fun q => kf (by rw [if_pos q] at h; exact h) hC H locs ls hP hS hl)
theorem tc_icmp_eq {x w : Int32} {off : Int} {tgt : Nat} {α : Type} {A B : Option α} {z : α} (hd : decode y.2.1 pc = .ok (.if_icmp .eq off, 3)) (ht : (pc : Int) + off = (tgt : Int)) (h : (if x = w then A else B) = some z) (kt : A = some z → tc_At l G y ρ μ' X tgt L st μ) (kf : B = some z → tc_At l G y ρ μ' X (pc + 3) L st μ) : tc_At l G y ρ μ' X pc L (.int w :: .int x :: st) μ := by
  obtain ⟨p, e, s, m, args, below, meth, c⟩ := X
  intro hC H locs ls hP hS hl
  exact lv_icmp_eq hC.1 hC.2.1 hd ht (fun q => kt (by rw [if_pos q] at h; exact h) hC H locs ls hP hS hl) (fun q => kf (by rw [if_neg q] at h; exact h) hC H locs ls hP hS hl)
theorem tc_icmp_lt {x w : Int32} {off : Int} {tgt : Nat} {α : Type} {A B : Option α} {z : α} (hd : decode y.2.1 pc = .ok (.if_icmp .lt off, 3)) (ht : (pc : Int) + off = (tgt : Int)) (h : (if x < w then A else B) = some z) (kt : A = some z → tc_At l G y ρ μ' X tgt L st μ) (kf : B = some z → tc_At l G y ρ μ' X (pc + 3) L st μ) : tc_At l G y ρ μ' X pc L (.int w :: .int x :: st) μ := by
  obtain ⟨p, e, s, m, args, below, meth, c⟩ := X
  intro hC H locs ls hP hS hl
  exact lv_icmp_lt hC.1 hC.2.1 hd ht (fun q => kt (by rw [if_pos q] at h; exact h) hC H locs ls hP hS hl) (fun q => kf (by rw [if_neg q] at h; exact h) hC H locs ls hP hS hl)
theorem tc_icmp_ge {x w : Int32} {off : Int} {tgt : Nat} {α : Type} {A B : Option α} {z : α} (hd : decode y.2.1 pc = .ok (.if_icmp .ge off, 3)) (ht : (pc : Int) + off = (tgt : Int)) (h : (if w ≤ x then A else B) = some z) (kt : A = some z → tc_At l G y ρ μ' X tgt L st μ) (kf : B = some z → tc_At l G y ρ μ' X (pc + 3) L st μ) : tc_At l G y ρ μ' X pc L (.int w :: .int x :: st) μ := by
  obtain ⟨p, e, s, m, args, below, meth, c⟩ := X
  intro hC H locs ls hP hS hl
  exact lv_icmp_ge hC.1 hC.2.1 hd ht (fun q => kt (by rw [if_pos q] at h; exact h) hC H locs ls hP hS hl) (fun q => kf (by rw [if_neg q] at h; exact h) hC H locs ls hP hS hl)
theorem tc_icmp_gt {x w : Int32} {off : Int} {tgt : Nat} {α : Type} {A B : Option α} {z : α} (hd : decode y.2.1 pc = .ok (.if_icmp .gt off, 3)) (ht : (pc : Int) + off = (tgt : Int)) (h : (if w < x then A else B) = some z) (kt : A = some z → tc_At l G y ρ μ' X tgt L st μ) (kf : B = some z → tc_At l G y ρ μ' X (pc + 3) L st μ) : tc_At l G y ρ μ' X pc L (.int w :: .int x :: st) μ := by
  obtain ⟨p, e, s, m, args, below, meth, c⟩ := X
  intro hC H locs ls hP hS hl
  exact lv_icmp_gt hC.1 hC.2.1 hd ht (fun q => kt (by rw [if_pos q] at h; exact h) hC H locs ls hP hS hl) (fun q => kf (by rw [if_neg q] at h; exact h) hC H locs ls hP hS hl)
theorem tc_icmp_le {x w : Int32} {off : Int} {tgt : Nat} {α : Type} {A B : Option α} {z : α} (hd : decode y.2.1 pc = .ok (.if_icmp .le off, 3)) (ht : (pc : Int) + off = (tgt : Int)) (h : (if x ≤ w then A else B) = some z) (kt : A = some z → tc_At l G y ρ μ' X tgt L st μ) (kf : B = some z → tc_At l G y ρ μ' X (pc + 3) L st μ) : tc_At l G y ρ μ' X pc L (.int w :: .int x :: st) μ := by
  obtain ⟨p, e, s, m, args, below, meth, c⟩ := X
  intro hC H locs ls hP hS hl
  exact lv_icmp_le hC.1 hC.2.1 hd ht (fun q => kt (by rw [if_pos q] at h; exact h) hC H locs ls hP hS hl) (fun q => kf (by rw [if_neg q] at h; exact h) hC H locs ls hP hS hl)
theorem tc_icmp_ne {x w : Int32} {off : Int} {tgt : Nat} {α : Type} {A B : Option α} {z : α} (hd : decode y.2.1 pc = .ok (.if_icmp .ne off, 3)) (ht : (pc : Int) + off = (tgt : Int)) (h : (if x = w then B else A) = some z) (kt : A = some z → tc_At l G y ρ μ' X tgt L st μ) (kf : B = some z → tc_At l G y ρ μ' X (pc + 3) L st μ) : tc_At l G y ρ μ' X pc L (.int w :: .int x :: st) μ := by
  obtain ⟨p, e, s, m, args, below, meth, c⟩ := X
  intro hC H locs ls hP hS hl
  exact lv_icmp_ne hC.1 hC.2.1 hd ht (fun q => kt (by rw [if_neg q] at h; exact h) hC H locs ls hP hS hl) (fun q => kf (by rw [if_pos q] at h; exact h) hC H locs ls hP hS hl)
/-- locals that nobody needs any more are left out -/
theorem tc_sub {L' : List (Nat × Value)} (ks : List Nat) (hl' : lv_pick L ks = L') (K : tc_At l G y ρ μ' X pc L' st μ) : tc_At l G y ρ μ' X pc L st μ := by
  obtain ⟨p, e, s, m, args, below, meth, c⟩ := X
  intro hC H locs ls hP hS hl
  exact K hC H locs ls hP hS (lv_sub hl ks hl')
/-- a switch by a table: outside, or at a place -/
theorem tc_tswD {x : Int32} {dflt lo hi : Int} {offs : Array Int} {len tgt : Nat} {a b : Int32} (hd : decode y.2.1 pc = .ok (.tableswitch dflt lo hi offs, len)) (hab : a.toInt = lo ∧ b.toInt = hi) (hx : x < a ∨ b < x) (ht : (pc : Int) + dflt = (tgt : Int)) (K : tc_At l G y ρ μ' X tgt L st μ) : tc_At l G y ρ μ' X pc L (.int x :: st) μ := by
  obtain ⟨p, e, s, m, args, below, meth, c⟩ := X
  intro hC H locs ls hP hS hl
  refine lv_tableOut hC.1 hC.2.1 hd ?_ ht (K hC H locs ls hP hS hl)
  rcases hx with q | q
  · left; rw [← hab.1]; exact Int32.lt_iff_toInt_lt.mp q
  · right; rw [← hab.2]; exact Int32.lt_iff_toInt_lt.mp q
theorem tc_tswK {x k : Int32} {dflt lo hi : Int} {offs : Array Int} {len tgt : Nat} {off : Int} (hd : decode y.2.1 pc = .ok (.tableswitch dflt lo hi offs, len)) (hx : x = k) (h1 : ¬ k.toInt < lo) (h2 : ¬ hi < k.toInt) (ho : offs[(k.toInt - lo).toNat]? = some off) (ht : (pc : Int) + off = (tgt : Int)) (K : tc_At l G y ρ μ' X tgt L st μ) : tc_At l G y ρ μ' X pc L (.int x :: st) μ := by
  subst hx
  obtain ⟨p, e, s, m, args, below, meth, c⟩ := X
  intro hC H locs ls hP hS hl
  exact lv_tableIn hC.1 hC.2.1 hd h1 h2 ho ht (K hC H locs ls hP hS hl)
theorem tc_lsw {x : Int32} {dflt : Int} {ps : Array (Int × Int)} {len : Nat} {off : Int} {tgt : Nat} (hd : decode y.2.1 pc = .ok (.lookupswitch dflt ps, len)) (hp : (ps.toList.zip (ps.toList.drop 1)).all (fun (a, next) => a.1 < next.1) = true) (ho : Op.lookupswitch.offset ps.toList dflt x.toInt = off) (ht : (pc : Int) + off = (tgt : Int)) (K : tc_At l G y ρ μ' X tgt L st μ) : tc_At l G y ρ μ' X pc L (.int x :: st) μ := by
  obtain ⟨p, e, s, m, args, below, meth, c⟩ := X
  intro hC H locs ls hP hS hl
  exact lv_lookup hC.1 hC.2.1 hd hp ho ht (K hC H locs ls hP hS hl)
/-- fields -/
theorem tc_get {ci a k index N : Nat} {C : String} {T : u_T} {fs : List (Option Nat)} {o : Option Nat} (hd : decode y.2.1 pc = .ok (.getfield index, 3)) (hin : ∀ w ∈ u_ws C T N, w ∈ lw_tbl ∧ goodWord w = true) (hc : tc_classes[ci]? = some (C, T, N)) (hk : k < N) (hw : Cond.fieldLink y.1.cls index (T k).1 (T k).2.1 (T k).2.2.1 ∈ tc_gw) (ha : tc_sk[a]? = some (.inr (ci, fs))) (hf : fs[k]? = some o) (K : tc_At l G y ρ μ' X (pc + 3) L (tc_fv (tc_ad G) (μ a) k o :: st) μ) : tc_At l G y ρ μ' X pc L (.ref (tc_ad G a) :: st) μ := by
  obtain ⟨p, e, s, m, args, below, meth, c⟩ := X
  intro hC H locs ls hP hS hl
  refine va_get (C := C) (T := T) (N := N) (ref := (T k).1) hC.1 hC.2.1 hC.2.2.2.2.2.1 (fun w h => List.mem_cons_of_mem _ (List.mem_filter.mpr (hin w h))) hC.2.2.2.2.1 hC.2.2.2.2.2.2.2.1 hP a (tc_world_at ha) hc k hk (hC.2.2.2.2.2.1 _ (List.mem_cons_of_mem _ hw)) (fun _ h => h) (v := tc_fv (tc_ad G) (μ a) k o) ?_ hd (K hC H locs ls hP hS hl)
  rw [List.getElem?_mapIdx, hf]
  rfl
theorem tc_put {ci a k index N : Nat} {C : String} {T : u_T} {fs : List (Option Nat)} {ty0 : Nat → FieldType} {v : Int32} {ty : FieldType} (hd : decode y.2.1 pc = .ok (.putfield index, 3)) (hin : ∀ w ∈ u_ws C T N, w ∈ lw_tbl ∧ goodWord w = true) (hc : tc_classes[ci]? = some (C, T, N)) (hk : k < N) (hw : Cond.fieldLink y.1.cls index (T k).1 (T k).2.1 (T k).2.2.1 ∈ tc_gw) (ha : tc_sk[a]? = some (.inr (ci, fs))) (hf : fs[k]? = some none) (hty : ∀ k, k < N → parseFieldDescriptor (T k).2.2.1 = some (ty0 k)) (hnm : ∀ a, a < N → ∀ b, b < N → a ≠ b → (T a).2.1 ≠ (T b).2.1) (hfin : (T k).2.2.2 = false) (hpt : parseFieldDescriptor (T k).2.2.1 = some ty) (hnar : narrow ty (.int v) = .int v) (hfit : fits ty (.int v) = true) (K : tc_At l G y ρ μ' X (pc + 3) L st (tc_wr μ a k v)) : tc_At l G y ρ μ' X pc L (.int v :: .ref (tc_ad G a) :: st) μ := by
  obtain ⟨p, e, s, m, args, below, meth, c⟩ := X
  intro hC H locs ls hP hS hl
  have hi := hC.2.2.2.2.2.2.2.2.1
  refine va_put (C := C) (T := T) (N := N) (ref := (T k).1) (v := .int v) hC.1 hC.2.1 hC.2.2.2.2.2.1 (fun w h => List.mem_cons_of_mem _ (List.mem_filter.mpr (hin w h))) ty0 hty hnm hC.2.2.2.2.1 hC.2.2.2.2.2.2.2.1 hP (tc_D hi μ) hS a (tc_world_at ha) hc k hk (hC.2.2.2.2.2.1 _ (List.mem_cons_of_mem _ hw)) (fun _ h => h) hfin hpt hnar hfit ?_ hd (fun H1 locs1 hP1 _ hS1 => ?_)
  · rw [List.length_mapIdx]; exact (List.getElem?_eq_some_iff.mp hf).1
  · rw [tc_fields_set hf] at hP1
    refine K hC H1 locs1 ls ?_ hS1 hl
    unfold tc_wd tc_wr
    rw [← tc_world_set (k := a) (g := upd (μ a) k v) ha (z := (tc_ad G a, .inr (ci, fs.mapIdx (tc_fv (tc_ad G) (upd (μ a) k v))))) (by simp only [tc_cell, tc_row_self]; rfl)]
    exact hP1
/-- arrays -/
theorem tc_iald {k n : Nat} {i : Int32} (hd : decode y.2.1 pc = .ok (.iaload, 1)) (ha : tc_sk[k]? = some (.inl (0, n))) (hi : vp_in i n) (K : tc_At l G y ρ μ' X (pc + 1) L (.int (μ k i.toNatClampNeg) :: st) μ) : tc_At l G y ρ μ' X pc L (.int i :: .ref (tc_ad G k) :: st) μ := by
  obtain ⟨p, e, s, m, args, below, meth, c⟩ := X
  intro hC H locs ls hP hS hl
  exact va_iald hC.1 hC.2.1 hC.2.2.2.2.2.2.2.1 hP k 0 (tc_world_at ha) rfl hi hd (K hC H locs ls hP hS hl)
theorem tc_zald {k n : Nat} {i : Int32} (hd : decode y.2.1 pc = .ok (.baload, 1)) (ha : tc_sk[k]? = some (.inl (1, n))) (hi : vp_in i n) (K : tc_At l G y ρ μ' X (pc + 1) L (.int (μ k i.toNatClampNeg) :: st) μ) : tc_At l G y ρ μ' X pc L (.int i :: .ref (tc_ad G k) :: st) μ := by
  obtain ⟨p, e, s, m, args, below, meth, c⟩ := X
  intro hC H locs ls hP hS hl
  exact va_zald hC.1 hC.2.1 hC.2.2.2.2.2.2.2.1 hP k 1 (tc_world_at ha) rfl hi hd (K hC H locs ls hP hS hl)
theorem tc_iast {k n : Nat} {i v : Int32} (hd : decode y.2.1 pc = .ok (.iastore, 1)) (ha : tc_sk[k]? = some (.inl (0, n))) (hi : vp_in i n) (K : tc_At l G y ρ μ' X (pc + 1) L st (tc_wr μ k i.toNatClampNeg v)) : tc_At l G y ρ μ' X pc L (.int v :: .int i :: .ref (tc_ad G k) :: st) μ := by
  obtain ⟨p, e, s, m, args, below, meth, c⟩ := X
  intro hC H locs ls hP hS hl
  refine va_iast hC.1 hC.2.1 hC.2.2.2.2.2.2.2.1 hP (tc_D hC.2.2.2.2.2.2.2.2.1 μ) hS k 0 (tc_world_at ha) rfl hi hd (fun H1 locs1 hP1 _ hS1 => K hC H1 locs1 ls ?_ hS1 hl)
  unfold tc_wd tc_wr
  rw [← tc_world_set (k := k) (g := upd (μ k) i.toNatClampNeg v) ha (z := (tc_ad G k, .inl (G.2.2.1 0, n, .inl (upd (μ k) i.toNatClampNeg v)))) (by simp only [tc_cell, tc_row_self]; rfl)]
  exact hP1
theorem tc_zast {k n : Nat} {i v : Int32} (hd : decode y.2.1 pc = .ok (.bastore, 1)) (ha : tc_sk[k]? = some (.inl (1, n))) (hi : vp_in i n) (K : tc_At l G y ρ μ' X (pc + 1) L st (tc_wr μ k i.toNatClampNeg (vp_nar .boolean v))) : tc_At l G y ρ μ' X pc L (.int v :: .int i :: .ref (tc_ad G k) :: st) μ := by
  obtain ⟨p, e, s, m, args, below, meth, c⟩ := X
  intro hC H locs ls hP hS hl
  refine va_zast hC.1 hC.2.1 hC.2.2.2.2.2.2.2.1 hP (tc_D hC.2.2.2.2.2.2.2.2.1 μ) hS k 1 (tc_world_at ha) rfl hi hd (fun H1 locs1 hP1 _ hS1 => K hC H1 locs1 ls ?_ hS1 hl)
  unfold tc_wd tc_wr
  rw [← tc_world_set (k := k) (g := upd (μ k) i.toNatClampNeg (vp_nar .boolean v)) ha (z := (tc_ad G k, .inl (G.2.2.1 1, n, .inl (upd (μ k) i.toNatClampNeg (vp_nar .boolean v))))) (by simp only [tc_cell, tc_row_self]; rfl)]
  exact hP1
theorem tc_alen {k t n : Nat} {v : Int32} (hd : decode y.2.1 pc = .ok (.arraylength, 1)) (ha : tc_sk[k]? = some (.inl (t, n))) (ht : t < 2) (hv : Int32.ofNat n = v) (K : tc_At l G y ρ μ' X (pc + 1) L (.int v :: st) μ) : tc_At l G y ρ μ' X pc L (.ref (tc_ad G k) :: st) μ := by
  obtain ⟨p, e, s, m, args, below, meth, c⟩ := X
  intro hC H locs ls hP hS hl
  rcases (show t = 0 ∨ t = 1 by omega) with rfl | rfl
  · exact va_alen hC.1 hC.2.1 hC.2.2.2.2.2.2.2.1 hP k 0 (tc_world_at ha) (ty := .int) rfl hv hd (K hC H locs ls hP hS hl)
  · exact va_alen hC.1 hC.2.1 hC.2.2.2.2.2.2.2.1 hP k 1 (tc_world_at ha) (ty := .boolean) rfl hv hd (K hC H locs ls hP hS hl)
/-- ends -/
theorem tc_iret {v : Int32} (hd : decode y.2.1 pc = .ok (.ireturn, 1)) (hr : y.2.2.2.1 = some .int) (h : ρ = some (.int v) ∧ μ' = μ) : tc_At l G y ρ μ' X pc L [.int v] μ := by
  obtain ⟨rfl, rfl⟩ := h
  obtain ⟨p, e, s, m, args, below, meth, c⟩ := X
  intro hC H locs ls hP hS hl
  have hlocks : meth.locks = false := hC.2.2.2.2.2.2.1
  exact W.iret hC.1 hC.2.1 (hC.2.2.1.trans hr) (fun t ht _ => ⟨rfl, by rw [ht]; exact hP, hS.F ht⟩) hS.2.2 hd
theorem tc_zret {v : Int32} (hd : decode y.2.1 pc = .ok (.ireturn, 1)) (hr : y.2.2.2.1 = some .boolean) (hv : v = 0 ∨ v = 1) (h : ρ = some (.int v) ∧ μ' = μ) : tc_At l G y ρ μ' X pc L [.int v] μ := by
  obtain ⟨rfl, rfl⟩ := h
  obtain ⟨p, e, s, m, args, below, meth, c⟩ := X
  intro hC H locs ls hP hS hl
  have hlocks : meth.locks = false := hC.2.2.2.2.2.2.1
  exact W.zret hC.1 hC.2.1 (hC.2.2.1.trans hr) (by rcases hv with rfl | rfl <;> decide) (fun t ht _ => ⟨rfl, by rw [ht]; exact hP, hS.F ht⟩) hS.2.2 hd
theorem tc_vret (hd : decode y.2.1 pc = .ok (.return_, 1)) (hr : y.2.2.2.1 = none) (h : ρ = none ∧ μ' = μ) : tc_At l G y ρ μ' X pc L [] μ := by
  obtain ⟨rfl, rfl⟩ := h
  obtain ⟨p, e, s, m, args, below, meth, c⟩ := X
  intro hC H locs ls hP hS hl
  have hlocks : meth.locks = false := hC.2.2.2.2.2.2.1
  exact W.vret hC.1 hC.2.1 (hC.2.2.1.trans hr) (fun t ht _ => ⟨rfl, by rw [ht]; exact hP, hS.F ht⟩) hS.2.2 hd
theorem tc_aret {v : Nat} {C : String} (hd : decode y.2.1 pc = .ok (.areturn, 1)) (hr : y.2.2.2.1 = some (.object C)) (h : ρ = some (.ref v) ∧ μ' = μ) : tc_At l G y ρ μ' X pc L [.ref v] μ := by
  obtain ⟨rfl, rfl⟩ := h
  obtain ⟨p, e, s, m, args, below, meth, c⟩ := X
  intro hC H locs ls hP hS hl
  have hlocks : meth.locks = false := hC.2.2.2.2.2.2.1
  exact W.aret hC.1 hC.2.1 (hC.2.2.1.trans hr) (Or.inl ⟨C, rfl⟩) (Or.inr ⟨v, rfl⟩) (fun t ht _ => ⟨rfl, by rw [ht]; exact hP, hS.F ht⟩) hS.2.2 hd
end RULES
end
section
section CALLS
variable {l : Launch} {G : tc_G} {y : tc_MI} {ρ : Option Value} {μ' : tc_Mem} {X : tc_X} {pc : Nat} {L : List (Nat × Value)} {st : List Value} {μ : tc_Mem}
theorem tc_St.enter {s U : State} {H : Heap} {locs : List Loc} (h : tc_St G s.heap.size s) (hS : va_S (tc_A G s.heap.size) s.heap H locs) (hU : U.heap = H) (hW : s.WarmedH U.vm) : tc_St G H.size U := by
  obtain ⟨h1, h2, h3, h4, h5⟩ := h
  refine ⟨va_K.moved hW.alike h1, h2, ?_, h4.warm hW, h5.warm hW⟩
  rw [hU]
  exact ((h3.kept (fun a ha hn => hS.2.1 a ha hn)).narrow (fun q hq => tc_A.mono hS.1 q hq)).moved hW.alike
/-- behind a call -/
theorem tc_go {p : Program} {e : Env} {R : Room} {s : State} {m : MethodId} {args : Array Value} {below : List Frame} {meth : Method} {c : Code} {H : Heap} {locs : List Loc} {Q : State → Prop} {ls : Array Slot} {rest st0 : List Value} {ρ1 : Option Value} {μ1 : tc_Mem} {av : Array Value}
    (hr : va_Run p l e R s m args below meth c H locs 0 0 0 0 (F0 m pc ls st0) rest (tc_Qc G H.size ρ1 μ1 av) (tc_A G H.size)) (hS : va_S (tc_A G s.heap.size) s.heap H locs)
    (kk : ∀ (H1 : Heap) (locs1 : List Loc), va_P G.1 tc_classes (tc_wd G μ1) H1 → va_S (tc_A G s.heap.size) s.heap H1 locs1 → W p l e R s m args below meth c H1 locs1 0 0 Q (F0 m (pc + 3) ls (ρ1.toList ++ rest))) : W p l e R s m args below meth c H locs 0 0 Q (F0 m pc ls st0) := by
  intro T hT X
  obtain ⟨v, st₀, t, T', L, h0, X', hL, e1, e2, ⟨hv, hP1, hz, hk⟩, st⟩ := hr T hT X
  cases hv
  rw [h0] at hz hk
  obtain ⟨t2, a1, b1⟩ := kk T'.heap (locs ++ L) (by rw [e1]; exact hP1) ⟨Nat.le_trans hS.1 (by rw [e1]; exact hz), fun q h1 h2 => by
      rw [e1, hk q (Nat.lt_of_lt_of_le h1 hS.1) (fun z => h2 (tc_A.mono hS.1 q z))]
      exact hS.2.1 q h1 h2, fun q hq => by
      rcases List.mem_append.mp hq with h | h
      · exact hS.2.2 q h
      · exact tc_A.mono hS.1 _ (hL q h)⟩ T' rfl X'
  exact ⟨t2, st t2 a1, b1⟩
def tc_Ok (z : tc_MI) (n : Nat) : Prop := Cond.code z.1 z.2.1 z.2.2.1 z.2.2.2.1 ∈ tc_gw ∧ Cond.initialized z.1.cls ∈ tc_gw ∧ (z.1.cls ≠ "java/lang/invoke/MethodHandle" ∧ z.1.cls ≠ "java/lang/invoke/VarHandle" ∧ (parseMethodDescriptor z.1.desc).map (fun d => d.parameters.length) = some n) ∧ z.2.2.2.2.cells = 0 ∧ z.2.2.2.2.slots = 0
def tc_OkV (z : tc_MI) (n : Nat) : Prop := tc_Ok z n ∧ Cond.instanceMethod z.1 ∈ tc_gw ∧ Cond.selects z.1.cls z.1 z.1 ∈ tc_gw
def tc_OkS (z : tc_MI) (n : Nat) : Prop := tc_Ok z n ∧ Cond.static z.1 ∈ tc_gw
def tc_Rm (y z : tc_MI) : Prop := z.2.2.2.2.frames + 1 ≤ y.2.2.2.2.frames ∧ 8 + (z.2.2.1 + 11) + z.2.2.2.2.locals ≤ y.2.2.2.2.locals
theorem tc_callV {z : tc_MI} {index n ci a N : Nat} {fs : List (Option Nat)} {T : u_T} {As rest : List Value} {ρ1 : Option Value} {μ1 : tc_Mem} {st0 : List Value}
    (hd : decode y.2.1 pc = .ok (.invokevirtual index, 3)) (hz : tc_OkV z n) (hlk : Cond.methodLink y.1.cls index z.1 ∈ tc_gw) (hR : tc_Rm y z) (ha : tc_sk[a]? = some (.inr (ci, fs))) (hc : tc_classes[ci]? = some (z.1.cls, T, N))
    (hcon : tc_Con l G z (.ref (tc_ad G a) :: As) μ ρ1 μ1) (hn : As.length = n) (hst : st0 = As.reverse ++ .ref (tc_ad G a) :: rest) (hrest : (rest.map fun v => v.category).sum ≤ 8) (K : tc_At l G y ρ μ' X (pc + 3) L (ρ1.toList ++ rest) μ1) : tc_At l G y ρ μ' X pc L st0 μ := by
  subst hst
  obtain ⟨p, e, s, m, args, below, meth, c⟩ := X
  intro hC H locs ls hP hS hl
  obtain ⟨hx, hb, hr, hml, hown, hts, hlk0, hSt⟩ := id hC
  obtain ⟨⟨z1, z2, z3, z4, z5⟩, z6, z7⟩ := hz
  have hg : ∀ w, w ∈ tc_gw → w.before args s = true := fun w h => hts w (List.mem_cons_of_mem _ h)
  have hcw : CallW y.2.2.2.2 s args y.1.cls z.1.cls index z.1 z.2.1 z.2.2.1 z.2.2.2.1 (tc_ws z) z.2.2.2.2 0 0 n := ⟨callB_of n hts (tc_goodIn z1) rfl z4 z5 (hg _ z2) (hg _ hlk) z3 hR, hg _ z6, hg _ z7⟩
  exact tc_go (va_runV (As := As) (rest := rest) (b := tc_ad G a) ⟨hx, hb, hml, hown, hts⟩ (hcon H.size) hcw ⟨tc_blind, va_recv hSt.1 hP hc (tc_world_at ha), fun U hU hW => ⟨rfl, by rw [hU], by rw [hU]; exact hP, hSt.enter hS hU hW⟩⟩ rfl hn hl.1 rfl (lv_room hrest) hd ⟨Nat.zero_le _, Nat.zero_le _⟩) hS (fun H1 locs1 hP1 hS1 => K hC H1 locs1 ls hP1 hS1 hl)
theorem tc_callS {z : tc_MI} {index n : Nat} {As rest : List Value} {ρ1 : Option Value} {μ1 : tc_Mem} {st0 : List Value}
    (hd : decode y.2.1 pc = .ok (.invokestatic index, 3)) (hz : tc_OkS z n) (hlk : Cond.methodLink y.1.cls index z.1 ∈ tc_gw) (hR : tc_Rm y z)
    (hcon : tc_Con l G z As μ ρ1 μ1) (hn : As.length = n) (hst : st0 = As.reverse ++ rest) (hrest : (rest.map fun v => v.category).sum ≤ 8) (K : tc_At l G y ρ μ' X (pc + 3) L (ρ1.toList ++ rest) μ1) : tc_At l G y ρ μ' X pc L st0 μ := by
  subst hst
  obtain ⟨p, e, s, m, args, below, meth, c⟩ := X
  intro hC H locs ls hP hS hl
  obtain ⟨hx, hb, hr, hml, hown, hts, hlk0, hSt⟩ := id hC
  obtain ⟨⟨z1, z2, z3, z4, z5⟩, z6⟩ := hz
  have hg : ∀ w, w ∈ tc_gw → w.before args s = true := fun w h => hts w (List.mem_cons_of_mem _ h)
  have hcw : CallB y.2.2.2.2 s args y.1.cls index z.1 z.2.1 z.2.2.1 z.2.2.2.1 (tc_ws z) z.2.2.2.2 0 0 n := callB_of n hts (tc_goodIn z1) rfl z4 z5 (hg _ z2) (hg _ hlk) z3 hR
  exact tc_go (va_runS (As := As) (rest := rest) ⟨hx, hb, hml, hown, hts⟩ (hcon H.size) ⟨hcw, hg _ z6⟩ ⟨tc_blind, fun U hU hW => ⟨rfl, by rw [hU], by rw [hU]; exact hP, hSt.enter hS hU hW⟩⟩ rfl hn hl.1 rfl (lv_room hrest) hd ⟨Nat.zero_le _, Nat.zero_le _⟩) hS (fun H1 locs1 hP1 hS1 => K hC H1 locs1 ls hP1 hS1 hl)
theorem tc_callN {z : tc_MI} {index n : Nat} {host : String} {As rest : List Value} {ρ1 : Option Value} {μ1 : tc_Mem} {st0 : List Value}
    (hd : decode y.2.1 pc = .ok (.invokestatic index, 3)) (hz : tc_OkS z n) (hlk : ∀ U, tc_Nest U → va_Nw (.methodLinkNest y.1.cls index z.1 host) U) (hR : tc_Rm y z)
    (hcon : tc_Con l G z As μ ρ1 μ1) (hn : As.length = n) (hst : st0 = As.reverse ++ rest) (hrest : (rest.map fun v => v.category).sum ≤ 8) (K : tc_At l G y ρ μ' X (pc + 3) L (ρ1.toList ++ rest) μ1) : tc_At l G y ρ μ' X pc L st0 μ := by
  subst hst
  obtain ⟨p, e, s, m, args, below, meth, c⟩ := X
  intro hC H locs ls hP hS hl
  obtain ⟨hx, hb, hr, hml, hown, hts, hlk0, hSt⟩ := id hC
  obtain ⟨⟨z1, z2, z3, z4, z5⟩, z6⟩ := hz
  have hg : ∀ w, w ∈ tc_gw → w.before args s = true := fun w h => hts w (List.mem_cons_of_mem _ h)
  have hcw := va_cnB (R := y.2.2.2.2) (args := args) (host := host) (maxL := z.2.2.1) n hts (tc_goodIn (y := y) z1) rfl z4 z5 (hlk s hSt.2.2.2.1) (hg _ z2) z3 hR
  exact tc_go (va_runSN (As := As) (rest := rest) ⟨hx, hb, hml, hown, hts⟩ (hcon H.size) ⟨hcw, hg _ z6, trivial⟩ ⟨tc_blind, fun U hU hW => ⟨rfl, by rw [hU], by rw [hU]; exact hP, hSt.enter hS hU hW⟩⟩ rfl hn hl.1 rfl (lv_room hrest) hd ⟨Nat.zero_le _, Nat.zero_le _⟩) hS (fun H1 locs1 hP1 hS1 => K hC H1 locs1 ls hP1 hS1 hl)
theorem tc_mmax {index : Nat} {a b : Int32} {rest : List Value} (hd : decode y.2.1 pc = .ok (.invokestatic index, 3)) (hlk : Cond.methodLink y.1.cls index Lib.Math.max.name ∈ tc_gw) (hw : Cond.static Lib.Math.max.name ∈ tc_gw ∧ Cond.initialized "java/lang/Math" ∈ tc_gw ∧ Cond.code Lib.Math.max.name Lib.Math.max.code 2 (some .int) ∈ tc_gw) (hR : 1 ≤ y.2.2.2.2.frames ∧ (rest.map fun v => v.category).sum + 13 ≤ y.2.2.2.2.locals) (K : tc_At l G y ρ μ' X (pc + 3) L (.int (if a < b then b else a) :: rest) μ) : tc_At l G y ρ μ' X pc L (.int b :: .int a :: rest) μ := by
  obtain ⟨p, e, s, m, args, below, meth, c⟩ := X
  intro hC H locs ls hP hS hl
  have hg : ∀ w, w ∈ tc_gw → w.before args s = true := fun w h => hC.2.2.2.2.2.1 w (List.mem_cons_of_mem _ h)
  exact va_mmax hC.1 hC.2.1 (hC.2.2.2.1.trans hl.1.symm) hC.2.2.2.2.1 (hg _ hlk) (hg _ hw.1) (hg _ hw.2.1) (hg _ hw.2.2) hR.1 hR.2 (Nat.zero_le _) (Nat.zero_le _) hd (K hC H locs ls hP hS hl)
theorem tc_mmin {index : Nat} {a b : Int32} {rest : List Value} (hd : decode y.2.1 pc = .ok (.invokestatic index, 3)) (hlk : Cond.methodLink y.1.cls index Lib.Math.min.name ∈ tc_gw) (hw : Cond.static Lib.Math.min.name ∈ tc_gw ∧ Cond.initialized "java/lang/Math" ∈ tc_gw ∧ Cond.code Lib.Math.min.name Lib.Math.min.code 2 (some .int) ∈ tc_gw) (hR : 1 ≤ y.2.2.2.2.frames ∧ (rest.map fun v => v.category).sum + 13 ≤ y.2.2.2.2.locals) (K : tc_At l G y ρ μ' X (pc + 3) L (.int (if b < a then b else a) :: rest) μ) : tc_At l G y ρ μ' X pc L (.int b :: .int a :: rest) μ := by
  obtain ⟨p, e, s, m, args, below, meth, c⟩ := X
  intro hC H locs ls hP hS hl
  have hg : ∀ w, w ∈ tc_gw → w.before args s = true := fun w h => hC.2.2.2.2.2.1 w (List.mem_cons_of_mem _ h)
  exact va_mmin hC.1 hC.2.1 (hC.2.2.2.1.trans hl.1.symm) hC.2.2.2.2.1 (hg _ hlk) (hg _ hw.1) (hg _ hw.2.1) (hg _ hw.2.2) hR.1 hR.2 (Nat.zero_le _) (Nat.zero_le _) hd (K hC H locs ls hP hS hl)
theorem tc_acpy {index k0 k1 n0 n1 : Nat} {sp dp n : Int32} {rest : List Value} (hd : decode y.2.1 pc = .ok (.invokestatic index, 3)) (hlk : Cond.methodLink y.1.cls index arraycopyName ∈ tc_gw) (hw : Cond.native arraycopyName ∈ tc_gw ∧ Cond.static arraycopyName ∈ tc_gw ∧ Cond.initialized "java/lang/System" ∈ tc_gw) (hR : 1 ≤ y.2.2.2.2.frames ∧ (rest.map fun v => v.category).sum + (nativeFrameWords "java/lang/System" "arraycopy" 5 + 11) ≤ y.2.2.2.2.locals) (ha0 : tc_sk[k0]? = some (.inl (0, n0))) (ha1 : tc_sk[k1]? = some (.inl (0, n1))) (hb : ¬ sp < 0 ∧ ¬ dp < 0 ∧ ¬ n < 0 ∧ sp.toNatClampNeg + n.toNatClampNeg ≤ n0 ∧ dp.toNatClampNeg + n.toNatClampNeg ≤ n1) (K : tc_At l G y ρ μ' X (pc + 3) L rest (tc_row μ k1 (va_cpy (μ k0) (μ k1) sp.toNatClampNeg dp.toNatClampNeg n.toNatClampNeg))) : tc_At l G y ρ μ' X pc L (.int n :: .int dp :: .ref (tc_ad G k1) :: .int sp :: .ref (tc_ad G k0) :: rest) μ := by
  obtain ⟨p, e, s, m, args, below, meth, c⟩ := X
  intro hC H locs ls hP hS hl
  have hg : ∀ w, w ∈ tc_gw → w.before args s = true := fun w h => hC.2.2.2.2.2.1 w (List.mem_cons_of_mem _ h)
  refine va_copyi (ty := .int) hC.1 hC.2.1 (hC.2.2.2.1.trans hl.1.symm) hC.2.2.2.2.1 (hg _ hlk) (hg _ hw.1) (hg _ hw.2.1) (hg _ hw.2.2) hC.2.2.2.2.2.2.2.1 hP (tc_D hC.2.2.2.2.2.2.2.2.1 μ) hS k0 k1 0 0 (tc_world_at ha0) (tc_world_at ha1) rfl rfl rfl hb.1 hb.2.1 hb.2.2.1 hb.2.2.2.1 hb.2.2.2.2 (fun _ _ => rfl) hR.1 hR.2 hd (fun H1 locs1 hP1 _ hS1 => K hC H1 locs1 ls ?_ hS1 hl)
  unfold tc_wd
  rw [← tc_world_set (k := k1) (g := va_cpy (μ k0) (μ k1) sp.toNatClampNeg dp.toNatClampNeg n.toNatClampNeg) ha1 (z := (tc_ad G k1, .inl (G.2.2.1 0, n1, .inl (va_cpy (μ k0) (μ k1) sp.toNatClampNeg dp.toNatClampNeg n.toNatClampNeg)))) (by simp only [tc_cell, tc_row_self]; rfl)]
  exact hP1
/-- static tables -/
theorem tc_gets {index t N : Nat} {nm : String} {f : Nat → Int32} (hd : decode y.2.1 pc = .ok (.getstatic index, 3)) (hlk : Cond.fieldLink y.1.cls index "TrackCircuits" nm "[I" ∈ tc_gw) (hT : ∀ A U H, tc_Stat G A U H → tc_Tab "TrackCircuits" nm (tc_tb G t) N f A U H) (K : tc_At l G y ρ μ' X (pc + 3) L (.ref (tc_tb G t) :: st) μ) : tc_At l G y ρ μ' X pc L st μ := by
  obtain ⟨p, e, s, m, args, below, meth, c⟩ := X
  intro hC H locs ls hP hS hl
  have hg : ∀ w, w ∈ tc_gw → w.before args s = true := fun w h => hC.2.2.2.2.2.1 w (List.mem_cons_of_mem _ h)
  exact va_gets hC.1 hC.2.1 (hT _ _ _ hC.2.2.2.2.2.2.2.2.2.1).1 hS hC.2.2.2.2.1 (hg _ hlk) (fun _ h => h) hd (K hC H locs ls hP hS hl)
theorem tc_tld {t N : Nat} {nm : String} {f : Nat → Int32} {i : Int32} (hd : decode y.2.1 pc = .ok (.iaload, 1)) (hT : ∀ A U H, tc_Stat G A U H → tc_Tab "TrackCircuits" nm (tc_tb G t) N f A U H) (hi : vp_in i N) (K : tc_At l G y ρ μ' X (pc + 1) L (.int (f i.toNatClampNeg) :: st) μ) : tc_At l G y ρ μ' X pc L (.int i :: .ref (tc_tb G t) :: st) μ := by
  obtain ⟨p, e, s, m, args, below, meth, c⟩ := X
  intro hC H locs ls hP hS hl
  exact va_ti hC.1 hC.2.1 (hT _ _ _ hC.2.2.2.2.2.2.2.2.2.1).2 hS hi rfl hd (K hC H locs ls hP hS hl)
theorem tc_tab0 (A : Nat → Prop) (U : State) (H : Heap) (h : tc_Stat G A U H) : tc_Tab "TrackCircuits" "LOOKS" (tc_tb G 0) 6 tc_LOOKS A U H := h.1
theorem tc_tab1 (A : Nat → Prop) (U : State) (H : Heap) (h : tc_Stat G A U H) : tc_Tab "TrackCircuits" "ABOVE" (tc_tb G 1) 6 tc_ABOVE A U H := h.2.1
theorem tc_tab2 (A : Nat → Prop) (U : State) (H : Heap) (h : tc_Stat G A U H) : tc_Tab "TrackCircuits" "NUMBERS" (tc_tb G 2) 8 tc_NUMBERS A U H := h.2.2.1
end CALLS
end
