def tc_i6_withBit : tc_MI := (⟨"TrackCircuits", "withBit", "(IIZ)I"⟩, prog_1_method_46_code, 3, (some .int), { frames := 0, cells := 0, slots := 0, locals := 0 })
def tc_i8_bitCount : tc_MI := (⟨"java/lang/Integer", "bitCount", "(I)I"⟩, prog_10_method_49_code, 1, (some .int), { frames := 0, cells := 0, slots := 0, locals := 0 })
def tc_i6_isWithin : tc_MI := (⟨"TrackCircuits", "isWithin", "(III)Z"⟩, prog_1_method_40_code, 3, (some .boolean), { frames := 0, cells := 0, slots := 0, locals := 0 })
def tc_i6_isTrait : tc_MI := (⟨"TrackCircuits", "isTrait", "(II)Z"⟩, prog_1_method_43_code, 2, (some .boolean), { frames := 1, cells := 0, slots := 0, locals := 22 })
def tc_i6_bit : tc_MI := (⟨"TrackCircuits", "bit", "(II)I"⟩, prog_1_method_45_code, 2, (some .int), { frames := 0, cells := 0, slots := 0, locals := 0 })
def tc_i6_greatestDivisor : tc_MI := (⟨"TrackCircuits", "greatestDivisor", "(II)I"⟩, prog_1_method_47_code, 6, (some .int), { frames := 0, cells := 0, slots := 0, locals := 0 })
def tc_i6_isByte : tc_MI := (⟨"TrackCircuits", "isByte", "(I)Z"⟩, prog_1_method_41_code, 1, (some .boolean), { frames := 1, cells := 0, slots := 0, locals := 22 })
def tc_i6_isSort : tc_MI := (⟨"TrackCircuits", "isSort", "(I)Z"⟩, prog_1_method_42_code, 1, (some .boolean), { frames := 1, cells := 0, slots := 0, locals := 22 })
def tc_i6_isUnder : tc_MI := (⟨"TrackCircuits", "isUnder", "(II)Z"⟩, prog_1_method_44_code, 4, (some .boolean), { frames := 0, cells := 0, slots := 0, locals := 0 })
def tc_i1_change : tc_MI := (⟨"TrackCircuits$Faults", "change", "(III)I"⟩, prog_3_method_8_code, 4, (some .int), { frames := 1, cells := 0, slots := 0, locals := 21 })
def tc_i1_placesOf : tc_MI := (⟨"TrackCircuits$Faults", "placesOf", "(I)I"⟩, prog_3_method_7_code, 4, (some .int), { frames := 0, cells := 0, slots := 0, locals := 0 })
def tc_i1_add : tc_MI := (⟨"TrackCircuits$Faults", "add", "(III)V"⟩, prog_3_method_4_code, 4, none, { frames := 0, cells := 0, slots := 0, locals := 0 })
def tc_i1_bringTo : tc_MI := (⟨"TrackCircuits$Faults", "bringTo", "(ILTrackCircuits$Faults;I)V"⟩, prog_3_method_3_code, 4, none, { frames := 0, cells := 0, slots := 0, locals := 0 })
def tc_i1_become : tc_MI := (⟨"TrackCircuits$Faults", "become", "(LTrackCircuits$Faults;)V"⟩, prog_3_method_2_code, 3, none, { frames := 1, cells := 0, slots := 0, locals := 23 })
def tc_i1_remove : tc_MI := (⟨"TrackCircuits$Faults", "remove", "(I)V"⟩, prog_3_method_5_code, 3, none, { frames := 1, cells := 0, slots := 0, locals := 23 })
def tc_i1_removeAt : tc_MI := (⟨"TrackCircuits$Faults", "removeAt", "(I)I"⟩, prog_3_method_6_code, 4, (some .int), { frames := 1, cells := 0, slots := 0, locals := 23 })
def tc_i5_looks : tc_MI := (⟨"TrackCircuits$Yard", "looks", "(II)Z"⟩, prog_7_method_5_code, 3, (some .boolean), { frames := 0, cells := 0, slots := 0, locals := 0 })
def tc_i5_leak : tc_MI := (⟨"TrackCircuits$Yard", "leak", "(I)I"⟩, prog_7_method_11_code, 2, (some .int), { frames := 0, cells := 0, slots := 0, locals := 0 })
def tc_i5_has : tc_MI := (⟨"TrackCircuits$Yard", "has", "(I)Z"⟩, prog_7_method_3_code, 2, (some .boolean), { frames := 0, cells := 0, slots := 0, locals := 0 })
def tc_i5_shunt : tc_MI := (⟨"TrackCircuits$Yard", "shunt", "(I)V"⟩, prog_7_method_13_code, 4, none, { frames := 0, cells := 0, slots := 0, locals := 0 })
def tc_i5_measure : tc_MI := (⟨"TrackCircuits$Yard", "measure", "()V"⟩, prog_7_method_12_code, 3, none, { frames := 2, cells := 0, slots := 0, locals := 44 })
def tc_i5_relay : tc_MI := (⟨"TrackCircuits$Yard", "relay", "(I)I"⟩, prog_7_method_4_code, 2, (some .int), { frames := 0, cells := 0, slots := 0, locals := 0 })
def tc_i5_isEnough : tc_MI := (⟨"TrackCircuits$Yard", "isEnough", "(IZ)Z"⟩, prog_7_method_16_code, 3, (some .boolean), { frames := 0, cells := 0, slots := 0, locals := 0 })
def tc_i5_goesUp : tc_MI := (⟨"TrackCircuits$Yard", "goesUp", "(I)Z"⟩, prog_7_method_15_code, 6, (some .boolean), { frames := 1, cells := 0, slots := 0, locals := 22 })
def tc_i5_countWaits : tc_MI := (⟨"TrackCircuits$Yard", "countWaits", "()V"⟩, prog_7_method_17_code, 2, none, { frames := 1, cells := 0, slots := 0, locals := 21 })
def tc_i5_become : tc_MI := (⟨"TrackCircuits$Yard", "become", "(LTrackCircuits$Yard;)V"⟩, prog_7_method_2_code, 2, none, { frames := 2, cells := 0, slots := 0, locals := 68 })
def tc_i5_addFault : tc_MI := (⟨"TrackCircuits$Yard", "addFault", "(II)V"⟩, prog_7_method_10_code, 4, none, { frames := 1, cells := 0, slots := 0, locals := 23 })
def tc_i5_troubled : tc_MI := (⟨"TrackCircuits$Yard", "troubled", "()I"⟩, prog_7_method_20_code, 1, (some .int), { frames := 1, cells := 0, slots := 0, locals := 23 })
def tc_i5_unsafe : tc_MI := (⟨"TrackCircuits$Yard", "unsaf\x65", "()I"⟩, prog_7_method_21_code, 1, (some .int), { frames := 2, cells := 0, slots := 0, locals := 43 })
def tc_i5_all : tc_MI := (⟨"TrackCircuits$Yard", "all", "()I"⟩, prog_7_method_19_code, 1, (some .int), { frames := 0, cells := 0, slots := 0, locals := 0 })
def tc_i5_wrong : tc_MI := (⟨"TrackCircuits$Yard", "wrong", "()I"⟩, prog_7_method_22_code, 1, (some .int), { frames := 2, cells := 0, slots := 0, locals := 43 })
def tc_i5_moveTrains : tc_MI := (⟨"TrackCircuits$Yard", "moveTrains", "()V"⟩, prog_7_method_18_code, 1, none, { frames := 1, cells := 0, slots := 0, locals := 20 })
def tc_i5_addSection : tc_MI := (⟨"TrackCircuits$Yard", "addSection", "(IIII)V"⟩, prog_7_method_6_code, 5, none, { frames := 0, cells := 0, slots := 0, locals := 0 })
def tc_i5_allCurrents : tc_MI := (⟨"TrackCircuits$Yard", "allCurrents", "()I"⟩, prog_7_method_14_code, 3, (some .int), { frames := 3, cells := 0, slots := 0, locals := 66 })
def tc_i5_lay : tc_MI := (⟨"TrackCircuits$Yard", "lay", "(III)V"⟩, prog_7_method_8_code, 4, none, { frames := 0, cells := 0, slots := 0, locals := 0 })
def tc_i5_layRule : tc_MI := (⟨"TrackCircuits$Yard", "layRule", "(II)I"⟩, prog_7_method_9_code, 4, (some .int), { frames := 0, cells := 0, slots := 0, locals := 0 })
def tc_i5_removeLast : tc_MI := (⟨"TrackCircuits$Yard", "removeLast", "()V"⟩, prog_7_method_7_code, 1, none, { frames := 2, cells := 0, slots := 0, locals := 46 })
def tc_i0_enter : tc_MI := (⟨"TrackCircuits$Asking", "enter", "(I)V"⟩, prog_2_method_6_code, 2, none, { frames := 0, cells := 0, slots := 0, locals := 0 })
def tc_i0_enterAll : tc_MI := (⟨"TrackCircuits$Asking", "enterAll", "(IZ)V"⟩, prog_2_method_4_code, 4, none, { frames := 1, cells := 0, slots := 0, locals := 21 })
def tc_i0_enterBeside : tc_MI := (⟨"TrackCircuits$Asking", "enterBeside", "(LTrackCircuits$Yard;I)V"⟩, prog_2_method_5_code, 3, none, { frames := 1, cells := 0, slots := 0, locals := 22 })
def tc_i0_takeFirst : tc_MI := (⟨"TrackCircuits$Asking", "takeFirst", "()I"⟩, prog_2_method_7_code, 2, (some .int), { frames := 0, cells := 0, slots := 0, locals := 0 })
def tc_i0_settles : tc_MI := (⟨"TrackCircuits$Asking", "settles", "(LTrackCircuits$Yard;Z)Z"⟩, prog_2_method_3_code, 7, (some .boolean), { frames := 3, cells := 0, slots := 0, locals := 66 })
def tc_i0_passes : tc_MI := (⟨"TrackCircuits$Asking", "passes", "(LTrackCircuits$Yard;)Z"⟩, prog_2_method_2_code, 2, (some .boolean), { frames := 4, cells := 0, slots := 0, locals := 92 })
def tc_i3_item : tc_MI := (⟨"TrackCircuits$Sheets", "item", "(II)I"⟩, prog_5_method_6_code, 3, (some .int), { frames := 0, cells := 0, slots := 0, locals := 0 })
def tc_i3_become : tc_MI := (⟨"TrackCircuits$Sheets", "become", "(III)V"⟩, prog_5_method_5_code, 5, none, { frames := 0, cells := 0, slots := 0, locals := 0 })
def tc_i3_bring : tc_MI := (⟨"TrackCircuits$Sheets", "bring", "(IIIII)V"⟩, prog_5_method_8_code, 6, none, { frames := 1, cells := 0, slots := 0, locals := 68 })
def tc_i3_has : tc_MI := (⟨"TrackCircuits$Sheets", "has", "(I)Z"⟩, prog_5_method_2_code, 2, (some .boolean), { frames := 1, cells := 0, slots := 0, locals := 22 })
def tc_i3_holds : tc_MI := (⟨"TrackCircuits$Sheets", "holds", "(IJJ)Z"⟩, prog_5_method_4_code, 6, (some .boolean), { frames := 0, cells := 0, slots := 0, locals := 0 })
def tc_i3_isMissing : tc_MI := (⟨"TrackCircuits$Sheets", "isMissing", "(I)Z"⟩, prog_5_method_3_code, 2, (some .boolean), { frames := 0, cells := 0, slots := 0, locals := 0 })
def tc_i3_lay : tc_MI := (⟨"TrackCircuits$Sheets", "lay", "(III)V"⟩, prog_5_method_7_code, 4, none, { frames := 0, cells := 0, slots := 0, locals := 0 })
def tc_i4_add : tc_MI := (⟨"TrackCircuits$Tape", "add", "(I)V"⟩, prog_6_method_2_code, 2, none, { frames := 0, cells := 0, slots := 0, locals := 0 })
def tc_i4_number : tc_MI := (⟨"TrackCircuits$Tape", "number", "(II)I"⟩, prog_6_method_3_code, 3, (some .int), { frames := 0, cells := 0, slots := 0, locals := 0 })
def tc_i4_numberFrom : tc_MI := (⟨"TrackCircuits$Tape", "numberFrom", "(I)I"⟩, prog_6_method_8_code, 4, (some .int), { frames := 0, cells := 0, slots := 0, locals := 0 })
def tc_i4_skipBlanks : tc_MI := (⟨"TrackCircuits$Tape", "skipBlanks", "()V"⟩, prog_6_method_6_code, 1, none, { frames := 0, cells := 0, slots := 0, locals := 0 })
def tc_i4_skipAll : tc_MI := (⟨"TrackCircuits$Tape", "skipAll", "(II)V"⟩, prog_6_method_7_code, 3, none, { frames := 0, cells := 0, slots := 0, locals := 0 })
def tc_i2_clearing : tc_MI := (⟨"TrackCircuits$Mind", "clearing", "(I)I"⟩, prog_4_method_3_code, 3, (some .int), { frames := 5, cells := 0, slots := 0, locals := 113 })
def tc_i2_layCaseFault : tc_MI := (⟨"TrackCircuits$Mind", "layCaseFault", "(II)V"⟩, prog_4_method_14_code, 3, none, { frames := 3, cells := 0, slots := 0, locals := 89 })
def tc_i2_failsWithTrain : tc_MI := (⟨"TrackCircuits$Mind", "failsWithTrain", "(I)Z"⟩, prog_4_method_15_code, 2, (some .boolean), { frames := 4, cells := 0, slots := 0, locals := 92 })
def tc_i2_failingCases : tc_MI := (⟨"TrackCircuits$Mind", "failingCases", "()I"⟩, prog_4_method_11_code, 4, (some .int), { frames := 5, cells := 0, slots := 0, locals := 113 })
def tc_i2_troubleWithout : tc_MI := (⟨"TrackCircuits$Mind", "troubleWithout", "(I)I"⟩, prog_4_method_17_code, 2, (some .int), { frames := 4, cells := 0, slots := 0, locals := 92 })
def tc_i2_faultToMend : tc_MI := (⟨"TrackCircuits$Mind", "faultToMend", "()I"⟩, prog_4_method_16_code, 5, (some .int), { frames := 5, cells := 0, slots := 0, locals := 113 })
def tc_i2_firstFailingCase : tc_MI := (⟨"TrackCircuits$Mind", "firstFailingCase", "(I)I"⟩, prog_4_method_12_code, 4, (some .int), { frames := 5, cells := 0, slots := 0, locals := 113 })
def tc_i2_firstOtherwise : tc_MI := (⟨"TrackCircuits$Mind", "firstOtherwise", "(LTrackCircuits$Sheets;III)I"⟩, prog_4_method_20_code, 7, (some .int), { frames := 5, cells := 0, slots := 0, locals := 113 })
def tc_i2_fromLast : tc_MI := (⟨"TrackCircuits$Mind", "fromLast", "(I)I"⟩, prog_4_method_4_code, 3, (some .int), { frames := 4, cells := 0, slots := 0, locals := 92 })
def tc_i2_isFair : tc_MI := (⟨"TrackCircuits$Mind", "isFair", "(II)Z"⟩, prog_4_method_9_code, 3, (some .boolean), { frames := 4, cells := 0, slots := 0, locals := 92 })
def tc_i2_greatestFairPick : tc_MI := (⟨"TrackCircuits$Mind", "greatestFairPick", "()I"⟩, prog_4_method_8_code, 2, (some .int), { frames := 5, cells := 0, slots := 0, locals := 114 })
def tc_i2_greatestFairWeather : tc_MI := (⟨"TrackCircuits$Mind", "greatestFairWeather", "()I"⟩, prog_4_method_7_code, 2, (some .int), { frames := 5, cells := 0, slots := 0, locals := 114 })
def tc_i2_settlesWithBreak : tc_MI := (⟨"TrackCircuits$Mind", "settlesWithBreak", "(II)Z"⟩, prog_4_method_6_code, 3, (some .boolean), { frames := 4, cells := 0, slots := 0, locals := 92 })
def tc_i2_leastBlindWeather : tc_MI := (⟨"TrackCircuits$Mind", "leastBlindWeather", "()I"⟩, prog_4_method_10_code, 3, (some .int), { frames := 5, cells := 0, slots := 0, locals := 114 })
def tc_i2_leastSafePick : tc_MI := (⟨"TrackCircuits$Mind", "leastSafePick", "()I"⟩, prog_4_method_13_code, 2, (some .int), { frames := 6, cells := 0, slots := 0, locals := 136 })
def tc_i2_unsafeByLot : tc_MI := (⟨"TrackCircuits$Mind", "unsafeByLot", "(II)I"⟩, prog_4_method_18_code, 5, (some .int), { frames := 4, cells := 0, slots := 0, locals := 92 })
def tc_i2_lotsWith : tc_MI := (⟨"TrackCircuits$Mind", "lotsWith", "(IIII)I"⟩, prog_4_method_19_code, 7, (some .int), { frames := 5, cells := 0, slots := 0, locals := 116 })
def tc_i2_pictures : tc_MI := (⟨"TrackCircuits$Mind", "pictures", "(II)I"⟩, prog_4_method_21_code, 5, (some .int), { frames := 5, cells := 0, slots := 0, locals := 113 })
def tc_i2_ran : tc_MI := (⟨"TrackCircuits$Mind", "ran", "(II)I"⟩, prog_4_method_2_code, 6, (some .int), { frames := 5, cells := 0, slots := 0, locals := 113 })
def tc_i2_seesBreak : tc_MI := (⟨"TrackCircuits$Mind", "seesBreak", "(I)Z"⟩, prog_4_method_5_code, 2, (some .boolean), { frames := 5, cells := 0, slots := 0, locals := 114 })
def tc_i6_section : tc_MI := (⟨"TrackCircuits", "section", "(IIII)I"⟩, prog_1_method_2_code, 5, (some .int), { frames := 2, cells := 0, slots := 0, locals := 43 })
def tc_i6_train : tc_MI := (⟨"TrackCircuits", "train", "(II)I"⟩, prog_1_method_8_code, 4, (some .int), { frames := 1, cells := 0, slots := 0, locals := 22 })
def tc_i6_fault : tc_MI := (⟨"TrackCircuits", "fault", "(II)I"⟩, prog_1_method_11_code, 3, (some .int), { frames := 2, cells := 0, slots := 0, locals := 46 })
def tc_i6_mend : tc_MI := (⟨"TrackCircuits", "mend", "(I)I"⟩, prog_1_method_13_code, 2, (some .int), { frames := 2, cells := 0, slots := 0, locals := 46 })
def tc_i6_rule : tc_MI := (⟨"TrackCircuits", "rule", "(II)I"⟩, prog_1_method_7_code, 3, (some .int), { frames := 1, cells := 0, slots := 0, locals := 23 })
def tc_i6_moment : tc_MI := (⟨"TrackCircuits", "moment", "()I"⟩, prog_1_method_14_code, 1, (some .int), { frames := 5, cells := 0, slots := 0, locals := 113 })
def tc_i6_drop : tc_MI := (⟨"TrackCircuits", "drop", "()I"⟩, prog_1_method_3_code, 1, (some .int), { frames := 3, cells := 0, slots := 0, locals := 66 })
def tc_i6_answerOfClause : tc_MI := (⟨"TrackCircuits", "answerOfClause", "(I)I"⟩, prog_1_method_32_code, 4, (some .int), { frames := 6, cells := 0, slots := 0, locals := 133 })
def tc_i6_aspect : tc_MI := (⟨"TrackCircuits", "aspect", "(I)I"⟩, prog_1_method_17_code, 2, (some .int), { frames := 1, cells := 0, slots := 0, locals := 21 })
def tc_i6_back : tc_MI := (⟨"TrackCircuits", "back", "()I"⟩, prog_1_method_34_code, 1, (some .int), { frames := 3, cells := 0, slots := 0, locals := 89 })
def tc_i6_bound : tc_MI := (⟨"TrackCircuits", "bound", "(I)I"⟩, prog_1_method_22_code, 2, (some .int), { frames := 6, cells := 0, slots := 0, locals := 136 })
def tc_i6_chance : tc_MI := (⟨"TrackCircuits", "chance", "(IIIII)I"⟩, prog_1_method_27_code, 8, (some .int), { frames := 6, cells := 0, slots := 0, locals := 142 })
def tc_i6_clears : tc_MI := (⟨"TrackCircuits", "clears", "(I)I"⟩, prog_1_method_19_code, 2, (some .int), { frames := 6, cells := 0, slots := 0, locals := 135 })
def tc_i6_copy : tc_MI := (⟨"TrackCircuits", "copy", "(IIIII)I"⟩, prog_1_method_39_code, 6, (some .int), { frames := 2, cells := 0, slots := 0, locals := 93 })
def tc_i6_count : tc_MI := (⟨"TrackCircuits", "count", "(I)I"⟩, prog_1_method_36_code, 2, (some .int), { frames := 4, cells := 0, slots := 0, locals := 88 })
def tc_i6_drawn : tc_MI := (⟨"TrackCircuits", "drawn", "(II)I"⟩, prog_1_method_26_code, 3, (some .int), { frames := 5, cells := 0, slots := 0, locals := 116 })
def tc_i6_faultOf : tc_MI := (⟨"TrackCircuits", "faultOf", "(II)I"⟩, prog_1_method_12_code, 3, (some .int), { frames := 1, cells := 0, slots := 0, locals := 22 })
def tc_i6_feed : tc_MI := (⟨"TrackCircuits", "feed", "(IIIIII)I"⟩, prog_1_method_30_code, 7, (some .int), { frames := 2, cells := 0, slots := 0, locals := 42 })
def tc_i6_film : tc_MI := (⟨"TrackCircuits", "film", "(III)I"⟩, prog_1_method_29_code, 6, (some .int), { frames := 6, cells := 0, slots := 0, locals := 137 })
def tc_i6_fix : tc_MI := (⟨"TrackCircuits", "fix", "()I"⟩, prog_1_method_25_code, 1, (some .int), { frames := 6, cells := 0, slots := 0, locals := 137 })
def tc_i6_force : tc_MI := (⟨"TrackCircuits", "force", "(II)I"⟩, prog_1_method_10_code, 4, (some .int), { frames := 1, cells := 0, slots := 0, locals := 22 })
def tc_i6_image : tc_MI := (⟨"TrackCircuits", "image", "()I"⟩, prog_1_method_33_code, 1, (some .int), { frames := 3, cells := 0, slots := 0, locals := 89 })
def tc_i6_load : tc_MI := (⟨"TrackCircuits", "load", "(IIII)I"⟩, prog_1_method_35_code, 12, (some .int), { frames := 3, cells := 0, slots := 0, locals := 67 })
def tc_i6_log : tc_MI := (⟨"TrackCircuits", "log", "(I)I"⟩, prog_1_method_15_code, 2, (some .int), { frames := 0, cells := 0, slots := 0, locals := 0 })
def tc_i6_moves : tc_MI := (⟨"TrackCircuits", "moves", "()I"⟩, prog_1_method_9_code, 1, (some .int), { frames := 2, cells := 0, slots := 0, locals := 40 })
def tc_i6_of : tc_MI := (⟨"TrackCircuits", "of", "(II)I"⟩, prog_1_method_5_code, 3, (some .int), { frames := 3, cells := 0, slots := 0, locals := 66 })
def tc_i6_order : tc_MI := (⟨"TrackCircuits", "order", "(I)I"⟩, prog_1_method_20_code, 2, (some .int), { frames := 5, cells := 0, slots := 0, locals := 114 })
def tc_i6_pick : tc_MI := (⟨"TrackCircuits", "pick", "(I)I"⟩, prog_1_method_24_code, 2, (some .int), { frames := 7, cells := 0, slots := 0, locals := 157 })
def tc_i6_proof : tc_MI := (⟨"TrackCircuits", "proof", "(I)I"⟩, prog_1_method_23_code, 2, (some .int), { frames := 6, cells := 0, slots := 0, locals := 136 })
def tc_i6_put : tc_MI := (⟨"TrackCircuits", "put", "(III)I"⟩, prog_1_method_38_code, 4, (some .int), { frames := 2, cells := 0, slots := 0, locals := 43 })
def tc_i6_run : tc_MI := (⟨"TrackCircuits", "run", "(II)I"⟩, prog_1_method_18_code, 3, (some .int), { frames := 6, cells := 0, slots := 0, locals := 138 })
def tc_i6_seen : tc_MI := (⟨"TrackCircuits", "seen", "(I)I"⟩, prog_1_method_21_code, 2, (some .int), { frames := 6, cells := 0, slots := 0, locals := 135 })
def tc_i6_set : tc_MI := (⟨"TrackCircuits", "set", "(III)I"⟩, prog_1_method_4_code, 5, (some .int), { frames := 4, cells := 0, slots := 0, locals := 88 })
def tc_i6_sheet : tc_MI := (⟨"TrackCircuits", "sheet", "(III)I"⟩, prog_1_method_37_code, 4, (some .int), { frames := 2, cells := 0, slots := 0, locals := 43 })
def tc_i6_taken : tc_MI := (⟨"TrackCircuits", "taken", "(II)I"⟩, prog_1_method_6_code, 3, (some .int), { frames := 2, cells := 0, slots := 0, locals := 43 })
def tc_i6_tells : tc_MI := (⟨"TrackCircuits", "tells", "(III)I"⟩, prog_1_method_28_code, 6, (some .int), { frames := 6, cells := 0, slots := 0, locals := 139 })
def tc_i6_who : tc_MI := (⟨"TrackCircuits", "who", "(I)I"⟩, prog_1_method_16_code, 2, (some .int), { frames := 3, cells := 0, slots := 0, locals := 63 })
def tc_i7_caughtBy : tc_MI := (⟨"TrackCircuitsModel", "caughtBy", "(II)I"⟩, prog_9_method_7_code, 3, (some .int), { frames := 0, cells := 0, slots := 0, locals := 0 })
def tc_i7_addFault : tc_MI := (⟨"TrackCircuitsModel", "addFault", "(II)V"⟩, prog_9_method_8_code, 3, none, { frames := 1, cells := 0, slots := 0, locals := 22 })
def tc_i7_keepsNow : tc_MI := (⟨"TrackCircuitsModel", "keepsNow", "()V"⟩, prog_9_method_21_code, 2, none, { frames := 0, cells := 0, slots := 0, locals := 0 })
def tc_i7_comes : tc_MI := (⟨"TrackCircuitsModel", "comes", "(I)V"⟩, prog_9_method_16_code, 2, none, { frames := 0, cells := 0, slots := 0, locals := 0 })
def tc_i7_leakOf : tc_MI := (⟨"TrackCircuitsModel", "leakOf", "(I)I"⟩, prog_9_method_4_code, 2, (some .int), { frames := 0, cells := 0, slots := 0, locals := 0 })
def tc_i7_hasFault : tc_MI := (⟨"TrackCircuitsModel", "hasFault", "(II)Z"⟩, prog_9_method_5_code, 4, (some .boolean), { frames := 0, cells := 0, slots := 0, locals := 0 })
def tc_i7_currentOf : tc_MI := (⟨"TrackCircuitsModel", "currentOf", "(I)I"⟩, prog_9_method_6_code, 4, (some .int), { frames := 1, cells := 0, slots := 0, locals := 23 })
def tc_i7_goesPlain : tc_MI := (⟨"TrackCircuitsModel", "goesPlain", "(II)Z"⟩, prog_9_method_11_code, 3, (some .boolean), { frames := 0, cells := 0, slots := 0, locals := 0 })
def tc_i7_goesSlow : tc_MI := (⟨"TrackCircuitsModel", "goesSlow", "(II)Z"⟩, prog_9_method_12_code, 3, (some .boolean), { frames := 1, cells := 0, slots := 0, locals := 22 })
def tc_i7_goesStick : tc_MI := (⟨"TrackCircuitsModel", "goesStick", "(II)Z"⟩, prog_9_method_13_code, 3, (some .boolean), { frames := 1, cells := 0, slots := 0, locals := 22 })
def tc_i7_isUpRight : tc_MI := (⟨"TrackCircuitsModel", "isUpRight", "(I)Z"⟩, prog_9_method_10_code, 2, (some .boolean), { frames := 0, cells := 0, slots := 0, locals := 0 })
def tc_i7_isUpLeft : tc_MI := (⟨"TrackCircuitsModel", "isUpLeft", "(I)Z"⟩, prog_9_method_9_code, 2, (some .boolean), { frames := 0, cells := 0, slots := 0, locals := 0 })
def tc_i7_goesUp : tc_MI := (⟨"TrackCircuitsModel", "goesUp", "(I)Z"⟩, prog_9_method_14_code, 3, (some .boolean), { frames := 2, cells := 0, slots := 0, locals := 46 })
def tc_i7_looksOf : tc_MI := (⟨"TrackCircuitsModel", "looksOf", "(I)I"⟩, prog_9_method_15_code, 1, (some .int), { frames := 0, cells := 0, slots := 0, locals := 0 })
def tc_i7_goes : tc_MI := (⟨"TrackCircuitsModel", "goes", "(Z)I"⟩, prog_9_method_17_code, 5, (some .int), { frames := 3, cells := 0, slots := 0, locals := 68 })
def tc_i7_isTroubled : tc_MI := (⟨"TrackCircuitsModel", "isTroubled", "(I)Z"⟩, prog_9_method_18_code, 2, (some .boolean), { frames := 1, cells := 0, slots := 0, locals := 23 })
def tc_i7_bitsOf : tc_MI := (⟨"TrackCircuitsModel", "bitsOf", "(I)I"⟩, prog_9_method_19_code, 5, (some .int), { frames := 2, cells := 0, slots := 0, locals := 44 })
def tc_i7_laysBack : tc_MI := (⟨"TrackCircuitsModel", "laysBack", "()V"⟩, prog_9_method_22_code, 2, none, { frames := 0, cells := 0, slots := 0, locals := 0 })
def tc_i7_in : tc_MI := (⟨"TrackCircuitsModel", "in", "(III)Z"⟩, prog_9_method_2_code, 3, (some .boolean), { frames := 0, cells := 0, slots := 0, locals := 0 })
def tc_i7_isSection : tc_MI := (⟨"TrackCircuitsModel", "isSection", "(I)Z"⟩, prog_9_method_3_code, 2, (some .boolean), { frames := 1, cells := 0, slots := 0, locals := 22 })
def tc_i7_goTrains : tc_MI := (⟨"TrackCircuitsModel", "goTrains", "()V"⟩, prog_9_method_20_code, 2, none, { frames := 0, cells := 0, slots := 0, locals := 0 })
def tc_i7_adds : tc_MI := (⟨"TrackCircuitsModel", "adds", "(I)V"⟩, prog_9_method_62_code, 2, none, { frames := 0, cells := 0, slots := 0, locals := 0 })
def tc_i7_amiss : tc_MI := (⟨"TrackCircuitsModel", "amiss", "()I"⟩, prog_9_method_52_code, 2, (some .int), { frames := 4, cells := 0, slots := 0, locals := 92 })
def tc_i7_aspect : tc_MI := (⟨"TrackCircuitsModel", "aspect", "(I)I"⟩, prog_9_method_39_code, 2, (some .int), { frames := 2, cells := 0, slots := 0, locals := 43 })
def tc_i7_back : tc_MI := (⟨"TrackCircuitsModel", "back", "()I"⟩, prog_9_method_74_code, 2, (some .int), { frames := 0, cells := 0, slots := 0, locals := 0 })
def tc_i7_isRight : tc_MI := (⟨"TrackCircuitsModel", "isRight", "()Z"⟩, prog_9_method_45_code, 2, (some .boolean), { frames := 4, cells := 0, slots := 0, locals := 92 })
def tc_i7_broken : tc_MI := (⟨"TrackCircuitsModel", "broken", "(I)I"⟩, prog_9_method_43_code, 4, (some .int), { frames := 4, cells := 0, slots := 0, locals := 92 })
def tc_i7_isUnseen : tc_MI := (⟨"TrackCircuitsModel", "isUnseen", "()Z"⟩, prog_9_method_46_code, 2, (some .boolean), { frames := 5, cells := 0, slots := 0, locals := 115 })
def tc_i7_bound : tc_MI := (⟨"TrackCircuitsModel", "bound", "(I)I"⟩, prog_9_method_47_code, 5, (some .int), { frames := 6, cells := 0, slots := 0, locals := 136 })
def tc_i7_drawnBy : tc_MI := (⟨"TrackCircuitsModel", "drawnBy", "(II)I"⟩, prog_9_method_54_code, 5, (some .int), { frames := 4, cells := 0, slots := 0, locals := 92 })
def tc_i7_chance : tc_MI := (⟨"TrackCircuitsModel", "chance", "(IIIII)I"⟩, prog_9_method_56_code, 10, (some .int), { frames := 5, cells := 0, slots := 0, locals := 116 })
def tc_i7_clears : tc_MI := (⟨"TrackCircuitsModel", "clears", "(I)I"⟩, prog_9_method_41_code, 5, (some .int), { frames := 4, cells := 0, slots := 0, locals := 92 })
def tc_i7_isSheet : tc_MI := (⟨"TrackCircuitsModel", "isSheet", "(I)Z"⟩, prog_9_method_57_code, 1, (some .boolean), { frames := 1, cells := 0, slots := 0, locals := 22 })
def tc_i7_copy : tc_MI := (⟨"TrackCircuitsModel", "copy", "(IIIII)I"⟩, prog_9_method_79_code, 7, (some .int), { frames := 2, cells := 0, slots := 0, locals := 42 })
def tc_i7_count : tc_MI := (⟨"TrackCircuitsModel", "count", "(I)I"⟩, prog_9_method_76_code, 4, (some .int), { frames := 3, cells := 0, slots := 0, locals := 68 })
def tc_i7_section : tc_MI := (⟨"TrackCircuitsModel", "section", "(IIII)I"⟩, prog_9_method_23_code, 5, (some .int), { frames := 1, cells := 0, slots := 0, locals := 22 })
def tc_i7_train : tc_MI := (⟨"TrackCircuitsModel", "train", "(II)I"⟩, prog_9_method_30_code, 4, (some .int), { frames := 2, cells := 0, slots := 0, locals := 43 })
def tc_i7_fault : tc_MI := (⟨"TrackCircuitsModel", "fault", "(II)I"⟩, prog_9_method_33_code, 3, (some .int), { frames := 2, cells := 0, slots := 0, locals := 44 })
def tc_i7_mends : tc_MI := (⟨"TrackCircuitsModel", "mends", "(I)I"⟩, prog_9_method_24_code, 4, (some .int), { frames := 0, cells := 0, slots := 0, locals := 0 })
def tc_i7_mend : tc_MI := (⟨"TrackCircuitsModel", "mend", "(I)I"⟩, prog_9_method_35_code, 2, (some .int), { frames := 2, cells := 0, slots := 0, locals := 43 })
def tc_i7_rule : tc_MI := (⟨"TrackCircuitsModel", "rule", "(II)I"⟩, prog_9_method_29_code, 4, (some .int), { frames := 1, cells := 0, slots := 0, locals := 22 })
def tc_i7_moment : tc_MI := (⟨"TrackCircuitsModel", "moment", "()I"⟩, prog_9_method_36_code, 3, (some .int), { frames := 4, cells := 0, slots := 0, locals := 92 })
def tc_i7_drop : tc_MI := (⟨"TrackCircuitsModel", "drop", "()I"⟩, prog_9_method_25_code, 2, (some .int), { frames := 1, cells := 0, slots := 0, locals := 23 })
def tc_i7_does : tc_MI := (⟨"TrackCircuitsModel", "does", "(I)Z"⟩, prog_9_method_70_code, 2, (some .boolean), { frames := 5, cells := 0, slots := 0, locals := 114 })
def tc_i7_drawn : tc_MI := (⟨"TrackCircuitsModel", "drawn", "(II)I"⟩, prog_9_method_55_code, 3, (some .int), { frames := 5, cells := 0, slots := 0, locals := 116 })
def tc_i7_fails : tc_MI := (⟨"TrackCircuitsModel", "fails", "(II)Z"⟩, prog_9_method_48_code, 4, (some .boolean), { frames := 4, cells := 0, slots := 0, locals := 92 })
def tc_i7_failsFrom : tc_MI := (⟨"TrackCircuitsModel", "failsFrom", "(I)I"⟩, prog_9_method_49_code, 4, (some .int), { frames := 5, cells := 0, slots := 0, locals := 115 })
def tc_i7_faultOf : tc_MI := (⟨"TrackCircuitsModel", "faultOf", "(II)I"⟩, prog_9_method_34_code, 3, (some .int), { frames := 1, cells := 0, slots := 0, locals := 22 })
def tc_i7_isByte : tc_MI := (⟨"TrackCircuitsModel", "isByte", "(I)Z"⟩, prog_9_method_61_code, 1, (some .boolean), { frames := 1, cells := 0, slots := 0, locals := 22 })
def tc_i7_feed : tc_MI := (⟨"TrackCircuitsModel", "feed", "(IIIIII)I"⟩, prog_9_method_63_code, 7, (some .int), { frames := 2, cells := 0, slots := 0, locals := 42 })
def tc_i7_film : tc_MI := (⟨"TrackCircuitsModel", "film", "(III)I"⟩, prog_9_method_60_code, 6, (some .int), { frames := 4, cells := 0, slots := 0, locals := 92 })
def tc_i7_fix : tc_MI := (⟨"TrackCircuitsModel", "fix", "()I"⟩, prog_9_method_53_code, 5, (some .int), { frames := 5, cells := 0, slots := 0, locals := 113 })
def tc_i7_force : tc_MI := (⟨"TrackCircuitsModel", "force", "(II)I"⟩, prog_9_method_32_code, 4, (some .int), { frames := 2, cells := 0, slots := 0, locals := 43 })
def tc_i7_image : tc_MI := (⟨"TrackCircuitsModel", "image", "()I"⟩, prog_9_method_73_code, 2, (some .int), { frames := 0, cells := 0, slots := 0, locals := 0 })
def tc_i7_isDigitHere : tc_MI := (⟨"TrackCircuitsModel", "isDigitHere", "()Z"⟩, prog_9_method_68_code, 1, (some .boolean), { frames := 1, cells := 0, slots := 0, locals := 22 })
def tc_i7_isLetterHere : tc_MI := (⟨"TrackCircuitsModel", "isLetterHere", "()Z"⟩, prog_9_method_67_code, 1, (some .boolean), { frames := 1, cells := 0, slots := 0, locals := 22 })
def tc_i7_load : tc_MI := (⟨"TrackCircuitsModel", "load", "(IIII)I"⟩, prog_9_method_75_code, 10, (some .int), { frames := 2, cells := 0, slots := 0, locals := 46 })
def tc_i7_log : tc_MI := (⟨"TrackCircuitsModel", "log", "(I)I"⟩, prog_9_method_37_code, 2, (some .int), { frames := 0, cells := 0, slots := 0, locals := 0 })
def tc_i7_moves : tc_MI := (⟨"TrackCircuitsModel", "moves", "()I"⟩, prog_9_method_31_code, 1, (some .int), { frames := 3, cells := 0, slots := 0, locals := 68 })
def tc_i7_numbersOf : tc_MI := (⟨"TrackCircuitsModel", "numbersOf", "(I)I"⟩, prog_9_method_65_code, 1, (some .int), { frames := 0, cells := 0, slots := 0, locals := 0 })
def tc_i7_of : tc_MI := (⟨"TrackCircuitsModel", "of", "(II)I"⟩, prog_9_method_27_code, 3, (some .int), { frames := 2, cells := 0, slots := 0, locals := 46 })
def tc_i7_order : tc_MI := (⟨"TrackCircuitsModel", "order", "(I)I"⟩, prog_9_method_42_code, 6, (some .int), { frames := 4, cells := 0, slots := 0, locals := 92 })
def tc_i7_otherBy : tc_MI := (⟨"TrackCircuitsModel", "otherBy", "(II)I"⟩, prog_9_method_58_code, 5, (some .int), { frames := 4, cells := 0, slots := 0, locals := 92 })
def tc_i7_pick : tc_MI := (⟨"TrackCircuitsModel", "pick", "(I)I"⟩, prog_9_method_51_code, 5, (some .int), { frames := 6, cells := 0, slots := 0, locals := 138 })
def tc_i7_proof : tc_MI := (⟨"TrackCircuitsModel", "proof", "(I)I"⟩, prog_9_method_50_code, 4, (some .int), { frames := 6, cells := 0, slots := 0, locals := 138 })
def tc_i7_put : tc_MI := (⟨"TrackCircuitsModel", "put", "(III)I"⟩, prog_9_method_78_code, 4, (some .int), { frames := 2, cells := 0, slots := 0, locals := 42 })
def tc_i7_run : tc_MI := (⟨"TrackCircuitsModel", "run", "(II)I"⟩, prog_9_method_40_code, 8, (some .int), { frames := 4, cells := 0, slots := 0, locals := 92 })
def tc_i7_seen : tc_MI := (⟨"TrackCircuitsModel", "seen", "(I)I"⟩, prog_9_method_44_code, 2, (some .int), { frames := 5, cells := 0, slots := 0, locals := 115 })
def tc_i7_set : tc_MI := (⟨"TrackCircuitsModel", "set", "(III)I"⟩, prog_9_method_26_code, 5, (some .int), { frames := 2, cells := 0, slots := 0, locals := 43 })
def tc_i7_sheet : tc_MI := (⟨"TrackCircuitsModel", "sheet", "(III)I"⟩, prog_9_method_77_code, 5, (some .int), { frames := 2, cells := 0, slots := 0, locals := 42 })
def tc_i7_taken : tc_MI := (⟨"TrackCircuitsModel", "taken", "(II)I"⟩, prog_9_method_28_code, 4, (some .int), { frames := 2, cells := 0, slots := 0, locals := 43 })
def tc_i7_tells : tc_MI := (⟨"TrackCircuitsModel", "tells", "(III)I"⟩, prog_9_method_59_code, 7, (some .int), { frames := 5, cells := 0, slots := 0, locals := 116 })
def tc_i7_who : tc_MI := (⟨"TrackCircuitsModel", "who", "(I)I"⟩, prog_9_method_38_code, 2, (some .int), { frames := 3, cells := 0, slots := 0, locals := 68 })
def tc_i4_isSpelt : tc_MI := (⟨"TrackCircuits$Tape", "isSpelt", "(Ljava/lang/String;I)Z"⟩, prog_6_method_10_code, 4, (some .boolean), { frames := 6, cells := 0, slots := 0, locals := 160 })
def tc_i4_spelling : tc_MI := (⟨"TrackCircuits$Tape", "spelling", "(I)Ljava/lang/String;"⟩, prog_6_method_11_code, 1, (some (.object "java/lang/String")), { frames := 0, cells := 0, slots := 0, locals := 0 })
def tc_i4_wordFrom : tc_MI := (⟨"TrackCircuits$Tape", "wordFrom", "(I)I"⟩, prog_6_method_9_code, 3, (some .int), { frames := 7, cells := 0, slots := 0, locals := 183 })
def tc_i4_readClause : tc_MI := (⟨"TrackCircuits$Tape", "readClause", "(I)I"⟩, prog_6_method_5_code, 5, (some .int), { frames := 8, cells := 0, slots := 0, locals := 205 })
def tc_i4_placeOfFault : tc_MI := (⟨"TrackCircuits$Tape", "placeOfFault", "()I"⟩, prog_6_method_4_code, 3, (some .int), { frames := 9, cells := 0, slots := 0, locals := 229 })
def tc_i6_text : tc_MI := (⟨"TrackCircuits", "text", "()I"⟩, prog_1_method_31_code, 4, (some .int), { frames := 10, cells := 0, slots := 0, locals := 251 })
def tc_i7_isWord : tc_MI := (⟨"TrackCircuitsModel", "isWord", "(Ljava/lang/String;)Z"⟩, prog_9_method_66_code, 3, (some .boolean), { frames := 6, cells := 0, slots := 0, locals := 160 })
def tc_i7_word : tc_MI := (⟨"TrackCircuitsModel", "word", "(I)Ljava/lang/String;"⟩, prog_9_method_64_code, 1, (some (.object "java/lang/String")), { frames := 0, cells := 0, slots := 0, locals := 0 })
def tc_i7_next : tc_MI := (⟨"TrackCircuitsModel", "next", "()V"⟩, prog_9_method_69_code, 2, none, { frames := 7, cells := 0, slots := 0, locals := 182 })
def tc_i7_reads : tc_MI := (⟨"TrackCircuitsModel", "reads", "(Z)I"⟩, prog_9_method_71_code, 5, (some .int), { frames := 8, cells := 0, slots := 0, locals := 203 })
def tc_i7_text : tc_MI := (⟨"TrackCircuitsModel", "text", "()I"⟩, prog_9_method_72_code, 2, (some .int), { frames := 9, cells := 0, slots := 0, locals := 227 })
theorem tc_ok6_withBit : tc_OkS tc_i6_withBit 3 := ⟨⟨tc_w320, tc_w57, ⟨by decide, by decide, by decide +kernel⟩, rfl, rfl⟩, tc_w319⟩
theorem tc_ok8_bitCount : tc_OkS tc_i8_bitCount 1 := ⟨⟨tc_w541, tc_w67, ⟨by decide, by decide, by decide +kernel⟩, rfl, rfl⟩, tc_w540⟩
theorem tc_ok6_isWithin : tc_OkS tc_i6_isWithin 3 := ⟨⟨tc_w305, tc_w57, ⟨by decide, by decide, by decide +kernel⟩, rfl, rfl⟩, tc_w304⟩
theorem tc_ok6_isTrait : tc_OkS tc_i6_isTrait 2 := ⟨⟨tc_w302, tc_w57, ⟨by decide, by decide, by decide +kernel⟩, rfl, rfl⟩, tc_w301⟩
theorem tc_ok6_bit : tc_OkS tc_i6_bit 2 := ⟨⟨tc_w371, tc_w57, ⟨by decide, by decide, by decide +kernel⟩, rfl, rfl⟩, tc_w370⟩
theorem tc_ok6_greatestDivisor : tc_OkS tc_i6_greatestDivisor 2 := ⟨⟨tc_w664, tc_w57, ⟨by decide, by decide, by decide +kernel⟩, rfl, rfl⟩, tc_w663⟩
theorem tc_ok6_isByte : tc_OkS tc_i6_isByte 1 := ⟨⟨tc_w709, tc_w57, ⟨by decide, by decide, by decide +kernel⟩, rfl, rfl⟩, tc_w708⟩
theorem tc_ok6_isSort : tc_OkS tc_i6_isSort 1 := ⟨⟨tc_w838, tc_w57, ⟨by decide, by decide, by decide +kernel⟩, rfl, rfl⟩, tc_w837⟩
theorem tc_ok6_isUnder : tc_OkS tc_i6_isUnder 2 := ⟨⟨tc_w385, tc_w57, ⟨by decide, by decide, by decide +kernel⟩, rfl, rfl⟩, tc_w384⟩
theorem tc_ok1_change : tc_OkV tc_i1_change 3 := ⟨⟨tc_w357, tc_w59, ⟨by decide, by decide, by decide +kernel⟩, rfl, rfl⟩, tc_w355, tc_w356⟩
theorem tc_ok1_placesOf : tc_OkV tc_i1_placesOf 1 := ⟨⟨tc_w364, tc_w59, ⟨by decide, by decide, by decide +kernel⟩, rfl, rfl⟩, tc_w362, tc_w363⟩
theorem tc_ok1_add : tc_OkV tc_i1_add 3 := ⟨⟨tc_w428, tc_w59, ⟨by decide, by decide, by decide +kernel⟩, rfl, rfl⟩, tc_w426, tc_w427⟩
theorem tc_ok1_bringTo : tc_OkV tc_i1_bringTo 3 := ⟨⟨tc_w328, tc_w59, ⟨by decide, by decide, by decide +kernel⟩, rfl, rfl⟩, tc_w327, tc_w0⟩
theorem tc_ok1_become : tc_OkV tc_i1_become 1 := ⟨⟨tc_w536, tc_w59, ⟨by decide, by decide, by decide +kernel⟩, rfl, rfl⟩, tc_w534, tc_w535⟩
theorem tc_ok1_remove : tc_OkV tc_i1_remove 1 := ⟨⟨tc_w643, tc_w59, ⟨by decide, by decide, by decide +kernel⟩, rfl, rfl⟩, tc_w641, tc_w642⟩
theorem tc_ok1_removeAt : tc_OkV tc_i1_removeAt 1 := ⟨⟨tc_w324, tc_w59, ⟨by decide, by decide, by decide +kernel⟩, rfl, rfl⟩, tc_w322, tc_w323⟩
theorem tc_ok5_looks : tc_OkV tc_i5_looks 2 := ⟨⟨tc_w484, tc_w58, ⟨by decide, by decide, by decide +kernel⟩, rfl, rfl⟩, tc_w482, tc_w483⟩
theorem tc_ok5_leak : tc_OkV tc_i5_leak 1 := ⟨⟨tc_w344, tc_w58, ⟨by decide, by decide, by decide +kernel⟩, rfl, rfl⟩, tc_w342, tc_w343⟩
theorem tc_ok5_has : tc_OkV tc_i5_has 1 := ⟨⟨tc_w336, tc_w58, ⟨by decide, by decide, by decide +kernel⟩, rfl, rfl⟩, tc_w334, tc_w335⟩
theorem tc_ok5_shunt : tc_OkV tc_i5_shunt 1 := ⟨⟨tc_w368, tc_w58, ⟨by decide, by decide, by decide +kernel⟩, rfl, rfl⟩, tc_w367, tc_w1⟩
theorem tc_ok5_measure : tc_OkV tc_i5_measure 0 := ⟨⟨tc_w348, tc_w58, ⟨by decide, by decide, by decide +kernel⟩, rfl, rfl⟩, tc_w346, tc_w347⟩
theorem tc_ok5_relay : tc_OkV tc_i5_relay 1 := ⟨⟨tc_w470, tc_w58, ⟨by decide, by decide, by decide +kernel⟩, rfl, rfl⟩, tc_w468, tc_w469⟩
theorem tc_ok5_isEnough : tc_OkV tc_i5_isEnough 2 := ⟨⟨tc_w474, tc_w58, ⟨by decide, by decide, by decide +kernel⟩, rfl, rfl⟩, tc_w473, tc_w6⟩
theorem tc_ok5_goesUp : tc_OkV tc_i5_goesUp 1 := ⟨⟨tc_w466, tc_w58, ⟨by decide, by decide, by decide +kernel⟩, rfl, rfl⟩, tc_w464, tc_w465⟩
theorem tc_ok5_countWaits : tc_OkV tc_i5_countWaits 0 := ⟨⟨tc_w489, tc_w58, ⟨by decide, by decide, by decide +kernel⟩, rfl, rfl⟩, tc_w487, tc_w488⟩
theorem tc_ok5_become : tc_OkV tc_i5_become 1 := ⟨⟨tc_w531, tc_w58, ⟨by decide, by decide, by decide +kernel⟩, rfl, rfl⟩, tc_w529, tc_w530⟩
theorem tc_ok5_addFault : tc_OkV tc_i5_addFault 2 := ⟨⟨tc_w424, tc_w58, ⟨by decide, by decide, by decide +kernel⟩, rfl, rfl⟩, tc_w422, tc_w423⟩
theorem tc_ok5_troubled : tc_OkV tc_i5_troubled 0 := ⟨⟨tc_w509, tc_w58, ⟨by decide, by decide, by decide +kernel⟩, rfl, rfl⟩, tc_w508, tc_w8⟩
theorem tc_ok5_unsafe : tc_OkV tc_i5_unsafe 0 := ⟨⟨tc_w505, tc_w58, ⟨by decide, by decide, by decide +kernel⟩, rfl, rfl⟩, tc_w503, tc_w504⟩
theorem tc_ok5_all : tc_OkV tc_i5_all 0 := ⟨⟨tc_w412, tc_w58, ⟨by decide, by decide, by decide +kernel⟩, rfl, rfl⟩, tc_w411, tc_w2⟩
theorem tc_ok5_wrong : tc_OkV tc_i5_wrong 0 := ⟨⟨tc_w513, tc_w58, ⟨by decide, by decide, by decide +kernel⟩, rfl, rfl⟩, tc_w511, tc_w512⟩
theorem tc_ok5_moveTrains : tc_OkV tc_i5_moveTrains 0 := ⟨⟨tc_w408, tc_w58, ⟨by decide, by decide, by decide +kernel⟩, rfl, rfl⟩, tc_w406, tc_w407⟩
theorem tc_ok5_addSection : tc_OkV tc_i5_addSection 4 := ⟨⟨tc_w309, tc_w58, ⟨by decide, by decide, by decide +kernel⟩, rfl, rfl⟩, tc_w307, tc_w308⟩
theorem tc_ok5_allCurrents : tc_OkV tc_i5_allCurrents 0 := ⟨⟨tc_w853, tc_w58, ⟨by decide, by decide, by decide +kernel⟩, rfl, rfl⟩, tc_w851, tc_w852⟩
theorem tc_ok5_lay : tc_OkV tc_i5_lay 3 := ⟨⟨tc_w377, tc_w58, ⟨by decide, by decide, by decide +kernel⟩, rfl, rfl⟩, tc_w375, tc_w376⟩
theorem tc_ok5_layRule : tc_OkV tc_i5_layRule 2 := ⟨⟨tc_w395, tc_w58, ⟨by decide, by decide, by decide +kernel⟩, rfl, rfl⟩, tc_w393, tc_w394⟩
theorem tc_ok5_removeLast : tc_OkV tc_i5_removeLast 0 := ⟨⟨tc_w317, tc_w58, ⟨by decide, by decide, by decide +kernel⟩, rfl, rfl⟩, tc_w315, tc_w316⟩
theorem tc_ok0_enter : tc_OkV tc_i0_enter 1 := ⟨⟨tc_w458, tc_w60, ⟨by decide, by decide, by decide +kernel⟩, rfl, rfl⟩, tc_w457, tc_w4⟩
theorem tc_ok0_enterAll : tc_OkV tc_i0_enterAll 2 := ⟨⟨tc_w454, tc_w60, ⟨by decide, by decide, by decide +kernel⟩, rfl, rfl⟩, tc_w453, tc_w3⟩
theorem tc_ok0_enterBeside : tc_OkV tc_i0_enterBeside 2 := ⟨⟨tc_w480, tc_w60, ⟨by decide, by decide, by decide +kernel⟩, rfl, rfl⟩, tc_w479, tc_w7⟩
theorem tc_ok0_takeFirst : tc_OkV tc_i0_takeFirst 0 := ⟨⟨tc_w462, tc_w60, ⟨by decide, by decide, by decide +kernel⟩, rfl, rfl⟩, tc_w461, tc_w5⟩
theorem tc_ok0_settles : tc_OkV tc_i0_settles 2 := ⟨⟨tc_w449, tc_w60, ⟨by decide, by decide, by decide +kernel⟩, rfl, rfl⟩, tc_w447, tc_w448⟩
theorem tc_ok0_passes : tc_OkV tc_i0_passes 1 := ⟨⟨tc_w445, tc_w60, ⟨by decide, by decide, by decide +kernel⟩, rfl, rfl⟩, tc_w443, tc_w444⟩
theorem tc_ok3_item : tc_OkV tc_i3_item 2 := ⟨⟨tc_w686, tc_w63, ⟨by decide, by decide, by decide +kernel⟩, rfl, rfl⟩, tc_w684, tc_w685⟩
theorem tc_ok3_become : tc_OkV tc_i3_become 3 := ⟨⟨tc_w698, tc_w63, ⟨by decide, by decide, by decide +kernel⟩, rfl, rfl⟩, tc_w696, tc_w697⟩
theorem tc_ok3_bring : tc_OkV tc_i3_bring 5 := ⟨⟨tc_w870, tc_w63, ⟨by decide, by decide, by decide +kernel⟩, rfl, rfl⟩, tc_w868, tc_w869⟩
theorem tc_ok3_has : tc_OkV tc_i3_has 1 := ⟨⟨tc_w673, tc_w63, ⟨by decide, by decide, by decide +kernel⟩, rfl, rfl⟩, tc_w671, tc_w672⟩
theorem tc_ok3_holds : tc_OkV tc_i3_holds 3 := ⟨⟨tc_w843, tc_w63, ⟨by decide, by decide, by decide +kernel⟩, rfl, rfl⟩, tc_w841, tc_w842⟩
theorem tc_ok3_isMissing : tc_OkV tc_i3_isMissing 1 := ⟨⟨tc_w678, tc_w63, ⟨by decide, by decide, by decide +kernel⟩, rfl, rfl⟩, tc_w676, tc_w677⟩
theorem tc_ok3_lay : tc_OkV tc_i3_lay 3 := ⟨⟨tc_w702, tc_w63, ⟨by decide, by decide, by decide +kernel⟩, rfl, rfl⟩, tc_w700, tc_w701⟩
theorem tc_ok4_add : tc_OkV tc_i4_add 1 := ⟨⟨tc_w713, tc_w62, ⟨by decide, by decide, by decide +kernel⟩, rfl, rfl⟩, tc_w711, tc_w712⟩
theorem tc_ok4_number : tc_OkV tc_i4_number 2 := ⟨⟨tc_w814, tc_w62, ⟨by decide, by decide, by decide +kernel⟩, rfl, rfl⟩, tc_w812, tc_w813⟩
theorem tc_ok4_numberFrom : tc_OkV tc_i4_numberFrom 1 := ⟨⟨tc_w806, tc_w62, ⟨by decide, by decide, by decide +kernel⟩, rfl, rfl⟩, tc_w805, tc_w19⟩
theorem tc_ok4_skipBlanks : tc_OkV tc_i4_skipBlanks 0 := ⟨⟨tc_w729, tc_w62, ⟨by decide, by decide, by decide +kernel⟩, rfl, rfl⟩, tc_w728, tc_w15⟩
theorem tc_ok4_skipAll : tc_OkV tc_i4_skipAll 2 := ⟨⟨tc_w733, tc_w62, ⟨by decide, by decide, by decide +kernel⟩, rfl, rfl⟩, tc_w732, tc_w16⟩
theorem tc_ok2_clearing : tc_OkV tc_i2_clearing 1 := ⟨⟨tc_w553, tc_w61, ⟨by decide, by decide, by decide +kernel⟩, rfl, rfl⟩, tc_w551, tc_w552⟩
theorem tc_ok2_layCaseFault : tc_OkV tc_i2_layCaseFault 2 := ⟨⟨tc_w605, tc_w61, ⟨by decide, by decide, by decide +kernel⟩, rfl, rfl⟩, tc_w604, tc_w11⟩
theorem tc_ok2_failsWithTrain : tc_OkV tc_i2_failsWithTrain 1 := ⟨⟨tc_w609, tc_w61, ⟨by decide, by decide, by decide +kernel⟩, rfl, rfl⟩, tc_w608, tc_w12⟩
theorem tc_ok2_failingCases : tc_OkV tc_i2_failingCases 0 := ⟨⟨tc_w601, tc_w61, ⟨by decide, by decide, by decide +kernel⟩, rfl, rfl⟩, tc_w599, tc_w600⟩
theorem tc_ok2_troubleWithout : tc_OkV tc_i2_troubleWithout 1 := ⟨⟨tc_w639, tc_w61, ⟨by decide, by decide, by decide +kernel⟩, rfl, rfl⟩, tc_w638, tc_w13⟩
theorem tc_ok2_faultToMend : tc_OkV tc_i2_faultToMend 0 := ⟨⟨tc_w635, tc_w61, ⟨by decide, by decide, by decide +kernel⟩, rfl, rfl⟩, tc_w633, tc_w634⟩
theorem tc_ok2_firstFailingCase : tc_OkV tc_i2_firstFailingCase 1 := ⟨⟨tc_w614, tc_w61, ⟨by decide, by decide, by decide +kernel⟩, rfl, rfl⟩, tc_w612, tc_w613⟩
theorem tc_ok2_firstOtherwise : tc_OkV tc_i2_firstOtherwise 4 := ⟨⟨tc_w682, tc_w61, ⟨by decide, by decide, by decide +kernel⟩, rfl, rfl⟩, tc_w680, tc_w681⟩
theorem tc_ok2_fromLast : tc_OkV tc_i2_fromLast 1 := ⟨⟨tc_w562, tc_w61, ⟨by decide, by decide, by decide +kernel⟩, rfl, rfl⟩, tc_w560, tc_w561⟩
theorem tc_ok2_isFair : tc_OkV tc_i2_isFair 2 := ⟨⟨tc_w588, tc_w61, ⟨by decide, by decide, by decide +kernel⟩, rfl, rfl⟩, tc_w587, tc_w10⟩
theorem tc_ok2_greatestFairPick : tc_OkV tc_i2_greatestFairPick 0 := ⟨⟨tc_w627, tc_w61, ⟨by decide, by decide, by decide +kernel⟩, rfl, rfl⟩, tc_w625, tc_w626⟩
theorem tc_ok2_greatestFairWeather : tc_OkV tc_i2_greatestFairWeather 0 := ⟨⟨tc_w584, tc_w61, ⟨by decide, by decide, by decide +kernel⟩, rfl, rfl⟩, tc_w582, tc_w583⟩
theorem tc_ok2_settlesWithBreak : tc_OkV tc_i2_settlesWithBreak 2 := ⟨⟨tc_w575, tc_w61, ⟨by decide, by decide, by decide +kernel⟩, rfl, rfl⟩, tc_w574, tc_w9⟩
theorem tc_ok2_leastBlindWeather : tc_OkV tc_i2_leastBlindWeather 0 := ⟨⟨tc_w593, tc_w61, ⟨by decide, by decide, by decide +kernel⟩, rfl, rfl⟩, tc_w591, tc_w592⟩
theorem tc_ok2_leastSafePick : tc_OkV tc_i2_leastSafePick 0 := ⟨⟨tc_w622, tc_w61, ⟨by decide, by decide, by decide +kernel⟩, rfl, rfl⟩, tc_w620, tc_w621⟩
theorem tc_ok2_unsafeByLot : tc_OkV tc_i2_unsafeByLot 2 := ⟨⟨tc_w651, tc_w61, ⟨by decide, by decide, by decide +kernel⟩, rfl, rfl⟩, tc_w649, tc_w650⟩
theorem tc_ok2_lotsWith : tc_OkV tc_i2_lotsWith 4 := ⟨⟨tc_w660, tc_w61, ⟨by decide, by decide, by decide +kernel⟩, rfl, rfl⟩, tc_w658, tc_w659⟩
theorem tc_ok2_pictures : tc_OkV tc_i2_pictures 2 := ⟨⟨tc_w694, tc_w61, ⟨by decide, by decide, by decide +kernel⟩, rfl, rfl⟩, tc_w692, tc_w693⟩
theorem tc_ok2_ran : tc_OkV tc_i2_ran 2 := ⟨⟨tc_w527, tc_w61, ⟨by decide, by decide, by decide +kernel⟩, rfl, rfl⟩, tc_w525, tc_w526⟩
theorem tc_ok2_seesBreak : tc_OkV tc_i2_seesBreak 1 := ⟨⟨tc_w571, tc_w61, ⟨by decide, by decide, by decide +kernel⟩, rfl, rfl⟩, tc_w569, tc_w570⟩
theorem tc_ok6_section : tc_OkV tc_i6_section 4 := ⟨⟨tc_w299, tc_w57, ⟨by decide, by decide, by decide +kernel⟩, rfl, rfl⟩, tc_w297, tc_w298⟩
theorem tc_ok6_train : tc_OkV tc_i6_train 2 := ⟨⟨tc_w399, tc_w57, ⟨by decide, by decide, by decide +kernel⟩, rfl, rfl⟩, tc_w397, tc_w398⟩
theorem tc_ok6_fault : tc_OkV tc_i6_fault 2 := ⟨⟨tc_w420, tc_w57, ⟨by decide, by decide, by decide +kernel⟩, rfl, rfl⟩, tc_w418, tc_w419⟩
theorem tc_ok6_mend : tc_OkV tc_i6_mend 1 := ⟨⟨tc_w436, tc_w57, ⟨by decide, by decide, by decide +kernel⟩, rfl, rfl⟩, tc_w434, tc_w435⟩
theorem tc_ok6_rule : tc_OkV tc_i6_rule 2 := ⟨⟨tc_w391, tc_w57, ⟨by decide, by decide, by decide +kernel⟩, rfl, rfl⟩, tc_w389, tc_w390⟩
theorem tc_ok6_moment : tc_OkV tc_i6_moment 0 := ⟨⟨tc_w441, tc_w57, ⟨by decide, by decide, by decide +kernel⟩, rfl, rfl⟩, tc_w439, tc_w440⟩
theorem tc_ok6_drop : tc_OkV tc_i6_drop 0 := ⟨⟨tc_w313, tc_w57, ⟨by decide, by decide, by decide +kernel⟩, rfl, rfl⟩, tc_w311, tc_w312⟩
theorem tc_ok6_answerOfClause : tc_OkV tc_i6_answerOfClause 1 := ⟨⟨tc_w810, tc_w57, ⟨by decide, by decide, by decide +kernel⟩, rfl, rfl⟩, tc_w809, tc_w20⟩
theorem tc_ok6_aspect : tc_OkV tc_i6_aspect 1 := ⟨⟨tc_w518, tc_w57, ⟨by decide, by decide, by decide +kernel⟩, rfl, rfl⟩, tc_w516, tc_w517⟩
theorem tc_ok6_back : tc_OkV tc_i6_back 0 := ⟨⟨tc_w831, tc_w57, ⟨by decide, by decide, by decide +kernel⟩, rfl, rfl⟩, tc_w829, tc_w830⟩
theorem tc_ok6_bound : tc_OkV tc_i6_bound 1 := ⟨⟨tc_w580, tc_w57, ⟨by decide, by decide, by decide +kernel⟩, rfl, rfl⟩, tc_w578, tc_w579⟩
theorem tc_ok6_chance : tc_OkV tc_i6_chance 5 := ⟨⟨tc_w656, tc_w57, ⟨by decide, by decide, by decide +kernel⟩, rfl, rfl⟩, tc_w654, tc_w655⟩
theorem tc_ok6_clears : tc_OkV tc_i6_clears 1 := ⟨⟨tc_w549, tc_w57, ⟨by decide, by decide, by decide +kernel⟩, rfl, rfl⟩, tc_w547, tc_w548⟩
theorem tc_ok6_copy : tc_OkV tc_i6_copy 5 := ⟨⟨tc_w866, tc_w57, ⟨by decide, by decide, by decide +kernel⟩, rfl, rfl⟩, tc_w864, tc_w865⟩
theorem tc_ok6_count : tc_OkV tc_i6_count 1 := ⟨⟨tc_w848, tc_w57, ⟨by decide, by decide, by decide +kernel⟩, rfl, rfl⟩, tc_w846, tc_w847⟩
theorem tc_ok6_drawn : tc_OkV tc_i6_drawn 2 := ⟨⟨tc_w647, tc_w57, ⟨by decide, by decide, by decide +kernel⟩, rfl, rfl⟩, tc_w645, tc_w646⟩
theorem tc_ok6_faultOf : tc_OkV tc_i6_faultOf 2 := ⟨⟨tc_w432, tc_w57, ⟨by decide, by decide, by decide +kernel⟩, rfl, rfl⟩, tc_w430, tc_w431⟩
theorem tc_ok6_feed : tc_OkV tc_i6_feed 6 := ⟨⟨tc_w706, tc_w57, ⟨by decide, by decide, by decide +kernel⟩, rfl, rfl⟩, tc_w704, tc_w705⟩
theorem tc_ok6_film : tc_OkV tc_i6_film 3 := ⟨⟨tc_w690, tc_w57, ⟨by decide, by decide, by decide +kernel⟩, rfl, rfl⟩, tc_w688, tc_w689⟩
theorem tc_ok6_fix : tc_OkV tc_i6_fix 0 := ⟨⟨tc_w631, tc_w57, ⟨by decide, by decide, by decide +kernel⟩, rfl, rfl⟩, tc_w629, tc_w630⟩
theorem tc_ok6_force : tc_OkV tc_i6_force 2 := ⟨⟨tc_w416, tc_w57, ⟨by decide, by decide, by decide +kernel⟩, rfl, rfl⟩, tc_w414, tc_w415⟩
theorem tc_ok6_image : tc_OkV tc_i6_image 0 := ⟨⟨tc_w826, tc_w57, ⟨by decide, by decide, by decide +kernel⟩, rfl, rfl⟩, tc_w824, tc_w825⟩
theorem tc_ok6_load : tc_OkV tc_i6_load 4 := ⟨⟨tc_w835, tc_w57, ⟨by decide, by decide, by decide +kernel⟩, rfl, rfl⟩, tc_w833, tc_w834⟩
theorem tc_ok6_log : tc_OkV tc_i6_log 1 := ⟨⟨tc_w497, tc_w57, ⟨by decide, by decide, by decide +kernel⟩, rfl, rfl⟩, tc_w495, tc_w496⟩
theorem tc_ok6_moves : tc_OkV tc_i6_moves 0 := ⟨⟨tc_w404, tc_w57, ⟨by decide, by decide, by decide +kernel⟩, rfl, rfl⟩, tc_w402, tc_w403⟩
theorem tc_ok6_of : tc_OkV tc_i6_of 2 := ⟨⟨tc_w340, tc_w57, ⟨by decide, by decide, by decide +kernel⟩, rfl, rfl⟩, tc_w338, tc_w339⟩
theorem tc_ok6_order : tc_OkV tc_i6_order 1 := ⟨⟨tc_w558, tc_w57, ⟨by decide, by decide, by decide +kernel⟩, rfl, rfl⟩, tc_w556, tc_w557⟩
theorem tc_ok6_pick : tc_OkV tc_i6_pick 1 := ⟨⟨tc_w618, tc_w57, ⟨by decide, by decide, by decide +kernel⟩, rfl, rfl⟩, tc_w616, tc_w617⟩
theorem tc_ok6_proof : tc_OkV tc_i6_proof 1 := ⟨⟨tc_w597, tc_w57, ⟨by decide, by decide, by decide +kernel⟩, rfl, rfl⟩, tc_w595, tc_w596⟩
theorem tc_ok6_put : tc_OkV tc_i6_put 3 := ⟨⟨tc_w862, tc_w57, ⟨by decide, by decide, by decide +kernel⟩, rfl, rfl⟩, tc_w860, tc_w861⟩
theorem tc_ok6_run : tc_OkV tc_i6_run 2 := ⟨⟨tc_w523, tc_w57, ⟨by decide, by decide, by decide +kernel⟩, rfl, rfl⟩, tc_w521, tc_w522⟩
theorem tc_ok6_seen : tc_OkV tc_i6_seen 1 := ⟨⟨tc_w567, tc_w57, ⟨by decide, by decide, by decide +kernel⟩, rfl, rfl⟩, tc_w565, tc_w566⟩
theorem tc_ok6_set : tc_OkV tc_i6_set 3 := ⟨⟨tc_w332, tc_w57, ⟨by decide, by decide, by decide +kernel⟩, rfl, rfl⟩, tc_w330, tc_w331⟩
theorem tc_ok6_sheet : tc_OkV tc_i6_sheet 3 := ⟨⟨tc_w858, tc_w57, ⟨by decide, by decide, by decide +kernel⟩, rfl, rfl⟩, tc_w856, tc_w857⟩
theorem tc_ok6_taken : tc_OkV tc_i6_taken 2 := ⟨⟨tc_w382, tc_w57, ⟨by decide, by decide, by decide +kernel⟩, rfl, rfl⟩, tc_w380, tc_w381⟩
theorem tc_ok6_tells : tc_OkV tc_i6_tells 3 := ⟨⟨tc_w669, tc_w57, ⟨by decide, by decide, by decide +kernel⟩, rfl, rfl⟩, tc_w667, tc_w668⟩
theorem tc_ok6_who : tc_OkV tc_i6_who 1 := ⟨⟨tc_w501, tc_w57, ⟨by decide, by decide, by decide +kernel⟩, rfl, rfl⟩, tc_w499, tc_w500⟩
theorem tc_ok7_caughtBy : tc_OkV tc_i7_caughtBy 2 := ⟨⟨tc_w1084, tc_w64, ⟨by decide, by decide, by decide +kernel⟩, rfl, rfl⟩, tc_w1083, tc_w30⟩
theorem tc_ok7_addFault : tc_OkV tc_i7_addFault 2 := ⟨⟨tc_w1080, tc_w64, ⟨by decide, by decide, by decide +kernel⟩, rfl, rfl⟩, tc_w1079, tc_w29⟩
theorem tc_ok7_keepsNow : tc_OkV tc_i7_keepsNow 0 := ⟨⟨tc_w1148, tc_w64, ⟨by decide, by decide, by decide +kernel⟩, rfl, rfl⟩, tc_w1147, tc_w39⟩
theorem tc_ok7_comes : tc_OkV tc_i7_comes 1 := ⟨⟨tc_w1104, tc_w64, ⟨by decide, by decide, by decide +kernel⟩, rfl, rfl⟩, tc_w1103, tc_w32⟩
theorem tc_ok7_leakOf : tc_OkV tc_i7_leakOf 1 := ⟨⟨tc_w1027, tc_w64, ⟨by decide, by decide, by decide +kernel⟩, rfl, rfl⟩, tc_w1026, tc_w23⟩
theorem tc_ok7_hasFault : tc_OkV tc_i7_hasFault 2 := ⟨⟨tc_w1037, tc_w64, ⟨by decide, by decide, by decide +kernel⟩, rfl, rfl⟩, tc_w1036, tc_w25⟩
theorem tc_ok7_currentOf : tc_OkV tc_i7_currentOf 1 := ⟨⟨tc_w1031, tc_w64, ⟨by decide, by decide, by decide +kernel⟩, rfl, rfl⟩, tc_w1030, tc_w24⟩
theorem tc_ok7_goesPlain : tc_OkV tc_i7_goesPlain 2 := ⟨⟨tc_w1112, tc_w64, ⟨by decide, by decide, by decide +kernel⟩, rfl, rfl⟩, tc_w1111, tc_w34⟩
theorem tc_ok7_goesSlow : tc_OkV tc_i7_goesSlow 2 := ⟨⟨tc_w1116, tc_w64, ⟨by decide, by decide, by decide +kernel⟩, rfl, rfl⟩, tc_w1115, tc_w35⟩
theorem tc_ok7_goesStick : tc_OkV tc_i7_goesStick 2 := ⟨⟨tc_w1120, tc_w64, ⟨by decide, by decide, by decide +kernel⟩, rfl, rfl⟩, tc_w1119, tc_w36⟩
theorem tc_ok7_isUpRight : tc_OkV tc_i7_isUpRight 1 := ⟨⟨tc_w1124, tc_w64, ⟨by decide, by decide, by decide +kernel⟩, rfl, rfl⟩, tc_w1123, tc_w37⟩
theorem tc_ok7_isUpLeft : tc_OkV tc_i7_isUpLeft 1 := ⟨⟨tc_w1128, tc_w64, ⟨by decide, by decide, by decide +kernel⟩, rfl, rfl⟩, tc_w1127, tc_w38⟩
theorem tc_ok7_goesUp : tc_OkV tc_i7_goesUp 1 := ⟨⟨tc_w1108, tc_w64, ⟨by decide, by decide, by decide +kernel⟩, rfl, rfl⟩, tc_w1107, tc_w33⟩
theorem tc_ok7_looksOf : tc_OkS tc_i7_looksOf 1 := ⟨⟨tc_w1040, tc_w64, ⟨by decide, by decide, by decide +kernel⟩, rfl, rfl⟩, tc_w1039⟩
theorem tc_ok7_goes : tc_OkV tc_i7_goes 1 := ⟨⟨tc_w1100, tc_w64, ⟨by decide, by decide, by decide +kernel⟩, rfl, rfl⟩, tc_w1099, tc_w31⟩
theorem tc_ok7_isTroubled : tc_OkV tc_i7_isTroubled 1 := ⟨⟨tc_w1068, tc_w64, ⟨by decide, by decide, by decide +kernel⟩, rfl, rfl⟩, tc_w1067, tc_w28⟩
theorem tc_ok7_bitsOf : tc_OkV tc_i7_bitsOf 1 := ⟨⟨tc_w1064, tc_w64, ⟨by decide, by decide, by decide +kernel⟩, rfl, rfl⟩, tc_w1063, tc_w27⟩
theorem tc_ok7_laysBack : tc_OkV tc_i7_laysBack 0 := ⟨⟨tc_w1153, tc_w64, ⟨by decide, by decide, by decide +kernel⟩, rfl, rfl⟩, tc_w1152, tc_w40⟩
theorem tc_ok7_in : tc_OkS tc_i7_in 3 := ⟨⟨tc_w1003, tc_w64, ⟨by decide, by decide, by decide +kernel⟩, rfl, rfl⟩, tc_w1002⟩
theorem tc_ok7_isSection : tc_OkV tc_i7_isSection 1 := ⟨⟨tc_w1019, tc_w64, ⟨by decide, by decide, by decide +kernel⟩, rfl, rfl⟩, tc_w1018, tc_w22⟩
theorem tc_ok7_goTrains : tc_OkV tc_i7_goTrains 0 := ⟨⟨tc_w1060, tc_w64, ⟨by decide, by decide, by decide +kernel⟩, rfl, rfl⟩, tc_w1059, tc_w26⟩
theorem tc_ok7_adds : tc_OkV tc_i7_adds 1 := ⟨⟨tc_w1244, tc_w64, ⟨by decide, by decide, by decide +kernel⟩, rfl, rfl⟩, tc_w1243, tc_w49⟩
theorem tc_ok7_amiss : tc_OkV tc_i7_amiss 0 := ⟨⟨tc_w1205, tc_w64, ⟨by decide, by decide, by decide +kernel⟩, rfl, rfl⟩, tc_w1204, tc_w46⟩
theorem tc_ok7_aspect : tc_OkV tc_i7_aspect 1 := ⟨⟨tc_w1140, tc_w64, ⟨by decide, by decide, by decide +kernel⟩, rfl, rfl⟩, tc_w1138, tc_w1139⟩
theorem tc_ok7_back : tc_OkV tc_i7_back 0 := ⟨⟨tc_w1303, tc_w64, ⟨by decide, by decide, by decide +kernel⟩, rfl, rfl⟩, tc_w1301, tc_w1302⟩
theorem tc_ok7_isRight : tc_OkV tc_i7_isRight 0 := ⟨⟨tc_w1177, tc_w64, ⟨by decide, by decide, by decide +kernel⟩, rfl, rfl⟩, tc_w1176, tc_w42⟩
theorem tc_ok7_broken : tc_OkV tc_i7_broken 1 := ⟨⟨tc_w1169, tc_w64, ⟨by decide, by decide, by decide +kernel⟩, rfl, rfl⟩, tc_w1168, tc_w41⟩
theorem tc_ok7_isUnseen : tc_OkV tc_i7_isUnseen 0 := ⟨⟨tc_w1181, tc_w64, ⟨by decide, by decide, by decide +kernel⟩, rfl, rfl⟩, tc_w1180, tc_w43⟩
theorem tc_ok7_bound : tc_OkV tc_i7_bound 1 := ⟨⟨tc_w1173, tc_w64, ⟨by decide, by decide, by decide +kernel⟩, rfl, rfl⟩, tc_w1171, tc_w1172⟩
theorem tc_ok7_drawnBy : tc_OkV tc_i7_drawnBy 2 := ⟨⟨tc_w1213, tc_w64, ⟨by decide, by decide, by decide +kernel⟩, rfl, rfl⟩, tc_w1212, tc_w47⟩
theorem tc_ok7_chance : tc_OkV tc_i7_chance 5 := ⟨⟨tc_w1218, tc_w64, ⟨by decide, by decide, by decide +kernel⟩, rfl, rfl⟩, tc_w1216, tc_w1217⟩
theorem tc_ok7_clears : tc_OkV tc_i7_clears 1 := ⟨⟨tc_w1157, tc_w64, ⟨by decide, by decide, by decide +kernel⟩, rfl, rfl⟩, tc_w1155, tc_w1156⟩
theorem tc_ok7_isSheet : tc_OkS tc_i7_isSheet 1 := ⟨⟨tc_w1225, tc_w64, ⟨by decide, by decide, by decide +kernel⟩, rfl, rfl⟩, tc_w1224⟩
theorem tc_ok7_copy : tc_OkV tc_i7_copy 5 := ⟨⟨tc_w1325, tc_w64, ⟨by decide, by decide, by decide +kernel⟩, rfl, rfl⟩, tc_w1323, tc_w1324⟩
theorem tc_ok7_count : tc_OkV tc_i7_count 1 := ⟨⟨tc_w1313, tc_w64, ⟨by decide, by decide, by decide +kernel⟩, rfl, rfl⟩, tc_w1311, tc_w1312⟩
theorem tc_ok7_section : tc_OkV tc_i7_section 4 := ⟨⟨tc_w1000, tc_w64, ⟨by decide, by decide, by decide +kernel⟩, rfl, rfl⟩, tc_w998, tc_w999⟩
theorem tc_ok7_train : tc_OkV tc_i7_train 2 := ⟨⟨tc_w1052, tc_w64, ⟨by decide, by decide, by decide +kernel⟩, rfl, rfl⟩, tc_w1050, tc_w1051⟩
theorem tc_ok7_fault : tc_OkV tc_i7_fault 2 := ⟨⟨tc_w1076, tc_w64, ⟨by decide, by decide, by decide +kernel⟩, rfl, rfl⟩, tc_w1074, tc_w1075⟩
theorem tc_ok7_mends : tc_OkV tc_i7_mends 1 := ⟨⟨tc_w1011, tc_w64, ⟨by decide, by decide, by decide +kernel⟩, rfl, rfl⟩, tc_w1010, tc_w21⟩
theorem tc_ok7_mend : tc_OkV tc_i7_mend 1 := ⟨⟨tc_w1092, tc_w64, ⟨by decide, by decide, by decide +kernel⟩, rfl, rfl⟩, tc_w1090, tc_w1091⟩
theorem tc_ok7_rule : tc_OkV tc_i7_rule 2 := ⟨⟨tc_w1048, tc_w64, ⟨by decide, by decide, by decide +kernel⟩, rfl, rfl⟩, tc_w1046, tc_w1047⟩
theorem tc_ok7_moment : tc_OkV tc_i7_moment 0 := ⟨⟨tc_w1096, tc_w64, ⟨by decide, by decide, by decide +kernel⟩, rfl, rfl⟩, tc_w1094, tc_w1095⟩
theorem tc_ok7_drop : tc_OkV tc_i7_drop 0 := ⟨⟨tc_w1007, tc_w64, ⟨by decide, by decide, by decide +kernel⟩, rfl, rfl⟩, tc_w1005, tc_w1006⟩
theorem tc_ok7_does : tc_OkV tc_i7_does 1 := ⟨⟨tc_w1288, tc_w64, ⟨by decide, by decide, by decide +kernel⟩, rfl, rfl⟩, tc_w1287, tc_w55⟩
theorem tc_ok7_drawn : tc_OkV tc_i7_drawn 2 := ⟨⟨tc_w1209, tc_w64, ⟨by decide, by decide, by decide +kernel⟩, rfl, rfl⟩, tc_w1207, tc_w1208⟩
theorem tc_ok7_fails : tc_OkV tc_i7_fails 2 := ⟨⟨tc_w1193, tc_w64, ⟨by decide, by decide, by decide +kernel⟩, rfl, rfl⟩, tc_w1192, tc_w45⟩
theorem tc_ok7_failsFrom : tc_OkV tc_i7_failsFrom 1 := ⟨⟨tc_w1189, tc_w64, ⟨by decide, by decide, by decide +kernel⟩, rfl, rfl⟩, tc_w1188, tc_w44⟩
theorem tc_ok7_faultOf : tc_OkV tc_i7_faultOf 2 := ⟨⟨tc_w1088, tc_w64, ⟨by decide, by decide, by decide +kernel⟩, rfl, rfl⟩, tc_w1086, tc_w1087⟩
theorem tc_ok7_isByte : tc_OkS tc_i7_isByte 1 := ⟨⟨tc_w1240, tc_w64, ⟨by decide, by decide, by decide +kernel⟩, rfl, rfl⟩, tc_w1239⟩
theorem tc_ok7_feed : tc_OkV tc_i7_feed 6 := ⟨⟨tc_w1237, tc_w64, ⟨by decide, by decide, by decide +kernel⟩, rfl, rfl⟩, tc_w1235, tc_w1236⟩
theorem tc_ok7_film : tc_OkV tc_i7_film 3 := ⟨⟨tc_w1233, tc_w64, ⟨by decide, by decide, by decide +kernel⟩, rfl, rfl⟩, tc_w1231, tc_w1232⟩
theorem tc_ok7_fix : tc_OkV tc_i7_fix 0 := ⟨⟨tc_w1201, tc_w64, ⟨by decide, by decide, by decide +kernel⟩, rfl, rfl⟩, tc_w1199, tc_w1200⟩
theorem tc_ok7_force : tc_OkV tc_i7_force 2 := ⟨⟨tc_w1072, tc_w64, ⟨by decide, by decide, by decide +kernel⟩, rfl, rfl⟩, tc_w1070, tc_w1071⟩
theorem tc_ok7_image : tc_OkV tc_i7_image 0 := ⟨⟨tc_w1299, tc_w64, ⟨by decide, by decide, by decide +kernel⟩, rfl, rfl⟩, tc_w1297, tc_w1298⟩
theorem tc_ok7_isDigitHere : tc_OkV tc_i7_isDigitHere 0 := ⟨⟨tc_w1281, tc_w64, ⟨by decide, by decide, by decide +kernel⟩, rfl, rfl⟩, tc_w1280, tc_w54⟩
theorem tc_ok7_isLetterHere : tc_OkV tc_i7_isLetterHere 0 := ⟨⟨tc_w1260, tc_w64, ⟨by decide, by decide, by decide +kernel⟩, rfl, rfl⟩, tc_w1259, tc_w52⟩
theorem tc_ok7_load : tc_OkV tc_i7_load 4 := ⟨⟨tc_w1307, tc_w64, ⟨by decide, by decide, by decide +kernel⟩, rfl, rfl⟩, tc_w1305, tc_w1306⟩
theorem tc_ok7_log : tc_OkV tc_i7_log 1 := ⟨⟨tc_w1132, tc_w64, ⟨by decide, by decide, by decide +kernel⟩, rfl, rfl⟩, tc_w1130, tc_w1131⟩
theorem tc_ok7_moves : tc_OkV tc_i7_moves 0 := ⟨⟨tc_w1056, tc_w64, ⟨by decide, by decide, by decide +kernel⟩, rfl, rfl⟩, tc_w1054, tc_w1055⟩
theorem tc_ok7_numbersOf : tc_OkS tc_i7_numbersOf 1 := ⟨⟨tc_w1284, tc_w64, ⟨by decide, by decide, by decide +kernel⟩, rfl, rfl⟩, tc_w1283⟩
theorem tc_ok7_of : tc_OkV tc_i7_of 2 := ⟨⟨tc_w1023, tc_w64, ⟨by decide, by decide, by decide +kernel⟩, rfl, rfl⟩, tc_w1021, tc_w1022⟩
theorem tc_ok7_order : tc_OkV tc_i7_order 1 := ⟨⟨tc_w1161, tc_w64, ⟨by decide, by decide, by decide +kernel⟩, rfl, rfl⟩, tc_w1159, tc_w1160⟩
theorem tc_ok7_otherBy : tc_OkV tc_i7_otherBy 2 := ⟨⟨tc_w1229, tc_w64, ⟨by decide, by decide, by decide +kernel⟩, rfl, rfl⟩, tc_w1228, tc_w48⟩
theorem tc_ok7_pick : tc_OkV tc_i7_pick 1 := ⟨⟨tc_w1197, tc_w64, ⟨by decide, by decide, by decide +kernel⟩, rfl, rfl⟩, tc_w1195, tc_w1196⟩
theorem tc_ok7_proof : tc_OkV tc_i7_proof 1 := ⟨⟨tc_w1185, tc_w64, ⟨by decide, by decide, by decide +kernel⟩, rfl, rfl⟩, tc_w1183, tc_w1184⟩
theorem tc_ok7_put : tc_OkV tc_i7_put 3 := ⟨⟨tc_w1321, tc_w64, ⟨by decide, by decide, by decide +kernel⟩, rfl, rfl⟩, tc_w1319, tc_w1320⟩
theorem tc_ok7_run : tc_OkV tc_i7_run 2 := ⟨⟨tc_w1144, tc_w64, ⟨by decide, by decide, by decide +kernel⟩, rfl, rfl⟩, tc_w1142, tc_w1143⟩
theorem tc_ok7_seen : tc_OkV tc_i7_seen 1 := ⟨⟨tc_w1165, tc_w64, ⟨by decide, by decide, by decide +kernel⟩, rfl, rfl⟩, tc_w1163, tc_w1164⟩
theorem tc_ok7_set : tc_OkV tc_i7_set 3 := ⟨⟨tc_w1015, tc_w64, ⟨by decide, by decide, by decide +kernel⟩, rfl, rfl⟩, tc_w1013, tc_w1014⟩
theorem tc_ok7_sheet : tc_OkV tc_i7_sheet 3 := ⟨⟨tc_w1317, tc_w64, ⟨by decide, by decide, by decide +kernel⟩, rfl, rfl⟩, tc_w1315, tc_w1316⟩
theorem tc_ok7_taken : tc_OkV tc_i7_taken 2 := ⟨⟨tc_w1044, tc_w64, ⟨by decide, by decide, by decide +kernel⟩, rfl, rfl⟩, tc_w1042, tc_w1043⟩
theorem tc_ok7_tells : tc_OkV tc_i7_tells 3 := ⟨⟨tc_w1222, tc_w64, ⟨by decide, by decide, by decide +kernel⟩, rfl, rfl⟩, tc_w1220, tc_w1221⟩
theorem tc_ok7_who : tc_OkV tc_i7_who 1 := ⟨⟨tc_w1136, tc_w64, ⟨by decide, by decide, by decide +kernel⟩, rfl, rfl⟩, tc_w1134, tc_w1135⟩
theorem tc_ok4_isSpelt : tc_OkV tc_i4_isSpelt 2 := ⟨⟨tc_w752, tc_w62, ⟨by decide, by decide, by decide +kernel⟩, rfl, rfl⟩, tc_w751, tc_w18⟩
theorem tc_ok4_spelling : tc_OkS tc_i4_spelling 1 := ⟨⟨tc_w740, tc_w62, ⟨by decide, by decide, by decide +kernel⟩, rfl, rfl⟩, tc_w739⟩
theorem tc_ok4_wordFrom : tc_OkV tc_i4_wordFrom 1 := ⟨⟨tc_w737, tc_w62, ⟨by decide, by decide, by decide +kernel⟩, rfl, rfl⟩, tc_w736, tc_w17⟩
theorem tc_ok4_readClause : tc_OkV tc_i4_readClause 1 := ⟨⟨tc_w725, tc_w62, ⟨by decide, by decide, by decide +kernel⟩, rfl, rfl⟩, tc_w724, tc_w14⟩
theorem tc_ok4_placeOfFault : tc_OkV tc_i4_placeOfFault 0 := ⟨⟨tc_w721, tc_w62, ⟨by decide, by decide, by decide +kernel⟩, rfl, rfl⟩, tc_w719, tc_w720⟩
theorem tc_ok6_text : tc_OkV tc_i6_text 0 := ⟨⟨tc_w717, tc_w57, ⟨by decide, by decide, by decide +kernel⟩, rfl, rfl⟩, tc_w715, tc_w716⟩
theorem tc_ok7_isWord : tc_OkV tc_i7_isWord 1 := ⟨⟨tc_w1275, tc_w64, ⟨by decide, by decide, by decide +kernel⟩, rfl, rfl⟩, tc_w1274, tc_w53⟩
theorem tc_ok7_word : tc_OkS tc_i7_word 1 := ⟨⟨tc_w1263, tc_w64, ⟨by decide, by decide, by decide +kernel⟩, rfl, rfl⟩, tc_w1262⟩
theorem tc_ok7_next : tc_OkV tc_i7_next 0 := ⟨⟨tc_w1256, tc_w64, ⟨by decide, by decide, by decide +kernel⟩, rfl, rfl⟩, tc_w1255, tc_w51⟩
theorem tc_ok7_reads : tc_OkV tc_i7_reads 1 := ⟨⟨tc_w1252, tc_w64, ⟨by decide, by decide, by decide +kernel⟩, rfl, rfl⟩, tc_w1251, tc_w50⟩
theorem tc_ok7_text : tc_OkV tc_i7_text 0 := ⟨⟨tc_w1248, tc_w64, ⟨by decide, by decide, by decide +kernel⟩, rfl, rfl⟩, tc_w1246, tc_w1247⟩
theorem tc_okmmax : Cond.static Lib.Math.max.name ∈ tc_gw ∧ Cond.initialized "java/lang/Math" ∈ tc_gw ∧ Cond.code Lib.Math.max.name Lib.Math.max.code 2 (some .int) ∈ tc_gw := ⟨tc_gm 351 (by decide +kernel) (by decide +kernel), tc_gm 65 (by decide +kernel) (by decide +kernel), tc_gm 352 (by decide +kernel) (by decide +kernel)⟩
theorem tc_okmmin : Cond.static Lib.Math.min.name ∈ tc_gw ∧ Cond.initialized "java/lang/Math" ∈ tc_gw ∧ Cond.code Lib.Math.min.name Lib.Math.min.code 2 (some .int) ∈ tc_gw := ⟨tc_gm 359 (by decide +kernel) (by decide +kernel), tc_gm 65 (by decide +kernel) (by decide +kernel), tc_gm 360 (by decide +kernel) (by decide +kernel)⟩
theorem tc_okcp : Cond.native arraycopyName ∈ tc_gw ∧ Cond.static arraycopyName ∈ tc_gw ∧ Cond.initialized "java/lang/System" ∈ tc_gw := ⟨tc_gm 493 (by decide +kernel) (by decide +kernel), tc_gm 492 (by decide +kernel) (by decide +kernel), tc_gm 66 (by decide +kernel) (by decide +kernel)⟩
