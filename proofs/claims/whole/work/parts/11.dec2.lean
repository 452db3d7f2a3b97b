theorem tc_d6_withBit_0 : decode tc_i6_withBit.2.1 0 = .ok (.iload_n 2, 1) := by decide +kernel
theorem tc_d6_withBit_1 : decode tc_i6_withBit.2.1 1 = .ok (.ifCond .eq 11, 3) := by decide +kernel
theorem tc_d6_withBit_4 : decode tc_i6_withBit.2.1 4 = .ok (.iload_n 0, 1) := by decide +kernel
theorem tc_d6_withBit_5 : decode tc_i6_withBit.2.1 5 = .ok (.iconst 1, 1) := by decide +kernel
theorem tc_d6_withBit_6 : decode tc_i6_withBit.2.1 6 = .ok (.iload_n 1, 1) := by decide +kernel
theorem tc_d6_withBit_7 : decode tc_i6_withBit.2.1 7 = .ok (.ishl, 1) := by decide +kernel
theorem tc_d6_withBit_8 : decode tc_i6_withBit.2.1 8 = .ok (.ior, 1) := by decide +kernel
theorem tc_d6_withBit_9 : decode tc_i6_withBit.2.1 9 = .ok (.goto 10, 3) := by decide +kernel
theorem tc_d6_withBit_12 : decode tc_i6_withBit.2.1 12 = .ok (.iload_n 0, 1) := by decide +kernel
theorem tc_d6_withBit_13 : decode tc_i6_withBit.2.1 13 = .ok (.iconst 1, 1) := by decide +kernel
theorem tc_d6_withBit_14 : decode tc_i6_withBit.2.1 14 = .ok (.iload_n 1, 1) := by decide +kernel
theorem tc_d6_withBit_15 : decode tc_i6_withBit.2.1 15 = .ok (.ishl, 1) := by decide +kernel
theorem tc_d6_withBit_16 : decode tc_i6_withBit.2.1 16 = .ok (.iconst (-1), 1) := by decide +kernel
theorem tc_d6_withBit_17 : decode tc_i6_withBit.2.1 17 = .ok (.ixor, 1) := by decide +kernel
theorem tc_d6_withBit_18 : decode tc_i6_withBit.2.1 18 = .ok (.iand, 1) := by decide +kernel
theorem tc_d6_withBit_19 : decode tc_i6_withBit.2.1 19 = .ok (.ireturn, 1) := by decide +kernel
theorem tc_d6_isWithin_0 : decode tc_i6_isWithin.2.1 0 = .ok (.iload_n 0, 1) := by decide +kernel
theorem tc_d6_isWithin_1 : decode tc_i6_isWithin.2.1 1 = .ok (.iload_n 1, 1) := by decide +kernel
theorem tc_d6_isWithin_2 : decode tc_i6_isWithin.2.1 2 = .ok (.if_icmp .lt 12, 3) := by decide +kernel
theorem tc_d6_isWithin_5 : decode tc_i6_isWithin.2.1 5 = .ok (.iload_n 0, 1) := by decide +kernel
theorem tc_d6_isWithin_6 : decode tc_i6_isWithin.2.1 6 = .ok (.iload_n 2, 1) := by decide +kernel
theorem tc_d6_isWithin_7 : decode tc_i6_isWithin.2.1 7 = .ok (.if_icmp .gt 7, 3) := by decide +kernel
theorem tc_d6_isWithin_10 : decode tc_i6_isWithin.2.1 10 = .ok (.iconst 1, 1) := by decide +kernel
theorem tc_d6_isWithin_11 : decode tc_i6_isWithin.2.1 11 = .ok (.goto 4, 3) := by decide +kernel
theorem tc_d6_isWithin_14 : decode tc_i6_isWithin.2.1 14 = .ok (.iconst 0, 1) := by decide +kernel
theorem tc_d6_isWithin_15 : decode tc_i6_isWithin.2.1 15 = .ok (.ireturn, 1) := by decide +kernel
theorem tc_d6_isTrait_0 : decode tc_i6_isTrait.2.1 0 = .ok (.iload_n 0, 1) := by decide +kernel
theorem tc_d6_isTrait_1 : decode tc_i6_isTrait.2.1 1 = .ok (.tableswitch 62 0 3 #[31, 39, 47, 55], 31) := by decide +kernel
theorem tc_d6_isTrait_32 : decode tc_i6_isTrait.2.1 32 = .ok (.iload_n 1, 1) := by decide +kernel
theorem tc_d6_isTrait_33 : decode tc_i6_isTrait.2.1 33 = .ok (.iconst 1, 1) := by decide +kernel
theorem tc_d6_isTrait_34 : decode tc_i6_isTrait.2.1 34 = .ok (.bipush 99, 2) := by decide +kernel
theorem tc_d6_isTrait_36 : decode tc_i6_isTrait.2.1 36 = .ok (.invokestatic 117, 3) := by decide +kernel
theorem tc_d6_isTrait_39 : decode tc_i6_isTrait.2.1 39 = .ok (.ireturn, 1) := by decide +kernel
theorem tc_d6_isTrait_40 : decode tc_i6_isTrait.2.1 40 = .ok (.iload_n 1, 1) := by decide +kernel
theorem tc_d6_isTrait_41 : decode tc_i6_isTrait.2.1 41 = .ok (.iconst 0, 1) := by decide +kernel
theorem tc_d6_isTrait_42 : decode tc_i6_isTrait.2.1 42 = .ok (.bipush 9, 2) := by decide +kernel
theorem tc_d6_isTrait_44 : decode tc_i6_isTrait.2.1 44 = .ok (.invokestatic 117, 3) := by decide +kernel
theorem tc_d6_isTrait_47 : decode tc_i6_isTrait.2.1 47 = .ok (.ireturn, 1) := by decide +kernel
theorem tc_d6_isTrait_48 : decode tc_i6_isTrait.2.1 48 = .ok (.iload_n 1, 1) := by decide +kernel
theorem tc_d6_isTrait_49 : decode tc_i6_isTrait.2.1 49 = .ok (.iconst 1, 1) := by decide +kernel
theorem tc_d6_isTrait_50 : decode tc_i6_isTrait.2.1 50 = .ok (.bipush 9, 2) := by decide +kernel
theorem tc_d6_isTrait_52 : decode tc_i6_isTrait.2.1 52 = .ok (.invokestatic 117, 3) := by decide +kernel
theorem tc_d6_isTrait_55 : decode tc_i6_isTrait.2.1 55 = .ok (.ireturn, 1) := by decide +kernel
theorem tc_d6_isTrait_56 : decode tc_i6_isTrait.2.1 56 = .ok (.iload_n 1, 1) := by decide +kernel
theorem tc_d6_isTrait_57 : decode tc_i6_isTrait.2.1 57 = .ok (.iconst 0, 1) := by decide +kernel
theorem tc_d6_isTrait_58 : decode tc_i6_isTrait.2.1 58 = .ok (.iconst 5, 1) := by decide +kernel
theorem tc_d6_isTrait_59 : decode tc_i6_isTrait.2.1 59 = .ok (.invokestatic 117, 3) := by decide +kernel
theorem tc_d6_isTrait_62 : decode tc_i6_isTrait.2.1 62 = .ok (.ireturn, 1) := by decide +kernel
theorem tc_d6_isTrait_63 : decode tc_i6_isTrait.2.1 63 = .ok (.iconst 0, 1) := by decide +kernel
theorem tc_d6_isTrait_64 : decode tc_i6_isTrait.2.1 64 = .ok (.ireturn, 1) := by decide +kernel
theorem tc_d6_bit_0 : decode tc_i6_bit.2.1 0 = .ok (.iload_n 0, 1) := by decide +kernel
theorem tc_d6_bit_1 : decode tc_i6_bit.2.1 1 = .ok (.iload_n 1, 1) := by decide +kernel
theorem tc_d6_bit_2 : decode tc_i6_bit.2.1 2 = .ok (.ishr, 1) := by decide +kernel
theorem tc_d6_bit_3 : decode tc_i6_bit.2.1 3 = .ok (.iconst 1, 1) := by decide +kernel
theorem tc_d6_bit_4 : decode tc_i6_bit.2.1 4 = .ok (.iand, 1) := by decide +kernel
theorem tc_d6_bit_5 : decode tc_i6_bit.2.1 5 = .ok (.ireturn, 1) := by decide +kernel
theorem tc_d6_greatestDivisor_0 : decode tc_i6_greatestDivisor.2.1 0 = .ok (.iload_n 0, 1) := by decide +kernel
theorem tc_d6_greatestDivisor_1 : decode tc_i6_greatestDivisor.2.1 1 = .ok (.istore_n 2, 1) := by decide +kernel
theorem tc_d6_greatestDivisor_2 : decode tc_i6_greatestDivisor.2.1 2 = .ok (.iload_n 1, 1) := by decide +kernel
theorem tc_d6_greatestDivisor_3 : decode tc_i6_greatestDivisor.2.1 3 = .ok (.istore_n 3, 1) := by decide +kernel
theorem tc_d6_greatestDivisor_4 : decode tc_i6_greatestDivisor.2.1 4 = .ok (.iconst 0, 1) := by decide +kernel
theorem tc_d6_greatestDivisor_5 : decode tc_i6_greatestDivisor.2.1 5 = .ok (.istore 4, 2) := by decide +kernel
theorem tc_d6_greatestDivisor_7 : decode tc_i6_greatestDivisor.2.1 7 = .ok (.iload 4, 2) := by decide +kernel
theorem tc_d6_greatestDivisor_9 : decode tc_i6_greatestDivisor.2.1 9 = .ok (.bipush 64, 2) := by decide +kernel
theorem tc_d6_greatestDivisor_11 : decode tc_i6_greatestDivisor.2.1 11 = .ok (.if_icmp .ge 23, 3) := by decide +kernel
theorem tc_d6_greatestDivisor_14 : decode tc_i6_greatestDivisor.2.1 14 = .ok (.iload_n 3, 1) := by decide +kernel
theorem tc_d6_greatestDivisor_15 : decode tc_i6_greatestDivisor.2.1 15 = .ok (.ifCond .eq 19, 3) := by decide +kernel
theorem tc_d6_greatestDivisor_18 : decode tc_i6_greatestDivisor.2.1 18 = .ok (.iload_n 2, 1) := by decide +kernel
theorem tc_d6_greatestDivisor_19 : decode tc_i6_greatestDivisor.2.1 19 = .ok (.iload_n 3, 1) := by decide +kernel
theorem tc_d6_greatestDivisor_20 : decode tc_i6_greatestDivisor.2.1 20 = .ok (.irem, 1) := by decide +kernel
theorem tc_d6_greatestDivisor_21 : decode tc_i6_greatestDivisor.2.1 21 = .ok (.istore 5, 2) := by decide +kernel
theorem tc_d6_greatestDivisor_23 : decode tc_i6_greatestDivisor.2.1 23 = .ok (.iload_n 3, 1) := by decide +kernel
theorem tc_d6_greatestDivisor_24 : decode tc_i6_greatestDivisor.2.1 24 = .ok (.istore_n 2, 1) := by decide +kernel
theorem tc_d6_greatestDivisor_25 : decode tc_i6_greatestDivisor.2.1 25 = .ok (.iload 5, 2) := by decide +kernel
theorem tc_d6_greatestDivisor_27 : decode tc_i6_greatestDivisor.2.1 27 = .ok (.istore_n 3, 1) := by decide +kernel
theorem tc_d6_greatestDivisor_28 : decode tc_i6_greatestDivisor.2.1 28 = .ok (.iinc 4 1, 3) := by decide +kernel
theorem tc_d6_greatestDivisor_31 : decode tc_i6_greatestDivisor.2.1 31 = .ok (.goto (-24), 3) := by decide +kernel
theorem tc_d6_greatestDivisor_34 : decode tc_i6_greatestDivisor.2.1 34 = .ok (.iload_n 2, 1) := by decide +kernel
theorem tc_d6_greatestDivisor_35 : decode tc_i6_greatestDivisor.2.1 35 = .ok (.ireturn, 1) := by decide +kernel
theorem tc_d6_isByte_0 : decode tc_i6_isByte.2.1 0 = .ok (.iload_n 0, 1) := by decide +kernel
theorem tc_d6_isByte_1 : decode tc_i6_isByte.2.1 1 = .ok (.iconst 0, 1) := by decide +kernel
theorem tc_d6_isByte_2 : decode tc_i6_isByte.2.1 2 = .ok (.sipush 255, 3) := by decide +kernel
theorem tc_d6_isByte_5 : decode tc_i6_isByte.2.1 5 = .ok (.invokestatic 117, 3) := by decide +kernel
theorem tc_d6_isByte_8 : decode tc_i6_isByte.2.1 8 = .ok (.ireturn, 1) := by decide +kernel
theorem tc_d6_isSort_0 : decode tc_i6_isSort.2.1 0 = .ok (.iload_n 0, 1) := by decide +kernel
theorem tc_d6_isSort_1 : decode tc_i6_isSort.2.1 1 = .ok (.iconst 0, 1) := by decide +kernel
theorem tc_d6_isSort_2 : decode tc_i6_isSort.2.1 2 = .ok (.iconst 1, 1) := by decide +kernel
theorem tc_d6_isSort_3 : decode tc_i6_isSort.2.1 3 = .ok (.invokestatic 117, 3) := by decide +kernel
theorem tc_d6_isSort_6 : decode tc_i6_isSort.2.1 6 = .ok (.ireturn, 1) := by decide +kernel
theorem tc_d6_isUnder_0 : decode tc_i6_isUnder.2.1 0 = .ok (.iload_n 0, 1) := by decide +kernel
theorem tc_d6_isUnder_1 : decode tc_i6_isUnder.2.1 1 = .ok (.istore_n 2, 1) := by decide +kernel
theorem tc_d6_isUnder_2 : decode tc_i6_isUnder.2.1 2 = .ok (.iconst 0, 1) := by decide +kernel
theorem tc_d6_isUnder_3 : decode tc_i6_isUnder.2.1 3 = .ok (.istore_n 3, 1) := by decide +kernel
theorem tc_d6_isUnder_4 : decode tc_i6_isUnder.2.1 4 = .ok (.iload_n 3, 1) := by decide +kernel
theorem tc_d6_isUnder_5 : decode tc_i6_isUnder.2.1 5 = .ok (.bipush 6, 2) := by decide +kernel
theorem tc_d6_isUnder_7 : decode tc_i6_isUnder.2.1 7 = .ok (.if_icmp .ge 26, 3) := by decide +kernel
theorem tc_d6_isUnder_10 : decode tc_i6_isUnder.2.1 10 = .ok (.iload_n 2, 1) := by decide +kernel
theorem tc_d6_isUnder_11 : decode tc_i6_isUnder.2.1 11 = .ok (.ifCond .lt 22, 3) := by decide +kernel
theorem tc_d6_isUnder_14 : decode tc_i6_isUnder.2.1 14 = .ok (.iload_n 2, 1) := by decide +kernel
theorem tc_d6_isUnder_15 : decode tc_i6_isUnder.2.1 15 = .ok (.iload_n 1, 1) := by decide +kernel
theorem tc_d6_isUnder_16 : decode tc_i6_isUnder.2.1 16 = .ok (.if_icmp .ne 5, 3) := by decide +kernel
theorem tc_d6_isUnder_19 : decode tc_i6_isUnder.2.1 19 = .ok (.iconst 1, 1) := by decide +kernel
theorem tc_d6_isUnder_20 : decode tc_i6_isUnder.2.1 20 = .ok (.ireturn, 1) := by decide +kernel
theorem tc_d6_isUnder_21 : decode tc_i6_isUnder.2.1 21 = .ok (.getstatic 335, 3) := by decide +kernel
theorem tc_d6_isUnder_24 : decode tc_i6_isUnder.2.1 24 = .ok (.iload_n 2, 1) := by decide +kernel
theorem tc_d6_isUnder_25 : decode tc_i6_isUnder.2.1 25 = .ok (.iaload, 1) := by decide +kernel
theorem tc_d6_isUnder_26 : decode tc_i6_isUnder.2.1 26 = .ok (.istore_n 2, 1) := by decide +kernel
theorem tc_d6_isUnder_27 : decode tc_i6_isUnder.2.1 27 = .ok (.iinc 3 1, 3) := by decide +kernel
theorem tc_d6_isUnder_30 : decode tc_i6_isUnder.2.1 30 = .ok (.goto (-26), 3) := by decide +kernel
theorem tc_d6_isUnder_33 : decode tc_i6_isUnder.2.1 33 = .ok (.iconst 0, 1) := by decide +kernel
theorem tc_d6_isUnder_34 : decode tc_i6_isUnder.2.1 34 = .ok (.ireturn, 1) := by decide +kernel
theorem tc_d5_looks_0 : decode tc_i5_looks.2.1 0 = .ok (.iload_n 1, 1) := by decide +kernel
theorem tc_d5_looks_1 : decode tc_i5_looks.2.1 1 = .ok (.ifCond .lt 30, 3) := by decide +kernel
theorem tc_d5_looks_4 : decode tc_i5_looks.2.1 4 = .ok (.iload_n 1, 1) := by decide +kernel
theorem tc_d5_looks_5 : decode tc_i5_looks.2.1 5 = .ok (.aload_n 0, 1) := by decide +kernel
theorem tc_d5_looks_6 : decode tc_i5_looks.2.1 6 = .ok (.getfield 47, 3) := by decide +kernel
theorem tc_d5_looks_9 : decode tc_i5_looks.2.1 9 = .ok (.if_icmp .ge 22, 3) := by decide +kernel
theorem tc_d5_looks_12 : decode tc_i5_looks.2.1 12 = .ok (.getstatic 66, 3) := by decide +kernel
theorem tc_d5_looks_15 : decode tc_i5_looks.2.1 15 = .ok (.aload_n 0, 1) := by decide +kernel
theorem tc_d5_looks_16 : decode tc_i5_looks.2.1 16 = .ok (.getfield 9, 3) := by decide +kernel
theorem tc_d5_looks_19 : decode tc_i5_looks.2.1 19 = .ok (.iload_n 1, 1) := by decide +kernel
theorem tc_d5_looks_20 : decode tc_i5_looks.2.1 20 = .ok (.iaload, 1) := by decide +kernel
theorem tc_d5_looks_21 : decode tc_i5_looks.2.1 21 = .ok (.iaload, 1) := by decide +kernel
theorem tc_d5_looks_22 : decode tc_i5_looks.2.1 22 = .ok (.iload_n 2, 1) := by decide +kernel
theorem tc_d5_looks_23 : decode tc_i5_looks.2.1 23 = .ok (.iand, 1) := by decide +kernel
theorem tc_d5_looks_24 : decode tc_i5_looks.2.1 24 = .ok (.ifCond .eq 7, 3) := by decide +kernel
theorem tc_d5_looks_27 : decode tc_i5_looks.2.1 27 = .ok (.iconst 1, 1) := by decide +kernel
theorem tc_d5_looks_28 : decode tc_i5_looks.2.1 28 = .ok (.goto 4, 3) := by decide +kernel
theorem tc_d5_looks_31 : decode tc_i5_looks.2.1 31 = .ok (.iconst 0, 1) := by decide +kernel
theorem tc_d5_looks_32 : decode tc_i5_looks.2.1 32 = .ok (.ireturn, 1) := by decide +kernel
theorem tc_d5_leak_0 : decode tc_i5_leak.2.1 0 = .ok (.aload_n 0, 1) := by decide +kernel
theorem tc_d5_leak_1 : decode tc_i5_leak.2.1 1 = .ok (.getfield 18, 3) := by decide +kernel
theorem tc_d5_leak_4 : decode tc_i5_leak.2.1 4 = .ok (.iload_n 1, 1) := by decide +kernel
theorem tc_d5_leak_5 : decode tc_i5_leak.2.1 5 = .ok (.iaload, 1) := by decide +kernel
theorem tc_d5_leak_6 : decode tc_i5_leak.2.1 6 = .ok (.aload_n 0, 1) := by decide +kernel
theorem tc_d5_leak_7 : decode tc_i5_leak.2.1 7 = .ok (.getfield 21, 3) := by decide +kernel
theorem tc_d5_leak_10 : decode tc_i5_leak.2.1 10 = .ok (.iload_n 1, 1) := by decide +kernel
theorem tc_d5_leak_11 : decode tc_i5_leak.2.1 11 = .ok (.iaload, 1) := by decide +kernel
theorem tc_d5_leak_12 : decode tc_i5_leak.2.1 12 = .ok (.imul, 1) := by decide +kernel
theorem tc_d5_leak_13 : decode tc_i5_leak.2.1 13 = .ok (.aload_n 0, 1) := by decide +kernel
theorem tc_d5_leak_14 : decode tc_i5_leak.2.1 14 = .ok (.getfield 44, 3) := by decide +kernel
theorem tc_d5_leak_17 : decode tc_i5_leak.2.1 17 = .ok (.imul, 1) := by decide +kernel
theorem tc_d5_leak_18 : decode tc_i5_leak.2.1 18 = .ok (.bipush 10, 2) := by decide +kernel
theorem tc_d5_leak_20 : decode tc_i5_leak.2.1 20 = .ok (.idiv, 1) := by decide +kernel
theorem tc_d5_leak_21 : decode tc_i5_leak.2.1 21 = .ok (.ireturn, 1) := by decide +kernel
theorem tc_d5_has_0 : decode tc_i5_has.2.1 0 = .ok (.iload_n 1, 1) := by decide +kernel
theorem tc_d5_has_1 : decode tc_i5_has.2.1 1 = .ok (.ifCond .lt 15, 3) := by decide +kernel
theorem tc_d5_has_4 : decode tc_i5_has.2.1 4 = .ok (.iload_n 1, 1) := by decide +kernel
theorem tc_d5_has_5 : decode tc_i5_has.2.1 5 = .ok (.aload_n 0, 1) := by decide +kernel
theorem tc_d5_has_6 : decode tc_i5_has.2.1 6 = .ok (.getfield 47, 3) := by decide +kernel
theorem tc_d5_has_9 : decode tc_i5_has.2.1 9 = .ok (.if_icmp .ge 7, 3) := by decide +kernel
theorem tc_d5_has_12 : decode tc_i5_has.2.1 12 = .ok (.iconst 1, 1) := by decide +kernel
theorem tc_d5_has_13 : decode tc_i5_has.2.1 13 = .ok (.goto 4, 3) := by decide +kernel
theorem tc_d5_has_16 : decode tc_i5_has.2.1 16 = .ok (.iconst 0, 1) := by decide +kernel
theorem tc_d5_has_17 : decode tc_i5_has.2.1 17 = .ok (.ireturn, 1) := by decide +kernel
theorem tc_d5_shunt_0 : decode tc_i5_shunt.2.1 0 = .ok (.iconst 0, 1) := by decide +kernel
theorem tc_d5_shunt_1 : decode tc_i5_shunt.2.1 1 = .ok (.istore_n 2, 1) := by decide +kernel
theorem tc_d5_shunt_2 : decode tc_i5_shunt.2.1 2 = .ok (.iload_n 2, 1) := by decide +kernel
theorem tc_d5_shunt_3 : decode tc_i5_shunt.2.1 3 = .ok (.aload_n 0, 1) := by decide +kernel
theorem tc_d5_shunt_4 : decode tc_i5_shunt.2.1 4 = .ok (.getfield 47, 3) := by decide +kernel
theorem tc_d5_shunt_7 : decode tc_i5_shunt.2.1 7 = .ok (.if_icmp .ge 46, 3) := by decide +kernel
theorem tc_d5_shunt_10 : decode tc_i5_shunt.2.1 10 = .ok (.iconst 1, 1) := by decide +kernel
theorem tc_d5_shunt_11 : decode tc_i5_shunt.2.1 11 = .ok (.iload_n 2, 1) := by decide +kernel
theorem tc_d5_shunt_12 : decode tc_i5_shunt.2.1 12 = .ok (.ishl, 1) := by decide +kernel
theorem tc_d5_shunt_13 : decode tc_i5_shunt.2.1 13 = .ok (.istore_n 3, 1) := by decide +kernel
theorem tc_d5_shunt_14 : decode tc_i5_shunt.2.1 14 = .ok (.aload_n 0, 1) := by decide +kernel
theorem tc_d5_shunt_15 : decode tc_i5_shunt.2.1 15 = .ok (.getfield 63, 3) := by decide +kernel
theorem tc_d5_shunt_18 : decode tc_i5_shunt.2.1 18 = .ok (.iload_n 3, 1) := by decide +kernel
theorem tc_d5_shunt_19 : decode tc_i5_shunt.2.1 19 = .ok (.iand, 1) := by decide +kernel
theorem tc_d5_shunt_20 : decode tc_i5_shunt.2.1 20 = .ok (.ifCond .eq 27, 3) := by decide +kernel
theorem tc_d5_shunt_23 : decode tc_i5_shunt.2.1 23 = .ok (.aload_n 0, 1) := by decide +kernel
theorem tc_d5_shunt_24 : decode tc_i5_shunt.2.1 24 = .ok (.getfield 27, 3) := by decide +kernel
theorem tc_d5_shunt_27 : decode tc_i5_shunt.2.1 27 = .ok (.iload_n 2, 1) := by decide +kernel
theorem tc_d5_shunt_28 : decode tc_i5_shunt.2.1 28 = .ok (.iload_n 1, 1) := by decide +kernel
theorem tc_d5_shunt_29 : decode tc_i5_shunt.2.1 29 = .ok (.iload_n 3, 1) := by decide +kernel
theorem tc_d5_shunt_30 : decode tc_i5_shunt.2.1 30 = .ok (.iand, 1) := by decide +kernel
theorem tc_d5_shunt_31 : decode tc_i5_shunt.2.1 31 = .ok (.ifCond .eq 14, 3) := by decide +kernel
theorem tc_d5_shunt_34 : decode tc_i5_shunt.2.1 34 = .ok (.aload_n 0, 1) := by decide +kernel
theorem tc_d5_shunt_35 : decode tc_i5_shunt.2.1 35 = .ok (.getfield 27, 3) := by decide +kernel
theorem tc_d5_shunt_38 : decode tc_i5_shunt.2.1 38 = .ok (.iload_n 2, 1) := by decide +kernel
theorem tc_d5_shunt_39 : decode tc_i5_shunt.2.1 39 = .ok (.iaload, 1) := by decide +kernel
theorem tc_d5_shunt_40 : decode tc_i5_shunt.2.1 40 = .ok (.iconst 4, 1) := by decide +kernel
theorem tc_d5_shunt_41 : decode tc_i5_shunt.2.1 41 = .ok (.idiv, 1) := by decide +kernel
theorem tc_d5_shunt_42 : decode tc_i5_shunt.2.1 42 = .ok (.goto 4, 3) := by decide +kernel
theorem tc_d5_shunt_45 : decode tc_i5_shunt.2.1 45 = .ok (.iconst 0, 1) := by decide +kernel
theorem tc_d5_shunt_46 : decode tc_i5_shunt.2.1 46 = .ok (.iastore, 1) := by decide +kernel
theorem tc_d5_shunt_47 : decode tc_i5_shunt.2.1 47 = .ok (.iinc 2 1, 3) := by decide +kernel
theorem tc_d5_shunt_50 : decode tc_i5_shunt.2.1 50 = .ok (.goto (-48), 3) := by decide +kernel
theorem tc_d5_shunt_53 : decode tc_i5_shunt.2.1 53 = .ok (.return_, 1) := by decide +kernel
theorem tc_d5_measure_0 : decode tc_i5_measure.2.1 0 = .ok (.iconst 0, 1) := by decide +kernel
theorem tc_d5_measure_1 : decode tc_i5_measure.2.1 1 = .ok (.istore_n 1, 1) := by decide +kernel
theorem tc_d5_measure_2 : decode tc_i5_measure.2.1 2 = .ok (.iload_n 1, 1) := by decide +kernel
theorem tc_d5_measure_3 : decode tc_i5_measure.2.1 3 = .ok (.aload_n 0, 1) := by decide +kernel
theorem tc_d5_measure_4 : decode tc_i5_measure.2.1 4 = .ok (.getfield 47, 3) := by decide +kernel
theorem tc_d5_measure_7 : decode tc_i5_measure.2.1 7 = .ok (.if_icmp .ge 31, 3) := by decide +kernel
theorem tc_d5_measure_10 : decode tc_i5_measure.2.1 10 = .ok (.aload_n 0, 1) := by decide +kernel
theorem tc_d5_measure_11 : decode tc_i5_measure.2.1 11 = .ok (.getfield 27, 3) := by decide +kernel
theorem tc_d5_measure_14 : decode tc_i5_measure.2.1 14 = .ok (.iload_n 1, 1) := by decide +kernel
theorem tc_d5_measure_15 : decode tc_i5_measure.2.1 15 = .ok (.iconst 0, 1) := by decide +kernel
theorem tc_d5_measure_16 : decode tc_i5_measure.2.1 16 = .ok (.aload_n 0, 1) := by decide +kernel
theorem tc_d5_measure_17 : decode tc_i5_measure.2.1 17 = .ok (.getfield 15, 3) := by decide +kernel
theorem tc_d5_measure_20 : decode tc_i5_measure.2.1 20 = .ok (.iload_n 1, 1) := by decide +kernel
theorem tc_d5_measure_21 : decode tc_i5_measure.2.1 21 = .ok (.iaload, 1) := by decide +kernel
theorem tc_d5_measure_22 : decode tc_i5_measure.2.1 22 = .ok (.aload_n 0, 1) := by decide +kernel
theorem tc_d5_measure_23 : decode tc_i5_measure.2.1 23 = .ok (.iload_n 1, 1) := by decide +kernel
theorem tc_d5_measure_24 : decode tc_i5_measure.2.1 24 = .ok (.invokevirtual 85, 3) := by decide +kernel
theorem tc_d5_measure_27 : decode tc_i5_measure.2.1 27 = .ok (.isub, 1) := by decide +kernel
theorem tc_d5_measure_28 : decode tc_i5_measure.2.1 28 = .ok (.invokestatic 88, 3) := by decide +kernel
theorem tc_d5_measure_31 : decode tc_i5_measure.2.1 31 = .ok (.iastore, 1) := by decide +kernel
theorem tc_d5_measure_32 : decode tc_i5_measure.2.1 32 = .ok (.iinc 1 1, 3) := by decide +kernel
theorem tc_d5_measure_35 : decode tc_i5_measure.2.1 35 = .ok (.goto (-33), 3) := by decide +kernel
theorem tc_d5_measure_38 : decode tc_i5_measure.2.1 38 = .ok (.iconst 0, 1) := by decide +kernel
theorem tc_d5_measure_39 : decode tc_i5_measure.2.1 39 = .ok (.istore_n 1, 1) := by decide +kernel
theorem tc_d5_measure_40 : decode tc_i5_measure.2.1 40 = .ok (.iload_n 1, 1) := by decide +kernel
theorem tc_d5_measure_41 : decode tc_i5_measure.2.1 41 = .ok (.aload_n 0, 1) := by decide +kernel
theorem tc_d5_measure_42 : decode tc_i5_measure.2.1 42 = .ok (.getfield 33, 3) := by decide +kernel
theorem tc_d5_measure_45 : decode tc_i5_measure.2.1 45 = .ok (.getfield 94, 3) := by decide +kernel
theorem tc_d5_measure_48 : decode tc_i5_measure.2.1 48 = .ok (.if_icmp .ge 52, 3) := by decide +kernel
theorem tc_d5_measure_51 : decode tc_i5_measure.2.1 51 = .ok (.aload_n 0, 1) := by decide +kernel
theorem tc_d5_measure_52 : decode tc_i5_measure.2.1 52 = .ok (.getfield 33, 3) := by decide +kernel
theorem tc_d5_measure_55 : decode tc_i5_measure.2.1 55 = .ok (.getfield 97, 3) := by decide +kernel
theorem tc_d5_measure_58 : decode tc_i5_measure.2.1 58 = .ok (.iload_n 1, 1) := by decide +kernel
theorem tc_d5_measure_59 : decode tc_i5_measure.2.1 59 = .ok (.iaload, 1) := by decide +kernel
theorem tc_d5_measure_60 : decode tc_i5_measure.2.1 60 = .ok (.istore_n 2, 1) := by decide +kernel
theorem tc_d5_measure_61 : decode tc_i5_measure.2.1 61 = .ok (.aload_n 0, 1) := by decide +kernel
theorem tc_d5_measure_62 : decode tc_i5_measure.2.1 62 = .ok (.iload_n 2, 1) := by decide +kernel
theorem tc_d5_measure_63 : decode tc_i5_measure.2.1 63 = .ok (.invokevirtual 77, 3) := by decide +kernel
theorem tc_d5_measure_66 : decode tc_i5_measure.2.1 66 = .ok (.ifCond .eq 28, 3) := by decide +kernel
theorem tc_d5_measure_69 : decode tc_i5_measure.2.1 69 = .ok (.aload_n 0, 1) := by decide +kernel
theorem tc_d5_measure_70 : decode tc_i5_measure.2.1 70 = .ok (.getfield 27, 3) := by decide +kernel
theorem tc_d5_measure_73 : decode tc_i5_measure.2.1 73 = .ok (.iload_n 2, 1) := by decide +kernel
theorem tc_d5_measure_74 : decode tc_i5_measure.2.1 74 = .ok (.aload_n 0, 1) := by decide +kernel
theorem tc_d5_measure_75 : decode tc_i5_measure.2.1 75 = .ok (.getfield 33, 3) := by decide +kernel
theorem tc_d5_measure_78 : decode tc_i5_measure.2.1 78 = .ok (.iload_n 1, 1) := by decide +kernel
theorem tc_d5_measure_79 : decode tc_i5_measure.2.1 79 = .ok (.aload_n 0, 1) := by decide +kernel
theorem tc_d5_measure_80 : decode tc_i5_measure.2.1 80 = .ok (.getfield 27, 3) := by decide +kernel
theorem tc_d5_measure_83 : decode tc_i5_measure.2.1 83 = .ok (.iload_n 2, 1) := by decide +kernel
theorem tc_d5_measure_84 : decode tc_i5_measure.2.1 84 = .ok (.iaload, 1) := by decide +kernel
theorem tc_d5_measure_85 : decode tc_i5_measure.2.1 85 = .ok (.aload_n 0, 1) := by decide +kernel
theorem tc_d5_measure_86 : decode tc_i5_measure.2.1 86 = .ok (.iload_n 2, 1) := by decide +kernel
theorem tc_d5_measure_87 : decode tc_i5_measure.2.1 87 = .ok (.invokevirtual 85, 3) := by decide +kernel
theorem tc_d5_measure_90 : decode tc_i5_measure.2.1 90 = .ok (.invokevirtual 100, 3) := by decide +kernel
theorem tc_d5_measure_93 : decode tc_i5_measure.2.1 93 = .ok (.iastore, 1) := by decide +kernel
theorem tc_d5_measure_94 : decode tc_i5_measure.2.1 94 = .ok (.iinc 1 1, 3) := by decide +kernel
theorem tc_d5_measure_97 : decode tc_i5_measure.2.1 97 = .ok (.goto (-57), 3) := by decide +kernel
theorem tc_d5_measure_100 : decode tc_i5_measure.2.1 100 = .ok (.aload_n 0, 1) := by decide +kernel
theorem tc_d5_measure_101 : decode tc_i5_measure.2.1 101 = .ok (.getfield 63, 3) := by decide +kernel
theorem tc_d5_measure_104 : decode tc_i5_measure.2.1 104 = .ok (.ifCond .eq 15, 3) := by decide +kernel
theorem tc_d5_measure_107 : decode tc_i5_measure.2.1 107 = .ok (.aload_n 0, 1) := by decide +kernel
theorem tc_d5_measure_108 : decode tc_i5_measure.2.1 108 = .ok (.aload_n 0, 1) := by decide +kernel
theorem tc_d5_measure_109 : decode tc_i5_measure.2.1 109 = .ok (.getfield 33, 3) := by decide +kernel
theorem tc_d5_measure_112 : decode tc_i5_measure.2.1 112 = .ok (.iconst 3, 1) := by decide +kernel
theorem tc_d5_measure_113 : decode tc_i5_measure.2.1 113 = .ok (.invokevirtual 104, 3) := by decide +kernel
theorem tc_d5_measure_116 : decode tc_i5_measure.2.1 116 = .ok (.invokevirtual 107, 3) := by decide +kernel
theorem tc_d5_measure_119 : decode tc_i5_measure.2.1 119 = .ok (.return_, 1) := by decide +kernel
theorem tc_d5_relay_0 : decode tc_i5_relay.2.1 0 = .ok (.iload_n 1, 1) := by decide +kernel
theorem tc_d5_relay_1 : decode tc_i5_relay.2.1 1 = .ok (.ifCond .lt 22, 3) := by decide +kernel
theorem tc_d5_relay_4 : decode tc_i5_relay.2.1 4 = .ok (.iload_n 1, 1) := by decide +kernel
theorem tc_d5_relay_5 : decode tc_i5_relay.2.1 5 = .ok (.aload_n 0, 1) := by decide +kernel
theorem tc_d5_relay_6 : decode tc_i5_relay.2.1 6 = .ok (.getfield 47, 3) := by decide +kernel
theorem tc_d5_relay_9 : decode tc_i5_relay.2.1 9 = .ok (.if_icmp .ge 14, 3) := by decide +kernel
theorem tc_d5_relay_12 : decode tc_i5_relay.2.1 12 = .ok (.aload_n 0, 1) := by decide +kernel
theorem tc_d5_relay_13 : decode tc_i5_relay.2.1 13 = .ok (.getfield 60, 3) := by decide +kernel
theorem tc_d5_relay_16 : decode tc_i5_relay.2.1 16 = .ok (.iload_n 1, 1) := by decide +kernel
theorem tc_d5_relay_17 : decode tc_i5_relay.2.1 17 = .ok (.ishr, 1) := by decide +kernel
theorem tc_d5_relay_18 : decode tc_i5_relay.2.1 18 = .ok (.iconst 1, 1) := by decide +kernel
theorem tc_d5_relay_19 : decode tc_i5_relay.2.1 19 = .ok (.iand, 1) := by decide +kernel
theorem tc_d5_relay_20 : decode tc_i5_relay.2.1 20 = .ok (.goto 4, 3) := by decide +kernel
theorem tc_d5_relay_23 : decode tc_i5_relay.2.1 23 = .ok (.iconst (-1), 1) := by decide +kernel
theorem tc_d5_relay_24 : decode tc_i5_relay.2.1 24 = .ok (.ireturn, 1) := by decide +kernel
theorem tc_d5_isEnough_0 : decode tc_i5_isEnough.2.1 0 = .ok (.iload_n 1, 1) := by decide +kernel
theorem tc_d5_isEnough_1 : decode tc_i5_isEnough.2.1 1 = .ok (.aload_n 0, 1) := by decide +kernel
theorem tc_d5_isEnough_2 : decode tc_i5_isEnough.2.1 2 = .ok (.getfield 37, 3) := by decide +kernel
theorem tc_d5_isEnough_5 : decode tc_i5_isEnough.2.1 5 = .ok (.if_icmp .ge 15, 3) := by decide +kernel
theorem tc_d5_isEnough_8 : decode tc_i5_isEnough.2.1 8 = .ok (.iload_n 1, 1) := by decide +kernel
theorem tc_d5_isEnough_9 : decode tc_i5_isEnough.2.1 9 = .ok (.aload_n 0, 1) := by decide +kernel
theorem tc_d5_isEnough_10 : decode tc_i5_isEnough.2.1 10 = .ok (.getfield 41, 3) := by decide +kernel
theorem tc_d5_isEnough_13 : decode tc_i5_isEnough.2.1 13 = .ok (.if_icmp .lt 11, 3) := by decide +kernel
theorem tc_d5_isEnough_16 : decode tc_i5_isEnough.2.1 16 = .ok (.iload_n 2, 1) := by decide +kernel
theorem tc_d5_isEnough_17 : decode tc_i5_isEnough.2.1 17 = .ok (.ifCond .eq 7, 3) := by decide +kernel
theorem tc_d5_isEnough_20 : decode tc_i5_isEnough.2.1 20 = .ok (.iconst 1, 1) := by decide +kernel
theorem tc_d5_isEnough_21 : decode tc_i5_isEnough.2.1 21 = .ok (.goto 4, 3) := by decide +kernel
theorem tc_d5_isEnough_24 : decode tc_i5_isEnough.2.1 24 = .ok (.iconst 0, 1) := by decide +kernel
theorem tc_d5_isEnough_25 : decode tc_i5_isEnough.2.1 25 = .ok (.ireturn, 1) := by decide +kernel
theorem tc_d5_goesUp_0 : decode tc_i5_goesUp.2.1 0 = .ok (.aload_n 0, 1) := by decide +kernel
theorem tc_d5_goesUp_1 : decode tc_i5_goesUp.2.1 1 = .ok (.iload_n 1, 1) := by decide +kernel
theorem tc_d5_goesUp_2 : decode tc_i5_goesUp.2.1 2 = .ok (.invokevirtual 114, 3) := by decide +kernel
theorem tc_d5_goesUp_5 : decode tc_i5_goesUp.2.1 5 = .ok (.iconst 1, 1) := by decide +kernel
theorem tc_d5_goesUp_6 : decode tc_i5_goesUp.2.1 6 = .ok (.if_icmp .ne 7, 3) := by decide +kernel
theorem tc_d5_goesUp_9 : decode tc_i5_goesUp.2.1 9 = .ok (.iconst 1, 1) := by decide +kernel
theorem tc_d5_goesUp_10 : decode tc_i5_goesUp.2.1 10 = .ok (.goto 4, 3) := by decide +kernel
theorem tc_d5_goesUp_13 : decode tc_i5_goesUp.2.1 13 = .ok (.iconst 0, 1) := by decide +kernel
theorem tc_d5_goesUp_14 : decode tc_i5_goesUp.2.1 14 = .ok (.istore_n 2, 1) := by decide +kernel
theorem tc_d5_goesUp_15 : decode tc_i5_goesUp.2.1 15 = .ok (.aload_n 0, 1) := by decide +kernel
theorem tc_d5_goesUp_16 : decode tc_i5_goesUp.2.1 16 = .ok (.iload_n 1, 1) := by decide +kernel
theorem tc_d5_goesUp_17 : decode tc_i5_goesUp.2.1 17 = .ok (.iconst 1, 1) := by decide +kernel
theorem tc_d5_goesUp_18 : decode tc_i5_goesUp.2.1 18 = .ok (.isub, 1) := by decide +kernel
theorem tc_d5_goesUp_19 : decode tc_i5_goesUp.2.1 19 = .ok (.invokevirtual 114, 3) := by decide +kernel
theorem tc_d5_goesUp_22 : decode tc_i5_goesUp.2.1 22 = .ok (.istore_n 3, 1) := by decide +kernel
theorem tc_d5_goesUp_23 : decode tc_i5_goesUp.2.1 23 = .ok (.aload_n 0, 1) := by decide +kernel
theorem tc_d5_goesUp_24 : decode tc_i5_goesUp.2.1 24 = .ok (.iload_n 1, 1) := by decide +kernel
theorem tc_d5_goesUp_25 : decode tc_i5_goesUp.2.1 25 = .ok (.iconst 1, 1) := by decide +kernel
theorem tc_d5_goesUp_26 : decode tc_i5_goesUp.2.1 26 = .ok (.iadd, 1) := by decide +kernel
theorem tc_d5_goesUp_27 : decode tc_i5_goesUp.2.1 27 = .ok (.invokevirtual 114, 3) := by decide +kernel
theorem tc_d5_goesUp_30 : decode tc_i5_goesUp.2.1 30 = .ok (.istore 4, 2) := by decide +kernel
theorem tc_d5_goesUp_32 : decode tc_i5_goesUp.2.1 32 = .ok (.aload_n 0, 1) := by decide +kernel
theorem tc_d5_goesUp_33 : decode tc_i5_goesUp.2.1 33 = .ok (.getfield 27, 3) := by decide +kernel
theorem tc_d5_goesUp_36 : decode tc_i5_goesUp.2.1 36 = .ok (.iload_n 1, 1) := by decide +kernel
theorem tc_d5_goesUp_37 : decode tc_i5_goesUp.2.1 37 = .ok (.iaload, 1) := by decide +kernel
theorem tc_d5_goesUp_38 : decode tc_i5_goesUp.2.1 38 = .ok (.istore 5, 2) := by decide +kernel
theorem tc_d5_goesUp_40 : decode tc_i5_goesUp.2.1 40 = .ok (.aload_n 0, 1) := by decide +kernel
theorem tc_d5_goesUp_41 : decode tc_i5_goesUp.2.1 41 = .ok (.getfield 9, 3) := by decide +kernel
theorem tc_d5_goesUp_44 : decode tc_i5_goesUp.2.1 44 = .ok (.iload_n 1, 1) := by decide +kernel
theorem tc_d5_goesUp_45 : decode tc_i5_goesUp.2.1 45 = .ok (.iaload, 1) := by decide +kernel
theorem tc_d5_goesUp_46 : decode tc_i5_goesUp.2.1 46 = .ok (.tableswitch 191 1 5 #[34, 64, 88, 134, 156], 34) := by decide +kernel
theorem tc_d5_goesUp_80 : decode tc_i5_goesUp.2.1 80 = .ok (.iload_n 2, 1) := by decide +kernel
theorem tc_d5_goesUp_81 : decode tc_i5_goesUp.2.1 81 = .ok (.ifCond .ne 13, 3) := by decide +kernel
theorem tc_d5_goesUp_84 : decode tc_i5_goesUp.2.1 84 = .ok (.aload_n 0, 1) := by decide +kernel
theorem tc_d5_goesUp_85 : decode tc_i5_goesUp.2.1 85 = .ok (.getfield 24, 3) := by decide +kernel
theorem tc_d5_goesUp_88 : decode tc_i5_goesUp.2.1 88 = .ok (.iload_n 1, 1) := by decide +kernel
theorem tc_d5_goesUp_89 : decode tc_i5_goesUp.2.1 89 = .ok (.iaload, 1) := by decide +kernel
theorem tc_d5_goesUp_90 : decode tc_i5_goesUp.2.1 90 = .ok (.iconst 2, 1) := by decide +kernel
theorem tc_d5_goesUp_91 : decode tc_i5_goesUp.2.1 91 = .ok (.if_icmp .lt 17, 3) := by decide +kernel
theorem tc_d5_goesUp_94 : decode tc_i5_goesUp.2.1 94 = .ok (.aload_n 0, 1) := by decide +kernel
theorem tc_d5_goesUp_95 : decode tc_i5_goesUp.2.1 95 = .ok (.iload 5, 2) := by decide +kernel
theorem tc_d5_goesUp_97 : decode tc_i5_goesUp.2.1 97 = .ok (.iload_n 2, 1) := by decide +kernel
theorem tc_d5_goesUp_98 : decode tc_i5_goesUp.2.1 98 = .ok (.invokevirtual 117, 3) := by decide +kernel
theorem tc_d5_goesUp_101 : decode tc_i5_goesUp.2.1 101 = .ok (.ifCond .eq 7, 3) := by decide +kernel
theorem tc_d5_goesUp_104 : decode tc_i5_goesUp.2.1 104 = .ok (.iconst 1, 1) := by decide +kernel
theorem tc_d5_goesUp_105 : decode tc_i5_goesUp.2.1 105 = .ok (.goto 4, 3) := by decide +kernel
theorem tc_d5_goesUp_108 : decode tc_i5_goesUp.2.1 108 = .ok (.iconst 0, 1) := by decide +kernel
theorem tc_d5_goesUp_109 : decode tc_i5_goesUp.2.1 109 = .ok (.ireturn, 1) := by decide +kernel
theorem tc_d5_goesUp_110 : decode tc_i5_goesUp.2.1 110 = .ok (.iload_n 2, 1) := by decide +kernel
theorem tc_d5_goesUp_111 : decode tc_i5_goesUp.2.1 111 = .ok (.ifCond .ne 7, 3) := by decide +kernel
theorem tc_d5_goesUp_114 : decode tc_i5_goesUp.2.1 114 = .ok (.iload_n 3, 1) := by decide +kernel
theorem tc_d5_goesUp_115 : decode tc_i5_goesUp.2.1 115 = .ok (.ifCond .eq 17, 3) := by decide +kernel
theorem tc_d5_goesUp_118 : decode tc_i5_goesUp.2.1 118 = .ok (.aload_n 0, 1) := by decide +kernel
theorem tc_d5_goesUp_119 : decode tc_i5_goesUp.2.1 119 = .ok (.iload 5, 2) := by decide +kernel
theorem tc_d5_goesUp_121 : decode tc_i5_goesUp.2.1 121 = .ok (.iload_n 2, 1) := by decide +kernel
theorem tc_d5_goesUp_122 : decode tc_i5_goesUp.2.1 122 = .ok (.invokevirtual 117, 3) := by decide +kernel
theorem tc_d5_goesUp_125 : decode tc_i5_goesUp.2.1 125 = .ok (.ifCond .eq 7, 3) := by decide +kernel
theorem tc_d5_goesUp_128 : decode tc_i5_goesUp.2.1 128 = .ok (.iconst 1, 1) := by decide +kernel
theorem tc_d5_goesUp_129 : decode tc_i5_goesUp.2.1 129 = .ok (.goto 4, 3) := by decide +kernel
theorem tc_d5_goesUp_132 : decode tc_i5_goesUp.2.1 132 = .ok (.iconst 0, 1) := by decide +kernel
theorem tc_d5_goesUp_133 : decode tc_i5_goesUp.2.1 133 = .ok (.ireturn, 1) := by decide +kernel
theorem tc_d5_goesUp_134 : decode tc_i5_goesUp.2.1 134 = .ok (.iload 4, 2) := by decide +kernel
theorem tc_d5_goesUp_136 : decode tc_i5_goesUp.2.1 136 = .ok (.ifCond .ne 10, 3) := by decide +kernel
theorem tc_d5_goesUp_139 : decode tc_i5_goesUp.2.1 139 = .ok (.iload 5, 2) := by decide +kernel
theorem tc_d5_goesUp_141 : decode tc_i5_goesUp.2.1 141 = .ok (.iconst 2, 1) := by decide +kernel
theorem tc_d5_goesUp_142 : decode tc_i5_goesUp.2.1 142 = .ok (.idiv, 1) := by decide +kernel
theorem tc_d5_goesUp_143 : decode tc_i5_goesUp.2.1 143 = .ok (.goto 5, 3) := by decide +kernel
theorem tc_d5_goesUp_146 : decode tc_i5_goesUp.2.1 146 = .ok (.iload 5, 2) := by decide +kernel
theorem tc_d5_goesUp_148 : decode tc_i5_goesUp.2.1 148 = .ok (.istore 5, 2) := by decide +kernel
theorem tc_d5_goesUp_150 : decode tc_i5_goesUp.2.1 150 = .ok (.iload_n 2, 1) := by decide +kernel
theorem tc_d5_goesUp_151 : decode tc_i5_goesUp.2.1 151 = .ok (.ifCond .ne 13, 3) := by decide +kernel
theorem tc_d5_goesUp_154 : decode tc_i5_goesUp.2.1 154 = .ok (.aload_n 0, 1) := by decide +kernel
theorem tc_d5_goesUp_155 : decode tc_i5_goesUp.2.1 155 = .ok (.getfield 24, 3) := by decide +kernel
theorem tc_d5_goesUp_158 : decode tc_i5_goesUp.2.1 158 = .ok (.iload_n 1, 1) := by decide +kernel
theorem tc_d5_goesUp_159 : decode tc_i5_goesUp.2.1 159 = .ok (.iaload, 1) := by decide +kernel
theorem tc_d5_goesUp_160 : decode tc_i5_goesUp.2.1 160 = .ok (.iconst 2, 1) := by decide +kernel
theorem tc_d5_goesUp_161 : decode tc_i5_goesUp.2.1 161 = .ok (.if_icmp .lt 17, 3) := by decide +kernel
theorem tc_d5_goesUp_164 : decode tc_i5_goesUp.2.1 164 = .ok (.aload_n 0, 1) := by decide +kernel
theorem tc_d5_goesUp_165 : decode tc_i5_goesUp.2.1 165 = .ok (.iload 5, 2) := by decide +kernel
theorem tc_d5_goesUp_167 : decode tc_i5_goesUp.2.1 167 = .ok (.iload_n 2, 1) := by decide +kernel
theorem tc_d5_goesUp_168 : decode tc_i5_goesUp.2.1 168 = .ok (.invokevirtual 117, 3) := by decide +kernel
theorem tc_d5_goesUp_171 : decode tc_i5_goesUp.2.1 171 = .ok (.ifCond .eq 7, 3) := by decide +kernel
theorem tc_d5_goesUp_174 : decode tc_i5_goesUp.2.1 174 = .ok (.iconst 1, 1) := by decide +kernel
theorem tc_d5_goesUp_175 : decode tc_i5_goesUp.2.1 175 = .ok (.goto 4, 3) := by decide +kernel
theorem tc_d5_goesUp_178 : decode tc_i5_goesUp.2.1 178 = .ok (.iconst 0, 1) := by decide +kernel
theorem tc_d5_goesUp_179 : decode tc_i5_goesUp.2.1 179 = .ok (.ireturn, 1) := by decide +kernel
theorem tc_d5_goesUp_180 : decode tc_i5_goesUp.2.1 180 = .ok (.iload 4, 2) := by decide +kernel
theorem tc_d5_goesUp_182 : decode tc_i5_goesUp.2.1 182 = .ok (.iconst 1, 1) := by decide +kernel
theorem tc_d5_goesUp_183 : decode tc_i5_goesUp.2.1 183 = .ok (.if_icmp .eq 17, 3) := by decide +kernel
theorem tc_d5_goesUp_186 : decode tc_i5_goesUp.2.1 186 = .ok (.aload_n 0, 1) := by decide +kernel
theorem tc_d5_goesUp_187 : decode tc_i5_goesUp.2.1 187 = .ok (.iload 5, 2) := by decide +kernel
theorem tc_d5_goesUp_189 : decode tc_i5_goesUp.2.1 189 = .ok (.iload_n 2, 1) := by decide +kernel
theorem tc_d5_goesUp_190 : decode tc_i5_goesUp.2.1 190 = .ok (.invokevirtual 117, 3) := by decide +kernel
theorem tc_d5_goesUp_193 : decode tc_i5_goesUp.2.1 193 = .ok (.ifCond .eq 7, 3) := by decide +kernel
theorem tc_d5_goesUp_196 : decode tc_i5_goesUp.2.1 196 = .ok (.iconst 1, 1) := by decide +kernel
theorem tc_d5_goesUp_197 : decode tc_i5_goesUp.2.1 197 = .ok (.goto 4, 3) := by decide +kernel
theorem tc_d5_goesUp_200 : decode tc_i5_goesUp.2.1 200 = .ok (.iconst 0, 1) := by decide +kernel
theorem tc_d5_goesUp_201 : decode tc_i5_goesUp.2.1 201 = .ok (.ireturn, 1) := by decide +kernel
theorem tc_d5_goesUp_202 : decode tc_i5_goesUp.2.1 202 = .ok (.iload_n 3, 1) := by decide +kernel
theorem tc_d5_goesUp_203 : decode tc_i5_goesUp.2.1 203 = .ok (.iload 4, 2) := by decide +kernel
theorem tc_d5_goesUp_205 : decode tc_i5_goesUp.2.1 205 = .ok (.invokestatic 88, 3) := by decide +kernel
theorem tc_d5_goesUp_208 : decode tc_i5_goesUp.2.1 208 = .ok (.ifCond .ne 5, 3) := by decide +kernel
theorem tc_d5_goesUp_211 : decode tc_i5_goesUp.2.1 211 = .ok (.iconst 0, 1) := by decide +kernel
theorem tc_d5_goesUp_212 : decode tc_i5_goesUp.2.1 212 = .ok (.ireturn, 1) := by decide +kernel
theorem tc_d5_goesUp_213 : decode tc_i5_goesUp.2.1 213 = .ok (.iload_n 2, 1) := by decide +kernel
theorem tc_d5_goesUp_214 : decode tc_i5_goesUp.2.1 214 = .ok (.ifCond .ne 7, 3) := by decide +kernel
theorem tc_d5_goesUp_217 : decode tc_i5_goesUp.2.1 217 = .ok (.iload_n 3, 1) := by decide +kernel
theorem tc_d5_goesUp_218 : decode tc_i5_goesUp.2.1 218 = .ok (.ifCond .eq 17, 3) := by decide +kernel
theorem tc_d5_goesUp_221 : decode tc_i5_goesUp.2.1 221 = .ok (.aload_n 0, 1) := by decide +kernel
theorem tc_d5_goesUp_222 : decode tc_i5_goesUp.2.1 222 = .ok (.iload 5, 2) := by decide +kernel
theorem tc_d5_goesUp_224 : decode tc_i5_goesUp.2.1 224 = .ok (.iload_n 2, 1) := by decide +kernel
theorem tc_d5_goesUp_225 : decode tc_i5_goesUp.2.1 225 = .ok (.invokevirtual 117, 3) := by decide +kernel
theorem tc_d5_goesUp_228 : decode tc_i5_goesUp.2.1 228 = .ok (.ifCond .eq 7, 3) := by decide +kernel
theorem tc_d5_goesUp_231 : decode tc_i5_goesUp.2.1 231 = .ok (.iconst 1, 1) := by decide +kernel
theorem tc_d5_goesUp_232 : decode tc_i5_goesUp.2.1 232 = .ok (.goto 4, 3) := by decide +kernel
theorem tc_d5_goesUp_235 : decode tc_i5_goesUp.2.1 235 = .ok (.iconst 0, 1) := by decide +kernel
theorem tc_d5_goesUp_236 : decode tc_i5_goesUp.2.1 236 = .ok (.ireturn, 1) := by decide +kernel
theorem tc_d5_goesUp_237 : decode tc_i5_goesUp.2.1 237 = .ok (.aload_n 0, 1) := by decide +kernel
theorem tc_d5_goesUp_238 : decode tc_i5_goesUp.2.1 238 = .ok (.iload 5, 2) := by decide +kernel
theorem tc_d5_goesUp_240 : decode tc_i5_goesUp.2.1 240 = .ok (.iload_n 2, 1) := by decide +kernel
theorem tc_d5_goesUp_241 : decode tc_i5_goesUp.2.1 241 = .ok (.invokevirtual 117, 3) := by decide +kernel
theorem tc_d5_goesUp_244 : decode tc_i5_goesUp.2.1 244 = .ok (.ireturn, 1) := by decide +kernel
theorem tc_d5_countWaits_0 : decode tc_i5_countWaits.2.1 0 = .ok (.iconst 0, 1) := by decide +kernel
theorem tc_d5_countWaits_1 : decode tc_i5_countWaits.2.1 1 = .ok (.istore_n 1, 1) := by decide +kernel
theorem tc_d5_countWaits_2 : decode tc_i5_countWaits.2.1 2 = .ok (.iload_n 1, 1) := by decide +kernel
theorem tc_d5_countWaits_3 : decode tc_i5_countWaits.2.1 3 = .ok (.aload_n 0, 1) := by decide +kernel
theorem tc_d5_countWaits_4 : decode tc_i5_countWaits.2.1 4 = .ok (.getfield 47, 3) := by decide +kernel
theorem tc_d5_countWaits_7 : decode tc_i5_countWaits.2.1 7 = .ok (.if_icmp .ge 44, 3) := by decide +kernel
theorem tc_d5_countWaits_10 : decode tc_i5_countWaits.2.1 10 = .ok (.aload_n 0, 1) := by decide +kernel
theorem tc_d5_countWaits_11 : decode tc_i5_countWaits.2.1 11 = .ok (.getfield 24, 3) := by decide +kernel
theorem tc_d5_countWaits_14 : decode tc_i5_countWaits.2.1 14 = .ok (.iload_n 1, 1) := by decide +kernel
theorem tc_d5_countWaits_15 : decode tc_i5_countWaits.2.1 15 = .ok (.aload_n 0, 1) := by decide +kernel
theorem tc_d5_countWaits_16 : decode tc_i5_countWaits.2.1 16 = .ok (.getfield 27, 3) := by decide +kernel
theorem tc_d5_countWaits_19 : decode tc_i5_countWaits.2.1 19 = .ok (.iload_n 1, 1) := by decide +kernel
theorem tc_d5_countWaits_20 : decode tc_i5_countWaits.2.1 20 = .ok (.iaload, 1) := by decide +kernel
theorem tc_d5_countWaits_21 : decode tc_i5_countWaits.2.1 21 = .ok (.aload_n 0, 1) := by decide +kernel
theorem tc_d5_countWaits_22 : decode tc_i5_countWaits.2.1 22 = .ok (.getfield 37, 3) := by decide +kernel
theorem tc_d5_countWaits_25 : decode tc_i5_countWaits.2.1 25 = .ok (.if_icmp .lt 18, 3) := by decide +kernel
theorem tc_d5_countWaits_28 : decode tc_i5_countWaits.2.1 28 = .ok (.iconst 3, 1) := by decide +kernel
theorem tc_d5_countWaits_29 : decode tc_i5_countWaits.2.1 29 = .ok (.aload_n 0, 1) := by decide +kernel
theorem tc_d5_countWaits_30 : decode tc_i5_countWaits.2.1 30 = .ok (.getfield 24, 3) := by decide +kernel
theorem tc_d5_countWaits_33 : decode tc_i5_countWaits.2.1 33 = .ok (.iload_n 1, 1) := by decide +kernel
theorem tc_d5_countWaits_34 : decode tc_i5_countWaits.2.1 34 = .ok (.iaload, 1) := by decide +kernel
theorem tc_d5_countWaits_35 : decode tc_i5_countWaits.2.1 35 = .ok (.iconst 1, 1) := by decide +kernel
theorem tc_d5_countWaits_36 : decode tc_i5_countWaits.2.1 36 = .ok (.iadd, 1) := by decide +kernel
theorem tc_d5_countWaits_37 : decode tc_i5_countWaits.2.1 37 = .ok (.invokestatic 121, 3) := by decide +kernel
theorem tc_d5_countWaits_40 : decode tc_i5_countWaits.2.1 40 = .ok (.goto 4, 3) := by decide +kernel
theorem tc_d5_countWaits_43 : decode tc_i5_countWaits.2.1 43 = .ok (.iconst 0, 1) := by decide +kernel
theorem tc_d5_countWaits_44 : decode tc_i5_countWaits.2.1 44 = .ok (.iastore, 1) := by decide +kernel
theorem tc_d5_countWaits_45 : decode tc_i5_countWaits.2.1 45 = .ok (.iinc 1 1, 3) := by decide +kernel
theorem tc_d5_countWaits_48 : decode tc_i5_countWaits.2.1 48 = .ok (.goto (-46), 3) := by decide +kernel
theorem tc_d5_countWaits_51 : decode tc_i5_countWaits.2.1 51 = .ok (.return_, 1) := by decide +kernel
theorem tc_d5_become_0 : decode tc_i5_become.2.1 0 = .ok (.aload_n 0, 1) := by decide +kernel
theorem tc_d5_become_1 : decode tc_i5_become.2.1 1 = .ok (.aload_n 1, 1) := by decide +kernel
theorem tc_d5_become_2 : decode tc_i5_become.2.1 2 = .ok (.getfield 47, 3) := by decide +kernel
theorem tc_d5_become_5 : decode tc_i5_become.2.1 5 = .ok (.putfield 47, 3) := by decide +kernel
theorem tc_d5_become_8 : decode tc_i5_become.2.1 8 = .ok (.aload_n 1, 1) := by decide +kernel
theorem tc_d5_become_9 : decode tc_i5_become.2.1 9 = .ok (.getfield 9, 3) := by decide +kernel
theorem tc_d5_become_12 : decode tc_i5_become.2.1 12 = .ok (.iconst 0, 1) := by decide +kernel
theorem tc_d5_become_13 : decode tc_i5_become.2.1 13 = .ok (.aload_n 0, 1) := by decide +kernel
theorem tc_d5_become_14 : decode tc_i5_become.2.1 14 = .ok (.getfield 9, 3) := by decide +kernel
theorem tc_d5_become_17 : decode tc_i5_become.2.1 17 = .ok (.iconst 0, 1) := by decide +kernel
theorem tc_d5_become_18 : decode tc_i5_become.2.1 18 = .ok (.aload_n 0, 1) := by decide +kernel
theorem tc_d5_become_19 : decode tc_i5_become.2.1 19 = .ok (.getfield 47, 3) := by decide +kernel
theorem tc_d5_become_22 : decode tc_i5_become.2.1 22 = .ok (.invokestatic 50, 3) := by decide +kernel
theorem tc_d5_become_25 : decode tc_i5_become.2.1 25 = .ok (.aload_n 1, 1) := by decide +kernel
theorem tc_d5_become_26 : decode tc_i5_become.2.1 26 = .ok (.getfield 15, 3) := by decide +kernel
theorem tc_d5_become_29 : decode tc_i5_become.2.1 29 = .ok (.iconst 0, 1) := by decide +kernel
theorem tc_d5_become_30 : decode tc_i5_become.2.1 30 = .ok (.aload_n 0, 1) := by decide +kernel
theorem tc_d5_become_31 : decode tc_i5_become.2.1 31 = .ok (.getfield 15, 3) := by decide +kernel
theorem tc_d5_become_34 : decode tc_i5_become.2.1 34 = .ok (.iconst 0, 1) := by decide +kernel
theorem tc_d5_become_35 : decode tc_i5_become.2.1 35 = .ok (.aload_n 0, 1) := by decide +kernel
theorem tc_d5_become_36 : decode tc_i5_become.2.1 36 = .ok (.getfield 47, 3) := by decide +kernel
theorem tc_d5_become_39 : decode tc_i5_become.2.1 39 = .ok (.invokestatic 50, 3) := by decide +kernel
theorem tc_d5_become_42 : decode tc_i5_become.2.1 42 = .ok (.aload_n 1, 1) := by decide +kernel
theorem tc_d5_become_43 : decode tc_i5_become.2.1 43 = .ok (.getfield 18, 3) := by decide +kernel
theorem tc_d5_become_46 : decode tc_i5_become.2.1 46 = .ok (.iconst 0, 1) := by decide +kernel
theorem tc_d5_become_47 : decode tc_i5_become.2.1 47 = .ok (.aload_n 0, 1) := by decide +kernel
theorem tc_d5_become_48 : decode tc_i5_become.2.1 48 = .ok (.getfield 18, 3) := by decide +kernel
theorem tc_d5_become_51 : decode tc_i5_become.2.1 51 = .ok (.iconst 0, 1) := by decide +kernel
theorem tc_d5_become_52 : decode tc_i5_become.2.1 52 = .ok (.aload_n 0, 1) := by decide +kernel
theorem tc_d5_become_53 : decode tc_i5_become.2.1 53 = .ok (.getfield 47, 3) := by decide +kernel
theorem tc_d5_become_56 : decode tc_i5_become.2.1 56 = .ok (.invokestatic 50, 3) := by decide +kernel
theorem tc_d5_become_59 : decode tc_i5_become.2.1 59 = .ok (.aload_n 1, 1) := by decide +kernel
theorem tc_d5_become_60 : decode tc_i5_become.2.1 60 = .ok (.getfield 21, 3) := by decide +kernel
theorem tc_d5_become_63 : decode tc_i5_become.2.1 63 = .ok (.iconst 0, 1) := by decide +kernel
theorem tc_d5_become_64 : decode tc_i5_become.2.1 64 = .ok (.aload_n 0, 1) := by decide +kernel
theorem tc_d5_become_65 : decode tc_i5_become.2.1 65 = .ok (.getfield 21, 3) := by decide +kernel
theorem tc_d5_become_68 : decode tc_i5_become.2.1 68 = .ok (.iconst 0, 1) := by decide +kernel
theorem tc_d5_become_69 : decode tc_i5_become.2.1 69 = .ok (.aload_n 0, 1) := by decide +kernel
theorem tc_d5_become_70 : decode tc_i5_become.2.1 70 = .ok (.getfield 47, 3) := by decide +kernel
theorem tc_d5_become_73 : decode tc_i5_become.2.1 73 = .ok (.invokestatic 50, 3) := by decide +kernel
theorem tc_d5_become_76 : decode tc_i5_become.2.1 76 = .ok (.aload_n 1, 1) := by decide +kernel
theorem tc_d5_become_77 : decode tc_i5_become.2.1 77 = .ok (.getfield 24, 3) := by decide +kernel
theorem tc_d5_become_80 : decode tc_i5_become.2.1 80 = .ok (.iconst 0, 1) := by decide +kernel
theorem tc_d5_become_81 : decode tc_i5_become.2.1 81 = .ok (.aload_n 0, 1) := by decide +kernel
theorem tc_d5_become_82 : decode tc_i5_become.2.1 82 = .ok (.getfield 24, 3) := by decide +kernel
theorem tc_d5_become_85 : decode tc_i5_become.2.1 85 = .ok (.iconst 0, 1) := by decide +kernel
theorem tc_d5_become_86 : decode tc_i5_become.2.1 86 = .ok (.aload_n 0, 1) := by decide +kernel
theorem tc_d5_become_87 : decode tc_i5_become.2.1 87 = .ok (.getfield 47, 3) := by decide +kernel
theorem tc_d5_become_90 : decode tc_i5_become.2.1 90 = .ok (.invokestatic 50, 3) := by decide +kernel
theorem tc_d5_become_93 : decode tc_i5_become.2.1 93 = .ok (.aload_n 0, 1) := by decide +kernel
theorem tc_d5_become_94 : decode tc_i5_become.2.1 94 = .ok (.getfield 33, 3) := by decide +kernel
theorem tc_d5_become_97 : decode tc_i5_become.2.1 97 = .ok (.aload_n 1, 1) := by decide +kernel
theorem tc_d5_become_98 : decode tc_i5_become.2.1 98 = .ok (.getfield 33, 3) := by decide +kernel
theorem tc_d5_become_101 : decode tc_i5_become.2.1 101 = .ok (.invokevirtual 56, 3) := by decide +kernel
theorem tc_d5_become_104 : decode tc_i5_become.2.1 104 = .ok (.aload_n 0, 1) := by decide +kernel
theorem tc_d5_become_105 : decode tc_i5_become.2.1 105 = .ok (.aload_n 1, 1) := by decide +kernel
theorem tc_d5_become_106 : decode tc_i5_become.2.1 106 = .ok (.getfield 60, 3) := by decide +kernel
theorem tc_d5_become_109 : decode tc_i5_become.2.1 109 = .ok (.putfield 60, 3) := by decide +kernel
theorem tc_d5_become_112 : decode tc_i5_become.2.1 112 = .ok (.aload_n 0, 1) := by decide +kernel
theorem tc_d5_become_113 : decode tc_i5_become.2.1 113 = .ok (.aload_n 1, 1) := by decide +kernel
theorem tc_d5_become_114 : decode tc_i5_become.2.1 114 = .ok (.getfield 63, 3) := by decide +kernel
theorem tc_d5_become_117 : decode tc_i5_become.2.1 117 = .ok (.putfield 63, 3) := by decide +kernel
theorem tc_d5_become_120 : decode tc_i5_become.2.1 120 = .ok (.aload_n 0, 1) := by decide +kernel
theorem tc_d5_become_121 : decode tc_i5_become.2.1 121 = .ok (.aload_n 1, 1) := by decide +kernel
theorem tc_d5_become_122 : decode tc_i5_become.2.1 122 = .ok (.getfield 37, 3) := by decide +kernel
theorem tc_d5_become_125 : decode tc_i5_become.2.1 125 = .ok (.putfield 37, 3) := by decide +kernel
theorem tc_d5_become_128 : decode tc_i5_become.2.1 128 = .ok (.aload_n 0, 1) := by decide +kernel
theorem tc_d5_become_129 : decode tc_i5_become.2.1 129 = .ok (.aload_n 1, 1) := by decide +kernel
theorem tc_d5_become_130 : decode tc_i5_become.2.1 130 = .ok (.getfield 41, 3) := by decide +kernel
theorem tc_d5_become_133 : decode tc_i5_become.2.1 133 = .ok (.putfield 41, 3) := by decide +kernel
theorem tc_d5_become_136 : decode tc_i5_become.2.1 136 = .ok (.aload_n 0, 1) := by decide +kernel
theorem tc_d5_become_137 : decode tc_i5_become.2.1 137 = .ok (.aload_n 1, 1) := by decide +kernel
theorem tc_d5_become_138 : decode tc_i5_become.2.1 138 = .ok (.getfield 44, 3) := by decide +kernel
theorem tc_d5_become_141 : decode tc_i5_become.2.1 141 = .ok (.putfield 44, 3) := by decide +kernel
theorem tc_d5_become_144 : decode tc_i5_become.2.1 144 = .ok (.return_, 1) := by decide +kernel
theorem tc_d5_addFault_0 : decode tc_i5_addFault.2.1 0 = .ok (.iload_n 1, 1) := by decide +kernel
theorem tc_d5_addFault_1 : decode tc_i5_addFault.2.1 1 = .ok (.iconst 2, 1) := by decide +kernel
theorem tc_d5_addFault_2 : decode tc_i5_addFault.2.1 2 = .ok (.if_icmp .ne 26, 3) := by decide +kernel
theorem tc_d5_addFault_5 : decode tc_i5_addFault.2.1 5 = .ok (.aload_n 0, 1) := by decide +kernel
theorem tc_d5_addFault_6 : decode tc_i5_addFault.2.1 6 = .ok (.iload_n 2, 1) := by decide +kernel
theorem tc_d5_addFault_7 : decode tc_i5_addFault.2.1 7 = .ok (.iconst 1, 1) := by decide +kernel
theorem tc_d5_addFault_8 : decode tc_i5_addFault.2.1 8 = .ok (.iadd, 1) := by decide +kernel
theorem tc_d5_addFault_9 : decode tc_i5_addFault.2.1 9 = .ok (.invokevirtual 77, 3) := by decide +kernel
theorem tc_d5_addFault_12 : decode tc_i5_addFault.2.1 12 = .ok (.ifCond .eq 16, 3) := by decide +kernel
theorem tc_d5_addFault_15 : decode tc_i5_addFault.2.1 15 = .ok (.aload_n 0, 1) := by decide +kernel
theorem tc_d5_addFault_16 : decode tc_i5_addFault.2.1 16 = .ok (.getfield 15, 3) := by decide +kernel
theorem tc_d5_addFault_19 : decode tc_i5_addFault.2.1 19 = .ok (.iload_n 2, 1) := by decide +kernel
theorem tc_d5_addFault_20 : decode tc_i5_addFault.2.1 20 = .ok (.iconst 1, 1) := by decide +kernel
theorem tc_d5_addFault_21 : decode tc_i5_addFault.2.1 21 = .ok (.iadd, 1) := by decide +kernel
theorem tc_d5_addFault_22 : decode tc_i5_addFault.2.1 22 = .ok (.iaload, 1) := by decide +kernel
theorem tc_d5_addFault_23 : decode tc_i5_addFault.2.1 23 = .ok (.iconst 2, 1) := by decide +kernel
theorem tc_d5_addFault_24 : decode tc_i5_addFault.2.1 24 = .ok (.idiv, 1) := by decide +kernel
theorem tc_d5_addFault_25 : decode tc_i5_addFault.2.1 25 = .ok (.goto 4, 3) := by decide +kernel
theorem tc_d5_addFault_28 : decode tc_i5_addFault.2.1 28 = .ok (.iconst 0, 1) := by decide +kernel
theorem tc_d5_addFault_29 : decode tc_i5_addFault.2.1 29 = .ok (.istore_n 3, 1) := by decide +kernel
theorem tc_d5_addFault_30 : decode tc_i5_addFault.2.1 30 = .ok (.aload_n 0, 1) := by decide +kernel
theorem tc_d5_addFault_31 : decode tc_i5_addFault.2.1 31 = .ok (.getfield 33, 3) := by decide +kernel
theorem tc_d5_addFault_34 : decode tc_i5_addFault.2.1 34 = .ok (.iload_n 1, 1) := by decide +kernel
theorem tc_d5_addFault_35 : decode tc_i5_addFault.2.1 35 = .ok (.iload_n 2, 1) := by decide +kernel
theorem tc_d5_addFault_36 : decode tc_i5_addFault.2.1 36 = .ok (.iload_n 3, 1) := by decide +kernel
theorem tc_d5_addFault_37 : decode tc_i5_addFault.2.1 37 = .ok (.invokevirtual 81, 3) := by decide +kernel
theorem tc_d5_addFault_40 : decode tc_i5_addFault.2.1 40 = .ok (.return_, 1) := by decide +kernel
theorem tc_d5_troubled_0 : decode tc_i5_troubled.2.1 0 = .ok (.aload_n 0, 1) := by decide +kernel
theorem tc_d5_troubled_1 : decode tc_i5_troubled.2.1 1 = .ok (.getfield 63, 3) := by decide +kernel
theorem tc_d5_troubled_4 : decode tc_i5_troubled.2.1 4 = .ok (.aload_n 0, 1) := by decide +kernel
theorem tc_d5_troubled_5 : decode tc_i5_troubled.2.1 5 = .ok (.getfield 33, 3) := by decide +kernel
theorem tc_d5_troubled_8 : decode tc_i5_troubled.2.1 8 = .ok (.iconst 0, 1) := by decide +kernel
theorem tc_d5_troubled_9 : decode tc_i5_troubled.2.1 9 = .ok (.invokevirtual 104, 3) := by decide +kernel
theorem tc_d5_troubled_12 : decode tc_i5_troubled.2.1 12 = .ok (.ior, 1) := by decide +kernel
theorem tc_d5_troubled_13 : decode tc_i5_troubled.2.1 13 = .ok (.ireturn, 1) := by decide +kernel
theorem tc_d5_unsafe_0 : decode tc_i5_unsafe.2.1 0 = .ok (.aload_n 0, 1) := by decide +kernel
theorem tc_d5_unsafe_1 : decode tc_i5_unsafe.2.1 1 = .ok (.invokevirtual 128, 3) := by decide +kernel
theorem tc_d5_unsafe_4 : decode tc_i5_unsafe.2.1 4 = .ok (.aload_n 0, 1) := by decide +kernel
theorem tc_d5_unsafe_5 : decode tc_i5_unsafe.2.1 5 = .ok (.getfield 60, 3) := by decide +kernel
theorem tc_d5_unsafe_8 : decode tc_i5_unsafe.2.1 8 = .ok (.iand, 1) := by decide +kernel
theorem tc_d5_unsafe_9 : decode tc_i5_unsafe.2.1 9 = .ok (.ireturn, 1) := by decide +kernel
theorem tc_d5_all_0 : decode tc_i5_all.2.1 0 = .ok (.iconst 1, 1) := by decide +kernel
theorem tc_d5_all_1 : decode tc_i5_all.2.1 1 = .ok (.aload_n 0, 1) := by decide +kernel
theorem tc_d5_all_2 : decode tc_i5_all.2.1 2 = .ok (.getfield 47, 3) := by decide +kernel
theorem tc_d5_all_5 : decode tc_i5_all.2.1 5 = .ok (.ishl, 1) := by decide +kernel
theorem tc_d5_all_6 : decode tc_i5_all.2.1 6 = .ok (.iconst 1, 1) := by decide +kernel
theorem tc_d5_all_7 : decode tc_i5_all.2.1 7 = .ok (.isub, 1) := by decide +kernel
theorem tc_d5_all_8 : decode tc_i5_all.2.1 8 = .ok (.ireturn, 1) := by decide +kernel
theorem tc_d5_wrong_0 : decode tc_i5_wrong.2.1 0 = .ok (.aload_n 0, 1) := by decide +kernel
theorem tc_d5_wrong_1 : decode tc_i5_wrong.2.1 1 = .ok (.invokevirtual 124, 3) := by decide +kernel
theorem tc_d5_wrong_4 : decode tc_i5_wrong.2.1 4 = .ok (.aload_n 0, 1) := by decide +kernel
theorem tc_d5_wrong_5 : decode tc_i5_wrong.2.1 5 = .ok (.invokevirtual 128, 3) := by decide +kernel
theorem tc_d5_wrong_8 : decode tc_i5_wrong.2.1 8 = .ok (.iconst (-1), 1) := by decide +kernel
theorem tc_d5_wrong_9 : decode tc_i5_wrong.2.1 9 = .ok (.ixor, 1) := by decide +kernel
theorem tc_d5_wrong_10 : decode tc_i5_wrong.2.1 10 = .ok (.iand, 1) := by decide +kernel
theorem tc_d5_wrong_11 : decode tc_i5_wrong.2.1 11 = .ok (.aload_n 0, 1) := by decide +kernel
theorem tc_d5_wrong_12 : decode tc_i5_wrong.2.1 12 = .ok (.getfield 60, 3) := by decide +kernel
theorem tc_d5_wrong_15 : decode tc_i5_wrong.2.1 15 = .ok (.iconst (-1), 1) := by decide +kernel
theorem tc_d5_wrong_16 : decode tc_i5_wrong.2.1 16 = .ok (.ixor, 1) := by decide +kernel
theorem tc_d5_wrong_17 : decode tc_i5_wrong.2.1 17 = .ok (.iand, 1) := by decide +kernel
theorem tc_d5_wrong_18 : decode tc_i5_wrong.2.1 18 = .ok (.ireturn, 1) := by decide +kernel
theorem tc_d5_moveTrains_0 : decode tc_i5_moveTrains.2.1 0 = .ok (.aload_n 0, 1) := by decide +kernel
theorem tc_d5_moveTrains_1 : decode tc_i5_moveTrains.2.1 1 = .ok (.aload_n 0, 1) := by decide +kernel
theorem tc_d5_moveTrains_2 : decode tc_i5_moveTrains.2.1 2 = .ok (.getfield 63, 3) := by decide +kernel
theorem tc_d5_moveTrains_5 : decode tc_i5_moveTrains.2.1 5 = .ok (.iconst 1, 1) := by decide +kernel
theorem tc_d5_moveTrains_6 : decode tc_i5_moveTrains.2.1 6 = .ok (.ishl, 1) := by decide +kernel
theorem tc_d5_moveTrains_7 : decode tc_i5_moveTrains.2.1 7 = .ok (.aload_n 0, 1) := by decide +kernel
theorem tc_d5_moveTrains_8 : decode tc_i5_moveTrains.2.1 8 = .ok (.invokevirtual 124, 3) := by decide +kernel
theorem tc_d5_moveTrains_11 : decode tc_i5_moveTrains.2.1 11 = .ok (.iand, 1) := by decide +kernel
theorem tc_d5_moveTrains_12 : decode tc_i5_moveTrains.2.1 12 = .ok (.putfield 63, 3) := by decide +kernel
theorem tc_d5_moveTrains_15 : decode tc_i5_moveTrains.2.1 15 = .ok (.return_, 1) := by decide +kernel
theorem tc_d5_addSection_0 : decode tc_i5_addSection.2.1 0 = .ok (.aload_n 0, 1) := by decide +kernel
theorem tc_d5_addSection_1 : decode tc_i5_addSection.2.1 1 = .ok (.getfield 47, 3) := by decide +kernel
theorem tc_d5_addSection_4 : decode tc_i5_addSection.2.1 4 = .ok (.bipush 8, 2) := by decide +kernel
theorem tc_d5_addSection_6 : decode tc_i5_addSection.2.1 6 = .ok (.if_icmp .lt 4, 3) := by decide +kernel
theorem tc_d5_addSection_9 : decode tc_i5_addSection.2.1 9 = .ok (.return_, 1) := by decide +kernel
theorem tc_d5_addSection_10 : decode tc_i5_addSection.2.1 10 = .ok (.aload_n 0, 1) := by decide +kernel
theorem tc_d5_addSection_11 : decode tc_i5_addSection.2.1 11 = .ok (.getfield 9, 3) := by decide +kernel
theorem tc_d5_addSection_14 : decode tc_i5_addSection.2.1 14 = .ok (.aload_n 0, 1) := by decide +kernel
theorem tc_d5_addSection_15 : decode tc_i5_addSection.2.1 15 = .ok (.getfield 47, 3) := by decide +kernel
theorem tc_d5_addSection_18 : decode tc_i5_addSection.2.1 18 = .ok (.iload_n 1, 1) := by decide +kernel
theorem tc_d5_addSection_19 : decode tc_i5_addSection.2.1 19 = .ok (.iastore, 1) := by decide +kernel
theorem tc_d5_addSection_20 : decode tc_i5_addSection.2.1 20 = .ok (.aload_n 0, 1) := by decide +kernel
theorem tc_d5_addSection_21 : decode tc_i5_addSection.2.1 21 = .ok (.getfield 15, 3) := by decide +kernel
theorem tc_d5_addSection_24 : decode tc_i5_addSection.2.1 24 = .ok (.aload_n 0, 1) := by decide +kernel
theorem tc_d5_addSection_25 : decode tc_i5_addSection.2.1 25 = .ok (.getfield 47, 3) := by decide +kernel
theorem tc_d5_addSection_28 : decode tc_i5_addSection.2.1 28 = .ok (.iload_n 2, 1) := by decide +kernel
theorem tc_d5_addSection_29 : decode tc_i5_addSection.2.1 29 = .ok (.iastore, 1) := by decide +kernel
theorem tc_d5_addSection_30 : decode tc_i5_addSection.2.1 30 = .ok (.aload_n 0, 1) := by decide +kernel
theorem tc_d5_addSection_31 : decode tc_i5_addSection.2.1 31 = .ok (.getfield 18, 3) := by decide +kernel
theorem tc_d5_addSection_34 : decode tc_i5_addSection.2.1 34 = .ok (.aload_n 0, 1) := by decide +kernel
theorem tc_d5_addSection_35 : decode tc_i5_addSection.2.1 35 = .ok (.getfield 47, 3) := by decide +kernel
theorem tc_d5_addSection_38 : decode tc_i5_addSection.2.1 38 = .ok (.iload_n 3, 1) := by decide +kernel
theorem tc_d5_addSection_39 : decode tc_i5_addSection.2.1 39 = .ok (.iastore, 1) := by decide +kernel
theorem tc_d5_addSection_40 : decode tc_i5_addSection.2.1 40 = .ok (.aload_n 0, 1) := by decide +kernel
theorem tc_d5_addSection_41 : decode tc_i5_addSection.2.1 41 = .ok (.getfield 21, 3) := by decide +kernel
theorem tc_d5_addSection_44 : decode tc_i5_addSection.2.1 44 = .ok (.aload_n 0, 1) := by decide +kernel
theorem tc_d5_addSection_45 : decode tc_i5_addSection.2.1 45 = .ok (.getfield 47, 3) := by decide +kernel
theorem tc_d5_addSection_48 : decode tc_i5_addSection.2.1 48 = .ok (.iload 4, 2) := by decide +kernel
theorem tc_d5_addSection_50 : decode tc_i5_addSection.2.1 50 = .ok (.iastore, 1) := by decide +kernel
theorem tc_d5_addSection_51 : decode tc_i5_addSection.2.1 51 = .ok (.aload_n 0, 1) := by decide +kernel
theorem tc_d5_addSection_52 : decode tc_i5_addSection.2.1 52 = .ok (.getfield 24, 3) := by decide +kernel
theorem tc_d5_addSection_55 : decode tc_i5_addSection.2.1 55 = .ok (.aload_n 0, 1) := by decide +kernel
theorem tc_d5_addSection_56 : decode tc_i5_addSection.2.1 56 = .ok (.getfield 47, 3) := by decide +kernel
theorem tc_d5_addSection_59 : decode tc_i5_addSection.2.1 59 = .ok (.iconst 0, 1) := by decide +kernel
theorem tc_d5_addSection_60 : decode tc_i5_addSection.2.1 60 = .ok (.iastore, 1) := by decide +kernel
theorem tc_d5_addSection_61 : decode tc_i5_addSection.2.1 61 = .ok (.aload_n 0, 1) := by decide +kernel
theorem tc_d5_addSection_62 : decode tc_i5_addSection.2.1 62 = .ok (.dup, 1) := by decide +kernel
theorem tc_d5_addSection_63 : decode tc_i5_addSection.2.1 63 = .ok (.getfield 47, 3) := by decide +kernel
theorem tc_d5_addSection_66 : decode tc_i5_addSection.2.1 66 = .ok (.iconst 1, 1) := by decide +kernel
theorem tc_d5_addSection_67 : decode tc_i5_addSection.2.1 67 = .ok (.iadd, 1) := by decide +kernel
theorem tc_d5_addSection_68 : decode tc_i5_addSection.2.1 68 = .ok (.putfield 47, 3) := by decide +kernel
theorem tc_d5_addSection_71 : decode tc_i5_addSection.2.1 71 = .ok (.return_, 1) := by decide +kernel
theorem tc_d5_allCurrents_0 : decode tc_i5_allCurrents.2.1 0 = .ok (.aload_n 0, 1) := by decide +kernel
theorem tc_d5_allCurrents_1 : decode tc_i5_allCurrents.2.1 1 = .ok (.invokevirtual 111, 3) := by decide +kernel
theorem tc_d5_allCurrents_4 : decode tc_i5_allCurrents.2.1 4 = .ok (.iconst 0, 1) := by decide +kernel
theorem tc_d5_allCurrents_5 : decode tc_i5_allCurrents.2.1 5 = .ok (.istore_n 1, 1) := by decide +kernel
theorem tc_d5_allCurrents_6 : decode tc_i5_allCurrents.2.1 6 = .ok (.iconst 0, 1) := by decide +kernel
theorem tc_d5_allCurrents_7 : decode tc_i5_allCurrents.2.1 7 = .ok (.istore_n 2, 1) := by decide +kernel
theorem tc_d5_allCurrents_8 : decode tc_i5_allCurrents.2.1 8 = .ok (.iload_n 2, 1) := by decide +kernel
theorem tc_d5_allCurrents_9 : decode tc_i5_allCurrents.2.1 9 = .ok (.aload_n 0, 1) := by decide +kernel
theorem tc_d5_allCurrents_10 : decode tc_i5_allCurrents.2.1 10 = .ok (.getfield 47, 3) := by decide +kernel
theorem tc_d5_allCurrents_13 : decode tc_i5_allCurrents.2.1 13 = .ok (.if_icmp .ge 18, 3) := by decide +kernel
theorem tc_d5_allCurrents_16 : decode tc_i5_allCurrents.2.1 16 = .ok (.iload_n 1, 1) := by decide +kernel
theorem tc_d5_allCurrents_17 : decode tc_i5_allCurrents.2.1 17 = .ok (.aload_n 0, 1) := by decide +kernel
theorem tc_d5_allCurrents_18 : decode tc_i5_allCurrents.2.1 18 = .ok (.getfield 27, 3) := by decide +kernel
theorem tc_d5_allCurrents_21 : decode tc_i5_allCurrents.2.1 21 = .ok (.iload_n 2, 1) := by decide +kernel
theorem tc_d5_allCurrents_22 : decode tc_i5_allCurrents.2.1 22 = .ok (.iaload, 1) := by decide +kernel
theorem tc_d5_allCurrents_23 : decode tc_i5_allCurrents.2.1 23 = .ok (.iadd, 1) := by decide +kernel
theorem tc_d5_allCurrents_24 : decode tc_i5_allCurrents.2.1 24 = .ok (.istore_n 1, 1) := by decide +kernel
theorem tc_d5_allCurrents_25 : decode tc_i5_allCurrents.2.1 25 = .ok (.iinc 2 1, 3) := by decide +kernel
theorem tc_d5_allCurrents_28 : decode tc_i5_allCurrents.2.1 28 = .ok (.goto (-20), 3) := by decide +kernel
theorem tc_d5_allCurrents_31 : decode tc_i5_allCurrents.2.1 31 = .ok (.iload_n 1, 1) := by decide +kernel
theorem tc_d5_allCurrents_32 : decode tc_i5_allCurrents.2.1 32 = .ok (.ireturn, 1) := by decide +kernel
theorem tc_d5_lay_0 : decode tc_i5_lay.2.1 0 = .ok (.iload_n 2, 1) := by decide +kernel
theorem tc_d5_lay_1 : decode tc_i5_lay.2.1 1 = .ok (.tableswitch 57 0 2 #[27, 37, 47], 27) := by decide +kernel
theorem tc_d5_lay_28 : decode tc_i5_lay.2.1 28 = .ok (.aload_n 0, 1) := by decide +kernel
theorem tc_d5_lay_29 : decode tc_i5_lay.2.1 29 = .ok (.getfield 15, 3) := by decide +kernel
theorem tc_d5_lay_32 : decode tc_i5_lay.2.1 32 = .ok (.iload_n 1, 1) := by decide +kernel
theorem tc_d5_lay_33 : decode tc_i5_lay.2.1 33 = .ok (.iload_n 3, 1) := by decide +kernel
theorem tc_d5_lay_34 : decode tc_i5_lay.2.1 34 = .ok (.iastore, 1) := by decide +kernel
theorem tc_d5_lay_35 : decode tc_i5_lay.2.1 35 = .ok (.goto 30, 3) := by decide +kernel
theorem tc_d5_lay_38 : decode tc_i5_lay.2.1 38 = .ok (.aload_n 0, 1) := by decide +kernel
theorem tc_d5_lay_39 : decode tc_i5_lay.2.1 39 = .ok (.getfield 18, 3) := by decide +kernel
theorem tc_d5_lay_42 : decode tc_i5_lay.2.1 42 = .ok (.iload_n 1, 1) := by decide +kernel
theorem tc_d5_lay_43 : decode tc_i5_lay.2.1 43 = .ok (.iload_n 3, 1) := by decide +kernel
theorem tc_d5_lay_44 : decode tc_i5_lay.2.1 44 = .ok (.iastore, 1) := by decide +kernel
theorem tc_d5_lay_45 : decode tc_i5_lay.2.1 45 = .ok (.goto 20, 3) := by decide +kernel
theorem tc_d5_lay_48 : decode tc_i5_lay.2.1 48 = .ok (.aload_n 0, 1) := by decide +kernel
theorem tc_d5_lay_49 : decode tc_i5_lay.2.1 49 = .ok (.getfield 21, 3) := by decide +kernel
theorem tc_d5_lay_52 : decode tc_i5_lay.2.1 52 = .ok (.iload_n 1, 1) := by decide +kernel
theorem tc_d5_lay_53 : decode tc_i5_lay.2.1 53 = .ok (.iload_n 3, 1) := by decide +kernel
theorem tc_d5_lay_54 : decode tc_i5_lay.2.1 54 = .ok (.iastore, 1) := by decide +kernel
theorem tc_d5_lay_55 : decode tc_i5_lay.2.1 55 = .ok (.goto 10, 3) := by decide +kernel
theorem tc_d5_lay_58 : decode tc_i5_lay.2.1 58 = .ok (.aload_n 0, 1) := by decide +kernel
theorem tc_d5_lay_59 : decode tc_i5_lay.2.1 59 = .ok (.getfield 9, 3) := by decide +kernel
theorem tc_d5_lay_62 : decode tc_i5_lay.2.1 62 = .ok (.iload_n 1, 1) := by decide +kernel
theorem tc_d5_lay_63 : decode tc_i5_lay.2.1 63 = .ok (.iload_n 3, 1) := by decide +kernel
theorem tc_d5_lay_64 : decode tc_i5_lay.2.1 64 = .ok (.iastore, 1) := by decide +kernel
theorem tc_d5_lay_65 : decode tc_i5_lay.2.1 65 = .ok (.return_, 1) := by decide +kernel
theorem tc_d5_layRule_0 : decode tc_i5_layRule.2.1 0 = .ok (.iload_n 1, 1) := by decide +kernel
theorem tc_d5_layRule_1 : decode tc_i5_layRule.2.1 1 = .ok (.lookupswitch 51 #[(0, 27), (1, 39)], 27) := by decide +kernel
theorem tc_d5_layRule_28 : decode tc_i5_layRule.2.1 28 = .ok (.aload_n 0, 1) := by decide +kernel
theorem tc_d5_layRule_29 : decode tc_i5_layRule.2.1 29 = .ok (.getfield 37, 3) := by decide +kernel
theorem tc_d5_layRule_32 : decode tc_i5_layRule.2.1 32 = .ok (.istore_n 3, 1) := by decide +kernel
theorem tc_d5_layRule_33 : decode tc_i5_layRule.2.1 33 = .ok (.aload_n 0, 1) := by decide +kernel
theorem tc_d5_layRule_34 : decode tc_i5_layRule.2.1 34 = .ok (.iload_n 2, 1) := by decide +kernel
theorem tc_d5_layRule_35 : decode tc_i5_layRule.2.1 35 = .ok (.putfield 37, 3) := by decide +kernel
theorem tc_d5_layRule_38 : decode tc_i5_layRule.2.1 38 = .ok (.iload_n 3, 1) := by decide +kernel
theorem tc_d5_layRule_39 : decode tc_i5_layRule.2.1 39 = .ok (.ireturn, 1) := by decide +kernel
theorem tc_d5_layRule_40 : decode tc_i5_layRule.2.1 40 = .ok (.aload_n 0, 1) := by decide +kernel
theorem tc_d5_layRule_41 : decode tc_i5_layRule.2.1 41 = .ok (.getfield 41, 3) := by decide +kernel
theorem tc_d5_layRule_44 : decode tc_i5_layRule.2.1 44 = .ok (.istore_n 3, 1) := by decide +kernel
theorem tc_d5_layRule_45 : decode tc_i5_layRule.2.1 45 = .ok (.aload_n 0, 1) := by decide +kernel
theorem tc_d5_layRule_46 : decode tc_i5_layRule.2.1 46 = .ok (.iload_n 2, 1) := by decide +kernel
theorem tc_d5_layRule_47 : decode tc_i5_layRule.2.1 47 = .ok (.putfield 41, 3) := by decide +kernel
theorem tc_d5_layRule_50 : decode tc_i5_layRule.2.1 50 = .ok (.iload_n 3, 1) := by decide +kernel
theorem tc_d5_layRule_51 : decode tc_i5_layRule.2.1 51 = .ok (.ireturn, 1) := by decide +kernel
theorem tc_d5_layRule_52 : decode tc_i5_layRule.2.1 52 = .ok (.aload_n 0, 1) := by decide +kernel
theorem tc_d5_layRule_53 : decode tc_i5_layRule.2.1 53 = .ok (.getfield 44, 3) := by decide +kernel
theorem tc_d5_layRule_56 : decode tc_i5_layRule.2.1 56 = .ok (.istore_n 3, 1) := by decide +kernel
theorem tc_d5_layRule_57 : decode tc_i5_layRule.2.1 57 = .ok (.aload_n 0, 1) := by decide +kernel
theorem tc_d5_layRule_58 : decode tc_i5_layRule.2.1 58 = .ok (.iload_n 2, 1) := by decide +kernel
theorem tc_d5_layRule_59 : decode tc_i5_layRule.2.1 59 = .ok (.putfield 44, 3) := by decide +kernel
theorem tc_d5_layRule_62 : decode tc_i5_layRule.2.1 62 = .ok (.iload_n 3, 1) := by decide +kernel
theorem tc_d5_layRule_63 : decode tc_i5_layRule.2.1 63 = .ok (.ireturn, 1) := by decide +kernel
theorem tc_d5_removeLast_0 : decode tc_i5_removeLast.2.1 0 = .ok (.aload_n 0, 1) := by decide +kernel
theorem tc_d5_removeLast_1 : decode tc_i5_removeLast.2.1 1 = .ok (.getfield 47, 3) := by decide +kernel
theorem tc_d5_removeLast_4 : decode tc_i5_removeLast.2.1 4 = .ok (.ifCond .ne 4, 3) := by decide +kernel
theorem tc_d5_removeLast_7 : decode tc_i5_removeLast.2.1 7 = .ok (.return_, 1) := by decide +kernel
theorem tc_d5_removeLast_8 : decode tc_i5_removeLast.2.1 8 = .ok (.aload_n 0, 1) := by decide +kernel
theorem tc_d5_removeLast_9 : decode tc_i5_removeLast.2.1 9 = .ok (.dup, 1) := by decide +kernel
theorem tc_d5_removeLast_10 : decode tc_i5_removeLast.2.1 10 = .ok (.getfield 47, 3) := by decide +kernel
theorem tc_d5_removeLast_13 : decode tc_i5_removeLast.2.1 13 = .ok (.iconst 1, 1) := by decide +kernel
theorem tc_d5_removeLast_14 : decode tc_i5_removeLast.2.1 14 = .ok (.isub, 1) := by decide +kernel
theorem tc_d5_removeLast_15 : decode tc_i5_removeLast.2.1 15 = .ok (.putfield 47, 3) := by decide +kernel
theorem tc_d5_removeLast_18 : decode tc_i5_removeLast.2.1 18 = .ok (.aload_n 0, 1) := by decide +kernel
theorem tc_d5_removeLast_19 : decode tc_i5_removeLast.2.1 19 = .ok (.aload_n 0, 1) := by decide +kernel
theorem tc_d5_removeLast_20 : decode tc_i5_removeLast.2.1 20 = .ok (.getfield 60, 3) := by decide +kernel
theorem tc_d5_removeLast_23 : decode tc_i5_removeLast.2.1 23 = .ok (.aload_n 0, 1) := by decide +kernel
theorem tc_d5_removeLast_24 : decode tc_i5_removeLast.2.1 24 = .ok (.getfield 47, 3) := by decide +kernel
theorem tc_d5_removeLast_27 : decode tc_i5_removeLast.2.1 27 = .ok (.iconst 0, 1) := by decide +kernel
theorem tc_d5_removeLast_28 : decode tc_i5_removeLast.2.1 28 = .ok (.invokestatic 69, 3) := by decide +kernel
theorem tc_d5_removeLast_31 : decode tc_i5_removeLast.2.1 31 = .ok (.putfield 60, 3) := by decide +kernel
theorem tc_d5_removeLast_34 : decode tc_i5_removeLast.2.1 34 = .ok (.aload_n 0, 1) := by decide +kernel
theorem tc_d5_removeLast_35 : decode tc_i5_removeLast.2.1 35 = .ok (.aload_n 0, 1) := by decide +kernel
theorem tc_d5_removeLast_36 : decode tc_i5_removeLast.2.1 36 = .ok (.getfield 63, 3) := by decide +kernel
theorem tc_d5_removeLast_39 : decode tc_i5_removeLast.2.1 39 = .ok (.aload_n 0, 1) := by decide +kernel
theorem tc_d5_removeLast_40 : decode tc_i5_removeLast.2.1 40 = .ok (.getfield 47, 3) := by decide +kernel
theorem tc_d5_removeLast_43 : decode tc_i5_removeLast.2.1 43 = .ok (.iconst 0, 1) := by decide +kernel
theorem tc_d5_removeLast_44 : decode tc_i5_removeLast.2.1 44 = .ok (.invokestatic 69, 3) := by decide +kernel
theorem tc_d5_removeLast_47 : decode tc_i5_removeLast.2.1 47 = .ok (.putfield 63, 3) := by decide +kernel
theorem tc_d5_removeLast_50 : decode tc_i5_removeLast.2.1 50 = .ok (.aload_n 0, 1) := by decide +kernel
theorem tc_d5_removeLast_51 : decode tc_i5_removeLast.2.1 51 = .ok (.getfield 33, 3) := by decide +kernel
theorem tc_d5_removeLast_54 : decode tc_i5_removeLast.2.1 54 = .ok (.aload_n 0, 1) := by decide +kernel
theorem tc_d5_removeLast_55 : decode tc_i5_removeLast.2.1 55 = .ok (.getfield 47, 3) := by decide +kernel
theorem tc_d5_removeLast_58 : decode tc_i5_removeLast.2.1 58 = .ok (.invokevirtual 73, 3) := by decide +kernel
theorem tc_d5_removeLast_61 : decode tc_i5_removeLast.2.1 61 = .ok (.pop, 1) := by decide +kernel
theorem tc_d5_removeLast_62 : decode tc_i5_removeLast.2.1 62 = .ok (.return_, 1) := by decide +kernel
theorem tc_d6_section_0 : decode tc_i6_section.2.1 0 = .ok (.iconst 3, 1) := by decide +kernel
theorem tc_d6_section_1 : decode tc_i6_section.2.1 1 = .ok (.iload_n 1, 1) := by decide +kernel
theorem tc_d6_section_2 : decode tc_i6_section.2.1 2 = .ok (.invokestatic 53, 3) := by decide +kernel
theorem tc_d6_section_5 : decode tc_i6_section.2.1 5 = .ok (.ifCond .eq 11, 3) := by decide +kernel
theorem tc_d6_section_8 : decode tc_i6_section.2.1 8 = .ok (.iconst 0, 1) := by decide +kernel
theorem tc_d6_section_9 : decode tc_i6_section.2.1 9 = .ok (.iload_n 2, 1) := by decide +kernel
theorem tc_d6_section_10 : decode tc_i6_section.2.1 10 = .ok (.invokestatic 53, 3) := by decide +kernel
theorem tc_d6_section_13 : decode tc_i6_section.2.1 13 = .ok (.ifCond .ne 6, 3) := by decide +kernel
theorem tc_d6_section_16 : decode tc_i6_section.2.1 16 = .ok (.bipush (-2), 2) := by decide +kernel
theorem tc_d6_section_18 : decode tc_i6_section.2.1 18 = .ok (.ireturn, 1) := by decide +kernel
theorem tc_d6_section_19 : decode tc_i6_section.2.1 19 = .ok (.iconst 1, 1) := by decide +kernel
theorem tc_d6_section_20 : decode tc_i6_section.2.1 20 = .ok (.iload_n 3, 1) := by decide +kernel
theorem tc_d6_section_21 : decode tc_i6_section.2.1 21 = .ok (.invokestatic 53, 3) := by decide +kernel
theorem tc_d6_section_24 : decode tc_i6_section.2.1 24 = .ok (.ifCond .eq 12, 3) := by decide +kernel
theorem tc_d6_section_27 : decode tc_i6_section.2.1 27 = .ok (.iconst 2, 1) := by decide +kernel
theorem tc_d6_section_28 : decode tc_i6_section.2.1 28 = .ok (.iload 4, 2) := by decide +kernel
theorem tc_d6_section_30 : decode tc_i6_section.2.1 30 = .ok (.invokestatic 53, 3) := by decide +kernel
theorem tc_d6_section_33 : decode tc_i6_section.2.1 33 = .ok (.ifCond .ne 6, 3) := by decide +kernel
theorem tc_d6_section_36 : decode tc_i6_section.2.1 36 = .ok (.bipush (-2), 2) := by decide +kernel
theorem tc_d6_section_38 : decode tc_i6_section.2.1 38 = .ok (.ireturn, 1) := by decide +kernel
theorem tc_d6_section_39 : decode tc_i6_section.2.1 39 = .ok (.aload_n 0, 1) := by decide +kernel
theorem tc_d6_section_40 : decode tc_i6_section.2.1 40 = .ok (.getfield 12, 3) := by decide +kernel
theorem tc_d6_section_43 : decode tc_i6_section.2.1 43 = .ok (.getfield 57, 3) := by decide +kernel
theorem tc_d6_section_46 : decode tc_i6_section.2.1 46 = .ok (.bipush 8, 2) := by decide +kernel
theorem tc_d6_section_48 : decode tc_i6_section.2.1 48 = .ok (.if_icmp .lt 6, 3) := by decide +kernel
theorem tc_d6_section_51 : decode tc_i6_section.2.1 51 = .ok (.bipush (-4), 2) := by decide +kernel
theorem tc_d6_section_53 : decode tc_i6_section.2.1 53 = .ok (.ireturn, 1) := by decide +kernel
theorem tc_d6_section_54 : decode tc_i6_section.2.1 54 = .ok (.aload_n 0, 1) := by decide +kernel
theorem tc_d6_section_55 : decode tc_i6_section.2.1 55 = .ok (.getfield 12, 3) := by decide +kernel
theorem tc_d6_section_58 : decode tc_i6_section.2.1 58 = .ok (.iload_n 1, 1) := by decide +kernel
theorem tc_d6_section_59 : decode tc_i6_section.2.1 59 = .ok (.iload_n 2, 1) := by decide +kernel
theorem tc_d6_section_60 : decode tc_i6_section.2.1 60 = .ok (.iload_n 3, 1) := by decide +kernel
theorem tc_d6_section_61 : decode tc_i6_section.2.1 61 = .ok (.iload 4, 2) := by decide +kernel
theorem tc_d6_section_63 : decode tc_i6_section.2.1 63 = .ok (.invokevirtual 61, 3) := by decide +kernel
theorem tc_d6_section_66 : decode tc_i6_section.2.1 66 = .ok (.aload_n 0, 1) := by decide +kernel
theorem tc_d6_section_67 : decode tc_i6_section.2.1 67 = .ok (.getfield 12, 3) := by decide +kernel
theorem tc_d6_section_70 : decode tc_i6_section.2.1 70 = .ok (.getfield 57, 3) := by decide +kernel
theorem tc_d6_section_73 : decode tc_i6_section.2.1 73 = .ok (.iconst 1, 1) := by decide +kernel
theorem tc_d6_section_74 : decode tc_i6_section.2.1 74 = .ok (.isub, 1) := by decide +kernel
theorem tc_d6_section_75 : decode tc_i6_section.2.1 75 = .ok (.ireturn, 1) := by decide +kernel
theorem tc_d6_train_0 : decode tc_i6_train.2.1 0 = .ok (.aload_n 0, 1) := by decide +kernel
theorem tc_d6_train_1 : decode tc_i6_train.2.1 1 = .ok (.getfield 12, 3) := by decide +kernel
theorem tc_d6_train_4 : decode tc_i6_train.2.1 4 = .ok (.iload_n 1, 1) := by decide +kernel
theorem tc_d6_train_5 : decode tc_i6_train.2.1 5 = .ok (.invokevirtual 68, 3) := by decide +kernel
theorem tc_d6_train_8 : decode tc_i6_train.2.1 8 = .ok (.ifCond .eq 12, 3) := by decide +kernel
theorem tc_d6_train_11 : decode tc_i6_train.2.1 11 = .ok (.iload_n 2, 1) := by decide +kernel
theorem tc_d6_train_12 : decode tc_i6_train.2.1 12 = .ok (.iconst 0, 1) := by decide +kernel
theorem tc_d6_train_13 : decode tc_i6_train.2.1 13 = .ok (.iconst 1, 1) := by decide +kernel
theorem tc_d6_train_14 : decode tc_i6_train.2.1 14 = .ok (.invokestatic 117, 3) := by decide +kernel
theorem tc_d6_train_17 : decode tc_i6_train.2.1 17 = .ok (.ifCond .ne 6, 3) := by decide +kernel
theorem tc_d6_train_20 : decode tc_i6_train.2.1 20 = .ok (.bipush (-2), 2) := by decide +kernel
theorem tc_d6_train_22 : decode tc_i6_train.2.1 22 = .ok (.ireturn, 1) := by decide +kernel
theorem tc_d6_train_23 : decode tc_i6_train.2.1 23 = .ok (.aload_n 0, 1) := by decide +kernel
theorem tc_d6_train_24 : decode tc_i6_train.2.1 24 = .ok (.getfield 12, 3) := by decide +kernel
theorem tc_d6_train_27 : decode tc_i6_train.2.1 27 = .ok (.getfield 124, 3) := by decide +kernel
theorem tc_d6_train_30 : decode tc_i6_train.2.1 30 = .ok (.iload_n 1, 1) := by decide +kernel
theorem tc_d6_train_31 : decode tc_i6_train.2.1 31 = .ok (.invokestatic 105, 3) := by decide +kernel
theorem tc_d6_train_34 : decode tc_i6_train.2.1 34 = .ok (.istore_n 3, 1) := by decide +kernel
theorem tc_d6_train_35 : decode tc_i6_train.2.1 35 = .ok (.aload_n 0, 1) := by decide +kernel
theorem tc_d6_train_36 : decode tc_i6_train.2.1 36 = .ok (.getfield 12, 3) := by decide +kernel
theorem tc_d6_train_39 : decode tc_i6_train.2.1 39 = .ok (.aload_n 0, 1) := by decide +kernel
theorem tc_d6_train_40 : decode tc_i6_train.2.1 40 = .ok (.getfield 12, 3) := by decide +kernel
theorem tc_d6_train_43 : decode tc_i6_train.2.1 43 = .ok (.getfield 124, 3) := by decide +kernel
theorem tc_d6_train_46 : decode tc_i6_train.2.1 46 = .ok (.iload_n 1, 1) := by decide +kernel
theorem tc_d6_train_47 : decode tc_i6_train.2.1 47 = .ok (.iload_n 2, 1) := by decide +kernel
theorem tc_d6_train_48 : decode tc_i6_train.2.1 48 = .ok (.iconst 1, 1) := by decide +kernel
theorem tc_d6_train_49 : decode tc_i6_train.2.1 49 = .ok (.if_icmp .ne 7, 3) := by decide +kernel
theorem tc_d6_train_52 : decode tc_i6_train.2.1 52 = .ok (.iconst 1, 1) := by decide +kernel
theorem tc_d6_train_53 : decode tc_i6_train.2.1 53 = .ok (.goto 4, 3) := by decide +kernel
theorem tc_d6_train_56 : decode tc_i6_train.2.1 56 = .ok (.iconst 0, 1) := by decide +kernel
theorem tc_d6_train_57 : decode tc_i6_train.2.1 57 = .ok (.invokestatic 127, 3) := by decide +kernel
theorem tc_d6_train_60 : decode tc_i6_train.2.1 60 = .ok (.putfield 124, 3) := by decide +kernel
theorem tc_d6_train_63 : decode tc_i6_train.2.1 63 = .ok (.iload_n 3, 1) := by decide +kernel
theorem tc_d6_train_64 : decode tc_i6_train.2.1 64 = .ok (.ireturn, 1) := by decide +kernel
theorem tc_d6_fault_0 : decode tc_i6_fault.2.1 0 = .ok (.iload_n 1, 1) := by decide +kernel
theorem tc_d6_fault_1 : decode tc_i6_fault.2.1 1 = .ok (.iconst 0, 1) := by decide +kernel
theorem tc_d6_fault_2 : decode tc_i6_fault.2.1 2 = .ok (.iconst 3, 1) := by decide +kernel
theorem tc_d6_fault_3 : decode tc_i6_fault.2.1 3 = .ok (.invokestatic 117, 3) := by decide +kernel
theorem tc_d6_fault_6 : decode tc_i6_fault.2.1 6 = .ok (.ifCond .eq 14, 3) := by decide +kernel
theorem tc_d6_fault_9 : decode tc_i6_fault.2.1 9 = .ok (.aload_n 0, 1) := by decide +kernel
theorem tc_d6_fault_10 : decode tc_i6_fault.2.1 10 = .ok (.getfield 12, 3) := by decide +kernel
theorem tc_d6_fault_13 : decode tc_i6_fault.2.1 13 = .ok (.iload_n 2, 1) := by decide +kernel
theorem tc_d6_fault_14 : decode tc_i6_fault.2.1 14 = .ok (.invokevirtual 68, 3) := by decide +kernel
theorem tc_d6_fault_17 : decode tc_i6_fault.2.1 17 = .ok (.ifCond .ne 6, 3) := by decide +kernel
theorem tc_d6_fault_20 : decode tc_i6_fault.2.1 20 = .ok (.bipush (-2), 2) := by decide +kernel
theorem tc_d6_fault_22 : decode tc_i6_fault.2.1 22 = .ok (.ireturn, 1) := by decide +kernel
theorem tc_d6_fault_23 : decode tc_i6_fault.2.1 23 = .ok (.aload_n 0, 1) := by decide +kernel
theorem tc_d6_fault_24 : decode tc_i6_fault.2.1 24 = .ok (.getfield 12, 3) := by decide +kernel
theorem tc_d6_fault_27 : decode tc_i6_fault.2.1 27 = .ok (.getfield 134, 3) := by decide +kernel
theorem tc_d6_fault_30 : decode tc_i6_fault.2.1 30 = .ok (.getfield 138, 3) := by decide +kernel
theorem tc_d6_fault_33 : decode tc_i6_fault.2.1 33 = .ok (.bipush 6, 2) := by decide +kernel
theorem tc_d6_fault_35 : decode tc_i6_fault.2.1 35 = .ok (.if_icmp .lt 6, 3) := by decide +kernel
theorem tc_d6_fault_38 : decode tc_i6_fault.2.1 38 = .ok (.bipush (-4), 2) := by decide +kernel
theorem tc_d6_fault_40 : decode tc_i6_fault.2.1 40 = .ok (.ireturn, 1) := by decide +kernel
theorem tc_d6_fault_41 : decode tc_i6_fault.2.1 41 = .ok (.aload_n 0, 1) := by decide +kernel
theorem tc_d6_fault_42 : decode tc_i6_fault.2.1 42 = .ok (.getfield 12, 3) := by decide +kernel
theorem tc_d6_fault_45 : decode tc_i6_fault.2.1 45 = .ok (.iload_n 1, 1) := by decide +kernel
theorem tc_d6_fault_46 : decode tc_i6_fault.2.1 46 = .ok (.iload_n 2, 1) := by decide +kernel
theorem tc_d6_fault_47 : decode tc_i6_fault.2.1 47 = .ok (.invokevirtual 143, 3) := by decide +kernel
theorem tc_d6_fault_50 : decode tc_i6_fault.2.1 50 = .ok (.aload_n 0, 1) := by decide +kernel
theorem tc_d6_fault_51 : decode tc_i6_fault.2.1 51 = .ok (.getfield 12, 3) := by decide +kernel
theorem tc_d6_fault_54 : decode tc_i6_fault.2.1 54 = .ok (.getfield 134, 3) := by decide +kernel
theorem tc_d6_fault_57 : decode tc_i6_fault.2.1 57 = .ok (.getfield 138, 3) := by decide +kernel
theorem tc_d6_fault_60 : decode tc_i6_fault.2.1 60 = .ok (.ireturn, 1) := by decide +kernel
theorem tc_d6_mend_0 : decode tc_i6_mend.2.1 0 = .ok (.aload_n 0, 1) := by decide +kernel
theorem tc_d6_mend_1 : decode tc_i6_mend.2.1 1 = .ok (.getfield 12, 3) := by decide +kernel
theorem tc_d6_mend_4 : decode tc_i6_mend.2.1 4 = .ok (.iload_n 1, 1) := by decide +kernel
theorem tc_d6_mend_5 : decode tc_i6_mend.2.1 5 = .ok (.invokevirtual 68, 3) := by decide +kernel
theorem tc_d6_mend_8 : decode tc_i6_mend.2.1 8 = .ok (.ifCond .eq 17, 3) := by decide +kernel
theorem tc_d6_mend_11 : decode tc_i6_mend.2.1 11 = .ok (.aload_n 0, 1) := by decide +kernel
theorem tc_d6_mend_12 : decode tc_i6_mend.2.1 12 = .ok (.getfield 12, 3) := by decide +kernel
theorem tc_d6_mend_15 : decode tc_i6_mend.2.1 15 = .ok (.getfield 134, 3) := by decide +kernel
theorem tc_d6_mend_18 : decode tc_i6_mend.2.1 18 = .ok (.iload_n 1, 1) := by decide +kernel
theorem tc_d6_mend_19 : decode tc_i6_mend.2.1 19 = .ok (.invokevirtual 154, 3) := by decide +kernel
theorem tc_d6_mend_22 : decode tc_i6_mend.2.1 22 = .ok (.goto 5, 3) := by decide +kernel
theorem tc_d6_mend_25 : decode tc_i6_mend.2.1 25 = .ok (.bipush (-2), 2) := by decide +kernel
theorem tc_d6_mend_27 : decode tc_i6_mend.2.1 27 = .ok (.ireturn, 1) := by decide +kernel
theorem tc_d6_rule_0 : decode tc_i6_rule.2.1 0 = .ok (.iload_n 1, 1) := by decide +kernel
theorem tc_d6_rule_1 : decode tc_i6_rule.2.1 1 = .ok (.iconst 0, 1) := by decide +kernel
theorem tc_d6_rule_2 : decode tc_i6_rule.2.1 2 = .ok (.iconst 2, 1) := by decide +kernel
theorem tc_d6_rule_3 : decode tc_i6_rule.2.1 3 = .ok (.invokestatic 117, 3) := by decide +kernel
theorem tc_d6_rule_6 : decode tc_i6_rule.2.1 6 = .ok (.ifCond .ne 6, 3) := by decide +kernel
theorem tc_d6_rule_9 : decode tc_i6_rule.2.1 9 = .ok (.bipush (-2), 2) := by decide +kernel
theorem tc_d6_rule_11 : decode tc_i6_rule.2.1 11 = .ok (.ireturn, 1) := by decide +kernel
theorem tc_d6_rule_12 : decode tc_i6_rule.2.1 12 = .ok (.iload_n 2, 1) := by decide +kernel
theorem tc_d6_rule_13 : decode tc_i6_rule.2.1 13 = .ok (.iconst 0, 1) := by decide +kernel
theorem tc_d6_rule_14 : decode tc_i6_rule.2.1 14 = .ok (.iload_n 1, 1) := by decide +kernel
theorem tc_d6_rule_15 : decode tc_i6_rule.2.1 15 = .ok (.iconst 2, 1) := by decide +kernel
theorem tc_d6_rule_16 : decode tc_i6_rule.2.1 16 = .ok (.if_icmp .ne 8, 3) := by decide +kernel
theorem tc_d6_rule_19 : decode tc_i6_rule.2.1 19 = .ok (.bipush 9, 2) := by decide +kernel
theorem tc_d6_rule_21 : decode tc_i6_rule.2.1 21 = .ok (.goto 5, 3) := by decide +kernel
theorem tc_d6_rule_24 : decode tc_i6_rule.2.1 24 = .ok (.bipush 99, 2) := by decide +kernel
theorem tc_d6_rule_26 : decode tc_i6_rule.2.1 26 = .ok (.invokestatic 117, 3) := by decide +kernel
theorem tc_d6_rule_29 : decode tc_i6_rule.2.1 29 = .ok (.ifCond .ne 6, 3) := by decide +kernel
theorem tc_d6_rule_32 : decode tc_i6_rule.2.1 32 = .ok (.bipush (-2), 2) := by decide +kernel
theorem tc_d6_rule_34 : decode tc_i6_rule.2.1 34 = .ok (.ireturn, 1) := by decide +kernel
theorem tc_d6_rule_35 : decode tc_i6_rule.2.1 35 = .ok (.aload_n 0, 1) := by decide +kernel
theorem tc_d6_rule_36 : decode tc_i6_rule.2.1 36 = .ok (.getfield 12, 3) := by decide +kernel
theorem tc_d6_rule_39 : decode tc_i6_rule.2.1 39 = .ok (.iload_n 1, 1) := by decide +kernel
theorem tc_d6_rule_40 : decode tc_i6_rule.2.1 40 = .ok (.iload_n 2, 1) := by decide +kernel
theorem tc_d6_rule_41 : decode tc_i6_rule.2.1 41 = .ok (.invokevirtual 121, 3) := by decide +kernel
theorem tc_d6_rule_44 : decode tc_i6_rule.2.1 44 = .ok (.ireturn, 1) := by decide +kernel
theorem tc_d6_moment_0 : decode tc_i6_moment.2.1 0 = .ok (.aload_n 0, 1) := by decide +kernel
theorem tc_d6_moment_1 : decode tc_i6_moment.2.1 1 = .ok (.getfield 22, 3) := by decide +kernel
theorem tc_d6_moment_4 : decode tc_i6_moment.2.1 4 = .ok (.aload_n 0, 1) := by decide +kernel
theorem tc_d6_moment_5 : decode tc_i6_moment.2.1 5 = .ok (.getfield 12, 3) := by decide +kernel
theorem tc_d6_moment_8 : decode tc_i6_moment.2.1 8 = .ok (.invokevirtual 157, 3) := by decide +kernel
theorem tc_d6_moment_11 : decode tc_i6_moment.2.1 11 = .ok (.ifCond .ne 6, 3) := by decide +kernel
theorem tc_d6_moment_14 : decode tc_i6_moment.2.1 14 = .ok (.bipush (-3), 2) := by decide +kernel
theorem tc_d6_moment_16 : decode tc_i6_moment.2.1 16 = .ok (.ireturn, 1) := by decide +kernel
theorem tc_d6_moment_17 : decode tc_i6_moment.2.1 17 = .ok (.aload_n 0, 1) := by decide +kernel
theorem tc_d6_moment_18 : decode tc_i6_moment.2.1 18 = .ok (.aload_n 0, 1) := by decide +kernel
theorem tc_d6_moment_19 : decode tc_i6_moment.2.1 19 = .ok (.getfield 22, 3) := by decide +kernel
theorem tc_d6_moment_22 : decode tc_i6_moment.2.1 22 = .ok (.getfield 161, 3) := by decide +kernel
theorem tc_d6_moment_25 : decode tc_i6_moment.2.1 25 = .ok (.putfield 164, 3) := by decide +kernel
theorem tc_d6_moment_28 : decode tc_i6_moment.2.1 28 = .ok (.aload_n 0, 1) := by decide +kernel
theorem tc_d6_moment_29 : decode tc_i6_moment.2.1 29 = .ok (.getfield 22, 3) := by decide +kernel
theorem tc_d6_moment_32 : decode tc_i6_moment.2.1 32 = .ok (.getfield 167, 3) := by decide +kernel
theorem tc_d6_moment_35 : decode tc_i6_moment.2.1 35 = .ok (.iconst 0, 1) := by decide +kernel
theorem tc_d6_moment_36 : decode tc_i6_moment.2.1 36 = .ok (.aload_n 0, 1) := by decide +kernel
theorem tc_d6_moment_37 : decode tc_i6_moment.2.1 37 = .ok (.getfield 26, 3) := by decide +kernel
theorem tc_d6_moment_40 : decode tc_i6_moment.2.1 40 = .ok (.iconst 0, 1) := by decide +kernel
theorem tc_d6_moment_41 : decode tc_i6_moment.2.1 41 = .ok (.aload_n 0, 1) := by decide +kernel
theorem tc_d6_moment_42 : decode tc_i6_moment.2.1 42 = .ok (.getfield 164, 3) := by decide +kernel
theorem tc_d6_moment_45 : decode tc_i6_moment.2.1 45 = .ok (.invokestatic 170, 3) := by decide +kernel
theorem tc_d6_moment_48 : decode tc_i6_moment.2.1 48 = .ok (.aload_n 0, 1) := by decide +kernel
theorem tc_d6_moment_49 : decode tc_i6_moment.2.1 49 = .ok (.getfield 164, 3) := by decide +kernel
theorem tc_d6_moment_52 : decode tc_i6_moment.2.1 52 = .ok (.ireturn, 1) := by decide +kernel
theorem tc_d6_drop_0 : decode tc_i6_drop.2.1 0 = .ok (.aload_n 0, 1) := by decide +kernel
theorem tc_d6_drop_1 : decode tc_i6_drop.2.1 1 = .ok (.getfield 12, 3) := by decide +kernel
theorem tc_d6_drop_4 : decode tc_i6_drop.2.1 4 = .ok (.getfield 57, 3) := by decide +kernel
theorem tc_d6_drop_7 : decode tc_i6_drop.2.1 7 = .ok (.ifCond .ne 6, 3) := by decide +kernel
theorem tc_d6_drop_10 : decode tc_i6_drop.2.1 10 = .ok (.bipush (-3), 2) := by decide +kernel
theorem tc_d6_drop_12 : decode tc_i6_drop.2.1 12 = .ok (.ireturn, 1) := by decide +kernel
theorem tc_d6_drop_13 : decode tc_i6_drop.2.1 13 = .ok (.aload_n 0, 1) := by decide +kernel
theorem tc_d6_drop_14 : decode tc_i6_drop.2.1 14 = .ok (.getfield 12, 3) := by decide +kernel
theorem tc_d6_drop_17 : decode tc_i6_drop.2.1 17 = .ok (.invokevirtual 65, 3) := by decide +kernel
theorem tc_d6_drop_20 : decode tc_i6_drop.2.1 20 = .ok (.aload_n 0, 1) := by decide +kernel
theorem tc_d6_drop_21 : decode tc_i6_drop.2.1 21 = .ok (.getfield 12, 3) := by decide +kernel
theorem tc_d6_drop_24 : decode tc_i6_drop.2.1 24 = .ok (.getfield 57, 3) := by decide +kernel
theorem tc_d6_drop_27 : decode tc_i6_drop.2.1 27 = .ok (.ireturn, 1) := by decide +kernel
theorem tc_d6_answerOfClause_0 : decode tc_i6_answerOfClause.2.1 0 = .ok (.aload_n 0, 1) := by decide +kernel
theorem tc_d6_answerOfClause_1 : decode tc_i6_answerOfClause.2.1 1 = .ok (.getfield 42, 3) := by decide +kernel
theorem tc_d6_answerOfClause_4 : decode tc_i6_answerOfClause.2.1 4 = .ok (.iload_n 1, 1) := by decide +kernel
theorem tc_d6_answerOfClause_5 : decode tc_i6_answerOfClause.2.1 5 = .ok (.iconst 0, 1) := by decide +kernel
theorem tc_d6_answerOfClause_6 : decode tc_i6_answerOfClause.2.1 6 = .ok (.invokevirtual 275, 3) := by decide +kernel
theorem tc_d6_answerOfClause_9 : decode tc_i6_answerOfClause.2.1 9 = .ok (.istore_n 2, 1) := by decide +kernel
theorem tc_d6_answerOfClause_10 : decode tc_i6_answerOfClause.2.1 10 = .ok (.aload_n 0, 1) := by decide +kernel
theorem tc_d6_answerOfClause_11 : decode tc_i6_answerOfClause.2.1 11 = .ok (.getfield 42, 3) := by decide +kernel
theorem tc_d6_answerOfClause_14 : decode tc_i6_answerOfClause.2.1 14 = .ok (.iload_n 1, 1) := by decide +kernel
theorem tc_d6_answerOfClause_15 : decode tc_i6_answerOfClause.2.1 15 = .ok (.iconst 1, 1) := by decide +kernel
theorem tc_d6_answerOfClause_16 : decode tc_i6_answerOfClause.2.1 16 = .ok (.invokevirtual 275, 3) := by decide +kernel
theorem tc_d6_answerOfClause_19 : decode tc_i6_answerOfClause.2.1 19 = .ok (.istore_n 3, 1) := by decide +kernel
theorem tc_d6_answerOfClause_20 : decode tc_i6_answerOfClause.2.1 20 = .ok (.aload_n 0, 1) := by decide +kernel
theorem tc_d6_answerOfClause_21 : decode tc_i6_answerOfClause.2.1 21 = .ok (.getfield 42, 3) := by decide +kernel
theorem tc_d6_answerOfClause_24 : decode tc_i6_answerOfClause.2.1 24 = .ok (.getfield 278, 3) := by decide +kernel
theorem tc_d6_answerOfClause_27 : decode tc_i6_answerOfClause.2.1 27 = .ok (.iload_n 1, 1) := by decide +kernel
theorem tc_d6_answerOfClause_28 : decode tc_i6_answerOfClause.2.1 28 = .ok (.iaload, 1) := by decide +kernel
theorem tc_d6_answerOfClause_29 : decode tc_i6_answerOfClause.2.1 29 = .ok (.tableswitch 116 0 7 #[47, 72, 79, 86, 93, 99, 106, 111], 47) := by decide +kernel
theorem tc_d6_answerOfClause_76 : decode tc_i6_answerOfClause.2.1 76 = .ok (.aload_n 0, 1) := by decide +kernel
theorem tc_d6_answerOfClause_77 : decode tc_i6_answerOfClause.2.1 77 = .ok (.iload_n 2, 1) := by decide +kernel
theorem tc_d6_answerOfClause_78 : decode tc_i6_answerOfClause.2.1 78 = .ok (.iload_n 3, 1) := by decide +kernel
theorem tc_d6_answerOfClause_79 : decode tc_i6_answerOfClause.2.1 79 = .ok (.aload_n 0, 1) := by decide +kernel
theorem tc_d6_answerOfClause_80 : decode tc_i6_answerOfClause.2.1 80 = .ok (.getfield 42, 3) := by decide +kernel
theorem tc_d6_answerOfClause_83 : decode tc_i6_answerOfClause.2.1 83 = .ok (.iload_n 1, 1) := by decide +kernel
theorem tc_d6_answerOfClause_84 : decode tc_i6_answerOfClause.2.1 84 = .ok (.iconst 2, 1) := by decide +kernel
theorem tc_d6_answerOfClause_85 : decode tc_i6_answerOfClause.2.1 85 = .ok (.invokevirtual 275, 3) := by decide +kernel
theorem tc_d6_answerOfClause_88 : decode tc_i6_answerOfClause.2.1 88 = .ok (.aload_n 0, 1) := by decide +kernel
theorem tc_d6_answerOfClause_89 : decode tc_i6_answerOfClause.2.1 89 = .ok (.getfield 42, 3) := by decide +kernel
theorem tc_d6_answerOfClause_92 : decode tc_i6_answerOfClause.2.1 92 = .ok (.iload_n 1, 1) := by decide +kernel
theorem tc_d6_answerOfClause_93 : decode tc_i6_answerOfClause.2.1 93 = .ok (.iconst 3, 1) := by decide +kernel
theorem tc_d6_answerOfClause_94 : decode tc_i6_answerOfClause.2.1 94 = .ok (.invokevirtual 275, 3) := by decide +kernel
theorem tc_d6_answerOfClause_97 : decode tc_i6_answerOfClause.2.1 97 = .ok (.invokevirtual 281, 3) := by decide +kernel
theorem tc_d6_answerOfClause_100 : decode tc_i6_answerOfClause.2.1 100 = .ok (.ireturn, 1) := by decide +kernel
theorem tc_d6_answerOfClause_101 : decode tc_i6_answerOfClause.2.1 101 = .ok (.aload_n 0, 1) := by decide +kernel
theorem tc_d6_answerOfClause_102 : decode tc_i6_answerOfClause.2.1 102 = .ok (.iload_n 2, 1) := by decide +kernel
theorem tc_d6_answerOfClause_103 : decode tc_i6_answerOfClause.2.1 103 = .ok (.iconst 1, 1) := by decide +kernel
theorem tc_d6_answerOfClause_104 : decode tc_i6_answerOfClause.2.1 104 = .ok (.invokevirtual 284, 3) := by decide +kernel
theorem tc_d6_answerOfClause_107 : decode tc_i6_answerOfClause.2.1 107 = .ok (.ireturn, 1) := by decide +kernel
theorem tc_d6_answerOfClause_108 : decode tc_i6_answerOfClause.2.1 108 = .ok (.aload_n 0, 1) := by decide +kernel
theorem tc_d6_answerOfClause_109 : decode tc_i6_answerOfClause.2.1 109 = .ok (.iload_n 2, 1) := by decide +kernel
theorem tc_d6_answerOfClause_110 : decode tc_i6_answerOfClause.2.1 110 = .ok (.iconst 0, 1) := by decide +kernel
theorem tc_d6_answerOfClause_111 : decode tc_i6_answerOfClause.2.1 111 = .ok (.invokevirtual 284, 3) := by decide +kernel
theorem tc_d6_answerOfClause_114 : decode tc_i6_answerOfClause.2.1 114 = .ok (.ireturn, 1) := by decide +kernel
theorem tc_d6_answerOfClause_115 : decode tc_i6_answerOfClause.2.1 115 = .ok (.aload_n 0, 1) := by decide +kernel
theorem tc_d6_answerOfClause_116 : decode tc_i6_answerOfClause.2.1 116 = .ok (.iload_n 2, 1) := by decide +kernel
theorem tc_d6_answerOfClause_117 : decode tc_i6_answerOfClause.2.1 117 = .ok (.iload_n 3, 1) := by decide +kernel
theorem tc_d6_answerOfClause_118 : decode tc_i6_answerOfClause.2.1 118 = .ok (.invokevirtual 287, 3) := by decide +kernel
theorem tc_d6_answerOfClause_121 : decode tc_i6_answerOfClause.2.1 121 = .ok (.ireturn, 1) := by decide +kernel
theorem tc_d6_answerOfClause_122 : decode tc_i6_answerOfClause.2.1 122 = .ok (.aload_n 0, 1) := by decide +kernel
theorem tc_d6_answerOfClause_123 : decode tc_i6_answerOfClause.2.1 123 = .ok (.iload_n 2, 1) := by decide +kernel
theorem tc_d6_answerOfClause_124 : decode tc_i6_answerOfClause.2.1 124 = .ok (.invokevirtual 290, 3) := by decide +kernel
theorem tc_d6_answerOfClause_127 : decode tc_i6_answerOfClause.2.1 127 = .ok (.ireturn, 1) := by decide +kernel
theorem tc_d6_answerOfClause_128 : decode tc_i6_answerOfClause.2.1 128 = .ok (.aload_n 0, 1) := by decide +kernel
theorem tc_d6_answerOfClause_129 : decode tc_i6_answerOfClause.2.1 129 = .ok (.iconst 2, 1) := by decide +kernel
theorem tc_d6_answerOfClause_130 : decode tc_i6_answerOfClause.2.1 130 = .ok (.iload_n 2, 1) := by decide +kernel
theorem tc_d6_answerOfClause_131 : decode tc_i6_answerOfClause.2.1 131 = .ok (.invokevirtual 293, 3) := by decide +kernel
theorem tc_d6_answerOfClause_134 : decode tc_i6_answerOfClause.2.1 134 = .ok (.ireturn, 1) := by decide +kernel
theorem tc_d6_answerOfClause_135 : decode tc_i6_answerOfClause.2.1 135 = .ok (.aload_n 0, 1) := by decide +kernel
theorem tc_d6_answerOfClause_136 : decode tc_i6_answerOfClause.2.1 136 = .ok (.invokevirtual 296, 3) := by decide +kernel
theorem tc_d6_answerOfClause_139 : decode tc_i6_answerOfClause.2.1 139 = .ok (.ireturn, 1) := by decide +kernel
theorem tc_d6_answerOfClause_140 : decode tc_i6_answerOfClause.2.1 140 = .ok (.aload_n 0, 1) := by decide +kernel
theorem tc_d6_answerOfClause_141 : decode tc_i6_answerOfClause.2.1 141 = .ok (.invokevirtual 299, 3) := by decide +kernel
theorem tc_d6_answerOfClause_144 : decode tc_i6_answerOfClause.2.1 144 = .ok (.ireturn, 1) := by decide +kernel
theorem tc_d6_answerOfClause_145 : decode tc_i6_answerOfClause.2.1 145 = .ok (.bipush (-2), 2) := by decide +kernel
theorem tc_d6_answerOfClause_147 : decode tc_i6_answerOfClause.2.1 147 = .ok (.ireturn, 1) := by decide +kernel
theorem tc_d6_aspect_0 : decode tc_i6_aspect.2.1 0 = .ok (.aload_n 0, 1) := by decide +kernel
theorem tc_d6_aspect_1 : decode tc_i6_aspect.2.1 1 = .ok (.getfield 12, 3) := by decide +kernel
theorem tc_d6_aspect_4 : decode tc_i6_aspect.2.1 4 = .ok (.iload_n 1, 1) := by decide +kernel
theorem tc_d6_aspect_5 : decode tc_i6_aspect.2.1 5 = .ok (.invokevirtual 68, 3) := by decide +kernel
theorem tc_d6_aspect_8 : decode tc_i6_aspect.2.1 8 = .ok (.ifCond .ne 6, 3) := by decide +kernel
theorem tc_d6_aspect_11 : decode tc_i6_aspect.2.1 11 = .ok (.bipush (-2), 2) := by decide +kernel
theorem tc_d6_aspect_13 : decode tc_i6_aspect.2.1 13 = .ok (.ireturn, 1) := by decide +kernel
theorem tc_d6_aspect_14 : decode tc_i6_aspect.2.1 14 = .ok (.aload_n 0, 1) := by decide +kernel
theorem tc_d6_aspect_15 : decode tc_i6_aspect.2.1 15 = .ok (.getfield 12, 3) := by decide +kernel
theorem tc_d6_aspect_18 : decode tc_i6_aspect.2.1 18 = .ok (.iload_n 1, 1) := by decide +kernel
theorem tc_d6_aspect_19 : decode tc_i6_aspect.2.1 19 = .ok (.invokevirtual 186, 3) := by decide +kernel
theorem tc_d6_aspect_22 : decode tc_i6_aspect.2.1 22 = .ok (.ifCond .ne 5, 3) := by decide +kernel
theorem tc_d6_aspect_25 : decode tc_i6_aspect.2.1 25 = .ok (.iconst 0, 1) := by decide +kernel
theorem tc_d6_aspect_26 : decode tc_i6_aspect.2.1 26 = .ok (.ireturn, 1) := by decide +kernel
theorem tc_d6_aspect_27 : decode tc_i6_aspect.2.1 27 = .ok (.aload_n 0, 1) := by decide +kernel
theorem tc_d6_aspect_28 : decode tc_i6_aspect.2.1 28 = .ok (.getfield 12, 3) := by decide +kernel
theorem tc_d6_aspect_31 : decode tc_i6_aspect.2.1 31 = .ok (.iload_n 1, 1) := by decide +kernel
theorem tc_d6_aspect_32 : decode tc_i6_aspect.2.1 32 = .ok (.iconst 1, 1) := by decide +kernel
theorem tc_d6_aspect_33 : decode tc_i6_aspect.2.1 33 = .ok (.iadd, 1) := by decide +kernel
theorem tc_d6_aspect_34 : decode tc_i6_aspect.2.1 34 = .ok (.invokevirtual 186, 3) := by decide +kernel
theorem tc_d6_aspect_37 : decode tc_i6_aspect.2.1 37 = .ok (.ifCond .ne 7, 3) := by decide +kernel
theorem tc_d6_aspect_40 : decode tc_i6_aspect.2.1 40 = .ok (.iconst 1, 1) := by decide +kernel
theorem tc_d6_aspect_41 : decode tc_i6_aspect.2.1 41 = .ok (.goto 4, 3) := by decide +kernel
theorem tc_d6_aspect_44 : decode tc_i6_aspect.2.1 44 = .ok (.iconst 2, 1) := by decide +kernel
theorem tc_d6_aspect_45 : decode tc_i6_aspect.2.1 45 = .ok (.ireturn, 1) := by decide +kernel
theorem tc_d6_back_0 : decode tc_i6_back.2.1 0 = .ok (.aload_n 0, 1) := by decide +kernel
theorem tc_d6_back_1 : decode tc_i6_back.2.1 1 = .ok (.getfield 304, 3) := by decide +kernel
theorem tc_d6_back_4 : decode tc_i6_back.2.1 4 = .ok (.ifCond .ne 6, 3) := by decide +kernel
theorem tc_d6_back_7 : decode tc_i6_back.2.1 7 = .ok (.bipush (-3), 2) := by decide +kernel
theorem tc_d6_back_9 : decode tc_i6_back.2.1 9 = .ok (.ireturn, 1) := by decide +kernel
theorem tc_d6_back_10 : decode tc_i6_back.2.1 10 = .ok (.aload_n 0, 1) := by decide +kernel
theorem tc_d6_back_11 : decode tc_i6_back.2.1 11 = .ok (.getfield 12, 3) := by decide +kernel
theorem tc_d6_back_14 : decode tc_i6_back.2.1 14 = .ok (.aload_n 0, 1) := by decide +kernel
theorem tc_d6_back_15 : decode tc_i6_back.2.1 15 = .ok (.getfield 16, 3) := by decide +kernel
theorem tc_d6_back_18 : decode tc_i6_back.2.1 18 = .ok (.invokevirtual 302, 3) := by decide +kernel
theorem tc_d6_back_21 : decode tc_i6_back.2.1 21 = .ok (.aload_n 0, 1) := by decide +kernel
theorem tc_d6_back_22 : decode tc_i6_back.2.1 22 = .ok (.getfield 12, 3) := by decide +kernel
theorem tc_d6_back_25 : decode tc_i6_back.2.1 25 = .ok (.getfield 57, 3) := by decide +kernel
theorem tc_d6_back_28 : decode tc_i6_back.2.1 28 = .ok (.ireturn, 1) := by decide +kernel
theorem tc_d6_bound_0 : decode tc_i6_bound.2.1 0 = .ok (.iload_n 1, 1) := by decide +kernel
theorem tc_d6_bound_1 : decode tc_i6_bound.2.1 1 = .ok (.iconst 0, 1) := by decide +kernel
theorem tc_d6_bound_2 : decode tc_i6_bound.2.1 2 = .ok (.iconst 1, 1) := by decide +kernel
theorem tc_d6_bound_3 : decode tc_i6_bound.2.1 3 = .ok (.invokestatic 117, 3) := by decide +kernel
theorem tc_d6_bound_6 : decode tc_i6_bound.2.1 6 = .ok (.ifCond .ne 6, 3) := by decide +kernel
theorem tc_d6_bound_9 : decode tc_i6_bound.2.1 9 = .ok (.bipush (-2), 2) := by decide +kernel
theorem tc_d6_bound_11 : decode tc_i6_bound.2.1 11 = .ok (.ireturn, 1) := by decide +kernel
theorem tc_d6_bound_12 : decode tc_i6_bound.2.1 12 = .ok (.iload_n 1, 1) := by decide +kernel
theorem tc_d6_bound_13 : decode tc_i6_bound.2.1 13 = .ok (.ifCond .ne 13, 3) := by decide +kernel
theorem tc_d6_bound_16 : decode tc_i6_bound.2.1 16 = .ok (.aload_n 0, 1) := by decide +kernel
theorem tc_d6_bound_17 : decode tc_i6_bound.2.1 17 = .ok (.getfield 35, 3) := by decide +kernel
theorem tc_d6_bound_20 : decode tc_i6_bound.2.1 20 = .ok (.invokevirtual 201, 3) := by decide +kernel
theorem tc_d6_bound_23 : decode tc_i6_bound.2.1 23 = .ok (.goto 10, 3) := by decide +kernel
theorem tc_d6_bound_26 : decode tc_i6_bound.2.1 26 = .ok (.aload_n 0, 1) := by decide +kernel
theorem tc_d6_bound_27 : decode tc_i6_bound.2.1 27 = .ok (.getfield 35, 3) := by decide +kernel
theorem tc_d6_bound_30 : decode tc_i6_bound.2.1 30 = .ok (.invokevirtual 204, 3) := by decide +kernel
theorem tc_d6_bound_33 : decode tc_i6_bound.2.1 33 = .ok (.ireturn, 1) := by decide +kernel
theorem tc_d6_chance_0 : decode tc_i6_chance.2.1 0 = .ok (.iload_n 2, 1) := by decide +kernel
theorem tc_d6_chance_1 : decode tc_i6_chance.2.1 1 = .ok (.iconst 1, 1) := by decide +kernel
theorem tc_d6_chance_2 : decode tc_i6_chance.2.1 2 = .ok (.bipush 20, 2) := by decide +kernel
theorem tc_d6_chance_4 : decode tc_i6_chance.2.1 4 = .ok (.invokestatic 117, 3) := by decide +kernel
theorem tc_d6_chance_7 : decode tc_i6_chance.2.1 7 = .ok (.ifCond .eq 24, 3) := by decide +kernel
theorem tc_d6_chance_10 : decode tc_i6_chance.2.1 10 = .ok (.iload_n 3, 1) := by decide +kernel
theorem tc_d6_chance_11 : decode tc_i6_chance.2.1 11 = .ok (.iconst 0, 1) := by decide +kernel
theorem tc_d6_chance_12 : decode tc_i6_chance.2.1 12 = .ok (.bipush 9, 2) := by decide +kernel
theorem tc_d6_chance_14 : decode tc_i6_chance.2.1 14 = .ok (.invokestatic 117, 3) := by decide +kernel
theorem tc_d6_chance_17 : decode tc_i6_chance.2.1 17 = .ok (.ifCond .eq 14, 3) := by decide +kernel
theorem tc_d6_chance_20 : decode tc_i6_chance.2.1 20 = .ok (.iload 4, 2) := by decide +kernel
theorem tc_d6_chance_22 : decode tc_i6_chance.2.1 22 = .ok (.iconst 0, 1) := by decide +kernel
theorem tc_d6_chance_23 : decode tc_i6_chance.2.1 23 = .ok (.bipush 8, 2) := by decide +kernel
theorem tc_d6_chance_25 : decode tc_i6_chance.2.1 25 = .ok (.invokestatic 117, 3) := by decide +kernel
theorem tc_d6_chance_28 : decode tc_i6_chance.2.1 28 = .ok (.ifCond .ne 6, 3) := by decide +kernel
theorem tc_d6_chance_31 : decode tc_i6_chance.2.1 31 = .ok (.bipush (-2), 2) := by decide +kernel
theorem tc_d6_chance_33 : decode tc_i6_chance.2.1 33 = .ok (.ireturn, 1) := by decide +kernel
theorem tc_d6_chance_34 : decode tc_i6_chance.2.1 34 = .ok (.iload 5, 2) := by decide +kernel
theorem tc_d6_chance_36 : decode tc_i6_chance.2.1 36 = .ok (.iconst 0, 1) := by decide +kernel
theorem tc_d6_chance_37 : decode tc_i6_chance.2.1 37 = .ok (.iconst 1, 1) := by decide +kernel
theorem tc_d6_chance_38 : decode tc_i6_chance.2.1 38 = .ok (.invokestatic 117, 3) := by decide +kernel
theorem tc_d6_chance_41 : decode tc_i6_chance.2.1 41 = .ok (.ifCond .eq 13, 3) := by decide +kernel
theorem tc_d6_chance_44 : decode tc_i6_chance.2.1 44 = .ok (.aload_n 0, 1) := by decide +kernel
theorem tc_d6_chance_45 : decode tc_i6_chance.2.1 45 = .ok (.getfield 12, 3) := by decide +kernel
theorem tc_d6_chance_48 : decode tc_i6_chance.2.1 48 = .ok (.getfield 57, 3) := by decide +kernel
theorem tc_d6_chance_51 : decode tc_i6_chance.2.1 51 = .ok (.ifCond .ne 6, 3) := by decide +kernel
theorem tc_d6_chance_54 : decode tc_i6_chance.2.1 54 = .ok (.bipush (-2), 2) := by decide +kernel
theorem tc_d6_chance_56 : decode tc_i6_chance.2.1 56 = .ok (.ireturn, 1) := by decide +kernel
theorem tc_d6_chance_57 : decode tc_i6_chance.2.1 57 = .ok (.aload_n 0, 1) := by decide +kernel
theorem tc_d6_chance_58 : decode tc_i6_chance.2.1 58 = .ok (.getfield 35, 3) := by decide +kernel
theorem tc_d6_chance_61 : decode tc_i6_chance.2.1 61 = .ok (.iload_n 1, 1) := by decide +kernel
theorem tc_d6_chance_62 : decode tc_i6_chance.2.1 62 = .ok (.iload_n 2, 1) := by decide +kernel
theorem tc_d6_chance_63 : decode tc_i6_chance.2.1 63 = .ok (.iload_n 3, 1) := by decide +kernel
theorem tc_d6_chance_64 : decode tc_i6_chance.2.1 64 = .ok (.iload 4, 2) := by decide +kernel
theorem tc_d6_chance_66 : decode tc_i6_chance.2.1 66 = .ok (.invokevirtual 228, 3) := by decide +kernel
theorem tc_d6_chance_69 : decode tc_i6_chance.2.1 69 = .ok (.istore 6, 2) := by decide +kernel
theorem tc_d6_chance_71 : decode tc_i6_chance.2.1 71 = .ok (.iconst 1, 1) := by decide +kernel
theorem tc_d6_chance_72 : decode tc_i6_chance.2.1 72 = .ok (.iload_n 2, 1) := by decide +kernel
theorem tc_d6_chance_73 : decode tc_i6_chance.2.1 73 = .ok (.iload 6, 2) := by decide +kernel
theorem tc_d6_chance_75 : decode tc_i6_chance.2.1 75 = .ok (.invokestatic 232, 3) := by decide +kernel
theorem tc_d6_chance_78 : decode tc_i6_chance.2.1 78 = .ok (.invokestatic 235, 3) := by decide +kernel
theorem tc_d6_chance_81 : decode tc_i6_chance.2.1 81 = .ok (.istore 7, 2) := by decide +kernel
theorem tc_d6_chance_83 : decode tc_i6_chance.2.1 83 = .ok (.iload 5, 2) := by decide +kernel
theorem tc_d6_chance_85 : decode tc_i6_chance.2.1 85 = .ok (.ifCond .ne 8, 3) := by decide +kernel
theorem tc_d6_chance_88 : decode tc_i6_chance.2.1 88 = .ok (.iload 6, 2) := by decide +kernel
theorem tc_d6_chance_90 : decode tc_i6_chance.2.1 90 = .ok (.goto 4, 3) := by decide +kernel
theorem tc_d6_chance_93 : decode tc_i6_chance.2.1 93 = .ok (.iload_n 2, 1) := by decide +kernel
theorem tc_d6_chance_94 : decode tc_i6_chance.2.1 94 = .ok (.iload 7, 2) := by decide +kernel
theorem tc_d6_chance_96 : decode tc_i6_chance.2.1 96 = .ok (.idiv, 1) := by decide +kernel
theorem tc_d6_chance_97 : decode tc_i6_chance.2.1 97 = .ok (.ireturn, 1) := by decide +kernel
theorem tc_d6_clears_0 : decode tc_i6_clears.2.1 0 = .ok (.aload_n 0, 1) := by decide +kernel
theorem tc_d6_clears_1 : decode tc_i6_clears.2.1 1 = .ok (.getfield 12, 3) := by decide +kernel
theorem tc_d6_clears_4 : decode tc_i6_clears.2.1 4 = .ok (.iload_n 1, 1) := by decide +kernel
theorem tc_d6_clears_5 : decode tc_i6_clears.2.1 5 = .ok (.invokevirtual 68, 3) := by decide +kernel
theorem tc_d6_clears_8 : decode tc_i6_clears.2.1 8 = .ok (.ifCond .eq 14, 3) := by decide +kernel
theorem tc_d6_clears_11 : decode tc_i6_clears.2.1 11 = .ok (.aload_n 0, 1) := by decide +kernel
theorem tc_d6_clears_12 : decode tc_i6_clears.2.1 12 = .ok (.getfield 35, 3) := by decide +kernel
theorem tc_d6_clears_15 : decode tc_i6_clears.2.1 15 = .ok (.iload_n 1, 1) := by decide +kernel
theorem tc_d6_clears_16 : decode tc_i6_clears.2.1 16 = .ok (.invokevirtual 192, 3) := by decide +kernel
theorem tc_d6_clears_19 : decode tc_i6_clears.2.1 19 = .ok (.goto 5, 3) := by decide +kernel
theorem tc_d6_clears_22 : decode tc_i6_clears.2.1 22 = .ok (.bipush (-2), 2) := by decide +kernel
theorem tc_d6_clears_24 : decode tc_i6_clears.2.1 24 = .ok (.ireturn, 1) := by decide +kernel
theorem tc_d6_copy_0 : decode tc_i6_copy.2.1 0 = .ok (.aload_n 0, 1) := by decide +kernel
theorem tc_d6_copy_1 : decode tc_i6_copy.2.1 1 = .ok (.getfield 49, 3) := by decide +kernel
theorem tc_d6_copy_4 : decode tc_i6_copy.2.1 4 = .ok (.iload_n 1, 1) := by decide +kernel
theorem tc_d6_copy_5 : decode tc_i6_copy.2.1 5 = .ok (.invokevirtual 240, 3) := by decide +kernel
theorem tc_d6_copy_8 : decode tc_i6_copy.2.1 8 = .ok (.ifCond .eq 14, 3) := by decide +kernel
theorem tc_d6_copy_11 : decode tc_i6_copy.2.1 11 = .ok (.aload_n 0, 1) := by decide +kernel
theorem tc_d6_copy_12 : decode tc_i6_copy.2.1 12 = .ok (.getfield 49, 3) := by decide +kernel
theorem tc_d6_copy_15 : decode tc_i6_copy.2.1 15 = .ok (.iload_n 3, 1) := by decide +kernel
theorem tc_d6_copy_16 : decode tc_i6_copy.2.1 16 = .ok (.invokevirtual 240, 3) := by decide +kernel
theorem tc_d6_copy_19 : decode tc_i6_copy.2.1 19 = .ok (.ifCond .ne 6, 3) := by decide +kernel
theorem tc_d6_copy_22 : decode tc_i6_copy.2.1 22 = .ok (.bipush (-2), 2) := by decide +kernel
theorem tc_d6_copy_24 : decode tc_i6_copy.2.1 24 = .ok (.ireturn, 1) := by decide +kernel
theorem tc_d6_copy_25 : decode tc_i6_copy.2.1 25 = .ok (.aload_n 0, 1) := by decide +kernel
theorem tc_d6_copy_26 : decode tc_i6_copy.2.1 26 = .ok (.getfield 49, 3) := by decide +kernel
theorem tc_d6_copy_29 : decode tc_i6_copy.2.1 29 = .ok (.iload_n 1, 1) := by decide +kernel
theorem tc_d6_copy_30 : decode tc_i6_copy.2.1 30 = .ok (.invokevirtual 241, 3) := by decide +kernel
theorem tc_d6_copy_33 : decode tc_i6_copy.2.1 33 = .ok (.ifCond .ne 14, 3) := by decide +kernel
theorem tc_d6_copy_36 : decode tc_i6_copy.2.1 36 = .ok (.aload_n 0, 1) := by decide +kernel
theorem tc_d6_copy_37 : decode tc_i6_copy.2.1 37 = .ok (.getfield 49, 3) := by decide +kernel
theorem tc_d6_copy_40 : decode tc_i6_copy.2.1 40 = .ok (.iload_n 3, 1) := by decide +kernel
theorem tc_d6_copy_41 : decode tc_i6_copy.2.1 41 = .ok (.invokevirtual 241, 3) := by decide +kernel
theorem tc_d6_copy_44 : decode tc_i6_copy.2.1 44 = .ok (.ifCond .eq 6, 3) := by decide +kernel
theorem tc_d6_copy_47 : decode tc_i6_copy.2.1 47 = .ok (.bipush (-11), 2) := by decide +kernel
theorem tc_d6_copy_49 : decode tc_i6_copy.2.1 49 = .ok (.ireturn, 1) := by decide +kernel
theorem tc_d6_copy_50 : decode tc_i6_copy.2.1 50 = .ok (.aload_n 0, 1) := by decide +kernel
theorem tc_d6_copy_51 : decode tc_i6_copy.2.1 51 = .ok (.getfield 49, 3) := by decide +kernel
theorem tc_d6_copy_54 : decode tc_i6_copy.2.1 54 = .ok (.getfield 311, 3) := by decide +kernel
theorem tc_d6_copy_57 : decode tc_i6_copy.2.1 57 = .ok (.iload_n 1, 1) := by decide +kernel
theorem tc_d6_copy_58 : decode tc_i6_copy.2.1 58 = .ok (.iaload, 1) := by decide +kernel
theorem tc_d6_copy_59 : decode tc_i6_copy.2.1 59 = .ok (.aload_n 0, 1) := by decide +kernel
theorem tc_d6_copy_60 : decode tc_i6_copy.2.1 60 = .ok (.getfield 49, 3) := by decide +kernel
theorem tc_d6_copy_63 : decode tc_i6_copy.2.1 63 = .ok (.getfield 311, 3) := by decide +kernel
theorem tc_d6_copy_66 : decode tc_i6_copy.2.1 66 = .ok (.iload_n 3, 1) := by decide +kernel
theorem tc_d6_copy_67 : decode tc_i6_copy.2.1 67 = .ok (.iaload, 1) := by decide +kernel
theorem tc_d6_copy_68 : decode tc_i6_copy.2.1 68 = .ok (.if_icmp .eq 6, 3) := by decide +kernel
theorem tc_d6_copy_71 : decode tc_i6_copy.2.1 71 = .ok (.bipush (-13), 2) := by decide +kernel
theorem tc_d6_copy_73 : decode tc_i6_copy.2.1 73 = .ok (.ireturn, 1) := by decide +kernel
theorem tc_d6_copy_74 : decode tc_i6_copy.2.1 74 = .ok (.aload_n 0, 1) := by decide +kernel
theorem tc_d6_copy_75 : decode tc_i6_copy.2.1 75 = .ok (.getfield 49, 3) := by decide +kernel
theorem tc_d6_copy_78 : decode tc_i6_copy.2.1 78 = .ok (.iload_n 1, 1) := by decide +kernel
theorem tc_d6_copy_79 : decode tc_i6_copy.2.1 79 = .ok (.iload_n 2, 1) := by decide +kernel
theorem tc_d6_copy_80 : decode tc_i6_copy.2.1 80 = .ok (.i2l, 1) := by decide +kernel
theorem tc_d6_copy_81 : decode tc_i6_copy.2.1 81 = .ok (.iload 5, 2) := by decide +kernel
theorem tc_d6_copy_83 : decode tc_i6_copy.2.1 83 = .ok (.i2l, 1) := by decide +kernel
theorem tc_d6_copy_84 : decode tc_i6_copy.2.1 84 = .ok (.invokevirtual 316, 3) := by decide +kernel
theorem tc_d6_copy_87 : decode tc_i6_copy.2.1 87 = .ok (.ifCond .eq 20, 3) := by decide +kernel
theorem tc_d6_copy_90 : decode tc_i6_copy.2.1 90 = .ok (.aload_n 0, 1) := by decide +kernel
theorem tc_d6_copy_91 : decode tc_i6_copy.2.1 91 = .ok (.getfield 49, 3) := by decide +kernel
theorem tc_d6_copy_94 : decode tc_i6_copy.2.1 94 = .ok (.iload_n 3, 1) := by decide +kernel
theorem tc_d6_copy_95 : decode tc_i6_copy.2.1 95 = .ok (.iload 4, 2) := by decide +kernel
theorem tc_d6_copy_97 : decode tc_i6_copy.2.1 97 = .ok (.i2l, 1) := by decide +kernel
theorem tc_d6_copy_98 : decode tc_i6_copy.2.1 98 = .ok (.iload 5, 2) := by decide +kernel
theorem tc_d6_copy_100 : decode tc_i6_copy.2.1 100 = .ok (.i2l, 1) := by decide +kernel
theorem tc_d6_copy_101 : decode tc_i6_copy.2.1 101 = .ok (.invokevirtual 316, 3) := by decide +kernel
theorem tc_d6_copy_104 : decode tc_i6_copy.2.1 104 = .ok (.ifCond .ne 6, 3) := by decide +kernel
theorem tc_d6_copy_107 : decode tc_i6_copy.2.1 107 = .ok (.bipush (-12), 2) := by decide +kernel
theorem tc_d6_copy_109 : decode tc_i6_copy.2.1 109 = .ok (.ireturn, 1) := by decide +kernel
theorem tc_d6_copy_110 : decode tc_i6_copy.2.1 110 = .ok (.aload_n 0, 1) := by decide +kernel
theorem tc_d6_copy_111 : decode tc_i6_copy.2.1 111 = .ok (.getfield 49, 3) := by decide +kernel
theorem tc_d6_copy_114 : decode tc_i6_copy.2.1 114 = .ok (.iload_n 1, 1) := by decide +kernel
theorem tc_d6_copy_115 : decode tc_i6_copy.2.1 115 = .ok (.iload_n 2, 1) := by decide +kernel
theorem tc_d6_copy_116 : decode tc_i6_copy.2.1 116 = .ok (.iload_n 3, 1) := by decide +kernel
theorem tc_d6_copy_117 : decode tc_i6_copy.2.1 117 = .ok (.iload 4, 2) := by decide +kernel
theorem tc_d6_copy_119 : decode tc_i6_copy.2.1 119 = .ok (.iload 5, 2) := by decide +kernel
theorem tc_d6_copy_121 : decode tc_i6_copy.2.1 121 = .ok (.invokevirtual 331, 3) := by decide +kernel
theorem tc_d6_copy_124 : decode tc_i6_copy.2.1 124 = .ok (.iload 5, 2) := by decide +kernel
theorem tc_d6_copy_126 : decode tc_i6_copy.2.1 126 = .ok (.ireturn, 1) := by decide +kernel
theorem tc_d6_count_0 : decode tc_i6_count.2.1 0 = .ok (.iload_n 1, 1) := by decide +kernel
theorem tc_d6_count_1 : decode tc_i6_count.2.1 1 = .ok (.tableswitch 81 0 4 #[35, 43, 54, 62, 73], 35) := by decide +kernel
theorem tc_d6_count_36 : decode tc_i6_count.2.1 36 = .ok (.aload_n 0, 1) := by decide +kernel
theorem tc_d6_count_37 : decode tc_i6_count.2.1 37 = .ok (.getfield 12, 3) := by decide +kernel
theorem tc_d6_count_40 : decode tc_i6_count.2.1 40 = .ok (.getfield 57, 3) := by decide +kernel
theorem tc_d6_count_43 : decode tc_i6_count.2.1 43 = .ok (.ireturn, 1) := by decide +kernel
theorem tc_d6_count_44 : decode tc_i6_count.2.1 44 = .ok (.aload_n 0, 1) := by decide +kernel
theorem tc_d6_count_45 : decode tc_i6_count.2.1 45 = .ok (.getfield 12, 3) := by decide +kernel
theorem tc_d6_count_48 : decode tc_i6_count.2.1 48 = .ok (.getfield 134, 3) := by decide +kernel
theorem tc_d6_count_51 : decode tc_i6_count.2.1 51 = .ok (.getfield 138, 3) := by decide +kernel
theorem tc_d6_count_54 : decode tc_i6_count.2.1 54 = .ok (.ireturn, 1) := by decide +kernel
theorem tc_d6_count_55 : decode tc_i6_count.2.1 55 = .ok (.aload_n 0, 1) := by decide +kernel
theorem tc_d6_count_56 : decode tc_i6_count.2.1 56 = .ok (.getfield 42, 3) := by decide +kernel
theorem tc_d6_count_59 : decode tc_i6_count.2.1 59 = .ok (.getfield 261, 3) := by decide +kernel
theorem tc_d6_count_62 : decode tc_i6_count.2.1 62 = .ok (.ireturn, 1) := by decide +kernel
theorem tc_d6_count_63 : decode tc_i6_count.2.1 63 = .ok (.aload_n 0, 1) := by decide +kernel
theorem tc_d6_count_64 : decode tc_i6_count.2.1 64 = .ok (.getfield 12, 3) := by decide +kernel
theorem tc_d6_count_67 : decode tc_i6_count.2.1 67 = .ok (.getfield 124, 3) := by decide +kernel
theorem tc_d6_count_70 : decode tc_i6_count.2.1 70 = .ok (.invokestatic 323, 3) := by decide +kernel
theorem tc_d6_count_73 : decode tc_i6_count.2.1 73 = .ok (.ireturn, 1) := by decide +kernel
theorem tc_d6_count_74 : decode tc_i6_count.2.1 74 = .ok (.aload_n 0, 1) := by decide +kernel
theorem tc_d6_count_75 : decode tc_i6_count.2.1 75 = .ok (.getfield 12, 3) := by decide +kernel
theorem tc_d6_count_78 : decode tc_i6_count.2.1 78 = .ok (.invokevirtual 328, 3) := by decide +kernel
theorem tc_d6_count_81 : decode tc_i6_count.2.1 81 = .ok (.ireturn, 1) := by decide +kernel
theorem tc_d6_count_82 : decode tc_i6_count.2.1 82 = .ok (.bipush (-2), 2) := by decide +kernel
theorem tc_d6_count_84 : decode tc_i6_count.2.1 84 = .ok (.ireturn, 1) := by decide +kernel
theorem tc_d6_drawn_0 : decode tc_i6_drawn.2.1 0 = .ok (.iload_n 2, 1) := by decide +kernel
theorem tc_d6_drawn_1 : decode tc_i6_drawn.2.1 1 = .ok (.iconst 0, 1) := by decide +kernel
theorem tc_d6_drawn_2 : decode tc_i6_drawn.2.1 2 = .ok (.bipush 9, 2) := by decide +kernel
theorem tc_d6_drawn_4 : decode tc_i6_drawn.2.1 4 = .ok (.invokestatic 117, 3) := by decide +kernel
theorem tc_d6_drawn_7 : decode tc_i6_drawn.2.1 7 = .ok (.ifCond .eq 13, 3) := by decide +kernel
theorem tc_d6_drawn_10 : decode tc_i6_drawn.2.1 10 = .ok (.aload_n 0, 1) := by decide +kernel
theorem tc_d6_drawn_11 : decode tc_i6_drawn.2.1 11 = .ok (.getfield 12, 3) := by decide +kernel
theorem tc_d6_drawn_14 : decode tc_i6_drawn.2.1 14 = .ok (.getfield 57, 3) := by decide +kernel
theorem tc_d6_drawn_17 : decode tc_i6_drawn.2.1 17 = .ok (.ifCond .ne 6, 3) := by decide +kernel
theorem tc_d6_drawn_20 : decode tc_i6_drawn.2.1 20 = .ok (.bipush (-2), 2) := by decide +kernel
theorem tc_d6_drawn_22 : decode tc_i6_drawn.2.1 22 = .ok (.ireturn, 1) := by decide +kernel
theorem tc_d6_drawn_23 : decode tc_i6_drawn.2.1 23 = .ok (.aload_n 0, 1) := by decide +kernel
theorem tc_d6_drawn_24 : decode tc_i6_drawn.2.1 24 = .ok (.getfield 35, 3) := by decide +kernel
theorem tc_d6_drawn_27 : decode tc_i6_drawn.2.1 27 = .ok (.iload_n 1, 1) := by decide +kernel
theorem tc_d6_drawn_28 : decode tc_i6_drawn.2.1 28 = .ok (.iload_n 2, 1) := by decide +kernel
theorem tc_d6_drawn_29 : decode tc_i6_drawn.2.1 29 = .ok (.invokevirtual 225, 3) := by decide +kernel
theorem tc_d6_drawn_32 : decode tc_i6_drawn.2.1 32 = .ok (.ireturn, 1) := by decide +kernel
theorem tc_d6_faultOf_0 : decode tc_i6_faultOf.2.1 0 = .ok (.iload_n 1, 1) := by decide +kernel
theorem tc_d6_faultOf_1 : decode tc_i6_faultOf.2.1 1 = .ok (.iconst 0, 1) := by decide +kernel
theorem tc_d6_faultOf_2 : decode tc_i6_faultOf.2.1 2 = .ok (.aload_n 0, 1) := by decide +kernel
theorem tc_d6_faultOf_3 : decode tc_i6_faultOf.2.1 3 = .ok (.getfield 12, 3) := by decide +kernel
theorem tc_d6_faultOf_6 : decode tc_i6_faultOf.2.1 6 = .ok (.getfield 134, 3) := by decide +kernel
theorem tc_d6_faultOf_9 : decode tc_i6_faultOf.2.1 9 = .ok (.getfield 138, 3) := by decide +kernel
theorem tc_d6_faultOf_12 : decode tc_i6_faultOf.2.1 12 = .ok (.iconst 1, 1) := by decide +kernel
theorem tc_d6_faultOf_13 : decode tc_i6_faultOf.2.1 13 = .ok (.isub, 1) := by decide +kernel
theorem tc_d6_faultOf_14 : decode tc_i6_faultOf.2.1 14 = .ok (.invokestatic 117, 3) := by decide +kernel
theorem tc_d6_faultOf_17 : decode tc_i6_faultOf.2.1 17 = .ok (.ifCond .ne 6, 3) := by decide +kernel
theorem tc_d6_faultOf_20 : decode tc_i6_faultOf.2.1 20 = .ok (.bipush (-2), 2) := by decide +kernel
theorem tc_d6_faultOf_22 : decode tc_i6_faultOf.2.1 22 = .ok (.ireturn, 1) := by decide +kernel
theorem tc_d6_faultOf_23 : decode tc_i6_faultOf.2.1 23 = .ok (.iload_n 2, 1) := by decide +kernel
theorem tc_d6_faultOf_24 : decode tc_i6_faultOf.2.1 24 = .ok (.tableswitch 67 0 2 #[28, 41, 54], 28) := by decide +kernel
theorem tc_d6_faultOf_52 : decode tc_i6_faultOf.2.1 52 = .ok (.aload_n 0, 1) := by decide +kernel
theorem tc_d6_faultOf_53 : decode tc_i6_faultOf.2.1 53 = .ok (.getfield 12, 3) := by decide +kernel
theorem tc_d6_faultOf_56 : decode tc_i6_faultOf.2.1 56 = .ok (.getfield 134, 3) := by decide +kernel
theorem tc_d6_faultOf_59 : decode tc_i6_faultOf.2.1 59 = .ok (.getfield 147, 3) := by decide +kernel
theorem tc_d6_faultOf_62 : decode tc_i6_faultOf.2.1 62 = .ok (.iload_n 1, 1) := by decide +kernel
theorem tc_d6_faultOf_63 : decode tc_i6_faultOf.2.1 63 = .ok (.iaload, 1) := by decide +kernel
theorem tc_d6_faultOf_64 : decode tc_i6_faultOf.2.1 64 = .ok (.ireturn, 1) := by decide +kernel
theorem tc_d6_faultOf_65 : decode tc_i6_faultOf.2.1 65 = .ok (.aload_n 0, 1) := by decide +kernel
theorem tc_d6_faultOf_66 : decode tc_i6_faultOf.2.1 66 = .ok (.getfield 12, 3) := by decide +kernel
theorem tc_d6_faultOf_69 : decode tc_i6_faultOf.2.1 69 = .ok (.getfield 134, 3) := by decide +kernel
theorem tc_d6_faultOf_72 : decode tc_i6_faultOf.2.1 72 = .ok (.getfield 148, 3) := by decide +kernel
theorem tc_d6_faultOf_75 : decode tc_i6_faultOf.2.1 75 = .ok (.iload_n 1, 1) := by decide +kernel
theorem tc_d6_faultOf_76 : decode tc_i6_faultOf.2.1 76 = .ok (.iaload, 1) := by decide +kernel
theorem tc_d6_faultOf_77 : decode tc_i6_faultOf.2.1 77 = .ok (.ireturn, 1) := by decide +kernel
theorem tc_d6_faultOf_78 : decode tc_i6_faultOf.2.1 78 = .ok (.aload_n 0, 1) := by decide +kernel
theorem tc_d6_faultOf_79 : decode tc_i6_faultOf.2.1 79 = .ok (.getfield 12, 3) := by decide +kernel
theorem tc_d6_faultOf_82 : decode tc_i6_faultOf.2.1 82 = .ok (.getfield 134, 3) := by decide +kernel
theorem tc_d6_faultOf_85 : decode tc_i6_faultOf.2.1 85 = .ok (.getfield 151, 3) := by decide +kernel
theorem tc_d6_faultOf_88 : decode tc_i6_faultOf.2.1 88 = .ok (.iload_n 1, 1) := by decide +kernel
theorem tc_d6_faultOf_89 : decode tc_i6_faultOf.2.1 89 = .ok (.iaload, 1) := by decide +kernel
theorem tc_d6_faultOf_90 : decode tc_i6_faultOf.2.1 90 = .ok (.ireturn, 1) := by decide +kernel
theorem tc_d6_faultOf_91 : decode tc_i6_faultOf.2.1 91 = .ok (.bipush (-2), 2) := by decide +kernel
theorem tc_d6_faultOf_93 : decode tc_i6_faultOf.2.1 93 = .ok (.ireturn, 1) := by decide +kernel
theorem tc_d6_feed_0 : decode tc_i6_feed.2.1 0 = .ok (.iload_n 1, 1) := by decide +kernel
theorem tc_d6_feed_1 : decode tc_i6_feed.2.1 1 = .ok (.iconst 1, 1) := by decide +kernel
theorem tc_d6_feed_2 : decode tc_i6_feed.2.1 2 = .ok (.iconst 5, 1) := by decide +kernel
theorem tc_d6_feed_3 : decode tc_i6_feed.2.1 3 = .ok (.invokestatic 117, 3) := by decide +kernel
theorem tc_d6_feed_6 : decode tc_i6_feed.2.1 6 = .ok (.ifCond .eq 17, 3) := by decide +kernel
theorem tc_d6_feed_9 : decode tc_i6_feed.2.1 9 = .ok (.iload_n 2, 1) := by decide +kernel
theorem tc_d6_feed_10 : decode tc_i6_feed.2.1 10 = .ok (.invokestatic 258, 3) := by decide +kernel
theorem tc_d6_feed_13 : decode tc_i6_feed.2.1 13 = .ok (.ifCond .eq 10, 3) := by decide +kernel
theorem tc_d6_feed_16 : decode tc_i6_feed.2.1 16 = .ok (.iload_n 3, 1) := by decide +kernel
theorem tc_d6_feed_17 : decode tc_i6_feed.2.1 17 = .ok (.invokestatic 258, 3) := by decide +kernel
theorem tc_d6_feed_20 : decode tc_i6_feed.2.1 20 = .ok (.ifCond .ne 6, 3) := by decide +kernel
theorem tc_d6_feed_23 : decode tc_i6_feed.2.1 23 = .ok (.bipush (-2), 2) := by decide +kernel
theorem tc_d6_feed_25 : decode tc_i6_feed.2.1 25 = .ok (.ireturn, 1) := by decide +kernel
theorem tc_d6_feed_26 : decode tc_i6_feed.2.1 26 = .ok (.iload 4, 2) := by decide +kernel
theorem tc_d6_feed_28 : decode tc_i6_feed.2.1 28 = .ok (.invokestatic 258, 3) := by decide +kernel
theorem tc_d6_feed_31 : decode tc_i6_feed.2.1 31 = .ok (.ifCond .eq 19, 3) := by decide +kernel
theorem tc_d6_feed_34 : decode tc_i6_feed.2.1 34 = .ok (.iload 5, 2) := by decide +kernel
theorem tc_d6_feed_36 : decode tc_i6_feed.2.1 36 = .ok (.invokestatic 258, 3) := by decide +kernel
theorem tc_d6_feed_39 : decode tc_i6_feed.2.1 39 = .ok (.ifCond .eq 11, 3) := by decide +kernel
theorem tc_d6_feed_42 : decode tc_i6_feed.2.1 42 = .ok (.iload 6, 2) := by decide +kernel
theorem tc_d6_feed_44 : decode tc_i6_feed.2.1 44 = .ok (.invokestatic 258, 3) := by decide +kernel
theorem tc_d6_feed_47 : decode tc_i6_feed.2.1 47 = .ok (.ifCond .ne 6, 3) := by decide +kernel
theorem tc_d6_feed_50 : decode tc_i6_feed.2.1 50 = .ok (.bipush (-2), 2) := by decide +kernel
theorem tc_d6_feed_52 : decode tc_i6_feed.2.1 52 = .ok (.ireturn, 1) := by decide +kernel
theorem tc_d6_feed_53 : decode tc_i6_feed.2.1 53 = .ok (.aload_n 0, 1) := by decide +kernel
theorem tc_d6_feed_54 : decode tc_i6_feed.2.1 54 = .ok (.getfield 42, 3) := by decide +kernel
theorem tc_d6_feed_57 : decode tc_i6_feed.2.1 57 = .ok (.getfield 261, 3) := by decide +kernel
theorem tc_d6_feed_60 : decode tc_i6_feed.2.1 60 = .ok (.iload_n 1, 1) := by decide +kernel
theorem tc_d6_feed_61 : decode tc_i6_feed.2.1 61 = .ok (.iadd, 1) := by decide +kernel
theorem tc_d6_feed_62 : decode tc_i6_feed.2.1 62 = .ok (.bipush 60, 2) := by decide +kernel
theorem tc_d6_feed_64 : decode tc_i6_feed.2.1 64 = .ok (.if_icmp .le 6, 3) := by decide +kernel
theorem tc_d6_feed_67 : decode tc_i6_feed.2.1 67 = .ok (.bipush (-4), 2) := by decide +kernel
theorem tc_d6_feed_69 : decode tc_i6_feed.2.1 69 = .ok (.ireturn, 1) := by decide +kernel
theorem tc_d6_feed_70 : decode tc_i6_feed.2.1 70 = .ok (.aload_n 0, 1) := by decide +kernel
theorem tc_d6_feed_71 : decode tc_i6_feed.2.1 71 = .ok (.getfield 42, 3) := by decide +kernel
theorem tc_d6_feed_74 : decode tc_i6_feed.2.1 74 = .ok (.iload_n 2, 1) := by decide +kernel
theorem tc_d6_feed_75 : decode tc_i6_feed.2.1 75 = .ok (.invokevirtual 262, 3) := by decide +kernel
theorem tc_d6_feed_78 : decode tc_i6_feed.2.1 78 = .ok (.iload_n 1, 1) := by decide +kernel
theorem tc_d6_feed_79 : decode tc_i6_feed.2.1 79 = .ok (.iconst 1, 1) := by decide +kernel
theorem tc_d6_feed_80 : decode tc_i6_feed.2.1 80 = .ok (.if_icmp .le 11, 3) := by decide +kernel
theorem tc_d6_feed_83 : decode tc_i6_feed.2.1 83 = .ok (.aload_n 0, 1) := by decide +kernel
theorem tc_d6_feed_84 : decode tc_i6_feed.2.1 84 = .ok (.getfield 42, 3) := by decide +kernel
theorem tc_d6_feed_87 : decode tc_i6_feed.2.1 87 = .ok (.iload_n 3, 1) := by decide +kernel
theorem tc_d6_feed_88 : decode tc_i6_feed.2.1 88 = .ok (.invokevirtual 262, 3) := by decide +kernel
theorem tc_d6_feed_91 : decode tc_i6_feed.2.1 91 = .ok (.iload_n 1, 1) := by decide +kernel
theorem tc_d6_feed_92 : decode tc_i6_feed.2.1 92 = .ok (.iconst 2, 1) := by decide +kernel
theorem tc_d6_feed_93 : decode tc_i6_feed.2.1 93 = .ok (.if_icmp .le 12, 3) := by decide +kernel
theorem tc_d6_feed_96 : decode tc_i6_feed.2.1 96 = .ok (.aload_n 0, 1) := by decide +kernel
theorem tc_d6_feed_97 : decode tc_i6_feed.2.1 97 = .ok (.getfield 42, 3) := by decide +kernel
theorem tc_d6_feed_100 : decode tc_i6_feed.2.1 100 = .ok (.iload 4, 2) := by decide +kernel
theorem tc_d6_feed_102 : decode tc_i6_feed.2.1 102 = .ok (.invokevirtual 262, 3) := by decide +kernel
theorem tc_d6_feed_105 : decode tc_i6_feed.2.1 105 = .ok (.iload_n 1, 1) := by decide +kernel
theorem tc_d6_feed_106 : decode tc_i6_feed.2.1 106 = .ok (.iconst 3, 1) := by decide +kernel
theorem tc_d6_feed_107 : decode tc_i6_feed.2.1 107 = .ok (.if_icmp .le 12, 3) := by decide +kernel
theorem tc_d6_feed_110 : decode tc_i6_feed.2.1 110 = .ok (.aload_n 0, 1) := by decide +kernel
theorem tc_d6_feed_111 : decode tc_i6_feed.2.1 111 = .ok (.getfield 42, 3) := by decide +kernel
theorem tc_d6_feed_114 : decode tc_i6_feed.2.1 114 = .ok (.iload 5, 2) := by decide +kernel
theorem tc_d6_feed_116 : decode tc_i6_feed.2.1 116 = .ok (.invokevirtual 262, 3) := by decide +kernel
theorem tc_d6_feed_119 : decode tc_i6_feed.2.1 119 = .ok (.iload_n 1, 1) := by decide +kernel
theorem tc_d6_feed_120 : decode tc_i6_feed.2.1 120 = .ok (.iconst 4, 1) := by decide +kernel
theorem tc_d6_feed_121 : decode tc_i6_feed.2.1 121 = .ok (.if_icmp .le 12, 3) := by decide +kernel
theorem tc_d6_feed_124 : decode tc_i6_feed.2.1 124 = .ok (.aload_n 0, 1) := by decide +kernel
theorem tc_d6_feed_125 : decode tc_i6_feed.2.1 125 = .ok (.getfield 42, 3) := by decide +kernel
theorem tc_d6_feed_128 : decode tc_i6_feed.2.1 128 = .ok (.iload 6, 2) := by decide +kernel
theorem tc_d6_feed_130 : decode tc_i6_feed.2.1 130 = .ok (.invokevirtual 262, 3) := by decide +kernel
theorem tc_d6_feed_133 : decode tc_i6_feed.2.1 133 = .ok (.aload_n 0, 1) := by decide +kernel
theorem tc_d6_feed_134 : decode tc_i6_feed.2.1 134 = .ok (.getfield 42, 3) := by decide +kernel
theorem tc_d6_feed_137 : decode tc_i6_feed.2.1 137 = .ok (.getfield 261, 3) := by decide +kernel
theorem tc_d6_feed_140 : decode tc_i6_feed.2.1 140 = .ok (.ireturn, 1) := by decide +kernel
theorem tc_d6_film_0 : decode tc_i6_film.2.1 0 = .ok (.aload_n 0, 1) := by decide +kernel
theorem tc_d6_film_1 : decode tc_i6_film.2.1 1 = .ok (.getfield 49, 3) := by decide +kernel
theorem tc_d6_film_4 : decode tc_i6_film.2.1 4 = .ok (.iload_n 1, 1) := by decide +kernel
theorem tc_d6_film_5 : decode tc_i6_film.2.1 5 = .ok (.invokevirtual 240, 3) := by decide +kernel
theorem tc_d6_film_8 : decode tc_i6_film.2.1 8 = .ok (.ifCond .eq 24, 3) := by decide +kernel
theorem tc_d6_film_11 : decode tc_i6_film.2.1 11 = .ok (.aload_n 0, 1) := by decide +kernel
theorem tc_d6_film_12 : decode tc_i6_film.2.1 12 = .ok (.getfield 12, 3) := by decide +kernel
theorem tc_d6_film_15 : decode tc_i6_film.2.1 15 = .ok (.iload_n 2, 1) := by decide +kernel
theorem tc_d6_film_16 : decode tc_i6_film.2.1 16 = .ok (.invokevirtual 68, 3) := by decide +kernel
theorem tc_d6_film_19 : decode tc_i6_film.2.1 19 = .ok (.ifCond .eq 13, 3) := by decide +kernel
theorem tc_d6_film_22 : decode tc_i6_film.2.1 22 = .ok (.iload_n 3, 1) := by decide +kernel
theorem tc_d6_film_23 : decode tc_i6_film.2.1 23 = .ok (.iconst 0, 1) := by decide +kernel
theorem tc_d6_film_24 : decode tc_i6_film.2.1 24 = .ok (.bipush 10, 2) := by decide +kernel
theorem tc_d6_film_26 : decode tc_i6_film.2.1 26 = .ok (.invokestatic 117, 3) := by decide +kernel
theorem tc_d6_film_29 : decode tc_i6_film.2.1 29 = .ok (.ifCond .ne 6, 3) := by decide +kernel
theorem tc_d6_film_32 : decode tc_i6_film.2.1 32 = .ok (.bipush (-2), 2) := by decide +kernel
theorem tc_d6_film_34 : decode tc_i6_film.2.1 34 = .ok (.ireturn, 1) := by decide +kernel
theorem tc_d6_film_35 : decode tc_i6_film.2.1 35 = .ok (.aload_n 0, 1) := by decide +kernel
theorem tc_d6_film_36 : decode tc_i6_film.2.1 36 = .ok (.getfield 35, 3) := by decide +kernel
theorem tc_d6_film_39 : decode tc_i6_film.2.1 39 = .ok (.iload_n 2, 1) := by decide +kernel
theorem tc_d6_film_40 : decode tc_i6_film.2.1 40 = .ok (.iload_n 3, 1) := by decide +kernel
theorem tc_d6_film_41 : decode tc_i6_film.2.1 41 = .ok (.invokevirtual 251, 3) := by decide +kernel
theorem tc_d6_film_44 : decode tc_i6_film.2.1 44 = .ok (.istore 4, 2) := by decide +kernel
theorem tc_d6_film_46 : decode tc_i6_film.2.1 46 = .ok (.iload 4, 2) := by decide +kernel
theorem tc_d6_film_48 : decode tc_i6_film.2.1 48 = .ok (.iconst (-1), 1) := by decide +kernel
theorem tc_d6_film_49 : decode tc_i6_film.2.1 49 = .ok (.if_icmp .ne 6, 3) := by decide +kernel
theorem tc_d6_film_52 : decode tc_i6_film.2.1 52 = .ok (.bipush (-3), 2) := by decide +kernel
theorem tc_d6_film_54 : decode tc_i6_film.2.1 54 = .ok (.ireturn, 1) := by decide +kernel
theorem tc_d6_film_55 : decode tc_i6_film.2.1 55 = .ok (.aload_n 0, 1) := by decide +kernel
theorem tc_d6_film_56 : decode tc_i6_film.2.1 56 = .ok (.getfield 49, 3) := by decide +kernel
theorem tc_d6_film_59 : decode tc_i6_film.2.1 59 = .ok (.iload_n 1, 1) := by decide +kernel
theorem tc_d6_film_60 : decode tc_i6_film.2.1 60 = .ok (.iconst 0, 1) := by decide +kernel
theorem tc_d6_film_61 : decode tc_i6_film.2.1 61 = .ok (.iload_n 3, 1) := by decide +kernel
theorem tc_d6_film_62 : decode tc_i6_film.2.1 62 = .ok (.invokevirtual 254, 3) := by decide +kernel
theorem tc_d6_film_65 : decode tc_i6_film.2.1 65 = .ok (.iconst 0, 1) := by decide +kernel
theorem tc_d6_film_66 : decode tc_i6_film.2.1 66 = .ok (.istore 5, 2) := by decide +kernel
theorem tc_d6_film_68 : decode tc_i6_film.2.1 68 = .ok (.iload 5, 2) := by decide +kernel
theorem tc_d6_film_70 : decode tc_i6_film.2.1 70 = .ok (.iload_n 3, 1) := by decide +kernel
theorem tc_d6_film_71 : decode tc_i6_film.2.1 71 = .ok (.if_icmp .ge 26, 3) := by decide +kernel
theorem tc_d6_film_74 : decode tc_i6_film.2.1 74 = .ok (.aload_n 0, 1) := by decide +kernel
theorem tc_d6_film_75 : decode tc_i6_film.2.1 75 = .ok (.getfield 49, 3) := by decide +kernel
theorem tc_d6_film_78 : decode tc_i6_film.2.1 78 = .ok (.iload_n 1, 1) := by decide +kernel
theorem tc_d6_film_79 : decode tc_i6_film.2.1 79 = .ok (.iload 5, 2) := by decide +kernel
theorem tc_d6_film_81 : decode tc_i6_film.2.1 81 = .ok (.iload 4, 2) := by decide +kernel
theorem tc_d6_film_83 : decode tc_i6_film.2.1 83 = .ok (.iload 5, 2) := by decide +kernel
theorem tc_d6_film_85 : decode tc_i6_film.2.1 85 = .ok (.invokestatic 105, 3) := by decide +kernel
theorem tc_d6_film_88 : decode tc_i6_film.2.1 88 = .ok (.invokevirtual 257, 3) := by decide +kernel
theorem tc_d6_film_91 : decode tc_i6_film.2.1 91 = .ok (.iinc 5 1, 3) := by decide +kernel
theorem tc_d6_film_94 : decode tc_i6_film.2.1 94 = .ok (.goto (-26), 3) := by decide +kernel
theorem tc_d6_film_97 : decode tc_i6_film.2.1 97 = .ok (.iload_n 3, 1) := by decide +kernel
theorem tc_d6_film_98 : decode tc_i6_film.2.1 98 = .ok (.ireturn, 1) := by decide +kernel
theorem tc_d6_fix_0 : decode tc_i6_fix.2.1 0 = .ok (.aload_n 0, 1) := by decide +kernel
theorem tc_d6_fix_1 : decode tc_i6_fix.2.1 1 = .ok (.getfield 35, 3) := by decide +kernel
theorem tc_d6_fix_4 : decode tc_i6_fix.2.1 4 = .ok (.invokevirtual 222, 3) := by decide +kernel
theorem tc_d6_fix_7 : decode tc_i6_fix.2.1 7 = .ok (.ireturn, 1) := by decide +kernel
theorem tc_d6_force_0 : decode tc_i6_force.2.1 0 = .ok (.aload_n 0, 1) := by decide +kernel
theorem tc_d6_force_1 : decode tc_i6_force.2.1 1 = .ok (.getfield 12, 3) := by decide +kernel
theorem tc_d6_force_4 : decode tc_i6_force.2.1 4 = .ok (.iload_n 1, 1) := by decide +kernel
theorem tc_d6_force_5 : decode tc_i6_force.2.1 5 = .ok (.invokevirtual 68, 3) := by decide +kernel
theorem tc_d6_force_8 : decode tc_i6_force.2.1 8 = .ok (.ifCond .eq 12, 3) := by decide +kernel
theorem tc_d6_force_11 : decode tc_i6_force.2.1 11 = .ok (.iload_n 2, 1) := by decide +kernel
theorem tc_d6_force_12 : decode tc_i6_force.2.1 12 = .ok (.iconst 0, 1) := by decide +kernel
theorem tc_d6_force_13 : decode tc_i6_force.2.1 13 = .ok (.iconst 1, 1) := by decide +kernel
theorem tc_d6_force_14 : decode tc_i6_force.2.1 14 = .ok (.invokestatic 117, 3) := by decide +kernel
theorem tc_d6_force_17 : decode tc_i6_force.2.1 17 = .ok (.ifCond .ne 6, 3) := by decide +kernel
theorem tc_d6_force_20 : decode tc_i6_force.2.1 20 = .ok (.bipush (-2), 2) := by decide +kernel
theorem tc_d6_force_22 : decode tc_i6_force.2.1 22 = .ok (.ireturn, 1) := by decide +kernel
theorem tc_d6_force_23 : decode tc_i6_force.2.1 23 = .ok (.aload_n 0, 1) := by decide +kernel
theorem tc_d6_force_24 : decode tc_i6_force.2.1 24 = .ok (.getfield 12, 3) := by decide +kernel
theorem tc_d6_force_27 : decode tc_i6_force.2.1 27 = .ok (.getfield 102, 3) := by decide +kernel
theorem tc_d6_force_30 : decode tc_i6_force.2.1 30 = .ok (.iload_n 1, 1) := by decide +kernel
theorem tc_d6_force_31 : decode tc_i6_force.2.1 31 = .ok (.invokestatic 105, 3) := by decide +kernel
theorem tc_d6_force_34 : decode tc_i6_force.2.1 34 = .ok (.istore_n 3, 1) := by decide +kernel
theorem tc_d6_force_35 : decode tc_i6_force.2.1 35 = .ok (.aload_n 0, 1) := by decide +kernel
theorem tc_d6_force_36 : decode tc_i6_force.2.1 36 = .ok (.getfield 12, 3) := by decide +kernel
theorem tc_d6_force_39 : decode tc_i6_force.2.1 39 = .ok (.aload_n 0, 1) := by decide +kernel
theorem tc_d6_force_40 : decode tc_i6_force.2.1 40 = .ok (.getfield 12, 3) := by decide +kernel
theorem tc_d6_force_43 : decode tc_i6_force.2.1 43 = .ok (.getfield 102, 3) := by decide +kernel
theorem tc_d6_force_46 : decode tc_i6_force.2.1 46 = .ok (.iload_n 1, 1) := by decide +kernel
theorem tc_d6_force_47 : decode tc_i6_force.2.1 47 = .ok (.iload_n 2, 1) := by decide +kernel
theorem tc_d6_force_48 : decode tc_i6_force.2.1 48 = .ok (.iconst 1, 1) := by decide +kernel
theorem tc_d6_force_49 : decode tc_i6_force.2.1 49 = .ok (.if_icmp .ne 7, 3) := by decide +kernel
theorem tc_d6_force_52 : decode tc_i6_force.2.1 52 = .ok (.iconst 1, 1) := by decide +kernel
theorem tc_d6_force_53 : decode tc_i6_force.2.1 53 = .ok (.goto 4, 3) := by decide +kernel
theorem tc_d6_force_56 : decode tc_i6_force.2.1 56 = .ok (.iconst 0, 1) := by decide +kernel
theorem tc_d6_force_57 : decode tc_i6_force.2.1 57 = .ok (.invokestatic 127, 3) := by decide +kernel
theorem tc_d6_force_60 : decode tc_i6_force.2.1 60 = .ok (.putfield 102, 3) := by decide +kernel
theorem tc_d6_force_63 : decode tc_i6_force.2.1 63 = .ok (.aload_n 0, 1) := by decide +kernel
theorem tc_d6_force_64 : decode tc_i6_force.2.1 64 = .ok (.getfield 12, 3) := by decide +kernel
theorem tc_d6_force_67 : decode tc_i6_force.2.1 67 = .ok (.getfield 108, 3) := by decide +kernel
theorem tc_d6_force_70 : decode tc_i6_force.2.1 70 = .ok (.iload_n 1, 1) := by decide +kernel
theorem tc_d6_force_71 : decode tc_i6_force.2.1 71 = .ok (.iconst 0, 1) := by decide +kernel
theorem tc_d6_force_72 : decode tc_i6_force.2.1 72 = .ok (.iastore, 1) := by decide +kernel
theorem tc_d6_force_73 : decode tc_i6_force.2.1 73 = .ok (.iload_n 3, 1) := by decide +kernel
theorem tc_d6_force_74 : decode tc_i6_force.2.1 74 = .ok (.ireturn, 1) := by decide +kernel
theorem tc_d6_image_0 : decode tc_i6_image.2.1 0 = .ok (.aload_n 0, 1) := by decide +kernel
theorem tc_d6_image_1 : decode tc_i6_image.2.1 1 = .ok (.getfield 16, 3) := by decide +kernel
theorem tc_d6_image_4 : decode tc_i6_image.2.1 4 = .ok (.aload_n 0, 1) := by decide +kernel
theorem tc_d6_image_5 : decode tc_i6_image.2.1 5 = .ok (.getfield 12, 3) := by decide +kernel
theorem tc_d6_image_8 : decode tc_i6_image.2.1 8 = .ok (.invokevirtual 302, 3) := by decide +kernel
theorem tc_d6_image_11 : decode tc_i6_image.2.1 11 = .ok (.aload_n 0, 1) := by decide +kernel
theorem tc_d6_image_12 : decode tc_i6_image.2.1 12 = .ok (.iconst 1, 1) := by decide +kernel
theorem tc_d6_image_13 : decode tc_i6_image.2.1 13 = .ok (.putfield 304, 3) := by decide +kernel
theorem tc_d6_image_16 : decode tc_i6_image.2.1 16 = .ok (.aload_n 0, 1) := by decide +kernel
theorem tc_d6_image_17 : decode tc_i6_image.2.1 17 = .ok (.getfield 16, 3) := by decide +kernel
theorem tc_d6_image_20 : decode tc_i6_image.2.1 20 = .ok (.getfield 57, 3) := by decide +kernel
theorem tc_d6_image_23 : decode tc_i6_image.2.1 23 = .ok (.ireturn, 1) := by decide +kernel
theorem tc_d6_load_0 : decode tc_i6_load.2.1 0 = .ok (.aload_n 0, 1) := by decide +kernel
theorem tc_d6_load_1 : decode tc_i6_load.2.1 1 = .ok (.getfield 49, 3) := by decide +kernel
theorem tc_d6_load_4 : decode tc_i6_load.2.1 4 = .ok (.iload_n 1, 1) := by decide +kernel
theorem tc_d6_load_5 : decode tc_i6_load.2.1 5 = .ok (.invokevirtual 240, 3) := by decide +kernel
theorem tc_d6_load_8 : decode tc_i6_load.2.1 8 = .ok (.ifCond .eq 21, 3) := by decide +kernel
theorem tc_d6_load_11 : decode tc_i6_load.2.1 11 = .ok (.iload_n 2, 1) := by decide +kernel
theorem tc_d6_load_12 : decode tc_i6_load.2.1 12 = .ok (.invokestatic 308, 3) := by decide +kernel
theorem tc_d6_load_15 : decode tc_i6_load.2.1 15 = .ok (.ifCond .eq 14, 3) := by decide +kernel
theorem tc_d6_load_18 : decode tc_i6_load.2.1 18 = .ok (.iload 4, 2) := by decide +kernel
theorem tc_d6_load_20 : decode tc_i6_load.2.1 20 = .ok (.iconst 0, 1) := by decide +kernel
theorem tc_d6_load_21 : decode tc_i6_load.2.1 21 = .ok (.bipush 8, 2) := by decide +kernel
theorem tc_d6_load_23 : decode tc_i6_load.2.1 23 = .ok (.invokestatic 117, 3) := by decide +kernel
theorem tc_d6_load_26 : decode tc_i6_load.2.1 26 = .ok (.ifCond .ne 6, 3) := by decide +kernel
theorem tc_d6_load_29 : decode tc_i6_load.2.1 29 = .ok (.bipush (-2), 2) := by decide +kernel
theorem tc_d6_load_31 : decode tc_i6_load.2.1 31 = .ok (.ireturn, 1) := by decide +kernel
theorem tc_d6_load_32 : decode tc_i6_load.2.1 32 = .ok (.aload_n 0, 1) := by decide +kernel
theorem tc_d6_load_33 : decode tc_i6_load.2.1 33 = .ok (.getfield 49, 3) := by decide +kernel
theorem tc_d6_load_36 : decode tc_i6_load.2.1 36 = .ok (.iload_n 1, 1) := by decide +kernel
theorem tc_d6_load_37 : decode tc_i6_load.2.1 37 = .ok (.invokevirtual 241, 3) := by decide +kernel
theorem tc_d6_load_40 : decode tc_i6_load.2.1 40 = .ok (.ifCond .eq 6, 3) := by decide +kernel
theorem tc_d6_load_43 : decode tc_i6_load.2.1 43 = .ok (.bipush (-11), 2) := by decide +kernel
theorem tc_d6_load_45 : decode tc_i6_load.2.1 45 = .ok (.ireturn, 1) := by decide +kernel
theorem tc_d6_load_46 : decode tc_i6_load.2.1 46 = .ok (.aload_n 0, 1) := by decide +kernel
theorem tc_d6_load_47 : decode tc_i6_load.2.1 47 = .ok (.getfield 49, 3) := by decide +kernel
theorem tc_d6_load_50 : decode tc_i6_load.2.1 50 = .ok (.getfield 311, 3) := by decide +kernel
theorem tc_d6_load_53 : decode tc_i6_load.2.1 53 = .ok (.iload_n 1, 1) := by decide +kernel
theorem tc_d6_load_54 : decode tc_i6_load.2.1 54 = .ok (.iaload, 1) := by decide +kernel
theorem tc_d6_load_55 : decode tc_i6_load.2.1 55 = .ok (.iload_n 2, 1) := by decide +kernel
theorem tc_d6_load_56 : decode tc_i6_load.2.1 56 = .ok (.if_icmp .eq 6, 3) := by decide +kernel
theorem tc_d6_load_59 : decode tc_i6_load.2.1 59 = .ok (.bipush (-13), 2) := by decide +kernel
theorem tc_d6_load_61 : decode tc_i6_load.2.1 61 = .ok (.ireturn, 1) := by decide +kernel
theorem tc_d6_load_62 : decode tc_i6_load.2.1 62 = .ok (.iconst 0, 1) := by decide +kernel
theorem tc_d6_load_63 : decode tc_i6_load.2.1 63 = .ok (.istore 5, 2) := by decide +kernel
theorem tc_d6_load_65 : decode tc_i6_load.2.1 65 = .ok (.iconst 0, 1) := by decide +kernel
theorem tc_d6_load_66 : decode tc_i6_load.2.1 66 = .ok (.istore 6, 2) := by decide +kernel
theorem tc_d6_load_68 : decode tc_i6_load.2.1 68 = .ok (.iload 6, 2) := by decide +kernel
theorem tc_d6_load_70 : decode tc_i6_load.2.1 70 = .ok (.iload 4, 2) := by decide +kernel
theorem tc_d6_load_72 : decode tc_i6_load.2.1 72 = .ok (.if_icmp .ge 116, 3) := by decide +kernel
theorem tc_d6_load_75 : decode tc_i6_load.2.1 75 = .ok (.aload_n 0, 1) := by decide +kernel
theorem tc_d6_load_76 : decode tc_i6_load.2.1 76 = .ok (.getfield 49, 3) := by decide +kernel
theorem tc_d6_load_79 : decode tc_i6_load.2.1 79 = .ok (.iload_n 1, 1) := by decide +kernel
theorem tc_d6_load_80 : decode tc_i6_load.2.1 80 = .ok (.iload_n 3, 1) := by decide +kernel
theorem tc_d6_load_81 : decode tc_i6_load.2.1 81 = .ok (.i2l, 1) := by decide +kernel
theorem tc_d6_load_82 : decode tc_i6_load.2.1 82 = .ok (.ldc2_w 314, 3) := by decide +kernel
theorem tc_d6_load_85 : decode tc_i6_load.2.1 85 = .ok (.iload 6, 2) := by decide +kernel
theorem tc_d6_load_87 : decode tc_i6_load.2.1 87 = .ok (.i2l, 1) := by decide +kernel
theorem tc_d6_load_88 : decode tc_i6_load.2.1 88 = .ok (.lmul, 1) := by decide +kernel
theorem tc_d6_load_89 : decode tc_i6_load.2.1 89 = .ok (.ladd, 1) := by decide +kernel
theorem tc_d6_load_90 : decode tc_i6_load.2.1 90 = .ok (.ldc2_w 314, 3) := by decide +kernel
theorem tc_d6_load_93 : decode tc_i6_load.2.1 93 = .ok (.invokevirtual 316, 3) := by decide +kernel
theorem tc_d6_load_96 : decode tc_i6_load.2.1 96 = .ok (.ifCond .ne 6, 3) := by decide +kernel
theorem tc_d6_load_99 : decode tc_i6_load.2.1 99 = .ok (.bipush (-12), 2) := by decide +kernel
theorem tc_d6_load_101 : decode tc_i6_load.2.1 101 = .ok (.ireturn, 1) := by decide +kernel
theorem tc_d6_load_102 : decode tc_i6_load.2.1 102 = .ok (.iload_n 3, 1) := by decide +kernel
theorem tc_d6_load_103 : decode tc_i6_load.2.1 103 = .ok (.iconst 4, 1) := by decide +kernel
theorem tc_d6_load_104 : decode tc_i6_load.2.1 104 = .ok (.iload 6, 2) := by decide +kernel
theorem tc_d6_load_106 : decode tc_i6_load.2.1 106 = .ok (.imul, 1) := by decide +kernel
theorem tc_d6_load_107 : decode tc_i6_load.2.1 107 = .ok (.iadd, 1) := by decide +kernel
theorem tc_d6_load_108 : decode tc_i6_load.2.1 108 = .ok (.istore 7, 2) := by decide +kernel
theorem tc_d6_load_110 : decode tc_i6_load.2.1 110 = .ok (.aload_n 0, 1) := by decide +kernel
theorem tc_d6_load_111 : decode tc_i6_load.2.1 111 = .ok (.getfield 49, 3) := by decide +kernel
theorem tc_d6_load_114 : decode tc_i6_load.2.1 114 = .ok (.iload_n 1, 1) := by decide +kernel
theorem tc_d6_load_115 : decode tc_i6_load.2.1 115 = .ok (.iload 7, 2) := by decide +kernel
theorem tc_d6_load_117 : decode tc_i6_load.2.1 117 = .ok (.invokevirtual 320, 3) := by decide +kernel
theorem tc_d6_load_120 : decode tc_i6_load.2.1 120 = .ok (.istore 8, 2) := by decide +kernel
theorem tc_d6_load_122 : decode tc_i6_load.2.1 122 = .ok (.aload_n 0, 1) := by decide +kernel
theorem tc_d6_load_123 : decode tc_i6_load.2.1 123 = .ok (.getfield 49, 3) := by decide +kernel
theorem tc_d6_load_126 : decode tc_i6_load.2.1 126 = .ok (.iload_n 1, 1) := by decide +kernel
theorem tc_d6_load_127 : decode tc_i6_load.2.1 127 = .ok (.iload 7, 2) := by decide +kernel
theorem tc_d6_load_129 : decode tc_i6_load.2.1 129 = .ok (.iconst 1, 1) := by decide +kernel
theorem tc_d6_load_130 : decode tc_i6_load.2.1 130 = .ok (.iadd, 1) := by decide +kernel
theorem tc_d6_load_131 : decode tc_i6_load.2.1 131 = .ok (.invokevirtual 320, 3) := by decide +kernel
theorem tc_d6_load_134 : decode tc_i6_load.2.1 134 = .ok (.istore 9, 2) := by decide +kernel
theorem tc_d6_load_136 : decode tc_i6_load.2.1 136 = .ok (.aload_n 0, 1) := by decide +kernel
theorem tc_d6_load_137 : decode tc_i6_load.2.1 137 = .ok (.getfield 49, 3) := by decide +kernel
theorem tc_d6_load_140 : decode tc_i6_load.2.1 140 = .ok (.iload_n 1, 1) := by decide +kernel
theorem tc_d6_load_141 : decode tc_i6_load.2.1 141 = .ok (.iload 7, 2) := by decide +kernel
theorem tc_d6_load_143 : decode tc_i6_load.2.1 143 = .ok (.iconst 2, 1) := by decide +kernel
theorem tc_d6_load_144 : decode tc_i6_load.2.1 144 = .ok (.iadd, 1) := by decide +kernel
theorem tc_d6_load_145 : decode tc_i6_load.2.1 145 = .ok (.invokevirtual 320, 3) := by decide +kernel
theorem tc_d6_load_148 : decode tc_i6_load.2.1 148 = .ok (.istore 10, 2) := by decide +kernel
theorem tc_d6_load_150 : decode tc_i6_load.2.1 150 = .ok (.aload_n 0, 1) := by decide +kernel
theorem tc_d6_load_151 : decode tc_i6_load.2.1 151 = .ok (.getfield 49, 3) := by decide +kernel
theorem tc_d6_load_154 : decode tc_i6_load.2.1 154 = .ok (.iload_n 1, 1) := by decide +kernel
theorem tc_d6_load_155 : decode tc_i6_load.2.1 155 = .ok (.iload 7, 2) := by decide +kernel
theorem tc_d6_load_157 : decode tc_i6_load.2.1 157 = .ok (.iconst 3, 1) := by decide +kernel
theorem tc_d6_load_158 : decode tc_i6_load.2.1 158 = .ok (.iadd, 1) := by decide +kernel
theorem tc_d6_load_159 : decode tc_i6_load.2.1 159 = .ok (.invokevirtual 320, 3) := by decide +kernel
theorem tc_d6_load_162 : decode tc_i6_load.2.1 162 = .ok (.istore 11, 2) := by decide +kernel
theorem tc_d6_load_164 : decode tc_i6_load.2.1 164 = .ok (.aload_n 0, 1) := by decide +kernel
theorem tc_d6_load_165 : decode tc_i6_load.2.1 165 = .ok (.iload 8, 2) := by decide +kernel
theorem tc_d6_load_167 : decode tc_i6_load.2.1 167 = .ok (.iload 9, 2) := by decide +kernel
theorem tc_d6_load_169 : decode tc_i6_load.2.1 169 = .ok (.iload 10, 2) := by decide +kernel
theorem tc_d6_load_171 : decode tc_i6_load.2.1 171 = .ok (.iload 11, 2) := by decide +kernel
theorem tc_d6_load_173 : decode tc_i6_load.2.1 173 = .ok (.invokevirtual 281, 3) := by decide +kernel
theorem tc_d6_load_176 : decode tc_i6_load.2.1 176 = .ok (.ifCond .lt 6, 3) := by decide +kernel
theorem tc_d6_load_179 : decode tc_i6_load.2.1 179 = .ok (.iinc 5 1, 3) := by decide +kernel
theorem tc_d6_load_182 : decode tc_i6_load.2.1 182 = .ok (.iinc 6 1, 3) := by decide +kernel
theorem tc_d6_load_185 : decode tc_i6_load.2.1 185 = .ok (.goto (-117), 3) := by decide +kernel
theorem tc_d6_load_188 : decode tc_i6_load.2.1 188 = .ok (.iload 5, 2) := by decide +kernel
theorem tc_d6_load_190 : decode tc_i6_load.2.1 190 = .ok (.ireturn, 1) := by decide +kernel
theorem tc_d6_log_0 : decode tc_i6_log.2.1 0 = .ok (.iload_n 1, 1) := by decide +kernel
theorem tc_d6_log_1 : decode tc_i6_log.2.1 1 = .ok (.iconst (-1), 1) := by decide +kernel
theorem tc_d6_log_2 : decode tc_i6_log.2.1 2 = .ok (.if_icmp .ge 6, 3) := by decide +kernel
theorem tc_d6_log_5 : decode tc_i6_log.2.1 5 = .ok (.bipush (-2), 2) := by decide +kernel
theorem tc_d6_log_7 : decode tc_i6_log.2.1 7 = .ok (.ireturn, 1) := by decide +kernel
theorem tc_d6_log_8 : decode tc_i6_log.2.1 8 = .ok (.iload_n 1, 1) := by decide +kernel
theorem tc_d6_log_9 : decode tc_i6_log.2.1 9 = .ok (.iconst (-1), 1) := by decide +kernel
theorem tc_d6_log_10 : decode tc_i6_log.2.1 10 = .ok (.if_icmp .ne 8, 3) := by decide +kernel
theorem tc_d6_log_13 : decode tc_i6_log.2.1 13 = .ok (.aload_n 0, 1) := by decide +kernel
theorem tc_d6_log_14 : decode tc_i6_log.2.1 14 = .ok (.getfield 164, 3) := by decide +kernel
theorem tc_d6_log_17 : decode tc_i6_log.2.1 17 = .ok (.ireturn, 1) := by decide +kernel
theorem tc_d6_log_18 : decode tc_i6_log.2.1 18 = .ok (.iload_n 1, 1) := by decide +kernel
theorem tc_d6_log_19 : decode tc_i6_log.2.1 19 = .ok (.aload_n 0, 1) := by decide +kernel
theorem tc_d6_log_20 : decode tc_i6_log.2.1 20 = .ok (.getfield 164, 3) := by decide +kernel
theorem tc_d6_log_23 : decode tc_i6_log.2.1 23 = .ok (.if_icmp .ge 12, 3) := by decide +kernel
theorem tc_d6_log_26 : decode tc_i6_log.2.1 26 = .ok (.aload_n 0, 1) := by decide +kernel
theorem tc_d6_log_27 : decode tc_i6_log.2.1 27 = .ok (.getfield 26, 3) := by decide +kernel
theorem tc_d6_log_30 : decode tc_i6_log.2.1 30 = .ok (.iload_n 1, 1) := by decide +kernel
theorem tc_d6_log_31 : decode tc_i6_log.2.1 31 = .ok (.iaload, 1) := by decide +kernel
theorem tc_d6_log_32 : decode tc_i6_log.2.1 32 = .ok (.goto 4, 3) := by decide +kernel
theorem tc_d6_log_35 : decode tc_i6_log.2.1 35 = .ok (.iconst (-1), 1) := by decide +kernel
theorem tc_d6_log_36 : decode tc_i6_log.2.1 36 = .ok (.ireturn, 1) := by decide +kernel
theorem tc_d6_moves_0 : decode tc_i6_moves.2.1 0 = .ok (.aload_n 0, 1) := by decide +kernel
theorem tc_d6_moves_1 : decode tc_i6_moves.2.1 1 = .ok (.getfield 12, 3) := by decide +kernel
theorem tc_d6_moves_4 : decode tc_i6_moves.2.1 4 = .ok (.invokevirtual 131, 3) := by decide +kernel
theorem tc_d6_moves_7 : decode tc_i6_moves.2.1 7 = .ok (.aload_n 0, 1) := by decide +kernel
theorem tc_d6_moves_8 : decode tc_i6_moves.2.1 8 = .ok (.getfield 12, 3) := by decide +kernel
theorem tc_d6_moves_11 : decode tc_i6_moves.2.1 11 = .ok (.getfield 124, 3) := by decide +kernel
theorem tc_d6_moves_14 : decode tc_i6_moves.2.1 14 = .ok (.ireturn, 1) := by decide +kernel
theorem tc_d6_of_0 : decode tc_i6_of.2.1 0 = .ok (.aload_n 0, 1) := by decide +kernel
theorem tc_d6_of_1 : decode tc_i6_of.2.1 1 = .ok (.getfield 12, 3) := by decide +kernel
theorem tc_d6_of_4 : decode tc_i6_of.2.1 4 = .ok (.iload_n 1, 1) := by decide +kernel
theorem tc_d6_of_5 : decode tc_i6_of.2.1 5 = .ok (.invokevirtual 68, 3) := by decide +kernel
theorem tc_d6_of_8 : decode tc_i6_of.2.1 8 = .ok (.ifCond .ne 6, 3) := by decide +kernel
theorem tc_d6_of_11 : decode tc_i6_of.2.1 11 = .ok (.bipush (-2), 2) := by decide +kernel
theorem tc_d6_of_13 : decode tc_i6_of.2.1 13 = .ok (.ireturn, 1) := by decide +kernel
theorem tc_d6_of_14 : decode tc_i6_of.2.1 14 = .ok (.iload_n 2, 1) := by decide +kernel
theorem tc_d6_of_15 : decode tc_i6_of.2.1 15 = .ok (.tableswitch 151 0 8 #[49, 59, 69, 79, 89, 98, 115, 127, 137], 49) := by decide +kernel
theorem tc_d6_of_64 : decode tc_i6_of.2.1 64 = .ok (.aload_n 0, 1) := by decide +kernel
theorem tc_d6_of_65 : decode tc_i6_of.2.1 65 = .ok (.getfield 12, 3) := by decide +kernel
theorem tc_d6_of_68 : decode tc_i6_of.2.1 68 = .ok (.getfield 80, 3) := by decide +kernel
theorem tc_d6_of_71 : decode tc_i6_of.2.1 71 = .ok (.iload_n 1, 1) := by decide +kernel
theorem tc_d6_of_72 : decode tc_i6_of.2.1 72 = .ok (.iaload, 1) := by decide +kernel
theorem tc_d6_of_73 : decode tc_i6_of.2.1 73 = .ok (.ireturn, 1) := by decide +kernel
theorem tc_d6_of_74 : decode tc_i6_of.2.1 74 = .ok (.aload_n 0, 1) := by decide +kernel
theorem tc_d6_of_75 : decode tc_i6_of.2.1 75 = .ok (.getfield 12, 3) := by decide +kernel
theorem tc_d6_of_78 : decode tc_i6_of.2.1 78 = .ok (.getfield 83, 3) := by decide +kernel
theorem tc_d6_of_81 : decode tc_i6_of.2.1 81 = .ok (.iload_n 1, 1) := by decide +kernel
theorem tc_d6_of_82 : decode tc_i6_of.2.1 82 = .ok (.iaload, 1) := by decide +kernel
theorem tc_d6_of_83 : decode tc_i6_of.2.1 83 = .ok (.ireturn, 1) := by decide +kernel
theorem tc_d6_of_84 : decode tc_i6_of.2.1 84 = .ok (.aload_n 0, 1) := by decide +kernel
theorem tc_d6_of_85 : decode tc_i6_of.2.1 85 = .ok (.getfield 12, 3) := by decide +kernel
theorem tc_d6_of_88 : decode tc_i6_of.2.1 88 = .ok (.getfield 86, 3) := by decide +kernel
theorem tc_d6_of_91 : decode tc_i6_of.2.1 91 = .ok (.iload_n 1, 1) := by decide +kernel
theorem tc_d6_of_92 : decode tc_i6_of.2.1 92 = .ok (.iaload, 1) := by decide +kernel
theorem tc_d6_of_93 : decode tc_i6_of.2.1 93 = .ok (.ireturn, 1) := by decide +kernel
theorem tc_d6_of_94 : decode tc_i6_of.2.1 94 = .ok (.aload_n 0, 1) := by decide +kernel
theorem tc_d6_of_95 : decode tc_i6_of.2.1 95 = .ok (.getfield 12, 3) := by decide +kernel
theorem tc_d6_of_98 : decode tc_i6_of.2.1 98 = .ok (.getfield 89, 3) := by decide +kernel
theorem tc_d6_of_101 : decode tc_i6_of.2.1 101 = .ok (.iload_n 1, 1) := by decide +kernel
theorem tc_d6_of_102 : decode tc_i6_of.2.1 102 = .ok (.iaload, 1) := by decide +kernel
theorem tc_d6_of_103 : decode tc_i6_of.2.1 103 = .ok (.ireturn, 1) := by decide +kernel
theorem tc_d6_of_104 : decode tc_i6_of.2.1 104 = .ok (.aload_n 0, 1) := by decide +kernel
theorem tc_d6_of_105 : decode tc_i6_of.2.1 105 = .ok (.getfield 12, 3) := by decide +kernel
theorem tc_d6_of_108 : decode tc_i6_of.2.1 108 = .ok (.iload_n 1, 1) := by decide +kernel
theorem tc_d6_of_109 : decode tc_i6_of.2.1 109 = .ok (.invokevirtual 92, 3) := by decide +kernel
theorem tc_d6_of_112 : decode tc_i6_of.2.1 112 = .ok (.ireturn, 1) := by decide +kernel
theorem tc_d6_of_113 : decode tc_i6_of.2.1 113 = .ok (.aload_n 0, 1) := by decide +kernel
theorem tc_d6_of_114 : decode tc_i6_of.2.1 114 = .ok (.getfield 12, 3) := by decide +kernel
theorem tc_d6_of_117 : decode tc_i6_of.2.1 117 = .ok (.invokevirtual 96, 3) := by decide +kernel
theorem tc_d6_of_120 : decode tc_i6_of.2.1 120 = .ok (.aload_n 0, 1) := by decide +kernel
theorem tc_d6_of_121 : decode tc_i6_of.2.1 121 = .ok (.getfield 12, 3) := by decide +kernel
theorem tc_d6_of_124 : decode tc_i6_of.2.1 124 = .ok (.getfield 99, 3) := by decide +kernel
theorem tc_d6_of_127 : decode tc_i6_of.2.1 127 = .ok (.iload_n 1, 1) := by decide +kernel
theorem tc_d6_of_128 : decode tc_i6_of.2.1 128 = .ok (.iaload, 1) := by decide +kernel
theorem tc_d6_of_129 : decode tc_i6_of.2.1 129 = .ok (.ireturn, 1) := by decide +kernel
theorem tc_d6_of_130 : decode tc_i6_of.2.1 130 = .ok (.aload_n 0, 1) := by decide +kernel
theorem tc_d6_of_131 : decode tc_i6_of.2.1 131 = .ok (.getfield 12, 3) := by decide +kernel
theorem tc_d6_of_134 : decode tc_i6_of.2.1 134 = .ok (.getfield 102, 3) := by decide +kernel
theorem tc_d6_of_137 : decode tc_i6_of.2.1 137 = .ok (.iload_n 1, 1) := by decide +kernel
theorem tc_d6_of_138 : decode tc_i6_of.2.1 138 = .ok (.invokestatic 105, 3) := by decide +kernel
theorem tc_d6_of_141 : decode tc_i6_of.2.1 141 = .ok (.ireturn, 1) := by decide +kernel
theorem tc_d6_of_142 : decode tc_i6_of.2.1 142 = .ok (.aload_n 0, 1) := by decide +kernel
theorem tc_d6_of_143 : decode tc_i6_of.2.1 143 = .ok (.getfield 12, 3) := by decide +kernel
theorem tc_d6_of_146 : decode tc_i6_of.2.1 146 = .ok (.getfield 108, 3) := by decide +kernel
theorem tc_d6_of_149 : decode tc_i6_of.2.1 149 = .ok (.iload_n 1, 1) := by decide +kernel
theorem tc_d6_of_150 : decode tc_i6_of.2.1 150 = .ok (.iaload, 1) := by decide +kernel
theorem tc_d6_of_151 : decode tc_i6_of.2.1 151 = .ok (.ireturn, 1) := by decide +kernel
theorem tc_d6_of_152 : decode tc_i6_of.2.1 152 = .ok (.getstatic 111, 3) := by decide +kernel
theorem tc_d6_of_155 : decode tc_i6_of.2.1 155 = .ok (.aload_n 0, 1) := by decide +kernel
theorem tc_d6_of_156 : decode tc_i6_of.2.1 156 = .ok (.getfield 12, 3) := by decide +kernel
theorem tc_d6_of_159 : decode tc_i6_of.2.1 159 = .ok (.getfield 89, 3) := by decide +kernel
theorem tc_d6_of_162 : decode tc_i6_of.2.1 162 = .ok (.iload_n 1, 1) := by decide +kernel
theorem tc_d6_of_163 : decode tc_i6_of.2.1 163 = .ok (.iaload, 1) := by decide +kernel
theorem tc_d6_of_164 : decode tc_i6_of.2.1 164 = .ok (.iaload, 1) := by decide +kernel
theorem tc_d6_of_165 : decode tc_i6_of.2.1 165 = .ok (.ireturn, 1) := by decide +kernel
theorem tc_d6_of_166 : decode tc_i6_of.2.1 166 = .ok (.bipush (-2), 2) := by decide +kernel
theorem tc_d6_of_168 : decode tc_i6_of.2.1 168 = .ok (.ireturn, 1) := by decide +kernel
theorem tc_d6_order_0 : decode tc_i6_order.2.1 0 = .ok (.iload_n 1, 1) := by decide +kernel
theorem tc_d6_order_1 : decode tc_i6_order.2.1 1 = .ok (.iconst 0, 1) := by decide +kernel
theorem tc_d6_order_2 : decode tc_i6_order.2.1 2 = .ok (.iconst 1, 1) := by decide +kernel
theorem tc_d6_order_3 : decode tc_i6_order.2.1 3 = .ok (.invokestatic 117, 3) := by decide +kernel
theorem tc_d6_order_6 : decode tc_i6_order.2.1 6 = .ok (.ifCond .eq 14, 3) := by decide +kernel
theorem tc_d6_order_9 : decode tc_i6_order.2.1 9 = .ok (.aload_n 0, 1) := by decide +kernel
theorem tc_d6_order_10 : decode tc_i6_order.2.1 10 = .ok (.getfield 35, 3) := by decide +kernel
theorem tc_d6_order_13 : decode tc_i6_order.2.1 13 = .ok (.iload_n 1, 1) := by decide +kernel
theorem tc_d6_order_14 : decode tc_i6_order.2.1 14 = .ok (.invokevirtual 195, 3) := by decide +kernel
theorem tc_d6_order_17 : decode tc_i6_order.2.1 17 = .ok (.goto 5, 3) := by decide +kernel
theorem tc_d6_order_20 : decode tc_i6_order.2.1 20 = .ok (.bipush (-2), 2) := by decide +kernel
theorem tc_d6_order_22 : decode tc_i6_order.2.1 22 = .ok (.ireturn, 1) := by decide +kernel
theorem tc_d6_pick_0 : decode tc_i6_pick.2.1 0 = .ok (.iload_n 1, 1) := by decide +kernel
theorem tc_d6_pick_1 : decode tc_i6_pick.2.1 1 = .ok (.iconst 0, 1) := by decide +kernel
theorem tc_d6_pick_2 : decode tc_i6_pick.2.1 2 = .ok (.iconst 1, 1) := by decide +kernel
theorem tc_d6_pick_3 : decode tc_i6_pick.2.1 3 = .ok (.invokestatic 117, 3) := by decide +kernel
theorem tc_d6_pick_6 : decode tc_i6_pick.2.1 6 = .ok (.ifCond .ne 6, 3) := by decide +kernel
theorem tc_d6_pick_9 : decode tc_i6_pick.2.1 9 = .ok (.bipush (-2), 2) := by decide +kernel
theorem tc_d6_pick_11 : decode tc_i6_pick.2.1 11 = .ok (.ireturn, 1) := by decide +kernel
theorem tc_d6_pick_12 : decode tc_i6_pick.2.1 12 = .ok (.iload_n 1, 1) := by decide +kernel
theorem tc_d6_pick_13 : decode tc_i6_pick.2.1 13 = .ok (.ifCond .ne 13, 3) := by decide +kernel
theorem tc_d6_pick_16 : decode tc_i6_pick.2.1 16 = .ok (.aload_n 0, 1) := by decide +kernel
theorem tc_d6_pick_17 : decode tc_i6_pick.2.1 17 = .ok (.getfield 35, 3) := by decide +kernel
theorem tc_d6_pick_20 : decode tc_i6_pick.2.1 20 = .ok (.invokevirtual 216, 3) := by decide +kernel
theorem tc_d6_pick_23 : decode tc_i6_pick.2.1 23 = .ok (.goto 10, 3) := by decide +kernel
theorem tc_d6_pick_26 : decode tc_i6_pick.2.1 26 = .ok (.aload_n 0, 1) := by decide +kernel
theorem tc_d6_pick_27 : decode tc_i6_pick.2.1 27 = .ok (.getfield 35, 3) := by decide +kernel
theorem tc_d6_pick_30 : decode tc_i6_pick.2.1 30 = .ok (.invokevirtual 219, 3) := by decide +kernel
theorem tc_d6_pick_33 : decode tc_i6_pick.2.1 33 = .ok (.ireturn, 1) := by decide +kernel
theorem tc_d6_proof_0 : decode tc_i6_proof.2.1 0 = .ok (.iload_n 1, 1) := by decide +kernel
theorem tc_d6_proof_1 : decode tc_i6_proof.2.1 1 = .ok (.iconst 0, 1) := by decide +kernel
theorem tc_d6_proof_2 : decode tc_i6_proof.2.1 2 = .ok (.iconst 1, 1) := by decide +kernel
theorem tc_d6_proof_3 : decode tc_i6_proof.2.1 3 = .ok (.invokestatic 117, 3) := by decide +kernel
theorem tc_d6_proof_6 : decode tc_i6_proof.2.1 6 = .ok (.ifCond .ne 6, 3) := by decide +kernel
theorem tc_d6_proof_9 : decode tc_i6_proof.2.1 9 = .ok (.bipush (-2), 2) := by decide +kernel
theorem tc_d6_proof_11 : decode tc_i6_proof.2.1 11 = .ok (.ireturn, 1) := by decide +kernel
theorem tc_d6_proof_12 : decode tc_i6_proof.2.1 12 = .ok (.iload_n 1, 1) := by decide +kernel
theorem tc_d6_proof_13 : decode tc_i6_proof.2.1 13 = .ok (.ifCond .ne 13, 3) := by decide +kernel
theorem tc_d6_proof_16 : decode tc_i6_proof.2.1 16 = .ok (.aload_n 0, 1) := by decide +kernel
theorem tc_d6_proof_17 : decode tc_i6_proof.2.1 17 = .ok (.getfield 35, 3) := by decide +kernel
theorem tc_d6_proof_20 : decode tc_i6_proof.2.1 20 = .ok (.invokevirtual 207, 3) := by decide +kernel
theorem tc_d6_proof_23 : decode tc_i6_proof.2.1 23 = .ok (.goto 17, 3) := by decide +kernel
theorem tc_d6_proof_26 : decode tc_i6_proof.2.1 26 = .ok (.aload_n 0, 1) := by decide +kernel
theorem tc_d6_proof_27 : decode tc_i6_proof.2.1 27 = .ok (.getfield 35, 3) := by decide +kernel
theorem tc_d6_proof_30 : decode tc_i6_proof.2.1 30 = .ok (.aload_n 0, 1) := by decide +kernel
theorem tc_d6_proof_31 : decode tc_i6_proof.2.1 31 = .ok (.getfield 12, 3) := by decide +kernel
theorem tc_d6_proof_34 : decode tc_i6_proof.2.1 34 = .ok (.getfield 210, 3) := by decide +kernel
theorem tc_d6_proof_37 : decode tc_i6_proof.2.1 37 = .ok (.invokevirtual 213, 3) := by decide +kernel
theorem tc_d6_proof_40 : decode tc_i6_proof.2.1 40 = .ok (.ireturn, 1) := by decide +kernel
theorem tc_d6_put_0 : decode tc_i6_put.2.1 0 = .ok (.aload_n 0, 1) := by decide +kernel
theorem tc_d6_put_1 : decode tc_i6_put.2.1 1 = .ok (.getfield 49, 3) := by decide +kernel
theorem tc_d6_put_4 : decode tc_i6_put.2.1 4 = .ok (.iload_n 1, 1) := by decide +kernel
theorem tc_d6_put_5 : decode tc_i6_put.2.1 5 = .ok (.invokevirtual 240, 3) := by decide +kernel
theorem tc_d6_put_8 : decode tc_i6_put.2.1 8 = .ok (.ifCond .ne 6, 3) := by decide +kernel
theorem tc_d6_put_11 : decode tc_i6_put.2.1 11 = .ok (.bipush (-2), 2) := by decide +kernel
theorem tc_d6_put_13 : decode tc_i6_put.2.1 13 = .ok (.ireturn, 1) := by decide +kernel
theorem tc_d6_put_14 : decode tc_i6_put.2.1 14 = .ok (.aload_n 0, 1) := by decide +kernel
theorem tc_d6_put_15 : decode tc_i6_put.2.1 15 = .ok (.getfield 49, 3) := by decide +kernel
theorem tc_d6_put_18 : decode tc_i6_put.2.1 18 = .ok (.iload_n 1, 1) := by decide +kernel
theorem tc_d6_put_19 : decode tc_i6_put.2.1 19 = .ok (.invokevirtual 241, 3) := by decide +kernel
theorem tc_d6_put_22 : decode tc_i6_put.2.1 22 = .ok (.ifCond .eq 6, 3) := by decide +kernel
theorem tc_d6_put_25 : decode tc_i6_put.2.1 25 = .ok (.bipush (-11), 2) := by decide +kernel
theorem tc_d6_put_27 : decode tc_i6_put.2.1 27 = .ok (.ireturn, 1) := by decide +kernel
theorem tc_d6_put_28 : decode tc_i6_put.2.1 28 = .ok (.aload_n 0, 1) := by decide +kernel
theorem tc_d6_put_29 : decode tc_i6_put.2.1 29 = .ok (.getfield 49, 3) := by decide +kernel
theorem tc_d6_put_32 : decode tc_i6_put.2.1 32 = .ok (.iload_n 1, 1) := by decide +kernel
theorem tc_d6_put_33 : decode tc_i6_put.2.1 33 = .ok (.iload_n 2, 1) := by decide +kernel
theorem tc_d6_put_34 : decode tc_i6_put.2.1 34 = .ok (.i2l, 1) := by decide +kernel
theorem tc_d6_put_35 : decode tc_i6_put.2.1 35 = .ok (.lconst 1, 1) := by decide +kernel
theorem tc_d6_put_36 : decode tc_i6_put.2.1 36 = .ok (.invokevirtual 316, 3) := by decide +kernel
theorem tc_d6_put_39 : decode tc_i6_put.2.1 39 = .ok (.ifCond .ne 6, 3) := by decide +kernel
theorem tc_d6_put_42 : decode tc_i6_put.2.1 42 = .ok (.bipush (-12), 2) := by decide +kernel
theorem tc_d6_put_44 : decode tc_i6_put.2.1 44 = .ok (.ireturn, 1) := by decide +kernel
theorem tc_d6_put_45 : decode tc_i6_put.2.1 45 = .ok (.aload_n 0, 1) := by decide +kernel
theorem tc_d6_put_46 : decode tc_i6_put.2.1 46 = .ok (.getfield 49, 3) := by decide +kernel
theorem tc_d6_put_49 : decode tc_i6_put.2.1 49 = .ok (.iload_n 1, 1) := by decide +kernel
theorem tc_d6_put_50 : decode tc_i6_put.2.1 50 = .ok (.iload_n 2, 1) := by decide +kernel
theorem tc_d6_put_51 : decode tc_i6_put.2.1 51 = .ok (.iload_n 3, 1) := by decide +kernel
theorem tc_d6_put_52 : decode tc_i6_put.2.1 52 = .ok (.invokevirtual 257, 3) := by decide +kernel
theorem tc_d6_put_55 : decode tc_i6_put.2.1 55 = .ok (.iconst 1, 1) := by decide +kernel
theorem tc_d6_put_56 : decode tc_i6_put.2.1 56 = .ok (.ireturn, 1) := by decide +kernel
theorem tc_d6_run_0 : decode tc_i6_run.2.1 0 = .ok (.iload_n 1, 1) := by decide +kernel
theorem tc_d6_run_1 : decode tc_i6_run.2.1 1 = .ok (.iconst 0, 1) := by decide +kernel
theorem tc_d6_run_2 : decode tc_i6_run.2.1 2 = .ok (.bipush 20, 2) := by decide +kernel
theorem tc_d6_run_4 : decode tc_i6_run.2.1 4 = .ok (.invokestatic 117, 3) := by decide +kernel
theorem tc_d6_run_7 : decode tc_i6_run.2.1 7 = .ok (.ifCond .eq 12, 3) := by decide +kernel
theorem tc_d6_run_10 : decode tc_i6_run.2.1 10 = .ok (.iload_n 2, 1) := by decide +kernel
theorem tc_d6_run_11 : decode tc_i6_run.2.1 11 = .ok (.iconst 0, 1) := by decide +kernel
theorem tc_d6_run_12 : decode tc_i6_run.2.1 12 = .ok (.iconst 3, 1) := by decide +kernel
theorem tc_d6_run_13 : decode tc_i6_run.2.1 13 = .ok (.invokestatic 117, 3) := by decide +kernel
theorem tc_d6_run_16 : decode tc_i6_run.2.1 16 = .ok (.ifCond .ne 6, 3) := by decide +kernel
theorem tc_d6_run_19 : decode tc_i6_run.2.1 19 = .ok (.bipush (-2), 2) := by decide +kernel
theorem tc_d6_run_21 : decode tc_i6_run.2.1 21 = .ok (.ireturn, 1) := by decide +kernel
theorem tc_d6_run_22 : decode tc_i6_run.2.1 22 = .ok (.aload_n 0, 1) := by decide +kernel
theorem tc_d6_run_23 : decode tc_i6_run.2.1 23 = .ok (.getfield 35, 3) := by decide +kernel
theorem tc_d6_run_26 : decode tc_i6_run.2.1 26 = .ok (.iload_n 1, 1) := by decide +kernel
theorem tc_d6_run_27 : decode tc_i6_run.2.1 27 = .ok (.iload_n 2, 1) := by decide +kernel
theorem tc_d6_run_28 : decode tc_i6_run.2.1 28 = .ok (.invokevirtual 189, 3) := by decide +kernel
theorem tc_d6_run_31 : decode tc_i6_run.2.1 31 = .ok (.ireturn, 1) := by decide +kernel
theorem tc_d6_seen_0 : decode tc_i6_seen.2.1 0 = .ok (.aload_n 0, 1) := by decide +kernel
theorem tc_d6_seen_1 : decode tc_i6_seen.2.1 1 = .ok (.getfield 12, 3) := by decide +kernel
theorem tc_d6_seen_4 : decode tc_i6_seen.2.1 4 = .ok (.iload_n 1, 1) := by decide +kernel
theorem tc_d6_seen_5 : decode tc_i6_seen.2.1 5 = .ok (.invokevirtual 68, 3) := by decide +kernel
theorem tc_d6_seen_8 : decode tc_i6_seen.2.1 8 = .ok (.ifCond .ne 6, 3) := by decide +kernel
theorem tc_d6_seen_11 : decode tc_i6_seen.2.1 11 = .ok (.bipush (-2), 2) := by decide +kernel
theorem tc_d6_seen_13 : decode tc_i6_seen.2.1 13 = .ok (.ireturn, 1) := by decide +kernel
theorem tc_d6_seen_14 : decode tc_i6_seen.2.1 14 = .ok (.aload_n 0, 1) := by decide +kernel
theorem tc_d6_seen_15 : decode tc_i6_seen.2.1 15 = .ok (.getfield 35, 3) := by decide +kernel
theorem tc_d6_seen_18 : decode tc_i6_seen.2.1 18 = .ok (.iload_n 1, 1) := by decide +kernel
theorem tc_d6_seen_19 : decode tc_i6_seen.2.1 19 = .ok (.invokevirtual 198, 3) := by decide +kernel
theorem tc_d6_seen_22 : decode tc_i6_seen.2.1 22 = .ok (.ifCond .eq 7, 3) := by decide +kernel
theorem tc_d6_seen_25 : decode tc_i6_seen.2.1 25 = .ok (.iconst 1, 1) := by decide +kernel
theorem tc_d6_seen_26 : decode tc_i6_seen.2.1 26 = .ok (.goto 4, 3) := by decide +kernel
theorem tc_d6_seen_29 : decode tc_i6_seen.2.1 29 = .ok (.iconst 0, 1) := by decide +kernel
theorem tc_d6_seen_30 : decode tc_i6_seen.2.1 30 = .ok (.ireturn, 1) := by decide +kernel
theorem tc_d6_set_0 : decode tc_i6_set.2.1 0 = .ok (.aload_n 0, 1) := by decide +kernel
theorem tc_d6_set_1 : decode tc_i6_set.2.1 1 = .ok (.getfield 12, 3) := by decide +kernel
theorem tc_d6_set_4 : decode tc_i6_set.2.1 4 = .ok (.iload_n 1, 1) := by decide +kernel
theorem tc_d6_set_5 : decode tc_i6_set.2.1 5 = .ok (.invokevirtual 68, 3) := by decide +kernel
theorem tc_d6_set_8 : decode tc_i6_set.2.1 8 = .ok (.ifCond .eq 11, 3) := by decide +kernel
theorem tc_d6_set_11 : decode tc_i6_set.2.1 11 = .ok (.iload_n 2, 1) := by decide +kernel
theorem tc_d6_set_12 : decode tc_i6_set.2.1 12 = .ok (.iload_n 3, 1) := by decide +kernel
theorem tc_d6_set_13 : decode tc_i6_set.2.1 13 = .ok (.invokestatic 53, 3) := by decide +kernel
theorem tc_d6_set_16 : decode tc_i6_set.2.1 16 = .ok (.ifCond .ne 6, 3) := by decide +kernel
theorem tc_d6_set_19 : decode tc_i6_set.2.1 19 = .ok (.bipush (-2), 2) := by decide +kernel
theorem tc_d6_set_21 : decode tc_i6_set.2.1 21 = .ok (.ireturn, 1) := by decide +kernel
theorem tc_d6_set_22 : decode tc_i6_set.2.1 22 = .ok (.aload_n 0, 1) := by decide +kernel
theorem tc_d6_set_23 : decode tc_i6_set.2.1 23 = .ok (.iload_n 1, 1) := by decide +kernel
theorem tc_d6_set_24 : decode tc_i6_set.2.1 24 = .ok (.iload_n 2, 1) := by decide +kernel
theorem tc_d6_set_25 : decode tc_i6_set.2.1 25 = .ok (.invokevirtual 72, 3) := by decide +kernel
theorem tc_d6_set_28 : decode tc_i6_set.2.1 28 = .ok (.istore 4, 2) := by decide +kernel
theorem tc_d6_set_30 : decode tc_i6_set.2.1 30 = .ok (.aload_n 0, 1) := by decide +kernel
theorem tc_d6_set_31 : decode tc_i6_set.2.1 31 = .ok (.getfield 12, 3) := by decide +kernel
theorem tc_d6_set_34 : decode tc_i6_set.2.1 34 = .ok (.iload_n 1, 1) := by decide +kernel
theorem tc_d6_set_35 : decode tc_i6_set.2.1 35 = .ok (.iload_n 2, 1) := by decide +kernel
theorem tc_d6_set_36 : decode tc_i6_set.2.1 36 = .ok (.iload_n 3, 1) := by decide +kernel
theorem tc_d6_set_37 : decode tc_i6_set.2.1 37 = .ok (.invokevirtual 76, 3) := by decide +kernel
theorem tc_d6_set_40 : decode tc_i6_set.2.1 40 = .ok (.iload 4, 2) := by decide +kernel
theorem tc_d6_set_42 : decode tc_i6_set.2.1 42 = .ok (.ireturn, 1) := by decide +kernel
theorem tc_d6_sheet_0 : decode tc_i6_sheet.2.1 0 = .ok (.aload_n 0, 1) := by decide +kernel
theorem tc_d6_sheet_1 : decode tc_i6_sheet.2.1 1 = .ok (.getfield 49, 3) := by decide +kernel
theorem tc_d6_sheet_4 : decode tc_i6_sheet.2.1 4 = .ok (.iload_n 1, 1) := by decide +kernel
theorem tc_d6_sheet_5 : decode tc_i6_sheet.2.1 5 = .ok (.invokevirtual 240, 3) := by decide +kernel
theorem tc_d6_sheet_8 : decode tc_i6_sheet.2.1 8 = .ok (.ifCond .ne 6, 3) := by decide +kernel
theorem tc_d6_sheet_11 : decode tc_i6_sheet.2.1 11 = .ok (.bipush (-2), 2) := by decide +kernel
theorem tc_d6_sheet_13 : decode tc_i6_sheet.2.1 13 = .ok (.ireturn, 1) := by decide +kernel
theorem tc_d6_sheet_14 : decode tc_i6_sheet.2.1 14 = .ok (.iload_n 2, 1) := by decide +kernel
theorem tc_d6_sheet_15 : decode tc_i6_sheet.2.1 15 = .ok (.iconst (-1), 1) := by decide +kernel
theorem tc_d6_sheet_16 : decode tc_i6_sheet.2.1 16 = .ok (.if_icmp .ne 15, 3) := by decide +kernel
theorem tc_d6_sheet_19 : decode tc_i6_sheet.2.1 19 = .ok (.aload_n 0, 1) := by decide +kernel
theorem tc_d6_sheet_20 : decode tc_i6_sheet.2.1 20 = .ok (.getfield 49, 3) := by decide +kernel
theorem tc_d6_sheet_23 : decode tc_i6_sheet.2.1 23 = .ok (.iload_n 1, 1) := by decide +kernel
theorem tc_d6_sheet_24 : decode tc_i6_sheet.2.1 24 = .ok (.iconst (-1), 1) := by decide +kernel
theorem tc_d6_sheet_25 : decode tc_i6_sheet.2.1 25 = .ok (.iconst 0, 1) := by decide +kernel
theorem tc_d6_sheet_26 : decode tc_i6_sheet.2.1 26 = .ok (.invokevirtual 254, 3) := by decide +kernel
theorem tc_d6_sheet_29 : decode tc_i6_sheet.2.1 29 = .ok (.iconst 1, 1) := by decide +kernel
theorem tc_d6_sheet_30 : decode tc_i6_sheet.2.1 30 = .ok (.ireturn, 1) := by decide +kernel
theorem tc_d6_sheet_31 : decode tc_i6_sheet.2.1 31 = .ok (.iload_n 2, 1) := by decide +kernel
theorem tc_d6_sheet_32 : decode tc_i6_sheet.2.1 32 = .ok (.invokestatic 308, 3) := by decide +kernel
theorem tc_d6_sheet_35 : decode tc_i6_sheet.2.1 35 = .ok (.ifCond .eq 9, 3) := by decide +kernel
theorem tc_d6_sheet_38 : decode tc_i6_sheet.2.1 38 = .ok (.iload_n 3, 1) := by decide +kernel
theorem tc_d6_sheet_39 : decode tc_i6_sheet.2.1 39 = .ok (.bipush 40, 2) := by decide +kernel
theorem tc_d6_sheet_41 : decode tc_i6_sheet.2.1 41 = .ok (.if_icmp .le 6, 3) := by decide +kernel
theorem tc_d6_sheet_44 : decode tc_i6_sheet.2.1 44 = .ok (.bipush (-2), 2) := by decide +kernel
theorem tc_d6_sheet_46 : decode tc_i6_sheet.2.1 46 = .ok (.ireturn, 1) := by decide +kernel
theorem tc_d6_sheet_47 : decode tc_i6_sheet.2.1 47 = .ok (.iload_n 3, 1) := by decide +kernel
theorem tc_d6_sheet_48 : decode tc_i6_sheet.2.1 48 = .ok (.ifCond .ge 6, 3) := by decide +kernel
theorem tc_d6_sheet_51 : decode tc_i6_sheet.2.1 51 = .ok (.bipush (-14), 2) := by decide +kernel
theorem tc_d6_sheet_53 : decode tc_i6_sheet.2.1 53 = .ok (.ireturn, 1) := by decide +kernel
theorem tc_d6_sheet_54 : decode tc_i6_sheet.2.1 54 = .ok (.aload_n 0, 1) := by decide +kernel
theorem tc_d6_sheet_55 : decode tc_i6_sheet.2.1 55 = .ok (.getfield 49, 3) := by decide +kernel
theorem tc_d6_sheet_58 : decode tc_i6_sheet.2.1 58 = .ok (.iload_n 1, 1) := by decide +kernel
theorem tc_d6_sheet_59 : decode tc_i6_sheet.2.1 59 = .ok (.iload_n 2, 1) := by decide +kernel
theorem tc_d6_sheet_60 : decode tc_i6_sheet.2.1 60 = .ok (.iload_n 3, 1) := by decide +kernel
theorem tc_d6_sheet_61 : decode tc_i6_sheet.2.1 61 = .ok (.invokevirtual 254, 3) := by decide +kernel
theorem tc_d6_sheet_64 : decode tc_i6_sheet.2.1 64 = .ok (.iconst 1, 1) := by decide +kernel
theorem tc_d6_sheet_65 : decode tc_i6_sheet.2.1 65 = .ok (.ireturn, 1) := by decide +kernel
theorem tc_d6_taken_0 : decode tc_i6_taken.2.1 0 = .ok (.aload_n 0, 1) := by decide +kernel
theorem tc_d6_taken_1 : decode tc_i6_taken.2.1 1 = .ok (.getfield 12, 3) := by decide +kernel
theorem tc_d6_taken_4 : decode tc_i6_taken.2.1 4 = .ok (.iload_n 1, 1) := by decide +kernel
theorem tc_d6_taken_5 : decode tc_i6_taken.2.1 5 = .ok (.invokevirtual 68, 3) := by decide +kernel
theorem tc_d6_taken_8 : decode tc_i6_taken.2.1 8 = .ok (.ifCond .eq 11, 3) := by decide +kernel
theorem tc_d6_taken_11 : decode tc_i6_taken.2.1 11 = .ok (.iconst 3, 1) := by decide +kernel
theorem tc_d6_taken_12 : decode tc_i6_taken.2.1 12 = .ok (.iload_n 2, 1) := by decide +kernel
theorem tc_d6_taken_13 : decode tc_i6_taken.2.1 13 = .ok (.invokestatic 53, 3) := by decide +kernel
theorem tc_d6_taken_16 : decode tc_i6_taken.2.1 16 = .ok (.ifCond .ne 6, 3) := by decide +kernel
theorem tc_d6_taken_19 : decode tc_i6_taken.2.1 19 = .ok (.bipush (-2), 2) := by decide +kernel
theorem tc_d6_taken_21 : decode tc_i6_taken.2.1 21 = .ok (.ireturn, 1) := by decide +kernel
theorem tc_d6_taken_22 : decode tc_i6_taken.2.1 22 = .ok (.aload_n 0, 1) := by decide +kernel
theorem tc_d6_taken_23 : decode tc_i6_taken.2.1 23 = .ok (.getfield 12, 3) := by decide +kernel
theorem tc_d6_taken_26 : decode tc_i6_taken.2.1 26 = .ok (.getfield 89, 3) := by decide +kernel
theorem tc_d6_taken_29 : decode tc_i6_taken.2.1 29 = .ok (.iload_n 1, 1) := by decide +kernel
theorem tc_d6_taken_30 : decode tc_i6_taken.2.1 30 = .ok (.iaload, 1) := by decide +kernel
theorem tc_d6_taken_31 : decode tc_i6_taken.2.1 31 = .ok (.iload_n 2, 1) := by decide +kernel
theorem tc_d6_taken_32 : decode tc_i6_taken.2.1 32 = .ok (.invokestatic 114, 3) := by decide +kernel
theorem tc_d6_taken_35 : decode tc_i6_taken.2.1 35 = .ok (.ifCond .eq 15, 3) := by decide +kernel
theorem tc_d6_taken_38 : decode tc_i6_taken.2.1 38 = .ok (.aload_n 0, 1) := by decide +kernel
theorem tc_d6_taken_39 : decode tc_i6_taken.2.1 39 = .ok (.getfield 12, 3) := by decide +kernel
theorem tc_d6_taken_42 : decode tc_i6_taken.2.1 42 = .ok (.getfield 80, 3) := by decide +kernel
theorem tc_d6_taken_45 : decode tc_i6_taken.2.1 45 = .ok (.iload_n 1, 1) := by decide +kernel
theorem tc_d6_taken_46 : decode tc_i6_taken.2.1 46 = .ok (.iaload, 1) := by decide +kernel
theorem tc_d6_taken_47 : decode tc_i6_taken.2.1 47 = .ok (.goto 5, 3) := by decide +kernel
theorem tc_d6_taken_50 : decode tc_i6_taken.2.1 50 = .ok (.bipush (-13), 2) := by decide +kernel
theorem tc_d6_taken_52 : decode tc_i6_taken.2.1 52 = .ok (.ireturn, 1) := by decide +kernel
theorem tc_d6_tells_0 : decode tc_i6_tells.2.1 0 = .ok (.aload_n 0, 1) := by decide +kernel
theorem tc_d6_tells_1 : decode tc_i6_tells.2.1 1 = .ok (.getfield 49, 3) := by decide +kernel
theorem tc_d6_tells_4 : decode tc_i6_tells.2.1 4 = .ok (.iload_n 1, 1) := by decide +kernel
theorem tc_d6_tells_5 : decode tc_i6_tells.2.1 5 = .ok (.invokevirtual 240, 3) := by decide +kernel
theorem tc_d6_tells_8 : decode tc_i6_tells.2.1 8 = .ok (.ifCond .eq 23, 3) := by decide +kernel
theorem tc_d6_tells_11 : decode tc_i6_tells.2.1 11 = .ok (.aload_n 0, 1) := by decide +kernel
theorem tc_d6_tells_12 : decode tc_i6_tells.2.1 12 = .ok (.getfield 12, 3) := by decide +kernel
theorem tc_d6_tells_15 : decode tc_i6_tells.2.1 15 = .ok (.iload_n 2, 1) := by decide +kernel
theorem tc_d6_tells_16 : decode tc_i6_tells.2.1 16 = .ok (.invokevirtual 68, 3) := by decide +kernel
theorem tc_d6_tells_19 : decode tc_i6_tells.2.1 19 = .ok (.ifCond .eq 12, 3) := by decide +kernel
theorem tc_d6_tells_22 : decode tc_i6_tells.2.1 22 = .ok (.iload_n 3, 1) := by decide +kernel
theorem tc_d6_tells_23 : decode tc_i6_tells.2.1 23 = .ok (.iconst 0, 1) := by decide +kernel
theorem tc_d6_tells_24 : decode tc_i6_tells.2.1 24 = .ok (.iconst 1, 1) := by decide +kernel
theorem tc_d6_tells_25 : decode tc_i6_tells.2.1 25 = .ok (.invokestatic 117, 3) := by decide +kernel
theorem tc_d6_tells_28 : decode tc_i6_tells.2.1 28 = .ok (.ifCond .ne 6, 3) := by decide +kernel
theorem tc_d6_tells_31 : decode tc_i6_tells.2.1 31 = .ok (.bipush (-2), 2) := by decide +kernel
theorem tc_d6_tells_33 : decode tc_i6_tells.2.1 33 = .ok (.ireturn, 1) := by decide +kernel
theorem tc_d6_tells_34 : decode tc_i6_tells.2.1 34 = .ok (.aload_n 0, 1) := by decide +kernel
theorem tc_d6_tells_35 : decode tc_i6_tells.2.1 35 = .ok (.getfield 49, 3) := by decide +kernel
theorem tc_d6_tells_38 : decode tc_i6_tells.2.1 38 = .ok (.iload_n 1, 1) := by decide +kernel
theorem tc_d6_tells_39 : decode tc_i6_tells.2.1 39 = .ok (.invokevirtual 241, 3) := by decide +kernel
theorem tc_d6_tells_42 : decode tc_i6_tells.2.1 42 = .ok (.ifCond .eq 6, 3) := by decide +kernel
theorem tc_d6_tells_45 : decode tc_i6_tells.2.1 45 = .ok (.bipush (-11), 2) := by decide +kernel
theorem tc_d6_tells_47 : decode tc_i6_tells.2.1 47 = .ok (.ireturn, 1) := by decide +kernel
theorem tc_d6_tells_48 : decode tc_i6_tells.2.1 48 = .ok (.aload_n 0, 1) := by decide +kernel
theorem tc_d6_tells_49 : decode tc_i6_tells.2.1 49 = .ok (.getfield 49, 3) := by decide +kernel
theorem tc_d6_tells_52 : decode tc_i6_tells.2.1 52 = .ok (.getfield 244, 3) := by decide +kernel
theorem tc_d6_tells_55 : decode tc_i6_tells.2.1 55 = .ok (.iload_n 1, 1) := by decide +kernel
theorem tc_d6_tells_56 : decode tc_i6_tells.2.1 56 = .ok (.iaload, 1) := by decide +kernel
theorem tc_d6_tells_57 : decode tc_i6_tells.2.1 57 = .ok (.bipush 10, 2) := by decide +kernel
theorem tc_d6_tells_59 : decode tc_i6_tells.2.1 59 = .ok (.if_icmp .le 6, 3) := by decide +kernel
theorem tc_d6_tells_62 : decode tc_i6_tells.2.1 62 = .ok (.bipush (-2), 2) := by decide +kernel
theorem tc_d6_tells_64 : decode tc_i6_tells.2.1 64 = .ok (.ireturn, 1) := by decide +kernel
theorem tc_d6_tells_65 : decode tc_i6_tells.2.1 65 = .ok (.iload_n 3, 1) := by decide +kernel
theorem tc_d6_tells_66 : decode tc_i6_tells.2.1 66 = .ok (.ifCond .ne 26, 3) := by decide +kernel
theorem tc_d6_tells_69 : decode tc_i6_tells.2.1 69 = .ok (.aload_n 0, 1) := by decide +kernel
theorem tc_d6_tells_70 : decode tc_i6_tells.2.1 70 = .ok (.getfield 35, 3) := by decide +kernel
theorem tc_d6_tells_73 : decode tc_i6_tells.2.1 73 = .ok (.aload_n 0, 1) := by decide +kernel
theorem tc_d6_tells_74 : decode tc_i6_tells.2.1 74 = .ok (.getfield 49, 3) := by decide +kernel
theorem tc_d6_tells_77 : decode tc_i6_tells.2.1 77 = .ok (.iload_n 1, 1) := by decide +kernel
theorem tc_d6_tells_78 : decode tc_i6_tells.2.1 78 = .ok (.iload_n 2, 1) := by decide +kernel
theorem tc_d6_tells_79 : decode tc_i6_tells.2.1 79 = .ok (.aload_n 0, 1) := by decide +kernel
theorem tc_d6_tells_80 : decode tc_i6_tells.2.1 80 = .ok (.getfield 12, 3) := by decide +kernel
theorem tc_d6_tells_83 : decode tc_i6_tells.2.1 83 = .ok (.getfield 89, 3) := by decide +kernel
theorem tc_d6_tells_86 : decode tc_i6_tells.2.1 86 = .ok (.iload_n 2, 1) := by decide +kernel
theorem tc_d6_tells_87 : decode tc_i6_tells.2.1 87 = .ok (.iaload, 1) := by decide +kernel
theorem tc_d6_tells_88 : decode tc_i6_tells.2.1 88 = .ok (.invokevirtual 247, 3) := by decide +kernel
theorem tc_d6_tells_91 : decode tc_i6_tells.2.1 91 = .ok (.ireturn, 1) := by decide +kernel
theorem tc_d6_tells_92 : decode tc_i6_tells.2.1 92 = .ok (.iconst 0, 1) := by decide +kernel
theorem tc_d6_tells_93 : decode tc_i6_tells.2.1 93 = .ok (.istore 4, 2) := by decide +kernel
theorem tc_d6_tells_95 : decode tc_i6_tells.2.1 95 = .ok (.iconst 0, 1) := by decide +kernel
theorem tc_d6_tells_96 : decode tc_i6_tells.2.1 96 = .ok (.istore 5, 2) := by decide +kernel
theorem tc_d6_tells_98 : decode tc_i6_tells.2.1 98 = .ok (.iload 5, 2) := by decide +kernel
theorem tc_d6_tells_100 : decode tc_i6_tells.2.1 100 = .ok (.bipush 6, 2) := by decide +kernel
theorem tc_d6_tells_102 : decode tc_i6_tells.2.1 102 = .ok (.if_icmp .ge 37, 3) := by decide +kernel
theorem tc_d6_tells_105 : decode tc_i6_tells.2.1 105 = .ok (.aload_n 0, 1) := by decide +kernel
theorem tc_d6_tells_106 : decode tc_i6_tells.2.1 106 = .ok (.getfield 35, 3) := by decide +kernel
theorem tc_d6_tells_109 : decode tc_i6_tells.2.1 109 = .ok (.aload_n 0, 1) := by decide +kernel
theorem tc_d6_tells_110 : decode tc_i6_tells.2.1 110 = .ok (.getfield 49, 3) := by decide +kernel
theorem tc_d6_tells_113 : decode tc_i6_tells.2.1 113 = .ok (.iload_n 1, 1) := by decide +kernel
theorem tc_d6_tells_114 : decode tc_i6_tells.2.1 114 = .ok (.iload_n 2, 1) := by decide +kernel
theorem tc_d6_tells_115 : decode tc_i6_tells.2.1 115 = .ok (.iload 5, 2) := by decide +kernel
theorem tc_d6_tells_117 : decode tc_i6_tells.2.1 117 = .ok (.invokevirtual 247, 3) := by decide +kernel
theorem tc_d6_tells_120 : decode tc_i6_tells.2.1 120 = .ok (.iconst (-1), 1) := by decide +kernel
theorem tc_d6_tells_121 : decode tc_i6_tells.2.1 121 = .ok (.if_icmp .ne 12, 3) := by decide +kernel
theorem tc_d6_tells_124 : decode tc_i6_tells.2.1 124 = .ok (.iload 4, 2) := by decide +kernel
theorem tc_d6_tells_126 : decode tc_i6_tells.2.1 126 = .ok (.iconst 1, 1) := by decide +kernel
theorem tc_d6_tells_127 : decode tc_i6_tells.2.1 127 = .ok (.iload 5, 2) := by decide +kernel
theorem tc_d6_tells_129 : decode tc_i6_tells.2.1 129 = .ok (.ishl, 1) := by decide +kernel
theorem tc_d6_tells_130 : decode tc_i6_tells.2.1 130 = .ok (.ior, 1) := by decide +kernel
theorem tc_d6_tells_131 : decode tc_i6_tells.2.1 131 = .ok (.istore 4, 2) := by decide +kernel
theorem tc_d6_tells_133 : decode tc_i6_tells.2.1 133 = .ok (.iinc 5 1, 3) := by decide +kernel
theorem tc_d6_tells_136 : decode tc_i6_tells.2.1 136 = .ok (.goto (-38), 3) := by decide +kernel
theorem tc_d6_tells_139 : decode tc_i6_tells.2.1 139 = .ok (.iload 4, 2) := by decide +kernel
theorem tc_d6_tells_141 : decode tc_i6_tells.2.1 141 = .ok (.ireturn, 1) := by decide +kernel
theorem tc_d6_who_0 : decode tc_i6_who.2.1 0 = .ok (.iload_n 1, 1) := by decide +kernel
theorem tc_d6_who_1 : decode tc_i6_who.2.1 1 = .ok (.tableswitch 79 0 4 #[35, 43, 51, 59, 67], 35) := by decide +kernel
theorem tc_d6_who_36 : decode tc_i6_who.2.1 36 = .ok (.aload_n 0, 1) := by decide +kernel
theorem tc_d6_who_37 : decode tc_i6_who.2.1 37 = .ok (.getfield 12, 3) := by decide +kernel
theorem tc_d6_who_40 : decode tc_i6_who.2.1 40 = .ok (.getfield 102, 3) := by decide +kernel
theorem tc_d6_who_43 : decode tc_i6_who.2.1 43 = .ok (.ireturn, 1) := by decide +kernel
theorem tc_d6_who_44 : decode tc_i6_who.2.1 44 = .ok (.aload_n 0, 1) := by decide +kernel
theorem tc_d6_who_45 : decode tc_i6_who.2.1 45 = .ok (.getfield 12, 3) := by decide +kernel
theorem tc_d6_who_48 : decode tc_i6_who.2.1 48 = .ok (.invokevirtual 176, 3) := by decide +kernel
theorem tc_d6_who_51 : decode tc_i6_who.2.1 51 = .ok (.ireturn, 1) := by decide +kernel
theorem tc_d6_who_52 : decode tc_i6_who.2.1 52 = .ok (.aload_n 0, 1) := by decide +kernel
theorem tc_d6_who_53 : decode tc_i6_who.2.1 53 = .ok (.getfield 12, 3) := by decide +kernel
theorem tc_d6_who_56 : decode tc_i6_who.2.1 56 = .ok (.invokevirtual 180, 3) := by decide +kernel
theorem tc_d6_who_59 : decode tc_i6_who.2.1 59 = .ok (.ireturn, 1) := by decide +kernel
theorem tc_d6_who_60 : decode tc_i6_who.2.1 60 = .ok (.aload_n 0, 1) := by decide +kernel
theorem tc_d6_who_61 : decode tc_i6_who.2.1 61 = .ok (.getfield 12, 3) := by decide +kernel
theorem tc_d6_who_64 : decode tc_i6_who.2.1 64 = .ok (.getfield 124, 3) := by decide +kernel
theorem tc_d6_who_67 : decode tc_i6_who.2.1 67 = .ok (.ireturn, 1) := by decide +kernel
theorem tc_d6_who_68 : decode tc_i6_who.2.1 68 = .ok (.aload_n 0, 1) := by decide +kernel
theorem tc_d6_who_69 : decode tc_i6_who.2.1 69 = .ok (.getfield 12, 3) := by decide +kernel
theorem tc_d6_who_72 : decode tc_i6_who.2.1 72 = .ok (.getfield 134, 3) := by decide +kernel
theorem tc_d6_who_75 : decode tc_i6_who.2.1 75 = .ok (.iconst 0, 1) := by decide +kernel
theorem tc_d6_who_76 : decode tc_i6_who.2.1 76 = .ok (.invokevirtual 183, 3) := by decide +kernel
theorem tc_d6_who_79 : decode tc_i6_who.2.1 79 = .ok (.ireturn, 1) := by decide +kernel
theorem tc_d6_who_80 : decode tc_i6_who.2.1 80 = .ok (.bipush (-2), 2) := by decide +kernel
theorem tc_d6_who_82 : decode tc_i6_who.2.1 82 = .ok (.ireturn, 1) := by decide +kernel
theorem tc_d6_text_0 : decode tc_i6_text.2.1 0 = .ok (.aload_n 0, 1) := by decide +kernel
theorem tc_d6_text_1 : decode tc_i6_text.2.1 1 = .ok (.getfield 42, 3) := by decide +kernel
theorem tc_d6_text_4 : decode tc_i6_text.2.1 4 = .ok (.invokevirtual 266, 3) := by decide +kernel
theorem tc_d6_text_7 : decode tc_i6_text.2.1 7 = .ok (.istore_n 1, 1) := by decide +kernel
theorem tc_d6_text_8 : decode tc_i6_text.2.1 8 = .ok (.aload_n 0, 1) := by decide +kernel
theorem tc_d6_text_9 : decode tc_i6_text.2.1 9 = .ok (.getfield 42, 3) := by decide +kernel
theorem tc_d6_text_12 : decode tc_i6_text.2.1 12 = .ok (.iconst 0, 1) := by decide +kernel
theorem tc_d6_text_13 : decode tc_i6_text.2.1 13 = .ok (.putfield 261, 3) := by decide +kernel
theorem tc_d6_text_16 : decode tc_i6_text.2.1 16 = .ok (.iload_n 1, 1) := by decide +kernel
theorem tc_d6_text_17 : decode tc_i6_text.2.1 17 = .ok (.iconst (-1), 1) := by decide +kernel
theorem tc_d6_text_18 : decode tc_i6_text.2.1 18 = .ok (.if_icmp .eq 8, 3) := by decide +kernel
theorem tc_d6_text_21 : decode tc_i6_text.2.1 21 = .ok (.bipush (-100), 2) := by decide +kernel
theorem tc_d6_text_23 : decode tc_i6_text.2.1 23 = .ok (.iload_n 1, 1) := by decide +kernel
theorem tc_d6_text_24 : decode tc_i6_text.2.1 24 = .ok (.isub, 1) := by decide +kernel
theorem tc_d6_text_25 : decode tc_i6_text.2.1 25 = .ok (.ireturn, 1) := by decide +kernel
theorem tc_d6_text_26 : decode tc_i6_text.2.1 26 = .ok (.iconst 0, 1) := by decide +kernel
theorem tc_d6_text_27 : decode tc_i6_text.2.1 27 = .ok (.istore_n 2, 1) := by decide +kernel
theorem tc_d6_text_28 : decode tc_i6_text.2.1 28 = .ok (.iconst 0, 1) := by decide +kernel
theorem tc_d6_text_29 : decode tc_i6_text.2.1 29 = .ok (.istore_n 3, 1) := by decide +kernel
theorem tc_d6_text_30 : decode tc_i6_text.2.1 30 = .ok (.iload_n 3, 1) := by decide +kernel
theorem tc_d6_text_31 : decode tc_i6_text.2.1 31 = .ok (.aload_n 0, 1) := by decide +kernel
theorem tc_d6_text_32 : decode tc_i6_text.2.1 32 = .ok (.getfield 42, 3) := by decide +kernel
theorem tc_d6_text_35 : decode tc_i6_text.2.1 35 = .ok (.getfield 269, 3) := by decide +kernel
theorem tc_d6_text_38 : decode tc_i6_text.2.1 38 = .ok (.if_icmp .ge 20, 3) := by decide +kernel
theorem tc_d6_text_41 : decode tc_i6_text.2.1 41 = .ok (.aload_n 0, 1) := by decide +kernel
theorem tc_d6_text_42 : decode tc_i6_text.2.1 42 = .ok (.iload_n 3, 1) := by decide +kernel
theorem tc_d6_text_43 : decode tc_i6_text.2.1 43 = .ok (.invokevirtual 272, 3) := by decide +kernel
theorem tc_d6_text_46 : decode tc_i6_text.2.1 46 = .ok (.ifCond .lt 6, 3) := by decide +kernel
theorem tc_d6_text_49 : decode tc_i6_text.2.1 49 = .ok (.iinc 2 1, 3) := by decide +kernel
theorem tc_d6_text_52 : decode tc_i6_text.2.1 52 = .ok (.iinc 3 1, 3) := by decide +kernel
theorem tc_d6_text_55 : decode tc_i6_text.2.1 55 = .ok (.goto (-25), 3) := by decide +kernel
theorem tc_d6_text_58 : decode tc_i6_text.2.1 58 = .ok (.iload_n 2, 1) := by decide +kernel
theorem tc_d6_text_59 : decode tc_i6_text.2.1 59 = .ok (.ireturn, 1) := by decide +kernel
