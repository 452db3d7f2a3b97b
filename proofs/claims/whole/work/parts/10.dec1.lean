theorem tc_d8_bitCount_0 : decode tc_i8_bitCount.2.1 0 = .ok (.iload_n 0, 1) := by decide +kernel
theorem tc_d8_bitCount_1 : decode tc_i8_bitCount.2.1 1 = .ok (.iload_n 0, 1) := by decide +kernel
theorem tc_d8_bitCount_2 : decode tc_i8_bitCount.2.1 2 = .ok (.iconst 1, 1) := by decide +kernel
theorem tc_d8_bitCount_3 : decode tc_i8_bitCount.2.1 3 = .ok (.iushr, 1) := by decide +kernel
theorem tc_d8_bitCount_4 : decode tc_i8_bitCount.2.1 4 = .ok (.ldc_w 265, 3) := by decide +kernel
theorem tc_d8_bitCount_7 : decode tc_i8_bitCount.2.1 7 = .ok (.iand, 1) := by decide +kernel
theorem tc_d8_bitCount_8 : decode tc_i8_bitCount.2.1 8 = .ok (.isub, 1) := by decide +kernel
theorem tc_d8_bitCount_9 : decode tc_i8_bitCount.2.1 9 = .ok (.istore_n 0, 1) := by decide +kernel
theorem tc_d8_bitCount_10 : decode tc_i8_bitCount.2.1 10 = .ok (.iload_n 0, 1) := by decide +kernel
theorem tc_d8_bitCount_11 : decode tc_i8_bitCount.2.1 11 = .ok (.ldc_w 266, 3) := by decide +kernel
theorem tc_d8_bitCount_14 : decode tc_i8_bitCount.2.1 14 = .ok (.iand, 1) := by decide +kernel
theorem tc_d8_bitCount_15 : decode tc_i8_bitCount.2.1 15 = .ok (.iload_n 0, 1) := by decide +kernel
theorem tc_d8_bitCount_16 : decode tc_i8_bitCount.2.1 16 = .ok (.iconst 2, 1) := by decide +kernel
theorem tc_d8_bitCount_17 : decode tc_i8_bitCount.2.1 17 = .ok (.iushr, 1) := by decide +kernel
theorem tc_d8_bitCount_18 : decode tc_i8_bitCount.2.1 18 = .ok (.ldc_w 266, 3) := by decide +kernel
theorem tc_d8_bitCount_21 : decode tc_i8_bitCount.2.1 21 = .ok (.iand, 1) := by decide +kernel
theorem tc_d8_bitCount_22 : decode tc_i8_bitCount.2.1 22 = .ok (.iadd, 1) := by decide +kernel
theorem tc_d8_bitCount_23 : decode tc_i8_bitCount.2.1 23 = .ok (.istore_n 0, 1) := by decide +kernel
theorem tc_d8_bitCount_24 : decode tc_i8_bitCount.2.1 24 = .ok (.iload_n 0, 1) := by decide +kernel
theorem tc_d8_bitCount_25 : decode tc_i8_bitCount.2.1 25 = .ok (.iload_n 0, 1) := by decide +kernel
theorem tc_d8_bitCount_26 : decode tc_i8_bitCount.2.1 26 = .ok (.iconst 4, 1) := by decide +kernel
theorem tc_d8_bitCount_27 : decode tc_i8_bitCount.2.1 27 = .ok (.iushr, 1) := by decide +kernel
theorem tc_d8_bitCount_28 : decode tc_i8_bitCount.2.1 28 = .ok (.iadd, 1) := by decide +kernel
theorem tc_d8_bitCount_29 : decode tc_i8_bitCount.2.1 29 = .ok (.ldc_w 267, 3) := by decide +kernel
theorem tc_d8_bitCount_32 : decode tc_i8_bitCount.2.1 32 = .ok (.iand, 1) := by decide +kernel
theorem tc_d8_bitCount_33 : decode tc_i8_bitCount.2.1 33 = .ok (.istore_n 0, 1) := by decide +kernel
theorem tc_d8_bitCount_34 : decode tc_i8_bitCount.2.1 34 = .ok (.iload_n 0, 1) := by decide +kernel
theorem tc_d8_bitCount_35 : decode tc_i8_bitCount.2.1 35 = .ok (.iload_n 0, 1) := by decide +kernel
theorem tc_d8_bitCount_36 : decode tc_i8_bitCount.2.1 36 = .ok (.bipush 8, 2) := by decide +kernel
theorem tc_d8_bitCount_38 : decode tc_i8_bitCount.2.1 38 = .ok (.iushr, 1) := by decide +kernel
theorem tc_d8_bitCount_39 : decode tc_i8_bitCount.2.1 39 = .ok (.iadd, 1) := by decide +kernel
theorem tc_d8_bitCount_40 : decode tc_i8_bitCount.2.1 40 = .ok (.istore_n 0, 1) := by decide +kernel
theorem tc_d8_bitCount_41 : decode tc_i8_bitCount.2.1 41 = .ok (.iload_n 0, 1) := by decide +kernel
theorem tc_d8_bitCount_42 : decode tc_i8_bitCount.2.1 42 = .ok (.iload_n 0, 1) := by decide +kernel
theorem tc_d8_bitCount_43 : decode tc_i8_bitCount.2.1 43 = .ok (.bipush 16, 2) := by decide +kernel
theorem tc_d8_bitCount_45 : decode tc_i8_bitCount.2.1 45 = .ok (.iushr, 1) := by decide +kernel
theorem tc_d8_bitCount_46 : decode tc_i8_bitCount.2.1 46 = .ok (.iadd, 1) := by decide +kernel
theorem tc_d8_bitCount_47 : decode tc_i8_bitCount.2.1 47 = .ok (.istore_n 0, 1) := by decide +kernel
theorem tc_d8_bitCount_48 : decode tc_i8_bitCount.2.1 48 = .ok (.iload_n 0, 1) := by decide +kernel
theorem tc_d8_bitCount_49 : decode tc_i8_bitCount.2.1 49 = .ok (.bipush 63, 2) := by decide +kernel
theorem tc_d8_bitCount_51 : decode tc_i8_bitCount.2.1 51 = .ok (.iand, 1) := by decide +kernel
theorem tc_d8_bitCount_52 : decode tc_i8_bitCount.2.1 52 = .ok (.ireturn, 1) := by decide +kernel
theorem tc_d1_change_0 : decode tc_i1_change.2.1 0 = .ok (.aload_n 0, 1) := by decide +kernel
theorem tc_d1_change_1 : decode tc_i1_change.2.1 1 = .ok (.getfield 9, 3) := by decide +kernel
theorem tc_d1_change_4 : decode tc_i1_change.2.1 4 = .ok (.iload_n 1, 1) := by decide +kernel
theorem tc_d1_change_5 : decode tc_i1_change.2.1 5 = .ok (.iaload, 1) := by decide +kernel
theorem tc_d1_change_6 : decode tc_i1_change.2.1 6 = .ok (.tableswitch 49 0 2 #[26, 30, 34], 26) := by decide +kernel
theorem tc_d1_change_32 : decode tc_i1_change.2.1 32 = .ok (.iload_n 3, 1) := by decide +kernel
theorem tc_d1_change_33 : decode tc_i1_change.2.1 33 = .ok (.iconst 2, 1) := by decide +kernel
theorem tc_d1_change_34 : decode tc_i1_change.2.1 34 = .ok (.idiv, 1) := by decide +kernel
theorem tc_d1_change_35 : decode tc_i1_change.2.1 35 = .ok (.ireturn, 1) := by decide +kernel
theorem tc_d1_change_36 : decode tc_i1_change.2.1 36 = .ok (.iload_n 2, 1) := by decide +kernel
theorem tc_d1_change_37 : decode tc_i1_change.2.1 37 = .ok (.iconst 2, 1) := by decide +kernel
theorem tc_d1_change_38 : decode tc_i1_change.2.1 38 = .ok (.idiv, 1) := by decide +kernel
theorem tc_d1_change_39 : decode tc_i1_change.2.1 39 = .ok (.ireturn, 1) := by decide +kernel
theorem tc_d1_change_40 : decode tc_i1_change.2.1 40 = .ok (.iload_n 2, 1) := by decide +kernel
theorem tc_d1_change_41 : decode tc_i1_change.2.1 41 = .ok (.aload_n 0, 1) := by decide +kernel
theorem tc_d1_change_42 : decode tc_i1_change.2.1 42 = .ok (.getfield 18, 3) := by decide +kernel
theorem tc_d1_change_45 : decode tc_i1_change.2.1 45 = .ok (.iload_n 1, 1) := by decide +kernel
theorem tc_d1_change_46 : decode tc_i1_change.2.1 46 = .ok (.iaload, 1) := by decide +kernel
theorem tc_d1_change_47 : decode tc_i1_change.2.1 47 = .ok (.iadd, 1) := by decide +kernel
theorem tc_d1_change_48 : decode tc_i1_change.2.1 48 = .ok (.sipush 999, 3) := by decide +kernel
theorem tc_d1_change_51 : decode tc_i1_change.2.1 51 = .ok (.invokestatic 29, 3) := by decide +kernel
theorem tc_d1_change_54 : decode tc_i1_change.2.1 54 = .ok (.ireturn, 1) := by decide +kernel
theorem tc_d1_change_55 : decode tc_i1_change.2.1 55 = .ok (.iload_n 2, 1) := by decide +kernel
theorem tc_d1_change_56 : decode tc_i1_change.2.1 56 = .ok (.ireturn, 1) := by decide +kernel
theorem tc_d1_placesOf_0 : decode tc_i1_placesOf.2.1 0 = .ok (.iconst 0, 1) := by decide +kernel
theorem tc_d1_placesOf_1 : decode tc_i1_placesOf.2.1 1 = .ok (.istore_n 2, 1) := by decide +kernel
theorem tc_d1_placesOf_2 : decode tc_i1_placesOf.2.1 2 = .ok (.iconst 0, 1) := by decide +kernel
theorem tc_d1_placesOf_3 : decode tc_i1_placesOf.2.1 3 = .ok (.istore_n 3, 1) := by decide +kernel
theorem tc_d1_placesOf_4 : decode tc_i1_placesOf.2.1 4 = .ok (.iload_n 3, 1) := by decide +kernel
theorem tc_d1_placesOf_5 : decode tc_i1_placesOf.2.1 5 = .ok (.aload_n 0, 1) := by decide +kernel
theorem tc_d1_placesOf_6 : decode tc_i1_placesOf.2.1 6 = .ok (.getfield 21, 3) := by decide +kernel
theorem tc_d1_placesOf_9 : decode tc_i1_placesOf.2.1 9 = .ok (.if_icmp .ge 30, 3) := by decide +kernel
theorem tc_d1_placesOf_12 : decode tc_i1_placesOf.2.1 12 = .ok (.aload_n 0, 1) := by decide +kernel
theorem tc_d1_placesOf_13 : decode tc_i1_placesOf.2.1 13 = .ok (.getfield 9, 3) := by decide +kernel
theorem tc_d1_placesOf_16 : decode tc_i1_placesOf.2.1 16 = .ok (.iload_n 3, 1) := by decide +kernel
theorem tc_d1_placesOf_17 : decode tc_i1_placesOf.2.1 17 = .ok (.iaload, 1) := by decide +kernel
theorem tc_d1_placesOf_18 : decode tc_i1_placesOf.2.1 18 = .ok (.iload_n 1, 1) := by decide +kernel
theorem tc_d1_placesOf_19 : decode tc_i1_placesOf.2.1 19 = .ok (.if_icmp .ne 14, 3) := by decide +kernel
theorem tc_d1_placesOf_22 : decode tc_i1_placesOf.2.1 22 = .ok (.iload_n 2, 1) := by decide +kernel
theorem tc_d1_placesOf_23 : decode tc_i1_placesOf.2.1 23 = .ok (.iconst 1, 1) := by decide +kernel
theorem tc_d1_placesOf_24 : decode tc_i1_placesOf.2.1 24 = .ok (.aload_n 0, 1) := by decide +kernel
theorem tc_d1_placesOf_25 : decode tc_i1_placesOf.2.1 25 = .ok (.getfield 15, 3) := by decide +kernel
theorem tc_d1_placesOf_28 : decode tc_i1_placesOf.2.1 28 = .ok (.iload_n 3, 1) := by decide +kernel
theorem tc_d1_placesOf_29 : decode tc_i1_placesOf.2.1 29 = .ok (.iaload, 1) := by decide +kernel
theorem tc_d1_placesOf_30 : decode tc_i1_placesOf.2.1 30 = .ok (.ishl, 1) := by decide +kernel
theorem tc_d1_placesOf_31 : decode tc_i1_placesOf.2.1 31 = .ok (.ior, 1) := by decide +kernel
theorem tc_d1_placesOf_32 : decode tc_i1_placesOf.2.1 32 = .ok (.istore_n 2, 1) := by decide +kernel
theorem tc_d1_placesOf_33 : decode tc_i1_placesOf.2.1 33 = .ok (.iinc 3 1, 3) := by decide +kernel
theorem tc_d1_placesOf_36 : decode tc_i1_placesOf.2.1 36 = .ok (.goto (-32), 3) := by decide +kernel
theorem tc_d1_placesOf_39 : decode tc_i1_placesOf.2.1 39 = .ok (.iload_n 2, 1) := by decide +kernel
theorem tc_d1_placesOf_40 : decode tc_i1_placesOf.2.1 40 = .ok (.ireturn, 1) := by decide +kernel
theorem tc_d1_add_0 : decode tc_i1_add.2.1 0 = .ok (.aload_n 0, 1) := by decide +kernel
theorem tc_d1_add_1 : decode tc_i1_add.2.1 1 = .ok (.getfield 21, 3) := by decide +kernel
theorem tc_d1_add_4 : decode tc_i1_add.2.1 4 = .ok (.aload_n 0, 1) := by decide +kernel
theorem tc_d1_add_5 : decode tc_i1_add.2.1 5 = .ok (.getfield 9, 3) := by decide +kernel
theorem tc_d1_add_8 : decode tc_i1_add.2.1 8 = .ok (.arraylength, 1) := by decide +kernel
theorem tc_d1_add_9 : decode tc_i1_add.2.1 9 = .ok (.if_icmp .lt 4, 3) := by decide +kernel
theorem tc_d1_add_12 : decode tc_i1_add.2.1 12 = .ok (.return_, 1) := by decide +kernel
theorem tc_d1_add_13 : decode tc_i1_add.2.1 13 = .ok (.aload_n 0, 1) := by decide +kernel
theorem tc_d1_add_14 : decode tc_i1_add.2.1 14 = .ok (.getfield 9, 3) := by decide +kernel
theorem tc_d1_add_17 : decode tc_i1_add.2.1 17 = .ok (.aload_n 0, 1) := by decide +kernel
theorem tc_d1_add_18 : decode tc_i1_add.2.1 18 = .ok (.getfield 21, 3) := by decide +kernel
theorem tc_d1_add_21 : decode tc_i1_add.2.1 21 = .ok (.iload_n 1, 1) := by decide +kernel
theorem tc_d1_add_22 : decode tc_i1_add.2.1 22 = .ok (.iastore, 1) := by decide +kernel
theorem tc_d1_add_23 : decode tc_i1_add.2.1 23 = .ok (.aload_n 0, 1) := by decide +kernel
theorem tc_d1_add_24 : decode tc_i1_add.2.1 24 = .ok (.getfield 15, 3) := by decide +kernel
theorem tc_d1_add_27 : decode tc_i1_add.2.1 27 = .ok (.aload_n 0, 1) := by decide +kernel
theorem tc_d1_add_28 : decode tc_i1_add.2.1 28 = .ok (.getfield 21, 3) := by decide +kernel
theorem tc_d1_add_31 : decode tc_i1_add.2.1 31 = .ok (.iload_n 2, 1) := by decide +kernel
theorem tc_d1_add_32 : decode tc_i1_add.2.1 32 = .ok (.iastore, 1) := by decide +kernel
theorem tc_d1_add_33 : decode tc_i1_add.2.1 33 = .ok (.aload_n 0, 1) := by decide +kernel
theorem tc_d1_add_34 : decode tc_i1_add.2.1 34 = .ok (.getfield 18, 3) := by decide +kernel
theorem tc_d1_add_37 : decode tc_i1_add.2.1 37 = .ok (.aload_n 0, 1) := by decide +kernel
theorem tc_d1_add_38 : decode tc_i1_add.2.1 38 = .ok (.getfield 21, 3) := by decide +kernel
theorem tc_d1_add_41 : decode tc_i1_add.2.1 41 = .ok (.iload_n 3, 1) := by decide +kernel
theorem tc_d1_add_42 : decode tc_i1_add.2.1 42 = .ok (.iastore, 1) := by decide +kernel
theorem tc_d1_add_43 : decode tc_i1_add.2.1 43 = .ok (.aload_n 0, 1) := by decide +kernel
theorem tc_d1_add_44 : decode tc_i1_add.2.1 44 = .ok (.dup, 1) := by decide +kernel
theorem tc_d1_add_45 : decode tc_i1_add.2.1 45 = .ok (.getfield 21, 3) := by decide +kernel
theorem tc_d1_add_48 : decode tc_i1_add.2.1 48 = .ok (.iconst 1, 1) := by decide +kernel
theorem tc_d1_add_49 : decode tc_i1_add.2.1 49 = .ok (.iadd, 1) := by decide +kernel
theorem tc_d1_add_50 : decode tc_i1_add.2.1 50 = .ok (.putfield 21, 3) := by decide +kernel
theorem tc_d1_add_53 : decode tc_i1_add.2.1 53 = .ok (.return_, 1) := by decide +kernel
theorem tc_d1_bringTo_0 : decode tc_i1_bringTo.2.1 0 = .ok (.aload_n 0, 1) := by decide +kernel
theorem tc_d1_bringTo_1 : decode tc_i1_bringTo.2.1 1 = .ok (.getfield 9, 3) := by decide +kernel
theorem tc_d1_bringTo_4 : decode tc_i1_bringTo.2.1 4 = .ok (.iload_n 1, 1) := by decide +kernel
theorem tc_d1_bringTo_5 : decode tc_i1_bringTo.2.1 5 = .ok (.aload_n 2, 1) := by decide +kernel
theorem tc_d1_bringTo_6 : decode tc_i1_bringTo.2.1 6 = .ok (.getfield 9, 3) := by decide +kernel
theorem tc_d1_bringTo_9 : decode tc_i1_bringTo.2.1 9 = .ok (.iload_n 3, 1) := by decide +kernel
theorem tc_d1_bringTo_10 : decode tc_i1_bringTo.2.1 10 = .ok (.iaload, 1) := by decide +kernel
theorem tc_d1_bringTo_11 : decode tc_i1_bringTo.2.1 11 = .ok (.iastore, 1) := by decide +kernel
theorem tc_d1_bringTo_12 : decode tc_i1_bringTo.2.1 12 = .ok (.aload_n 0, 1) := by decide +kernel
theorem tc_d1_bringTo_13 : decode tc_i1_bringTo.2.1 13 = .ok (.getfield 15, 3) := by decide +kernel
theorem tc_d1_bringTo_16 : decode tc_i1_bringTo.2.1 16 = .ok (.iload_n 1, 1) := by decide +kernel
theorem tc_d1_bringTo_17 : decode tc_i1_bringTo.2.1 17 = .ok (.aload_n 2, 1) := by decide +kernel
theorem tc_d1_bringTo_18 : decode tc_i1_bringTo.2.1 18 = .ok (.getfield 15, 3) := by decide +kernel
theorem tc_d1_bringTo_21 : decode tc_i1_bringTo.2.1 21 = .ok (.iload_n 3, 1) := by decide +kernel
theorem tc_d1_bringTo_22 : decode tc_i1_bringTo.2.1 22 = .ok (.iaload, 1) := by decide +kernel
theorem tc_d1_bringTo_23 : decode tc_i1_bringTo.2.1 23 = .ok (.iastore, 1) := by decide +kernel
theorem tc_d1_bringTo_24 : decode tc_i1_bringTo.2.1 24 = .ok (.aload_n 0, 1) := by decide +kernel
theorem tc_d1_bringTo_25 : decode tc_i1_bringTo.2.1 25 = .ok (.getfield 18, 3) := by decide +kernel
theorem tc_d1_bringTo_28 : decode tc_i1_bringTo.2.1 28 = .ok (.iload_n 1, 1) := by decide +kernel
theorem tc_d1_bringTo_29 : decode tc_i1_bringTo.2.1 29 = .ok (.aload_n 2, 1) := by decide +kernel
theorem tc_d1_bringTo_30 : decode tc_i1_bringTo.2.1 30 = .ok (.getfield 18, 3) := by decide +kernel
theorem tc_d1_bringTo_33 : decode tc_i1_bringTo.2.1 33 = .ok (.iload_n 3, 1) := by decide +kernel
theorem tc_d1_bringTo_34 : decode tc_i1_bringTo.2.1 34 = .ok (.iaload, 1) := by decide +kernel
theorem tc_d1_bringTo_35 : decode tc_i1_bringTo.2.1 35 = .ok (.iastore, 1) := by decide +kernel
theorem tc_d1_bringTo_36 : decode tc_i1_bringTo.2.1 36 = .ok (.return_, 1) := by decide +kernel
theorem tc_d1_become_0 : decode tc_i1_become.2.1 0 = .ok (.aload_n 0, 1) := by decide +kernel
theorem tc_d1_become_1 : decode tc_i1_become.2.1 1 = .ok (.aload_n 1, 1) := by decide +kernel
theorem tc_d1_become_2 : decode tc_i1_become.2.1 2 = .ok (.getfield 21, 3) := by decide +kernel
theorem tc_d1_become_5 : decode tc_i1_become.2.1 5 = .ok (.putfield 21, 3) := by decide +kernel
theorem tc_d1_become_8 : decode tc_i1_become.2.1 8 = .ok (.iconst 0, 1) := by decide +kernel
theorem tc_d1_become_9 : decode tc_i1_become.2.1 9 = .ok (.istore_n 2, 1) := by decide +kernel
theorem tc_d1_become_10 : decode tc_i1_become.2.1 10 = .ok (.iload_n 2, 1) := by decide +kernel
theorem tc_d1_become_11 : decode tc_i1_become.2.1 11 = .ok (.aload_n 0, 1) := by decide +kernel
theorem tc_d1_become_12 : decode tc_i1_become.2.1 12 = .ok (.getfield 21, 3) := by decide +kernel
theorem tc_d1_become_15 : decode tc_i1_become.2.1 15 = .ok (.if_icmp .ge 16, 3) := by decide +kernel
theorem tc_d1_become_18 : decode tc_i1_become.2.1 18 = .ok (.aload_n 0, 1) := by decide +kernel
theorem tc_d1_become_19 : decode tc_i1_become.2.1 19 = .ok (.iload_n 2, 1) := by decide +kernel
theorem tc_d1_become_20 : decode tc_i1_become.2.1 20 = .ok (.aload_n 1, 1) := by decide +kernel
theorem tc_d1_become_21 : decode tc_i1_become.2.1 21 = .ok (.iload_n 2, 1) := by decide +kernel
theorem tc_d1_become_22 : decode tc_i1_become.2.1 22 = .ok (.invokevirtual 25, 3) := by decide +kernel
theorem tc_d1_become_25 : decode tc_i1_become.2.1 25 = .ok (.iinc 2 1, 3) := by decide +kernel
theorem tc_d1_become_28 : decode tc_i1_become.2.1 28 = .ok (.goto (-18), 3) := by decide +kernel
theorem tc_d1_become_31 : decode tc_i1_become.2.1 31 = .ok (.return_, 1) := by decide +kernel
theorem tc_d1_remove_0 : decode tc_i1_remove.2.1 0 = .ok (.iload_n 1, 1) := by decide +kernel
theorem tc_d1_remove_1 : decode tc_i1_remove.2.1 1 = .ok (.ifCond .lt 11, 3) := by decide +kernel
theorem tc_d1_remove_4 : decode tc_i1_remove.2.1 4 = .ok (.iload_n 1, 1) := by decide +kernel
theorem tc_d1_remove_5 : decode tc_i1_remove.2.1 5 = .ok (.aload_n 0, 1) := by decide +kernel
theorem tc_d1_remove_6 : decode tc_i1_remove.2.1 6 = .ok (.getfield 21, 3) := by decide +kernel
theorem tc_d1_remove_9 : decode tc_i1_remove.2.1 9 = .ok (.if_icmp .lt 4, 3) := by decide +kernel
theorem tc_d1_remove_12 : decode tc_i1_remove.2.1 12 = .ok (.return_, 1) := by decide +kernel
theorem tc_d1_remove_13 : decode tc_i1_remove.2.1 13 = .ok (.iload_n 1, 1) := by decide +kernel
theorem tc_d1_remove_14 : decode tc_i1_remove.2.1 14 = .ok (.iconst 1, 1) := by decide +kernel
theorem tc_d1_remove_15 : decode tc_i1_remove.2.1 15 = .ok (.iadd, 1) := by decide +kernel
theorem tc_d1_remove_16 : decode tc_i1_remove.2.1 16 = .ok (.istore_n 2, 1) := by decide +kernel
theorem tc_d1_remove_17 : decode tc_i1_remove.2.1 17 = .ok (.iload_n 2, 1) := by decide +kernel
theorem tc_d1_remove_18 : decode tc_i1_remove.2.1 18 = .ok (.aload_n 0, 1) := by decide +kernel
theorem tc_d1_remove_19 : decode tc_i1_remove.2.1 19 = .ok (.getfield 21, 3) := by decide +kernel
theorem tc_d1_remove_22 : decode tc_i1_remove.2.1 22 = .ok (.if_icmp .ge 18, 3) := by decide +kernel
theorem tc_d1_remove_25 : decode tc_i1_remove.2.1 25 = .ok (.aload_n 0, 1) := by decide +kernel
theorem tc_d1_remove_26 : decode tc_i1_remove.2.1 26 = .ok (.iload_n 2, 1) := by decide +kernel
theorem tc_d1_remove_27 : decode tc_i1_remove.2.1 27 = .ok (.iconst 1, 1) := by decide +kernel
theorem tc_d1_remove_28 : decode tc_i1_remove.2.1 28 = .ok (.isub, 1) := by decide +kernel
theorem tc_d1_remove_29 : decode tc_i1_remove.2.1 29 = .ok (.aload_n 0, 1) := by decide +kernel
theorem tc_d1_remove_30 : decode tc_i1_remove.2.1 30 = .ok (.iload_n 2, 1) := by decide +kernel
theorem tc_d1_remove_31 : decode tc_i1_remove.2.1 31 = .ok (.invokevirtual 25, 3) := by decide +kernel
theorem tc_d1_remove_34 : decode tc_i1_remove.2.1 34 = .ok (.iinc 2 1, 3) := by decide +kernel
theorem tc_d1_remove_37 : decode tc_i1_remove.2.1 37 = .ok (.goto (-20), 3) := by decide +kernel
theorem tc_d1_remove_40 : decode tc_i1_remove.2.1 40 = .ok (.aload_n 0, 1) := by decide +kernel
theorem tc_d1_remove_41 : decode tc_i1_remove.2.1 41 = .ok (.dup, 1) := by decide +kernel
theorem tc_d1_remove_42 : decode tc_i1_remove.2.1 42 = .ok (.getfield 21, 3) := by decide +kernel
theorem tc_d1_remove_45 : decode tc_i1_remove.2.1 45 = .ok (.iconst 1, 1) := by decide +kernel
theorem tc_d1_remove_46 : decode tc_i1_remove.2.1 46 = .ok (.isub, 1) := by decide +kernel
theorem tc_d1_remove_47 : decode tc_i1_remove.2.1 47 = .ok (.putfield 21, 3) := by decide +kernel
theorem tc_d1_remove_50 : decode tc_i1_remove.2.1 50 = .ok (.return_, 1) := by decide +kernel
theorem tc_d1_removeAt_0 : decode tc_i1_removeAt.2.1 0 = .ok (.iconst 0, 1) := by decide +kernel
theorem tc_d1_removeAt_1 : decode tc_i1_removeAt.2.1 1 = .ok (.istore_n 2, 1) := by decide +kernel
theorem tc_d1_removeAt_2 : decode tc_i1_removeAt.2.1 2 = .ok (.iconst 0, 1) := by decide +kernel
theorem tc_d1_removeAt_3 : decode tc_i1_removeAt.2.1 3 = .ok (.istore_n 3, 1) := by decide +kernel
theorem tc_d1_removeAt_4 : decode tc_i1_removeAt.2.1 4 = .ok (.iload_n 3, 1) := by decide +kernel
theorem tc_d1_removeAt_5 : decode tc_i1_removeAt.2.1 5 = .ok (.aload_n 0, 1) := by decide +kernel
theorem tc_d1_removeAt_6 : decode tc_i1_removeAt.2.1 6 = .ok (.getfield 21, 3) := by decide +kernel
theorem tc_d1_removeAt_9 : decode tc_i1_removeAt.2.1 9 = .ok (.if_icmp .ge 29, 3) := by decide +kernel
theorem tc_d1_removeAt_12 : decode tc_i1_removeAt.2.1 12 = .ok (.aload_n 0, 1) := by decide +kernel
theorem tc_d1_removeAt_13 : decode tc_i1_removeAt.2.1 13 = .ok (.getfield 15, 3) := by decide +kernel
theorem tc_d1_removeAt_16 : decode tc_i1_removeAt.2.1 16 = .ok (.iload_n 3, 1) := by decide +kernel
theorem tc_d1_removeAt_17 : decode tc_i1_removeAt.2.1 17 = .ok (.iaload, 1) := by decide +kernel
theorem tc_d1_removeAt_18 : decode tc_i1_removeAt.2.1 18 = .ok (.iload_n 1, 1) := by decide +kernel
theorem tc_d1_removeAt_19 : decode tc_i1_removeAt.2.1 19 = .ok (.if_icmp .eq 13, 3) := by decide +kernel
theorem tc_d1_removeAt_22 : decode tc_i1_removeAt.2.1 22 = .ok (.aload_n 0, 1) := by decide +kernel
theorem tc_d1_removeAt_23 : decode tc_i1_removeAt.2.1 23 = .ok (.iload_n 2, 1) := by decide +kernel
theorem tc_d1_removeAt_24 : decode tc_i1_removeAt.2.1 24 = .ok (.aload_n 0, 1) := by decide +kernel
theorem tc_d1_removeAt_25 : decode tc_i1_removeAt.2.1 25 = .ok (.iload_n 3, 1) := by decide +kernel
theorem tc_d1_removeAt_26 : decode tc_i1_removeAt.2.1 26 = .ok (.invokevirtual 25, 3) := by decide +kernel
theorem tc_d1_removeAt_29 : decode tc_i1_removeAt.2.1 29 = .ok (.iinc 2 1, 3) := by decide +kernel
theorem tc_d1_removeAt_32 : decode tc_i1_removeAt.2.1 32 = .ok (.iinc 3 1, 3) := by decide +kernel
theorem tc_d1_removeAt_35 : decode tc_i1_removeAt.2.1 35 = .ok (.goto (-31), 3) := by decide +kernel
theorem tc_d1_removeAt_38 : decode tc_i1_removeAt.2.1 38 = .ok (.aload_n 0, 1) := by decide +kernel
theorem tc_d1_removeAt_39 : decode tc_i1_removeAt.2.1 39 = .ok (.getfield 21, 3) := by decide +kernel
theorem tc_d1_removeAt_42 : decode tc_i1_removeAt.2.1 42 = .ok (.iload_n 2, 1) := by decide +kernel
theorem tc_d1_removeAt_43 : decode tc_i1_removeAt.2.1 43 = .ok (.isub, 1) := by decide +kernel
theorem tc_d1_removeAt_44 : decode tc_i1_removeAt.2.1 44 = .ok (.istore_n 3, 1) := by decide +kernel
theorem tc_d1_removeAt_45 : decode tc_i1_removeAt.2.1 45 = .ok (.aload_n 0, 1) := by decide +kernel
theorem tc_d1_removeAt_46 : decode tc_i1_removeAt.2.1 46 = .ok (.iload_n 2, 1) := by decide +kernel
theorem tc_d1_removeAt_47 : decode tc_i1_removeAt.2.1 47 = .ok (.putfield 21, 3) := by decide +kernel
theorem tc_d1_removeAt_50 : decode tc_i1_removeAt.2.1 50 = .ok (.iload_n 3, 1) := by decide +kernel
theorem tc_d1_removeAt_51 : decode tc_i1_removeAt.2.1 51 = .ok (.ireturn, 1) := by decide +kernel
theorem tc_d0_enter_0 : decode tc_i0_enter.2.1 0 = .ok (.aload_n 0, 1) := by decide +kernel
theorem tc_d0_enter_1 : decode tc_i0_enter.2.1 1 = .ok (.getfield 70, 3) := by decide +kernel
theorem tc_d0_enter_4 : decode tc_i0_enter.2.1 4 = .ok (.iconst 1, 1) := by decide +kernel
theorem tc_d0_enter_5 : decode tc_i0_enter.2.1 5 = .ok (.iload_n 1, 1) := by decide +kernel
theorem tc_d0_enter_6 : decode tc_i0_enter.2.1 6 = .ok (.ishl, 1) := by decide +kernel
theorem tc_d0_enter_7 : decode tc_i0_enter.2.1 7 = .ok (.iand, 1) := by decide +kernel
theorem tc_d0_enter_8 : decode tc_i0_enter.2.1 8 = .ok (.ifCond .ne 12, 3) := by decide +kernel
theorem tc_d0_enter_11 : decode tc_i0_enter.2.1 11 = .ok (.aload_n 0, 1) := by decide +kernel
theorem tc_d0_enter_12 : decode tc_i0_enter.2.1 12 = .ok (.getfield 44, 3) := by decide +kernel
theorem tc_d0_enter_15 : decode tc_i0_enter.2.1 15 = .ok (.bipush 8, 2) := by decide +kernel
theorem tc_d0_enter_17 : decode tc_i0_enter.2.1 17 = .ok (.if_icmp .lt 4, 3) := by decide +kernel
theorem tc_d0_enter_20 : decode tc_i0_enter.2.1 20 = .ok (.return_, 1) := by decide +kernel
theorem tc_d0_enter_21 : decode tc_i0_enter.2.1 21 = .ok (.aload_n 0, 1) := by decide +kernel
theorem tc_d0_enter_22 : decode tc_i0_enter.2.1 22 = .ok (.getfield 15, 3) := by decide +kernel
theorem tc_d0_enter_25 : decode tc_i0_enter.2.1 25 = .ok (.aload_n 0, 1) := by decide +kernel
theorem tc_d0_enter_26 : decode tc_i0_enter.2.1 26 = .ok (.getfield 67, 3) := by decide +kernel
theorem tc_d0_enter_29 : decode tc_i0_enter.2.1 29 = .ok (.aload_n 0, 1) := by decide +kernel
theorem tc_d0_enter_30 : decode tc_i0_enter.2.1 30 = .ok (.getfield 44, 3) := by decide +kernel
theorem tc_d0_enter_33 : decode tc_i0_enter.2.1 33 = .ok (.iadd, 1) := by decide +kernel
theorem tc_d0_enter_34 : decode tc_i0_enter.2.1 34 = .ok (.bipush 8, 2) := by decide +kernel
theorem tc_d0_enter_36 : decode tc_i0_enter.2.1 36 = .ok (.irem, 1) := by decide +kernel
theorem tc_d0_enter_37 : decode tc_i0_enter.2.1 37 = .ok (.iload_n 1, 1) := by decide +kernel
theorem tc_d0_enter_38 : decode tc_i0_enter.2.1 38 = .ok (.iastore, 1) := by decide +kernel
theorem tc_d0_enter_39 : decode tc_i0_enter.2.1 39 = .ok (.aload_n 0, 1) := by decide +kernel
theorem tc_d0_enter_40 : decode tc_i0_enter.2.1 40 = .ok (.dup, 1) := by decide +kernel
theorem tc_d0_enter_41 : decode tc_i0_enter.2.1 41 = .ok (.getfield 44, 3) := by decide +kernel
theorem tc_d0_enter_44 : decode tc_i0_enter.2.1 44 = .ok (.iconst 1, 1) := by decide +kernel
theorem tc_d0_enter_45 : decode tc_i0_enter.2.1 45 = .ok (.iadd, 1) := by decide +kernel
theorem tc_d0_enter_46 : decode tc_i0_enter.2.1 46 = .ok (.putfield 44, 3) := by decide +kernel
theorem tc_d0_enter_49 : decode tc_i0_enter.2.1 49 = .ok (.aload_n 0, 1) := by decide +kernel
theorem tc_d0_enter_50 : decode tc_i0_enter.2.1 50 = .ok (.dup, 1) := by decide +kernel
theorem tc_d0_enter_51 : decode tc_i0_enter.2.1 51 = .ok (.getfield 70, 3) := by decide +kernel
theorem tc_d0_enter_54 : decode tc_i0_enter.2.1 54 = .ok (.iconst 1, 1) := by decide +kernel
theorem tc_d0_enter_55 : decode tc_i0_enter.2.1 55 = .ok (.iload_n 1, 1) := by decide +kernel
theorem tc_d0_enter_56 : decode tc_i0_enter.2.1 56 = .ok (.ishl, 1) := by decide +kernel
theorem tc_d0_enter_57 : decode tc_i0_enter.2.1 57 = .ok (.ior, 1) := by decide +kernel
theorem tc_d0_enter_58 : decode tc_i0_enter.2.1 58 = .ok (.putfield 70, 3) := by decide +kernel
theorem tc_d0_enter_61 : decode tc_i0_enter.2.1 61 = .ok (.return_, 1) := by decide +kernel
theorem tc_d0_enterAll_0 : decode tc_i0_enterAll.2.1 0 = .ok (.aload_n 0, 1) := by decide +kernel
theorem tc_d0_enterAll_1 : decode tc_i0_enterAll.2.1 1 = .ok (.iconst 0, 1) := by decide +kernel
theorem tc_d0_enterAll_2 : decode tc_i0_enterAll.2.1 2 = .ok (.putfield 67, 3) := by decide +kernel
theorem tc_d0_enterAll_5 : decode tc_i0_enterAll.2.1 5 = .ok (.aload_n 0, 1) := by decide +kernel
theorem tc_d0_enterAll_6 : decode tc_i0_enterAll.2.1 6 = .ok (.iconst 0, 1) := by decide +kernel
theorem tc_d0_enterAll_7 : decode tc_i0_enterAll.2.1 7 = .ok (.putfield 44, 3) := by decide +kernel
theorem tc_d0_enterAll_10 : decode tc_i0_enterAll.2.1 10 = .ok (.aload_n 0, 1) := by decide +kernel
theorem tc_d0_enterAll_11 : decode tc_i0_enterAll.2.1 11 = .ok (.iconst 0, 1) := by decide +kernel
theorem tc_d0_enterAll_12 : decode tc_i0_enterAll.2.1 12 = .ok (.putfield 70, 3) := by decide +kernel
theorem tc_d0_enterAll_15 : decode tc_i0_enterAll.2.1 15 = .ok (.iconst 0, 1) := by decide +kernel
theorem tc_d0_enterAll_16 : decode tc_i0_enterAll.2.1 16 = .ok (.istore_n 3, 1) := by decide +kernel
theorem tc_d0_enterAll_17 : decode tc_i0_enterAll.2.1 17 = .ok (.iload_n 3, 1) := by decide +kernel
theorem tc_d0_enterAll_18 : decode tc_i0_enterAll.2.1 18 = .ok (.iload_n 1, 1) := by decide +kernel
theorem tc_d0_enterAll_19 : decode tc_i0_enterAll.2.1 19 = .ok (.if_icmp .ge 26, 3) := by decide +kernel
theorem tc_d0_enterAll_22 : decode tc_i0_enterAll.2.1 22 = .ok (.aload_n 0, 1) := by decide +kernel
theorem tc_d0_enterAll_23 : decode tc_i0_enterAll.2.1 23 = .ok (.iload_n 2, 1) := by decide +kernel
theorem tc_d0_enterAll_24 : decode tc_i0_enterAll.2.1 24 = .ok (.ifCond .eq 11, 3) := by decide +kernel
theorem tc_d0_enterAll_27 : decode tc_i0_enterAll.2.1 27 = .ok (.iload_n 1, 1) := by decide +kernel
theorem tc_d0_enterAll_28 : decode tc_i0_enterAll.2.1 28 = .ok (.iconst 1, 1) := by decide +kernel
theorem tc_d0_enterAll_29 : decode tc_i0_enterAll.2.1 29 = .ok (.isub, 1) := by decide +kernel
theorem tc_d0_enterAll_30 : decode tc_i0_enterAll.2.1 30 = .ok (.iload_n 3, 1) := by decide +kernel
theorem tc_d0_enterAll_31 : decode tc_i0_enterAll.2.1 31 = .ok (.isub, 1) := by decide +kernel
theorem tc_d0_enterAll_32 : decode tc_i0_enterAll.2.1 32 = .ok (.goto 4, 3) := by decide +kernel
theorem tc_d0_enterAll_35 : decode tc_i0_enterAll.2.1 35 = .ok (.iload_n 3, 1) := by decide +kernel
theorem tc_d0_enterAll_36 : decode tc_i0_enterAll.2.1 36 = .ok (.invokevirtual 73, 3) := by decide +kernel
theorem tc_d0_enterAll_39 : decode tc_i0_enterAll.2.1 39 = .ok (.iinc 3 1, 3) := by decide +kernel
theorem tc_d0_enterAll_42 : decode tc_i0_enterAll.2.1 42 = .ok (.goto (-25), 3) := by decide +kernel
theorem tc_d0_enterAll_45 : decode tc_i0_enterAll.2.1 45 = .ok (.return_, 1) := by decide +kernel
theorem tc_d0_enterBeside_0 : decode tc_i0_enterBeside.2.1 0 = .ok (.aload_n 1, 1) := by decide +kernel
theorem tc_d0_enterBeside_1 : decode tc_i0_enterBeside.2.1 1 = .ok (.iload_n 2, 1) := by decide +kernel
theorem tc_d0_enterBeside_2 : decode tc_i0_enterBeside.2.1 2 = .ok (.iconst 1, 1) := by decide +kernel
theorem tc_d0_enterBeside_3 : decode tc_i0_enterBeside.2.1 3 = .ok (.isub, 1) := by decide +kernel
theorem tc_d0_enterBeside_4 : decode tc_i0_enterBeside.2.1 4 = .ok (.iconst 2, 1) := by decide +kernel
theorem tc_d0_enterBeside_5 : decode tc_i0_enterBeside.2.1 5 = .ok (.invokevirtual 77, 3) := by decide +kernel
theorem tc_d0_enterBeside_8 : decode tc_i0_enterBeside.2.1 8 = .ok (.ifCond .eq 10, 3) := by decide +kernel
theorem tc_d0_enterBeside_11 : decode tc_i0_enterBeside.2.1 11 = .ok (.aload_n 0, 1) := by decide +kernel
theorem tc_d0_enterBeside_12 : decode tc_i0_enterBeside.2.1 12 = .ok (.iload_n 2, 1) := by decide +kernel
theorem tc_d0_enterBeside_13 : decode tc_i0_enterBeside.2.1 13 = .ok (.iconst 1, 1) := by decide +kernel
theorem tc_d0_enterBeside_14 : decode tc_i0_enterBeside.2.1 14 = .ok (.isub, 1) := by decide +kernel
theorem tc_d0_enterBeside_15 : decode tc_i0_enterBeside.2.1 15 = .ok (.invokevirtual 73, 3) := by decide +kernel
theorem tc_d0_enterBeside_18 : decode tc_i0_enterBeside.2.1 18 = .ok (.aload_n 1, 1) := by decide +kernel
theorem tc_d0_enterBeside_19 : decode tc_i0_enterBeside.2.1 19 = .ok (.iload_n 2, 1) := by decide +kernel
theorem tc_d0_enterBeside_20 : decode tc_i0_enterBeside.2.1 20 = .ok (.iconst 1, 1) := by decide +kernel
theorem tc_d0_enterBeside_21 : decode tc_i0_enterBeside.2.1 21 = .ok (.iadd, 1) := by decide +kernel
theorem tc_d0_enterBeside_22 : decode tc_i0_enterBeside.2.1 22 = .ok (.iconst 1, 1) := by decide +kernel
theorem tc_d0_enterBeside_23 : decode tc_i0_enterBeside.2.1 23 = .ok (.invokevirtual 77, 3) := by decide +kernel
theorem tc_d0_enterBeside_26 : decode tc_i0_enterBeside.2.1 26 = .ok (.ifCond .eq 10, 3) := by decide +kernel
theorem tc_d0_enterBeside_29 : decode tc_i0_enterBeside.2.1 29 = .ok (.aload_n 0, 1) := by decide +kernel
theorem tc_d0_enterBeside_30 : decode tc_i0_enterBeside.2.1 30 = .ok (.iload_n 2, 1) := by decide +kernel
theorem tc_d0_enterBeside_31 : decode tc_i0_enterBeside.2.1 31 = .ok (.iconst 1, 1) := by decide +kernel
theorem tc_d0_enterBeside_32 : decode tc_i0_enterBeside.2.1 32 = .ok (.iadd, 1) := by decide +kernel
theorem tc_d0_enterBeside_33 : decode tc_i0_enterBeside.2.1 33 = .ok (.invokevirtual 73, 3) := by decide +kernel
theorem tc_d0_enterBeside_36 : decode tc_i0_enterBeside.2.1 36 = .ok (.return_, 1) := by decide +kernel
theorem tc_d0_takeFirst_0 : decode tc_i0_takeFirst.2.1 0 = .ok (.aload_n 0, 1) := by decide +kernel
theorem tc_d0_takeFirst_1 : decode tc_i0_takeFirst.2.1 1 = .ok (.getfield 15, 3) := by decide +kernel
theorem tc_d0_takeFirst_4 : decode tc_i0_takeFirst.2.1 4 = .ok (.aload_n 0, 1) := by decide +kernel
theorem tc_d0_takeFirst_5 : decode tc_i0_takeFirst.2.1 5 = .ok (.getfield 67, 3) := by decide +kernel
theorem tc_d0_takeFirst_8 : decode tc_i0_takeFirst.2.1 8 = .ok (.iaload, 1) := by decide +kernel
theorem tc_d0_takeFirst_9 : decode tc_i0_takeFirst.2.1 9 = .ok (.istore_n 1, 1) := by decide +kernel
theorem tc_d0_takeFirst_10 : decode tc_i0_takeFirst.2.1 10 = .ok (.aload_n 0, 1) := by decide +kernel
theorem tc_d0_takeFirst_11 : decode tc_i0_takeFirst.2.1 11 = .ok (.aload_n 0, 1) := by decide +kernel
theorem tc_d0_takeFirst_12 : decode tc_i0_takeFirst.2.1 12 = .ok (.getfield 67, 3) := by decide +kernel
theorem tc_d0_takeFirst_15 : decode tc_i0_takeFirst.2.1 15 = .ok (.iconst 1, 1) := by decide +kernel
theorem tc_d0_takeFirst_16 : decode tc_i0_takeFirst.2.1 16 = .ok (.iadd, 1) := by decide +kernel
theorem tc_d0_takeFirst_17 : decode tc_i0_takeFirst.2.1 17 = .ok (.bipush 8, 2) := by decide +kernel
theorem tc_d0_takeFirst_19 : decode tc_i0_takeFirst.2.1 19 = .ok (.irem, 1) := by decide +kernel
theorem tc_d0_takeFirst_20 : decode tc_i0_takeFirst.2.1 20 = .ok (.putfield 67, 3) := by decide +kernel
theorem tc_d0_takeFirst_23 : decode tc_i0_takeFirst.2.1 23 = .ok (.aload_n 0, 1) := by decide +kernel
theorem tc_d0_takeFirst_24 : decode tc_i0_takeFirst.2.1 24 = .ok (.dup, 1) := by decide +kernel
theorem tc_d0_takeFirst_25 : decode tc_i0_takeFirst.2.1 25 = .ok (.getfield 44, 3) := by decide +kernel
theorem tc_d0_takeFirst_28 : decode tc_i0_takeFirst.2.1 28 = .ok (.iconst 1, 1) := by decide +kernel
theorem tc_d0_takeFirst_29 : decode tc_i0_takeFirst.2.1 29 = .ok (.isub, 1) := by decide +kernel
theorem tc_d0_takeFirst_30 : decode tc_i0_takeFirst.2.1 30 = .ok (.putfield 44, 3) := by decide +kernel
theorem tc_d0_takeFirst_33 : decode tc_i0_takeFirst.2.1 33 = .ok (.aload_n 0, 1) := by decide +kernel
theorem tc_d0_takeFirst_34 : decode tc_i0_takeFirst.2.1 34 = .ok (.dup, 1) := by decide +kernel
theorem tc_d0_takeFirst_35 : decode tc_i0_takeFirst.2.1 35 = .ok (.getfield 70, 3) := by decide +kernel
theorem tc_d0_takeFirst_38 : decode tc_i0_takeFirst.2.1 38 = .ok (.iconst 1, 1) := by decide +kernel
theorem tc_d0_takeFirst_39 : decode tc_i0_takeFirst.2.1 39 = .ok (.iload_n 1, 1) := by decide +kernel
theorem tc_d0_takeFirst_40 : decode tc_i0_takeFirst.2.1 40 = .ok (.ishl, 1) := by decide +kernel
theorem tc_d0_takeFirst_41 : decode tc_i0_takeFirst.2.1 41 = .ok (.iconst (-1), 1) := by decide +kernel
theorem tc_d0_takeFirst_42 : decode tc_i0_takeFirst.2.1 42 = .ok (.ixor, 1) := by decide +kernel
theorem tc_d0_takeFirst_43 : decode tc_i0_takeFirst.2.1 43 = .ok (.iand, 1) := by decide +kernel
theorem tc_d0_takeFirst_44 : decode tc_i0_takeFirst.2.1 44 = .ok (.putfield 70, 3) := by decide +kernel
theorem tc_d0_takeFirst_47 : decode tc_i0_takeFirst.2.1 47 = .ok (.iload_n 1, 1) := by decide +kernel
theorem tc_d0_takeFirst_48 : decode tc_i0_takeFirst.2.1 48 = .ok (.ireturn, 1) := by decide +kernel
theorem tc_d0_settles_0 : decode tc_i0_settles.2.1 0 = .ok (.aload_n 1, 1) := by decide +kernel
theorem tc_d0_settles_1 : decode tc_i0_settles.2.1 1 = .ok (.getfield 27, 3) := by decide +kernel
theorem tc_d0_settles_4 : decode tc_i0_settles.2.1 4 = .ok (.istore_n 3, 1) := by decide +kernel
theorem tc_d0_settles_5 : decode tc_i0_settles.2.1 5 = .ok (.aload_n 1, 1) := by decide +kernel
theorem tc_d0_settles_6 : decode tc_i0_settles.2.1 6 = .ok (.invokevirtual 31, 3) := by decide +kernel
theorem tc_d0_settles_9 : decode tc_i0_settles.2.1 9 = .ok (.aload_n 0, 1) := by decide +kernel
theorem tc_d0_settles_10 : decode tc_i0_settles.2.1 10 = .ok (.iconst 0, 1) := by decide +kernel
theorem tc_d0_settles_11 : decode tc_i0_settles.2.1 11 = .ok (.putfield 34, 3) := by decide +kernel
theorem tc_d0_settles_14 : decode tc_i0_settles.2.1 14 = .ok (.aload_n 0, 1) := by decide +kernel
theorem tc_d0_settles_15 : decode tc_i0_settles.2.1 15 = .ok (.aload_n 1, 1) := by decide +kernel
theorem tc_d0_settles_16 : decode tc_i0_settles.2.1 16 = .ok (.getfield 37, 3) := by decide +kernel
theorem tc_d0_settles_19 : decode tc_i0_settles.2.1 19 = .ok (.iload_n 2, 1) := by decide +kernel
theorem tc_d0_settles_20 : decode tc_i0_settles.2.1 20 = .ok (.invokevirtual 40, 3) := by decide +kernel
theorem tc_d0_settles_23 : decode tc_i0_settles.2.1 23 = .ok (.iconst 0, 1) := by decide +kernel
theorem tc_d0_settles_24 : decode tc_i0_settles.2.1 24 = .ok (.istore 4, 2) := by decide +kernel
theorem tc_d0_settles_26 : decode tc_i0_settles.2.1 26 = .ok (.iload 4, 2) := by decide +kernel
theorem tc_d0_settles_28 : decode tc_i0_settles.2.1 28 = .ok (.sipush 1000, 3) := by decide +kernel
theorem tc_d0_settles_31 : decode tc_i0_settles.2.1 31 = .ok (.if_icmp .ge 126, 3) := by decide +kernel
theorem tc_d0_settles_34 : decode tc_i0_settles.2.1 34 = .ok (.aload_n 0, 1) := by decide +kernel
theorem tc_d0_settles_35 : decode tc_i0_settles.2.1 35 = .ok (.getfield 44, 3) := by decide +kernel
theorem tc_d0_settles_38 : decode tc_i0_settles.2.1 38 = .ok (.ifCond .le 119, 3) := by decide +kernel
theorem tc_d0_settles_41 : decode tc_i0_settles.2.1 41 = .ok (.aload_n 0, 1) := by decide +kernel
theorem tc_d0_settles_42 : decode tc_i0_settles.2.1 42 = .ok (.invokevirtual 47, 3) := by decide +kernel
theorem tc_d0_settles_45 : decode tc_i0_settles.2.1 45 = .ok (.istore 5, 2) := by decide +kernel
theorem tc_d0_settles_47 : decode tc_i0_settles.2.1 47 = .ok (.aload_n 1, 1) := by decide +kernel
theorem tc_d0_settles_48 : decode tc_i0_settles.2.1 48 = .ok (.iload 5, 2) := by decide +kernel
theorem tc_d0_settles_50 : decode tc_i0_settles.2.1 50 = .ok (.invokevirtual 51, 3) := by decide +kernel
theorem tc_d0_settles_53 : decode tc_i0_settles.2.1 53 = .ok (.istore 6, 2) := by decide +kernel
theorem tc_d0_settles_55 : decode tc_i0_settles.2.1 55 = .ok (.iload 6, 2) := by decide +kernel
theorem tc_d0_settles_57 : decode tc_i0_settles.2.1 57 = .ok (.aload_n 1, 1) := by decide +kernel
theorem tc_d0_settles_58 : decode tc_i0_settles.2.1 58 = .ok (.iload 5, 2) := by decide +kernel
theorem tc_d0_settles_60 : decode tc_i0_settles.2.1 60 = .ok (.invokevirtual 55, 3) := by decide +kernel
theorem tc_d0_settles_63 : decode tc_i0_settles.2.1 63 = .ok (.iconst 1, 1) := by decide +kernel
theorem tc_d0_settles_64 : decode tc_i0_settles.2.1 64 = .ok (.if_icmp .ne 7, 3) := by decide +kernel
theorem tc_d0_settles_67 : decode tc_i0_settles.2.1 67 = .ok (.iconst 1, 1) := by decide +kernel
theorem tc_d0_settles_68 : decode tc_i0_settles.2.1 68 = .ok (.goto 4, 3) := by decide +kernel
theorem tc_d0_settles_71 : decode tc_i0_settles.2.1 71 = .ok (.iconst 0, 1) := by decide +kernel
theorem tc_d0_settles_72 : decode tc_i0_settles.2.1 72 = .ok (.if_icmp .ne 6, 3) := by decide +kernel
theorem tc_d0_settles_75 : decode tc_i0_settles.2.1 75 = .ok (.goto 76, 3) := by decide +kernel
theorem tc_d0_settles_78 : decode tc_i0_settles.2.1 78 = .ok (.aload_n 0, 1) := by decide +kernel
theorem tc_d0_settles_79 : decode tc_i0_settles.2.1 79 = .ok (.getfield 34, 3) := by decide +kernel
theorem tc_d0_settles_82 : decode tc_i0_settles.2.1 82 = .ok (.bipush 40, 2) := by decide +kernel
theorem tc_d0_settles_84 : decode tc_i0_settles.2.1 84 = .ok (.if_icmp .lt 10, 3) := by decide +kernel
theorem tc_d0_settles_87 : decode tc_i0_settles.2.1 87 = .ok (.aload_n 1, 1) := by decide +kernel
theorem tc_d0_settles_88 : decode tc_i0_settles.2.1 88 = .ok (.iload_n 3, 1) := by decide +kernel
theorem tc_d0_settles_89 : decode tc_i0_settles.2.1 89 = .ok (.putfield 27, 3) := by decide +kernel
theorem tc_d0_settles_92 : decode tc_i0_settles.2.1 92 = .ok (.iconst 0, 1) := by decide +kernel
theorem tc_d0_settles_93 : decode tc_i0_settles.2.1 93 = .ok (.ireturn, 1) := by decide +kernel
theorem tc_d0_settles_94 : decode tc_i0_settles.2.1 94 = .ok (.aload_n 1, 1) := by decide +kernel
theorem tc_d0_settles_95 : decode tc_i0_settles.2.1 95 = .ok (.aload_n 1, 1) := by decide +kernel
theorem tc_d0_settles_96 : decode tc_i0_settles.2.1 96 = .ok (.getfield 27, 3) := by decide +kernel
theorem tc_d0_settles_99 : decode tc_i0_settles.2.1 99 = .ok (.iload 5, 2) := by decide +kernel
theorem tc_d0_settles_101 : decode tc_i0_settles.2.1 101 = .ok (.iload 6, 2) := by decide +kernel
theorem tc_d0_settles_103 : decode tc_i0_settles.2.1 103 = .ok (.invokestatic 59, 3) := by decide +kernel
theorem tc_d0_settles_106 : decode tc_i0_settles.2.1 106 = .ok (.putfield 27, 3) := by decide +kernel
theorem tc_d0_settles_109 : decode tc_i0_settles.2.1 109 = .ok (.aload_n 0, 1) := by decide +kernel
theorem tc_d0_settles_110 : decode tc_i0_settles.2.1 110 = .ok (.getfield 9, 3) := by decide +kernel
theorem tc_d0_settles_113 : decode tc_i0_settles.2.1 113 = .ok (.aload_n 0, 1) := by decide +kernel
theorem tc_d0_settles_114 : decode tc_i0_settles.2.1 114 = .ok (.getfield 34, 3) := by decide +kernel
theorem tc_d0_settles_117 : decode tc_i0_settles.2.1 117 = .ok (.bipush 10, 2) := by decide +kernel
theorem tc_d0_settles_119 : decode tc_i0_settles.2.1 119 = .ok (.iload 5, 2) := by decide +kernel
theorem tc_d0_settles_121 : decode tc_i0_settles.2.1 121 = .ok (.imul, 1) := by decide +kernel
theorem tc_d0_settles_122 : decode tc_i0_settles.2.1 122 = .ok (.iload 6, 2) := by decide +kernel
theorem tc_d0_settles_124 : decode tc_i0_settles.2.1 124 = .ok (.ifCond .eq 7, 3) := by decide +kernel
theorem tc_d0_settles_127 : decode tc_i0_settles.2.1 127 = .ok (.iconst 1, 1) := by decide +kernel
theorem tc_d0_settles_128 : decode tc_i0_settles.2.1 128 = .ok (.goto 4, 3) := by decide +kernel
theorem tc_d0_settles_131 : decode tc_i0_settles.2.1 131 = .ok (.iconst 0, 1) := by decide +kernel
theorem tc_d0_settles_132 : decode tc_i0_settles.2.1 132 = .ok (.iadd, 1) := by decide +kernel
theorem tc_d0_settles_133 : decode tc_i0_settles.2.1 133 = .ok (.iastore, 1) := by decide +kernel
theorem tc_d0_settles_134 : decode tc_i0_settles.2.1 134 = .ok (.aload_n 0, 1) := by decide +kernel
theorem tc_d0_settles_135 : decode tc_i0_settles.2.1 135 = .ok (.dup, 1) := by decide +kernel
theorem tc_d0_settles_136 : decode tc_i0_settles.2.1 136 = .ok (.getfield 34, 3) := by decide +kernel
theorem tc_d0_settles_139 : decode tc_i0_settles.2.1 139 = .ok (.iconst 1, 1) := by decide +kernel
theorem tc_d0_settles_140 : decode tc_i0_settles.2.1 140 = .ok (.iadd, 1) := by decide +kernel
theorem tc_d0_settles_141 : decode tc_i0_settles.2.1 141 = .ok (.putfield 34, 3) := by decide +kernel
theorem tc_d0_settles_144 : decode tc_i0_settles.2.1 144 = .ok (.aload_n 0, 1) := by decide +kernel
theorem tc_d0_settles_145 : decode tc_i0_settles.2.1 145 = .ok (.aload_n 1, 1) := by decide +kernel
theorem tc_d0_settles_146 : decode tc_i0_settles.2.1 146 = .ok (.iload 5, 2) := by decide +kernel
theorem tc_d0_settles_148 : decode tc_i0_settles.2.1 148 = .ok (.invokevirtual 63, 3) := by decide +kernel
theorem tc_d0_settles_151 : decode tc_i0_settles.2.1 151 = .ok (.iinc 4 1, 3) := by decide +kernel
theorem tc_d0_settles_154 : decode tc_i0_settles.2.1 154 = .ok (.goto (-128), 3) := by decide +kernel
theorem tc_d0_settles_157 : decode tc_i0_settles.2.1 157 = .ok (.iconst 1, 1) := by decide +kernel
theorem tc_d0_settles_158 : decode tc_i0_settles.2.1 158 = .ok (.ireturn, 1) := by decide +kernel
theorem tc_d0_passes_0 : decode tc_i0_passes.2.1 0 = .ok (.aload_n 0, 1) := by decide +kernel
theorem tc_d0_passes_1 : decode tc_i0_passes.2.1 1 = .ok (.aload_n 1, 1) := by decide +kernel
theorem tc_d0_passes_2 : decode tc_i0_passes.2.1 2 = .ok (.iconst 0, 1) := by decide +kernel
theorem tc_d0_passes_3 : decode tc_i0_passes.2.1 3 = .ok (.invokevirtual 18, 3) := by decide +kernel
theorem tc_d0_passes_6 : decode tc_i0_passes.2.1 6 = .ok (.ifCond .ne 5, 3) := by decide +kernel
theorem tc_d0_passes_9 : decode tc_i0_passes.2.1 9 = .ok (.iconst 0, 1) := by decide +kernel
theorem tc_d0_passes_10 : decode tc_i0_passes.2.1 10 = .ok (.ireturn, 1) := by decide +kernel
theorem tc_d0_passes_11 : decode tc_i0_passes.2.1 11 = .ok (.aload_n 1, 1) := by decide +kernel
theorem tc_d0_passes_12 : decode tc_i0_passes.2.1 12 = .ok (.invokevirtual 22, 3) := by decide +kernel
theorem tc_d0_passes_15 : decode tc_i0_passes.2.1 15 = .ok (.iconst 1, 1) := by decide +kernel
theorem tc_d0_passes_16 : decode tc_i0_passes.2.1 16 = .ok (.ireturn, 1) := by decide +kernel
theorem tc_d3_item_0 : decode tc_i3_item.2.1 0 = .ok (.aload_n 0, 1) := by decide +kernel
theorem tc_d3_item_1 : decode tc_i3_item.2.1 1 = .ok (.getfield 18, 3) := by decide +kernel
theorem tc_d3_item_4 : decode tc_i3_item.2.1 4 = .ok (.iload_n 1, 1) := by decide +kernel
theorem tc_d3_item_5 : decode tc_i3_item.2.1 5 = .ok (.bipush 40, 2) := by decide +kernel
theorem tc_d3_item_7 : decode tc_i3_item.2.1 7 = .ok (.imul, 1) := by decide +kernel
theorem tc_d3_item_8 : decode tc_i3_item.2.1 8 = .ok (.iload_n 2, 1) := by decide +kernel
theorem tc_d3_item_9 : decode tc_i3_item.2.1 9 = .ok (.iadd, 1) := by decide +kernel
theorem tc_d3_item_10 : decode tc_i3_item.2.1 10 = .ok (.iaload, 1) := by decide +kernel
theorem tc_d3_item_11 : decode tc_i3_item.2.1 11 = .ok (.ireturn, 1) := by decide +kernel
theorem tc_d3_become_0 : decode tc_i3_become.2.1 0 = .ok (.aload_n 0, 1) := by decide +kernel
theorem tc_d3_become_1 : decode tc_i3_become.2.1 1 = .ok (.getfield 9, 3) := by decide +kernel
theorem tc_d3_become_4 : decode tc_i3_become.2.1 4 = .ok (.iload_n 1, 1) := by decide +kernel
theorem tc_d3_become_5 : decode tc_i3_become.2.1 5 = .ok (.iload_n 2, 1) := by decide +kernel
theorem tc_d3_become_6 : decode tc_i3_become.2.1 6 = .ok (.iastore, 1) := by decide +kernel
theorem tc_d3_become_7 : decode tc_i3_become.2.1 7 = .ok (.aload_n 0, 1) := by decide +kernel
theorem tc_d3_become_8 : decode tc_i3_become.2.1 8 = .ok (.getfield 15, 3) := by decide +kernel
theorem tc_d3_become_11 : decode tc_i3_become.2.1 11 = .ok (.iload_n 1, 1) := by decide +kernel
theorem tc_d3_become_12 : decode tc_i3_become.2.1 12 = .ok (.iload_n 3, 1) := by decide +kernel
theorem tc_d3_become_13 : decode tc_i3_become.2.1 13 = .ok (.iastore, 1) := by decide +kernel
theorem tc_d3_become_14 : decode tc_i3_become.2.1 14 = .ok (.iconst 0, 1) := by decide +kernel
theorem tc_d3_become_15 : decode tc_i3_become.2.1 15 = .ok (.istore 4, 2) := by decide +kernel
theorem tc_d3_become_17 : decode tc_i3_become.2.1 17 = .ok (.iload 4, 2) := by decide +kernel
theorem tc_d3_become_19 : decode tc_i3_become.2.1 19 = .ok (.iload_n 3, 1) := by decide +kernel
theorem tc_d3_become_20 : decode tc_i3_become.2.1 20 = .ok (.if_icmp .ge 22, 3) := by decide +kernel
theorem tc_d3_become_23 : decode tc_i3_become.2.1 23 = .ok (.aload_n 0, 1) := by decide +kernel
theorem tc_d3_become_24 : decode tc_i3_become.2.1 24 = .ok (.getfield 18, 3) := by decide +kernel
theorem tc_d3_become_27 : decode tc_i3_become.2.1 27 = .ok (.iload_n 1, 1) := by decide +kernel
theorem tc_d3_become_28 : decode tc_i3_become.2.1 28 = .ok (.bipush 40, 2) := by decide +kernel
theorem tc_d3_become_30 : decode tc_i3_become.2.1 30 = .ok (.imul, 1) := by decide +kernel
theorem tc_d3_become_31 : decode tc_i3_become.2.1 31 = .ok (.iload 4, 2) := by decide +kernel
theorem tc_d3_become_33 : decode tc_i3_become.2.1 33 = .ok (.iadd, 1) := by decide +kernel
theorem tc_d3_become_34 : decode tc_i3_become.2.1 34 = .ok (.iconst 0, 1) := by decide +kernel
theorem tc_d3_become_35 : decode tc_i3_become.2.1 35 = .ok (.iastore, 1) := by decide +kernel
theorem tc_d3_become_36 : decode tc_i3_become.2.1 36 = .ok (.iinc 4 1, 3) := by decide +kernel
theorem tc_d3_become_39 : decode tc_i3_become.2.1 39 = .ok (.goto (-22), 3) := by decide +kernel
theorem tc_d3_become_42 : decode tc_i3_become.2.1 42 = .ok (.return_, 1) := by decide +kernel
theorem tc_d3_bring_0 : decode tc_i3_bring.2.1 0 = .ok (.aload_n 0, 1) := by decide +kernel
theorem tc_d3_bring_1 : decode tc_i3_bring.2.1 1 = .ok (.getfield 18, 3) := by decide +kernel
theorem tc_d3_bring_4 : decode tc_i3_bring.2.1 4 = .ok (.iload_n 1, 1) := by decide +kernel
theorem tc_d3_bring_5 : decode tc_i3_bring.2.1 5 = .ok (.bipush 40, 2) := by decide +kernel
theorem tc_d3_bring_7 : decode tc_i3_bring.2.1 7 = .ok (.imul, 1) := by decide +kernel
theorem tc_d3_bring_8 : decode tc_i3_bring.2.1 8 = .ok (.iload_n 2, 1) := by decide +kernel
theorem tc_d3_bring_9 : decode tc_i3_bring.2.1 9 = .ok (.iadd, 1) := by decide +kernel
theorem tc_d3_bring_10 : decode tc_i3_bring.2.1 10 = .ok (.aload_n 0, 1) := by decide +kernel
theorem tc_d3_bring_11 : decode tc_i3_bring.2.1 11 = .ok (.getfield 18, 3) := by decide +kernel
theorem tc_d3_bring_14 : decode tc_i3_bring.2.1 14 = .ok (.iload_n 3, 1) := by decide +kernel
theorem tc_d3_bring_15 : decode tc_i3_bring.2.1 15 = .ok (.bipush 40, 2) := by decide +kernel
theorem tc_d3_bring_17 : decode tc_i3_bring.2.1 17 = .ok (.imul, 1) := by decide +kernel
theorem tc_d3_bring_18 : decode tc_i3_bring.2.1 18 = .ok (.iload 4, 2) := by decide +kernel
theorem tc_d3_bring_20 : decode tc_i3_bring.2.1 20 = .ok (.iadd, 1) := by decide +kernel
theorem tc_d3_bring_21 : decode tc_i3_bring.2.1 21 = .ok (.iload 5, 2) := by decide +kernel
theorem tc_d3_bring_23 : decode tc_i3_bring.2.1 23 = .ok (.invokestatic 25, 3) := by decide +kernel
theorem tc_d3_bring_26 : decode tc_i3_bring.2.1 26 = .ok (.return_, 1) := by decide +kernel
theorem tc_d3_has_0 : decode tc_i3_has.2.1 0 = .ok (.iload_n 1, 1) := by decide +kernel
theorem tc_d3_has_1 : decode tc_i3_has.2.1 1 = .ok (.iconst 0, 1) := by decide +kernel
theorem tc_d3_has_2 : decode tc_i3_has.2.1 2 = .ok (.iconst 3, 1) := by decide +kernel
theorem tc_d3_has_3 : decode tc_i3_has.2.1 3 = .ok (.invokestatic 21, 3) := by decide +kernel
theorem tc_d3_has_6 : decode tc_i3_has.2.1 6 = .ok (.ireturn, 1) := by decide +kernel
theorem tc_d3_holds_0 : decode tc_i3_holds.2.1 0 = .ok (.lload_n 2, 1) := by decide +kernel
theorem tc_d3_holds_1 : decode tc_i3_holds.2.1 1 = .ok (.lconst 0, 1) := by decide +kernel
theorem tc_d3_holds_2 : decode tc_i3_holds.2.1 2 = .ok (.lcmp, 1) := by decide +kernel
theorem tc_d3_holds_3 : decode tc_i3_holds.2.1 3 = .ok (.ifCond .lt 29, 3) := by decide +kernel
theorem tc_d3_holds_6 : decode tc_i3_holds.2.1 6 = .ok (.lload 4, 2) := by decide +kernel
theorem tc_d3_holds_8 : decode tc_i3_holds.2.1 8 = .ok (.lconst 0, 1) := by decide +kernel
theorem tc_d3_holds_9 : decode tc_i3_holds.2.1 9 = .ok (.lcmp, 1) := by decide +kernel
theorem tc_d3_holds_10 : decode tc_i3_holds.2.1 10 = .ok (.ifCond .lt 22, 3) := by decide +kernel
theorem tc_d3_holds_13 : decode tc_i3_holds.2.1 13 = .ok (.lload_n 2, 1) := by decide +kernel
theorem tc_d3_holds_14 : decode tc_i3_holds.2.1 14 = .ok (.lload 4, 2) := by decide +kernel
theorem tc_d3_holds_16 : decode tc_i3_holds.2.1 16 = .ok (.ladd, 1) := by decide +kernel
theorem tc_d3_holds_17 : decode tc_i3_holds.2.1 17 = .ok (.aload_n 0, 1) := by decide +kernel
theorem tc_d3_holds_18 : decode tc_i3_holds.2.1 18 = .ok (.getfield 15, 3) := by decide +kernel
theorem tc_d3_holds_21 : decode tc_i3_holds.2.1 21 = .ok (.iload_n 1, 1) := by decide +kernel
theorem tc_d3_holds_22 : decode tc_i3_holds.2.1 22 = .ok (.iaload, 1) := by decide +kernel
theorem tc_d3_holds_23 : decode tc_i3_holds.2.1 23 = .ok (.i2l, 1) := by decide +kernel
theorem tc_d3_holds_24 : decode tc_i3_holds.2.1 24 = .ok (.lcmp, 1) := by decide +kernel
theorem tc_d3_holds_25 : decode tc_i3_holds.2.1 25 = .ok (.ifCond .gt 7, 3) := by decide +kernel
theorem tc_d3_holds_28 : decode tc_i3_holds.2.1 28 = .ok (.iconst 1, 1) := by decide +kernel
theorem tc_d3_holds_29 : decode tc_i3_holds.2.1 29 = .ok (.goto 4, 3) := by decide +kernel
theorem tc_d3_holds_32 : decode tc_i3_holds.2.1 32 = .ok (.iconst 0, 1) := by decide +kernel
theorem tc_d3_holds_33 : decode tc_i3_holds.2.1 33 = .ok (.ireturn, 1) := by decide +kernel
theorem tc_d3_isMissing_0 : decode tc_i3_isMissing.2.1 0 = .ok (.aload_n 0, 1) := by decide +kernel
theorem tc_d3_isMissing_1 : decode tc_i3_isMissing.2.1 1 = .ok (.getfield 9, 3) := by decide +kernel
theorem tc_d3_isMissing_4 : decode tc_i3_isMissing.2.1 4 = .ok (.iload_n 1, 1) := by decide +kernel
theorem tc_d3_isMissing_5 : decode tc_i3_isMissing.2.1 5 = .ok (.iaload, 1) := by decide +kernel
theorem tc_d3_isMissing_6 : decode tc_i3_isMissing.2.1 6 = .ok (.iconst (-1), 1) := by decide +kernel
theorem tc_d3_isMissing_7 : decode tc_i3_isMissing.2.1 7 = .ok (.if_icmp .ne 7, 3) := by decide +kernel
theorem tc_d3_isMissing_10 : decode tc_i3_isMissing.2.1 10 = .ok (.iconst 1, 1) := by decide +kernel
theorem tc_d3_isMissing_11 : decode tc_i3_isMissing.2.1 11 = .ok (.goto 4, 3) := by decide +kernel
theorem tc_d3_isMissing_14 : decode tc_i3_isMissing.2.1 14 = .ok (.iconst 0, 1) := by decide +kernel
theorem tc_d3_isMissing_15 : decode tc_i3_isMissing.2.1 15 = .ok (.ireturn, 1) := by decide +kernel
theorem tc_d3_lay_0 : decode tc_i3_lay.2.1 0 = .ok (.aload_n 0, 1) := by decide +kernel
theorem tc_d3_lay_1 : decode tc_i3_lay.2.1 1 = .ok (.getfield 18, 3) := by decide +kernel
theorem tc_d3_lay_4 : decode tc_i3_lay.2.1 4 = .ok (.iload_n 1, 1) := by decide +kernel
theorem tc_d3_lay_5 : decode tc_i3_lay.2.1 5 = .ok (.bipush 40, 2) := by decide +kernel
theorem tc_d3_lay_7 : decode tc_i3_lay.2.1 7 = .ok (.imul, 1) := by decide +kernel
theorem tc_d3_lay_8 : decode tc_i3_lay.2.1 8 = .ok (.iload_n 2, 1) := by decide +kernel
theorem tc_d3_lay_9 : decode tc_i3_lay.2.1 9 = .ok (.iadd, 1) := by decide +kernel
theorem tc_d3_lay_10 : decode tc_i3_lay.2.1 10 = .ok (.aload_n 0, 1) := by decide +kernel
theorem tc_d3_lay_11 : decode tc_i3_lay.2.1 11 = .ok (.getfield 9, 3) := by decide +kernel
theorem tc_d3_lay_14 : decode tc_i3_lay.2.1 14 = .ok (.iload_n 1, 1) := by decide +kernel
theorem tc_d3_lay_15 : decode tc_i3_lay.2.1 15 = .ok (.iaload, 1) := by decide +kernel
theorem tc_d3_lay_16 : decode tc_i3_lay.2.1 16 = .ok (.ifCond .ne 8, 3) := by decide +kernel
theorem tc_d3_lay_19 : decode tc_i3_lay.2.1 19 = .ok (.iload_n 3, 1) := by decide +kernel
theorem tc_d3_lay_20 : decode tc_i3_lay.2.1 20 = .ok (.i2s, 1) := by decide +kernel
theorem tc_d3_lay_21 : decode tc_i3_lay.2.1 21 = .ok (.goto 4, 3) := by decide +kernel
theorem tc_d3_lay_24 : decode tc_i3_lay.2.1 24 = .ok (.iload_n 3, 1) := by decide +kernel
theorem tc_d3_lay_25 : decode tc_i3_lay.2.1 25 = .ok (.iastore, 1) := by decide +kernel
theorem tc_d3_lay_26 : decode tc_i3_lay.2.1 26 = .ok (.return_, 1) := by decide +kernel
theorem tc_d4_add_0 : decode tc_i4_add.2.1 0 = .ok (.aload_n 0, 1) := by decide +kernel
theorem tc_d4_add_1 : decode tc_i4_add.2.1 1 = .ok (.getfield 21, 3) := by decide +kernel
theorem tc_d4_add_4 : decode tc_i4_add.2.1 4 = .ok (.bipush 60, 2) := by decide +kernel
theorem tc_d4_add_6 : decode tc_i4_add.2.1 6 = .ok (.if_icmp .ge 23, 3) := by decide +kernel
theorem tc_d4_add_9 : decode tc_i4_add.2.1 9 = .ok (.aload_n 0, 1) := by decide +kernel
theorem tc_d4_add_10 : decode tc_i4_add.2.1 10 = .ok (.getfield 9, 3) := by decide +kernel
theorem tc_d4_add_13 : decode tc_i4_add.2.1 13 = .ok (.aload_n 0, 1) := by decide +kernel
theorem tc_d4_add_14 : decode tc_i4_add.2.1 14 = .ok (.getfield 21, 3) := by decide +kernel
theorem tc_d4_add_17 : decode tc_i4_add.2.1 17 = .ok (.iload_n 1, 1) := by decide +kernel
theorem tc_d4_add_18 : decode tc_i4_add.2.1 18 = .ok (.iastore, 1) := by decide +kernel
theorem tc_d4_add_19 : decode tc_i4_add.2.1 19 = .ok (.aload_n 0, 1) := by decide +kernel
theorem tc_d4_add_20 : decode tc_i4_add.2.1 20 = .ok (.dup, 1) := by decide +kernel
theorem tc_d4_add_21 : decode tc_i4_add.2.1 21 = .ok (.getfield 21, 3) := by decide +kernel
theorem tc_d4_add_24 : decode tc_i4_add.2.1 24 = .ok (.iconst 1, 1) := by decide +kernel
theorem tc_d4_add_25 : decode tc_i4_add.2.1 25 = .ok (.iadd, 1) := by decide +kernel
theorem tc_d4_add_26 : decode tc_i4_add.2.1 26 = .ok (.putfield 21, 3) := by decide +kernel
theorem tc_d4_add_29 : decode tc_i4_add.2.1 29 = .ok (.return_, 1) := by decide +kernel
theorem tc_d4_number_0 : decode tc_i4_number.2.1 0 = .ok (.aload_n 0, 1) := by decide +kernel
theorem tc_d4_number_1 : decode tc_i4_number.2.1 1 = .ok (.getfield 18, 3) := by decide +kernel
theorem tc_d4_number_4 : decode tc_i4_number.2.1 4 = .ok (.iload_n 1, 1) := by decide +kernel
theorem tc_d4_number_5 : decode tc_i4_number.2.1 5 = .ok (.iconst 4, 1) := by decide +kernel
theorem tc_d4_number_6 : decode tc_i4_number.2.1 6 = .ok (.imul, 1) := by decide +kernel
theorem tc_d4_number_7 : decode tc_i4_number.2.1 7 = .ok (.iload_n 2, 1) := by decide +kernel
theorem tc_d4_number_8 : decode tc_i4_number.2.1 8 = .ok (.iadd, 1) := by decide +kernel
theorem tc_d4_number_9 : decode tc_i4_number.2.1 9 = .ok (.iaload, 1) := by decide +kernel
theorem tc_d4_number_10 : decode tc_i4_number.2.1 10 = .ok (.ireturn, 1) := by decide +kernel
theorem tc_d4_numberFrom_0 : decode tc_i4_numberFrom.2.1 0 = .ok (.iconst 0, 1) := by decide +kernel
theorem tc_d4_numberFrom_1 : decode tc_i4_numberFrom.2.1 1 = .ok (.istore_n 2, 1) := by decide +kernel
theorem tc_d4_numberFrom_2 : decode tc_i4_numberFrom.2.1 2 = .ok (.iload_n 1, 1) := by decide +kernel
theorem tc_d4_numberFrom_3 : decode tc_i4_numberFrom.2.1 3 = .ok (.istore_n 3, 1) := by decide +kernel
theorem tc_d4_numberFrom_4 : decode tc_i4_numberFrom.2.1 4 = .ok (.iload_n 3, 1) := by decide +kernel
theorem tc_d4_numberFrom_5 : decode tc_i4_numberFrom.2.1 5 = .ok (.aload_n 0, 1) := by decide +kernel
theorem tc_d4_numberFrom_6 : decode tc_i4_numberFrom.2.1 6 = .ok (.getfield 25, 3) := by decide +kernel
theorem tc_d4_numberFrom_9 : decode tc_i4_numberFrom.2.1 9 = .ok (.if_icmp .ge 24, 3) := by decide +kernel
theorem tc_d4_numberFrom_12 : decode tc_i4_numberFrom.2.1 12 = .ok (.iload_n 2, 1) := by decide +kernel
theorem tc_d4_numberFrom_13 : decode tc_i4_numberFrom.2.1 13 = .ok (.bipush 10, 2) := by decide +kernel
theorem tc_d4_numberFrom_15 : decode tc_i4_numberFrom.2.1 15 = .ok (.imul, 1) := by decide +kernel
theorem tc_d4_numberFrom_16 : decode tc_i4_numberFrom.2.1 16 = .ok (.aload_n 0, 1) := by decide +kernel
theorem tc_d4_numberFrom_17 : decode tc_i4_numberFrom.2.1 17 = .ok (.getfield 9, 3) := by decide +kernel
theorem tc_d4_numberFrom_20 : decode tc_i4_numberFrom.2.1 20 = .ok (.iload_n 3, 1) := by decide +kernel
theorem tc_d4_numberFrom_21 : decode tc_i4_numberFrom.2.1 21 = .ok (.iaload, 1) := by decide +kernel
theorem tc_d4_numberFrom_22 : decode tc_i4_numberFrom.2.1 22 = .ok (.iadd, 1) := by decide +kernel
theorem tc_d4_numberFrom_23 : decode tc_i4_numberFrom.2.1 23 = .ok (.bipush 48, 2) := by decide +kernel
theorem tc_d4_numberFrom_25 : decode tc_i4_numberFrom.2.1 25 = .ok (.isub, 1) := by decide +kernel
theorem tc_d4_numberFrom_26 : decode tc_i4_numberFrom.2.1 26 = .ok (.istore_n 2, 1) := by decide +kernel
theorem tc_d4_numberFrom_27 : decode tc_i4_numberFrom.2.1 27 = .ok (.iinc 3 1, 3) := by decide +kernel
theorem tc_d4_numberFrom_30 : decode tc_i4_numberFrom.2.1 30 = .ok (.goto (-26), 3) := by decide +kernel
theorem tc_d4_numberFrom_33 : decode tc_i4_numberFrom.2.1 33 = .ok (.iload_n 2, 1) := by decide +kernel
theorem tc_d4_numberFrom_34 : decode tc_i4_numberFrom.2.1 34 = .ok (.ireturn, 1) := by decide +kernel
theorem tc_d4_skipBlanks_0 : decode tc_i4_skipBlanks.2.1 0 = .ok (.aload_n 0, 1) := by decide +kernel
theorem tc_d4_skipBlanks_1 : decode tc_i4_skipBlanks.2.1 1 = .ok (.getfield 25, 3) := by decide +kernel
theorem tc_d4_skipBlanks_4 : decode tc_i4_skipBlanks.2.1 4 = .ok (.aload_n 0, 1) := by decide +kernel
theorem tc_d4_skipBlanks_5 : decode tc_i4_skipBlanks.2.1 5 = .ok (.getfield 21, 3) := by decide +kernel
theorem tc_d4_skipBlanks_8 : decode tc_i4_skipBlanks.2.1 8 = .ok (.if_icmp .ge 44, 3) := by decide +kernel
theorem tc_d4_skipBlanks_11 : decode tc_i4_skipBlanks.2.1 11 = .ok (.aload_n 0, 1) := by decide +kernel
theorem tc_d4_skipBlanks_12 : decode tc_i4_skipBlanks.2.1 12 = .ok (.getfield 9, 3) := by decide +kernel
theorem tc_d4_skipBlanks_15 : decode tc_i4_skipBlanks.2.1 15 = .ok (.aload_n 0, 1) := by decide +kernel
theorem tc_d4_skipBlanks_16 : decode tc_i4_skipBlanks.2.1 16 = .ok (.getfield 25, 3) := by decide +kernel
theorem tc_d4_skipBlanks_19 : decode tc_i4_skipBlanks.2.1 19 = .ok (.iaload, 1) := by decide +kernel
theorem tc_d4_skipBlanks_20 : decode tc_i4_skipBlanks.2.1 20 = .ok (.bipush 32, 2) := by decide +kernel
theorem tc_d4_skipBlanks_22 : decode tc_i4_skipBlanks.2.1 22 = .ok (.if_icmp .eq 17, 3) := by decide +kernel
theorem tc_d4_skipBlanks_25 : decode tc_i4_skipBlanks.2.1 25 = .ok (.aload_n 0, 1) := by decide +kernel
theorem tc_d4_skipBlanks_26 : decode tc_i4_skipBlanks.2.1 26 = .ok (.getfield 9, 3) := by decide +kernel
theorem tc_d4_skipBlanks_29 : decode tc_i4_skipBlanks.2.1 29 = .ok (.aload_n 0, 1) := by decide +kernel
theorem tc_d4_skipBlanks_30 : decode tc_i4_skipBlanks.2.1 30 = .ok (.getfield 25, 3) := by decide +kernel
theorem tc_d4_skipBlanks_33 : decode tc_i4_skipBlanks.2.1 33 = .ok (.iaload, 1) := by decide +kernel
theorem tc_d4_skipBlanks_34 : decode tc_i4_skipBlanks.2.1 34 = .ok (.bipush 10, 2) := by decide +kernel
theorem tc_d4_skipBlanks_36 : decode tc_i4_skipBlanks.2.1 36 = .ok (.if_icmp .ne 16, 3) := by decide +kernel
theorem tc_d4_skipBlanks_39 : decode tc_i4_skipBlanks.2.1 39 = .ok (.aload_n 0, 1) := by decide +kernel
theorem tc_d4_skipBlanks_40 : decode tc_i4_skipBlanks.2.1 40 = .ok (.dup, 1) := by decide +kernel
theorem tc_d4_skipBlanks_41 : decode tc_i4_skipBlanks.2.1 41 = .ok (.getfield 25, 3) := by decide +kernel
theorem tc_d4_skipBlanks_44 : decode tc_i4_skipBlanks.2.1 44 = .ok (.iconst 1, 1) := by decide +kernel
theorem tc_d4_skipBlanks_45 : decode tc_i4_skipBlanks.2.1 45 = .ok (.iadd, 1) := by decide +kernel
theorem tc_d4_skipBlanks_46 : decode tc_i4_skipBlanks.2.1 46 = .ok (.putfield 25, 3) := by decide +kernel
theorem tc_d4_skipBlanks_49 : decode tc_i4_skipBlanks.2.1 49 = .ok (.goto (-49), 3) := by decide +kernel
theorem tc_d4_skipBlanks_52 : decode tc_i4_skipBlanks.2.1 52 = .ok (.return_, 1) := by decide +kernel
theorem tc_d4_skipAll_0 : decode tc_i4_skipAll.2.1 0 = .ok (.aload_n 0, 1) := by decide +kernel
theorem tc_d4_skipAll_1 : decode tc_i4_skipAll.2.1 1 = .ok (.getfield 25, 3) := by decide +kernel
theorem tc_d4_skipAll_4 : decode tc_i4_skipAll.2.1 4 = .ok (.aload_n 0, 1) := by decide +kernel
theorem tc_d4_skipAll_5 : decode tc_i4_skipAll.2.1 5 = .ok (.getfield 21, 3) := by decide +kernel
theorem tc_d4_skipAll_8 : decode tc_i4_skipAll.2.1 8 = .ok (.if_icmp .ge 42, 3) := by decide +kernel
theorem tc_d4_skipAll_11 : decode tc_i4_skipAll.2.1 11 = .ok (.aload_n 0, 1) := by decide +kernel
theorem tc_d4_skipAll_12 : decode tc_i4_skipAll.2.1 12 = .ok (.getfield 9, 3) := by decide +kernel
theorem tc_d4_skipAll_15 : decode tc_i4_skipAll.2.1 15 = .ok (.aload_n 0, 1) := by decide +kernel
theorem tc_d4_skipAll_16 : decode tc_i4_skipAll.2.1 16 = .ok (.getfield 25, 3) := by decide +kernel
theorem tc_d4_skipAll_19 : decode tc_i4_skipAll.2.1 19 = .ok (.iaload, 1) := by decide +kernel
theorem tc_d4_skipAll_20 : decode tc_i4_skipAll.2.1 20 = .ok (.iload_n 1, 1) := by decide +kernel
theorem tc_d4_skipAll_21 : decode tc_i4_skipAll.2.1 21 = .ok (.if_icmp .lt 29, 3) := by decide +kernel
theorem tc_d4_skipAll_24 : decode tc_i4_skipAll.2.1 24 = .ok (.aload_n 0, 1) := by decide +kernel
theorem tc_d4_skipAll_25 : decode tc_i4_skipAll.2.1 25 = .ok (.getfield 9, 3) := by decide +kernel
theorem tc_d4_skipAll_28 : decode tc_i4_skipAll.2.1 28 = .ok (.aload_n 0, 1) := by decide +kernel
theorem tc_d4_skipAll_29 : decode tc_i4_skipAll.2.1 29 = .ok (.getfield 25, 3) := by decide +kernel
theorem tc_d4_skipAll_32 : decode tc_i4_skipAll.2.1 32 = .ok (.iaload, 1) := by decide +kernel
theorem tc_d4_skipAll_33 : decode tc_i4_skipAll.2.1 33 = .ok (.iload_n 2, 1) := by decide +kernel
theorem tc_d4_skipAll_34 : decode tc_i4_skipAll.2.1 34 = .ok (.if_icmp .gt 16, 3) := by decide +kernel
theorem tc_d4_skipAll_37 : decode tc_i4_skipAll.2.1 37 = .ok (.aload_n 0, 1) := by decide +kernel
theorem tc_d4_skipAll_38 : decode tc_i4_skipAll.2.1 38 = .ok (.dup, 1) := by decide +kernel
theorem tc_d4_skipAll_39 : decode tc_i4_skipAll.2.1 39 = .ok (.getfield 25, 3) := by decide +kernel
theorem tc_d4_skipAll_42 : decode tc_i4_skipAll.2.1 42 = .ok (.iconst 1, 1) := by decide +kernel
theorem tc_d4_skipAll_43 : decode tc_i4_skipAll.2.1 43 = .ok (.iadd, 1) := by decide +kernel
theorem tc_d4_skipAll_44 : decode tc_i4_skipAll.2.1 44 = .ok (.putfield 25, 3) := by decide +kernel
theorem tc_d4_skipAll_47 : decode tc_i4_skipAll.2.1 47 = .ok (.goto (-47), 3) := by decide +kernel
theorem tc_d4_skipAll_50 : decode tc_i4_skipAll.2.1 50 = .ok (.return_, 1) := by decide +kernel
theorem tc_d2_clearing_0 : decode tc_i2_clearing.2.1 0 = .ok (.aload_n 0, 1) := by decide +kernel
theorem tc_d2_clearing_1 : decode tc_i2_clearing.2.1 1 = .ok (.getfield 18, 3) := by decide +kernel
theorem tc_d2_clearing_4 : decode tc_i2_clearing.2.1 4 = .ok (.aload_n 0, 1) := by decide +kernel
theorem tc_d2_clearing_5 : decode tc_i2_clearing.2.1 5 = .ok (.getfield 9, 3) := by decide +kernel
theorem tc_d2_clearing_8 : decode tc_i2_clearing.2.1 8 = .ok (.invokevirtual 28, 3) := by decide +kernel
theorem tc_d2_clearing_11 : decode tc_i2_clearing.2.1 11 = .ok (.iconst 1, 1) := by decide +kernel
theorem tc_d2_clearing_12 : decode tc_i2_clearing.2.1 12 = .ok (.istore_n 2, 1) := by decide +kernel
theorem tc_d2_clearing_13 : decode tc_i2_clearing.2.1 13 = .ok (.iload_n 2, 1) := by decide +kernel
theorem tc_d2_clearing_14 : decode tc_i2_clearing.2.1 14 = .ok (.bipush 20, 2) := by decide +kernel
theorem tc_d2_clearing_16 : decode tc_i2_clearing.2.1 16 = .ok (.if_icmp .gt 39, 3) := by decide +kernel
theorem tc_d2_clearing_19 : decode tc_i2_clearing.2.1 19 = .ok (.aload_n 0, 1) := by decide +kernel
theorem tc_d2_clearing_20 : decode tc_i2_clearing.2.1 20 = .ok (.getfield 24, 3) := by decide +kernel
theorem tc_d2_clearing_23 : decode tc_i2_clearing.2.1 23 = .ok (.aload_n 0, 1) := by decide +kernel
theorem tc_d2_clearing_24 : decode tc_i2_clearing.2.1 24 = .ok (.getfield 18, 3) := by decide +kernel
theorem tc_d2_clearing_27 : decode tc_i2_clearing.2.1 27 = .ok (.invokevirtual 32, 3) := by decide +kernel
theorem tc_d2_clearing_30 : decode tc_i2_clearing.2.1 30 = .ok (.ifCond .ne 5, 3) := by decide +kernel
theorem tc_d2_clearing_33 : decode tc_i2_clearing.2.1 33 = .ok (.iconst (-1), 1) := by decide +kernel
theorem tc_d2_clearing_34 : decode tc_i2_clearing.2.1 34 = .ok (.ireturn, 1) := by decide +kernel
theorem tc_d2_clearing_35 : decode tc_i2_clearing.2.1 35 = .ok (.aload_n 0, 1) := by decide +kernel
theorem tc_d2_clearing_36 : decode tc_i2_clearing.2.1 36 = .ok (.getfield 18, 3) := by decide +kernel
theorem tc_d2_clearing_39 : decode tc_i2_clearing.2.1 39 = .ok (.iload_n 1, 1) := by decide +kernel
theorem tc_d2_clearing_40 : decode tc_i2_clearing.2.1 40 = .ok (.invokevirtual 59, 3) := by decide +kernel
theorem tc_d2_clearing_43 : decode tc_i2_clearing.2.1 43 = .ok (.iconst 1, 1) := by decide +kernel
theorem tc_d2_clearing_44 : decode tc_i2_clearing.2.1 44 = .ok (.if_icmp .ne 5, 3) := by decide +kernel
theorem tc_d2_clearing_47 : decode tc_i2_clearing.2.1 47 = .ok (.iload_n 2, 1) := by decide +kernel
theorem tc_d2_clearing_48 : decode tc_i2_clearing.2.1 48 = .ok (.ireturn, 1) := by decide +kernel
theorem tc_d2_clearing_49 : decode tc_i2_clearing.2.1 49 = .ok (.iinc 2 1, 3) := by decide +kernel
theorem tc_d2_clearing_52 : decode tc_i2_clearing.2.1 52 = .ok (.goto (-39), 3) := by decide +kernel
theorem tc_d2_clearing_55 : decode tc_i2_clearing.2.1 55 = .ok (.iconst (-1), 1) := by decide +kernel
theorem tc_d2_clearing_56 : decode tc_i2_clearing.2.1 56 = .ok (.ireturn, 1) := by decide +kernel
theorem tc_d2_layCaseFault_0 : decode tc_i2_layCaseFault.2.1 0 = .ok (.aload_n 0, 1) := by decide +kernel
theorem tc_d2_layCaseFault_1 : decode tc_i2_layCaseFault.2.1 1 = .ok (.getfield 18, 3) := by decide +kernel
theorem tc_d2_layCaseFault_4 : decode tc_i2_layCaseFault.2.1 4 = .ok (.aload_n 0, 1) := by decide +kernel
theorem tc_d2_layCaseFault_5 : decode tc_i2_layCaseFault.2.1 5 = .ok (.getfield 9, 3) := by decide +kernel
theorem tc_d2_layCaseFault_8 : decode tc_i2_layCaseFault.2.1 8 = .ok (.invokevirtual 28, 3) := by decide +kernel
theorem tc_d2_layCaseFault_11 : decode tc_i2_layCaseFault.2.1 11 = .ok (.aload_n 0, 1) := by decide +kernel
theorem tc_d2_layCaseFault_12 : decode tc_i2_layCaseFault.2.1 12 = .ok (.getfield 18, 3) := by decide +kernel
theorem tc_d2_layCaseFault_15 : decode tc_i2_layCaseFault.2.1 15 = .ok (.iload_n 2, 1) := by decide +kernel
theorem tc_d2_layCaseFault_16 : decode tc_i2_layCaseFault.2.1 16 = .ok (.putfield 77, 3) := by decide +kernel
theorem tc_d2_layCaseFault_19 : decode tc_i2_layCaseFault.2.1 19 = .ok (.iload_n 1, 1) := by decide +kernel
theorem tc_d2_layCaseFault_20 : decode tc_i2_layCaseFault.2.1 20 = .ok (.ifCond .le 20, 3) := by decide +kernel
theorem tc_d2_layCaseFault_23 : decode tc_i2_layCaseFault.2.1 23 = .ok (.aload_n 0, 1) := by decide +kernel
theorem tc_d2_layCaseFault_24 : decode tc_i2_layCaseFault.2.1 24 = .ok (.getfield 18, 3) := by decide +kernel
theorem tc_d2_layCaseFault_27 : decode tc_i2_layCaseFault.2.1 27 = .ok (.iload_n 1, 1) := by decide +kernel
theorem tc_d2_layCaseFault_28 : decode tc_i2_layCaseFault.2.1 28 = .ok (.iconst 1, 1) := by decide +kernel
theorem tc_d2_layCaseFault_29 : decode tc_i2_layCaseFault.2.1 29 = .ok (.isub, 1) := by decide +kernel
theorem tc_d2_layCaseFault_30 : decode tc_i2_layCaseFault.2.1 30 = .ok (.iconst 4, 1) := by decide +kernel
theorem tc_d2_layCaseFault_31 : decode tc_i2_layCaseFault.2.1 31 = .ok (.irem, 1) := by decide +kernel
theorem tc_d2_layCaseFault_32 : decode tc_i2_layCaseFault.2.1 32 = .ok (.iload_n 1, 1) := by decide +kernel
theorem tc_d2_layCaseFault_33 : decode tc_i2_layCaseFault.2.1 33 = .ok (.iconst 1, 1) := by decide +kernel
theorem tc_d2_layCaseFault_34 : decode tc_i2_layCaseFault.2.1 34 = .ok (.isub, 1) := by decide +kernel
theorem tc_d2_layCaseFault_35 : decode tc_i2_layCaseFault.2.1 35 = .ok (.iconst 4, 1) := by decide +kernel
theorem tc_d2_layCaseFault_36 : decode tc_i2_layCaseFault.2.1 36 = .ok (.idiv, 1) := by decide +kernel
theorem tc_d2_layCaseFault_37 : decode tc_i2_layCaseFault.2.1 37 = .ok (.invokevirtual 73, 3) := by decide +kernel
theorem tc_d2_layCaseFault_40 : decode tc_i2_layCaseFault.2.1 40 = .ok (.return_, 1) := by decide +kernel
theorem tc_d2_failsWithTrain_0 : decode tc_i2_failsWithTrain.2.1 0 = .ok (.aload_n 0, 1) := by decide +kernel
theorem tc_d2_failsWithTrain_1 : decode tc_i2_failsWithTrain.2.1 1 = .ok (.getfield 18, 3) := by decide +kernel
theorem tc_d2_failsWithTrain_4 : decode tc_i2_failsWithTrain.2.1 4 = .ok (.aload_n 0, 1) := by decide +kernel
theorem tc_d2_failsWithTrain_5 : decode tc_i2_failsWithTrain.2.1 5 = .ok (.getfield 9, 3) := by decide +kernel
theorem tc_d2_failsWithTrain_8 : decode tc_i2_failsWithTrain.2.1 8 = .ok (.getfield 53, 3) := by decide +kernel
theorem tc_d2_failsWithTrain_11 : decode tc_i2_failsWithTrain.2.1 11 = .ok (.putfield 53, 3) := by decide +kernel
theorem tc_d2_failsWithTrain_14 : decode tc_i2_failsWithTrain.2.1 14 = .ok (.aload_n 0, 1) := by decide +kernel
theorem tc_d2_failsWithTrain_15 : decode tc_i2_failsWithTrain.2.1 15 = .ok (.getfield 18, 3) := by decide +kernel
theorem tc_d2_failsWithTrain_18 : decode tc_i2_failsWithTrain.2.1 18 = .ok (.iload_n 1, 1) := by decide +kernel
theorem tc_d2_failsWithTrain_19 : decode tc_i2_failsWithTrain.2.1 19 = .ok (.ifCond .le 20, 3) := by decide +kernel
theorem tc_d2_failsWithTrain_22 : decode tc_i2_failsWithTrain.2.1 22 = .ok (.aload_n 0, 1) := by decide +kernel
theorem tc_d2_failsWithTrain_23 : decode tc_i2_failsWithTrain.2.1 23 = .ok (.getfield 9, 3) := by decide +kernel
theorem tc_d2_failsWithTrain_26 : decode tc_i2_failsWithTrain.2.1 26 = .ok (.getfield 56, 3) := by decide +kernel
theorem tc_d2_failsWithTrain_29 : decode tc_i2_failsWithTrain.2.1 29 = .ok (.iload_n 1, 1) := by decide +kernel
theorem tc_d2_failsWithTrain_30 : decode tc_i2_failsWithTrain.2.1 30 = .ok (.iconst 1, 1) := by decide +kernel
theorem tc_d2_failsWithTrain_31 : decode tc_i2_failsWithTrain.2.1 31 = .ok (.isub, 1) := by decide +kernel
theorem tc_d2_failsWithTrain_32 : decode tc_i2_failsWithTrain.2.1 32 = .ok (.iconst 1, 1) := by decide +kernel
theorem tc_d2_failsWithTrain_33 : decode tc_i2_failsWithTrain.2.1 33 = .ok (.invokestatic 99, 3) := by decide +kernel
theorem tc_d2_failsWithTrain_36 : decode tc_i2_failsWithTrain.2.1 36 = .ok (.goto 10, 3) := by decide +kernel
theorem tc_d2_failsWithTrain_39 : decode tc_i2_failsWithTrain.2.1 39 = .ok (.aload_n 0, 1) := by decide +kernel
theorem tc_d2_failsWithTrain_40 : decode tc_i2_failsWithTrain.2.1 40 = .ok (.getfield 9, 3) := by decide +kernel
theorem tc_d2_failsWithTrain_43 : decode tc_i2_failsWithTrain.2.1 43 = .ok (.getfield 56, 3) := by decide +kernel
theorem tc_d2_failsWithTrain_46 : decode tc_i2_failsWithTrain.2.1 46 = .ok (.putfield 56, 3) := by decide +kernel
theorem tc_d2_failsWithTrain_49 : decode tc_i2_failsWithTrain.2.1 49 = .ok (.aload_n 0, 1) := by decide +kernel
theorem tc_d2_failsWithTrain_50 : decode tc_i2_failsWithTrain.2.1 50 = .ok (.getfield 24, 3) := by decide +kernel
theorem tc_d2_failsWithTrain_53 : decode tc_i2_failsWithTrain.2.1 53 = .ok (.aload_n 0, 1) := by decide +kernel
theorem tc_d2_failsWithTrain_54 : decode tc_i2_failsWithTrain.2.1 54 = .ok (.getfield 18, 3) := by decide +kernel
theorem tc_d2_failsWithTrain_57 : decode tc_i2_failsWithTrain.2.1 57 = .ok (.iconst 0, 1) := by decide +kernel
theorem tc_d2_failsWithTrain_58 : decode tc_i2_failsWithTrain.2.1 58 = .ok (.invokevirtual 62, 3) := by decide +kernel
theorem tc_d2_failsWithTrain_61 : decode tc_i2_failsWithTrain.2.1 61 = .ok (.ifCond .eq 13, 3) := by decide +kernel
theorem tc_d2_failsWithTrain_64 : decode tc_i2_failsWithTrain.2.1 64 = .ok (.aload_n 0, 1) := by decide +kernel
theorem tc_d2_failsWithTrain_65 : decode tc_i2_failsWithTrain.2.1 65 = .ok (.getfield 18, 3) := by decide +kernel
theorem tc_d2_failsWithTrain_68 : decode tc_i2_failsWithTrain.2.1 68 = .ok (.invokevirtual 36, 3) := by decide +kernel
theorem tc_d2_failsWithTrain_71 : decode tc_i2_failsWithTrain.2.1 71 = .ok (.ifCond .eq 7, 3) := by decide +kernel
theorem tc_d2_failsWithTrain_74 : decode tc_i2_failsWithTrain.2.1 74 = .ok (.iconst 1, 1) := by decide +kernel
theorem tc_d2_failsWithTrain_75 : decode tc_i2_failsWithTrain.2.1 75 = .ok (.goto 4, 3) := by decide +kernel
theorem tc_d2_failsWithTrain_78 : decode tc_i2_failsWithTrain.2.1 78 = .ok (.iconst 0, 1) := by decide +kernel
theorem tc_d2_failsWithTrain_79 : decode tc_i2_failsWithTrain.2.1 79 = .ok (.ireturn, 1) := by decide +kernel
theorem tc_d2_failingCases_0 : decode tc_i2_failingCases.2.1 0 = .ok (.iconst 0, 1) := by decide +kernel
theorem tc_d2_failingCases_1 : decode tc_i2_failingCases.2.1 1 = .ok (.istore_n 1, 1) := by decide +kernel
theorem tc_d2_failingCases_2 : decode tc_i2_failingCases.2.1 2 = .ok (.iconst 0, 1) := by decide +kernel
theorem tc_d2_failingCases_3 : decode tc_i2_failingCases.2.1 3 = .ok (.istore_n 2, 1) := by decide +kernel
theorem tc_d2_failingCases_4 : decode tc_i2_failingCases.2.1 4 = .ok (.iload_n 2, 1) := by decide +kernel
theorem tc_d2_failingCases_5 : decode tc_i2_failingCases.2.1 5 = .ok (.iconst 4, 1) := by decide +kernel
theorem tc_d2_failingCases_6 : decode tc_i2_failingCases.2.1 6 = .ok (.aload_n 0, 1) := by decide +kernel
theorem tc_d2_failingCases_7 : decode tc_i2_failingCases.2.1 7 = .ok (.getfield 9, 3) := by decide +kernel
theorem tc_d2_failingCases_10 : decode tc_i2_failingCases.2.1 10 = .ok (.getfield 86, 3) := by decide +kernel
theorem tc_d2_failingCases_13 : decode tc_i2_failingCases.2.1 13 = .ok (.imul, 1) := by decide +kernel
theorem tc_d2_failingCases_14 : decode tc_i2_failingCases.2.1 14 = .ok (.if_icmp .gt 51, 3) := by decide +kernel
theorem tc_d2_failingCases_17 : decode tc_i2_failingCases.2.1 17 = .ok (.aload_n 0, 1) := by decide +kernel
theorem tc_d2_failingCases_18 : decode tc_i2_failingCases.2.1 18 = .ok (.iload_n 2, 1) := by decide +kernel
theorem tc_d2_failingCases_19 : decode tc_i2_failingCases.2.1 19 = .ok (.aload_n 0, 1) := by decide +kernel
theorem tc_d2_failingCases_20 : decode tc_i2_failingCases.2.1 20 = .ok (.getfield 9, 3) := by decide +kernel
theorem tc_d2_failingCases_23 : decode tc_i2_failingCases.2.1 23 = .ok (.getfield 77, 3) := by decide +kernel
theorem tc_d2_failingCases_26 : decode tc_i2_failingCases.2.1 26 = .ok (.invokevirtual 89, 3) := by decide +kernel
theorem tc_d2_failingCases_29 : decode tc_i2_failingCases.2.1 29 = .ok (.iconst 0, 1) := by decide +kernel
theorem tc_d2_failingCases_30 : decode tc_i2_failingCases.2.1 30 = .ok (.istore_n 3, 1) := by decide +kernel
theorem tc_d2_failingCases_31 : decode tc_i2_failingCases.2.1 31 = .ok (.iload_n 3, 1) := by decide +kernel
theorem tc_d2_failingCases_32 : decode tc_i2_failingCases.2.1 32 = .ok (.aload_n 0, 1) := by decide +kernel
theorem tc_d2_failingCases_33 : decode tc_i2_failingCases.2.1 33 = .ok (.getfield 9, 3) := by decide +kernel
theorem tc_d2_failingCases_36 : decode tc_i2_failingCases.2.1 36 = .ok (.getfield 86, 3) := by decide +kernel
theorem tc_d2_failingCases_39 : decode tc_i2_failingCases.2.1 39 = .ok (.if_icmp .gt 20, 3) := by decide +kernel
theorem tc_d2_failingCases_42 : decode tc_i2_failingCases.2.1 42 = .ok (.aload_n 0, 1) := by decide +kernel
theorem tc_d2_failingCases_43 : decode tc_i2_failingCases.2.1 43 = .ok (.iload_n 3, 1) := by decide +kernel
theorem tc_d2_failingCases_44 : decode tc_i2_failingCases.2.1 44 = .ok (.invokevirtual 92, 3) := by decide +kernel
theorem tc_d2_failingCases_47 : decode tc_i2_failingCases.2.1 47 = .ok (.ifCond .eq 6, 3) := by decide +kernel
theorem tc_d2_failingCases_50 : decode tc_i2_failingCases.2.1 50 = .ok (.iinc 1 1, 3) := by decide +kernel
theorem tc_d2_failingCases_53 : decode tc_i2_failingCases.2.1 53 = .ok (.iinc 3 1, 3) := by decide +kernel
theorem tc_d2_failingCases_56 : decode tc_i2_failingCases.2.1 56 = .ok (.goto (-25), 3) := by decide +kernel
theorem tc_d2_failingCases_59 : decode tc_i2_failingCases.2.1 59 = .ok (.iinc 2 1, 3) := by decide +kernel
theorem tc_d2_failingCases_62 : decode tc_i2_failingCases.2.1 62 = .ok (.goto (-58), 3) := by decide +kernel
theorem tc_d2_failingCases_65 : decode tc_i2_failingCases.2.1 65 = .ok (.iload_n 1, 1) := by decide +kernel
theorem tc_d2_failingCases_66 : decode tc_i2_failingCases.2.1 66 = .ok (.ireturn, 1) := by decide +kernel
theorem tc_d2_troubleWithout_0 : decode tc_i2_troubleWithout.2.1 0 = .ok (.aload_n 0, 1) := by decide +kernel
theorem tc_d2_troubleWithout_1 : decode tc_i2_troubleWithout.2.1 1 = .ok (.getfield 18, 3) := by decide +kernel
theorem tc_d2_troubleWithout_4 : decode tc_i2_troubleWithout.2.1 4 = .ok (.aload_n 0, 1) := by decide +kernel
theorem tc_d2_troubleWithout_5 : decode tc_i2_troubleWithout.2.1 5 = .ok (.getfield 9, 3) := by decide +kernel
theorem tc_d2_troubleWithout_8 : decode tc_i2_troubleWithout.2.1 8 = .ok (.invokevirtual 28, 3) := by decide +kernel
theorem tc_d2_troubleWithout_11 : decode tc_i2_troubleWithout.2.1 11 = .ok (.iload_n 1, 1) := by decide +kernel
theorem tc_d2_troubleWithout_12 : decode tc_i2_troubleWithout.2.1 12 = .ok (.iconst (-1), 1) := by decide +kernel
theorem tc_d2_troubleWithout_13 : decode tc_i2_troubleWithout.2.1 13 = .ok (.if_icmp .eq 14, 3) := by decide +kernel
theorem tc_d2_troubleWithout_16 : decode tc_i2_troubleWithout.2.1 16 = .ok (.aload_n 0, 1) := by decide +kernel
theorem tc_d2_troubleWithout_17 : decode tc_i2_troubleWithout.2.1 17 = .ok (.getfield 18, 3) := by decide +kernel
theorem tc_d2_troubleWithout_20 : decode tc_i2_troubleWithout.2.1 20 = .ok (.getfield 106, 3) := by decide +kernel
theorem tc_d2_troubleWithout_23 : decode tc_i2_troubleWithout.2.1 23 = .ok (.iload_n 1, 1) := by decide +kernel
theorem tc_d2_troubleWithout_24 : decode tc_i2_troubleWithout.2.1 24 = .ok (.invokevirtual 115, 3) := by decide +kernel
theorem tc_d2_troubleWithout_27 : decode tc_i2_troubleWithout.2.1 27 = .ok (.aload_n 0, 1) := by decide +kernel
theorem tc_d2_troubleWithout_28 : decode tc_i2_troubleWithout.2.1 28 = .ok (.getfield 24, 3) := by decide +kernel
theorem tc_d2_troubleWithout_31 : decode tc_i2_troubleWithout.2.1 31 = .ok (.aload_n 0, 1) := by decide +kernel
theorem tc_d2_troubleWithout_32 : decode tc_i2_troubleWithout.2.1 32 = .ok (.getfield 18, 3) := by decide +kernel
theorem tc_d2_troubleWithout_35 : decode tc_i2_troubleWithout.2.1 35 = .ok (.iconst 0, 1) := by decide +kernel
theorem tc_d2_troubleWithout_36 : decode tc_i2_troubleWithout.2.1 36 = .ok (.invokevirtual 62, 3) := by decide +kernel
theorem tc_d2_troubleWithout_39 : decode tc_i2_troubleWithout.2.1 39 = .ok (.ifCond .ne 6, 3) := by decide +kernel
theorem tc_d2_troubleWithout_42 : decode tc_i2_troubleWithout.2.1 42 = .ok (.bipush 16, 2) := by decide +kernel
theorem tc_d2_troubleWithout_44 : decode tc_i2_troubleWithout.2.1 44 = .ok (.ireturn, 1) := by decide +kernel
theorem tc_d2_troubleWithout_45 : decode tc_i2_troubleWithout.2.1 45 = .ok (.aload_n 0, 1) := by decide +kernel
theorem tc_d2_troubleWithout_46 : decode tc_i2_troubleWithout.2.1 46 = .ok (.getfield 18, 3) := by decide +kernel
theorem tc_d2_troubleWithout_49 : decode tc_i2_troubleWithout.2.1 49 = .ok (.invokevirtual 36, 3) := by decide +kernel
theorem tc_d2_troubleWithout_52 : decode tc_i2_troubleWithout.2.1 52 = .ok (.invokestatic 40, 3) := by decide +kernel
theorem tc_d2_troubleWithout_55 : decode tc_i2_troubleWithout.2.1 55 = .ok (.aload_n 0, 1) := by decide +kernel
theorem tc_d2_troubleWithout_56 : decode tc_i2_troubleWithout.2.1 56 = .ok (.getfield 18, 3) := by decide +kernel
theorem tc_d2_troubleWithout_59 : decode tc_i2_troubleWithout.2.1 59 = .ok (.invokevirtual 83, 3) := by decide +kernel
theorem tc_d2_troubleWithout_62 : decode tc_i2_troubleWithout.2.1 62 = .ok (.invokestatic 40, 3) := by decide +kernel
theorem tc_d2_troubleWithout_65 : decode tc_i2_troubleWithout.2.1 65 = .ok (.iadd, 1) := by decide +kernel
theorem tc_d2_troubleWithout_66 : decode tc_i2_troubleWithout.2.1 66 = .ok (.ireturn, 1) := by decide +kernel
theorem tc_d2_faultToMend_0 : decode tc_i2_faultToMend.2.1 0 = .ok (.iconst (-1), 1) := by decide +kernel
theorem tc_d2_faultToMend_1 : decode tc_i2_faultToMend.2.1 1 = .ok (.istore_n 1, 1) := by decide +kernel
theorem tc_d2_faultToMend_2 : decode tc_i2_faultToMend.2.1 2 = .ok (.aload_n 0, 1) := by decide +kernel
theorem tc_d2_faultToMend_3 : decode tc_i2_faultToMend.2.1 3 = .ok (.iconst (-1), 1) := by decide +kernel
theorem tc_d2_faultToMend_4 : decode tc_i2_faultToMend.2.1 4 = .ok (.invokevirtual 103, 3) := by decide +kernel
theorem tc_d2_faultToMend_7 : decode tc_i2_faultToMend.2.1 7 = .ok (.istore_n 2, 1) := by decide +kernel
theorem tc_d2_faultToMend_8 : decode tc_i2_faultToMend.2.1 8 = .ok (.iconst 0, 1) := by decide +kernel
theorem tc_d2_faultToMend_9 : decode tc_i2_faultToMend.2.1 9 = .ok (.istore_n 3, 1) := by decide +kernel
theorem tc_d2_faultToMend_10 : decode tc_i2_faultToMend.2.1 10 = .ok (.iload_n 3, 1) := by decide +kernel
theorem tc_d2_faultToMend_11 : decode tc_i2_faultToMend.2.1 11 = .ok (.aload_n 0, 1) := by decide +kernel
theorem tc_d2_faultToMend_12 : decode tc_i2_faultToMend.2.1 12 = .ok (.getfield 9, 3) := by decide +kernel
theorem tc_d2_faultToMend_15 : decode tc_i2_faultToMend.2.1 15 = .ok (.getfield 106, 3) := by decide +kernel
theorem tc_d2_faultToMend_18 : decode tc_i2_faultToMend.2.1 18 = .ok (.getfield 110, 3) := by decide +kernel
theorem tc_d2_faultToMend_21 : decode tc_i2_faultToMend.2.1 21 = .ok (.if_icmp .ge 27, 3) := by decide +kernel
theorem tc_d2_faultToMend_24 : decode tc_i2_faultToMend.2.1 24 = .ok (.aload_n 0, 1) := by decide +kernel
theorem tc_d2_faultToMend_25 : decode tc_i2_faultToMend.2.1 25 = .ok (.iload_n 3, 1) := by decide +kernel
theorem tc_d2_faultToMend_26 : decode tc_i2_faultToMend.2.1 26 = .ok (.invokevirtual 103, 3) := by decide +kernel
theorem tc_d2_faultToMend_29 : decode tc_i2_faultToMend.2.1 29 = .ok (.istore 4, 2) := by decide +kernel
theorem tc_d2_faultToMend_31 : decode tc_i2_faultToMend.2.1 31 = .ok (.iload 4, 2) := by decide +kernel
theorem tc_d2_faultToMend_33 : decode tc_i2_faultToMend.2.1 33 = .ok (.iload_n 2, 1) := by decide +kernel
theorem tc_d2_faultToMend_34 : decode tc_i2_faultToMend.2.1 34 = .ok (.if_icmp .ge 8, 3) := by decide +kernel
theorem tc_d2_faultToMend_37 : decode tc_i2_faultToMend.2.1 37 = .ok (.iload 4, 2) := by decide +kernel
theorem tc_d2_faultToMend_39 : decode tc_i2_faultToMend.2.1 39 = .ok (.istore_n 2, 1) := by decide +kernel
theorem tc_d2_faultToMend_40 : decode tc_i2_faultToMend.2.1 40 = .ok (.iload_n 3, 1) := by decide +kernel
theorem tc_d2_faultToMend_41 : decode tc_i2_faultToMend.2.1 41 = .ok (.istore_n 1, 1) := by decide +kernel
theorem tc_d2_faultToMend_42 : decode tc_i2_faultToMend.2.1 42 = .ok (.iinc 3 1, 3) := by decide +kernel
theorem tc_d2_faultToMend_45 : decode tc_i2_faultToMend.2.1 45 = .ok (.goto (-35), 3) := by decide +kernel
theorem tc_d2_faultToMend_48 : decode tc_i2_faultToMend.2.1 48 = .ok (.iload_n 1, 1) := by decide +kernel
theorem tc_d2_faultToMend_49 : decode tc_i2_faultToMend.2.1 49 = .ok (.ireturn, 1) := by decide +kernel
theorem tc_d2_firstFailingCase_0 : decode tc_i2_firstFailingCase.2.1 0 = .ok (.iconst 0, 1) := by decide +kernel
theorem tc_d2_firstFailingCase_1 : decode tc_i2_firstFailingCase.2.1 1 = .ok (.istore_n 2, 1) := by decide +kernel
theorem tc_d2_firstFailingCase_2 : decode tc_i2_firstFailingCase.2.1 2 = .ok (.iload_n 2, 1) := by decide +kernel
theorem tc_d2_firstFailingCase_3 : decode tc_i2_firstFailingCase.2.1 3 = .ok (.iconst 4, 1) := by decide +kernel
theorem tc_d2_firstFailingCase_4 : decode tc_i2_firstFailingCase.2.1 4 = .ok (.aload_n 0, 1) := by decide +kernel
theorem tc_d2_firstFailingCase_5 : decode tc_i2_firstFailingCase.2.1 5 = .ok (.getfield 9, 3) := by decide +kernel
theorem tc_d2_firstFailingCase_8 : decode tc_i2_firstFailingCase.2.1 8 = .ok (.getfield 86, 3) := by decide +kernel
theorem tc_d2_firstFailingCase_11 : decode tc_i2_firstFailingCase.2.1 11 = .ok (.imul, 1) := by decide +kernel
theorem tc_d2_firstFailingCase_12 : decode tc_i2_firstFailingCase.2.1 12 = .ok (.if_icmp .gt 49, 3) := by decide +kernel
theorem tc_d2_firstFailingCase_15 : decode tc_i2_firstFailingCase.2.1 15 = .ok (.aload_n 0, 1) := by decide +kernel
theorem tc_d2_firstFailingCase_16 : decode tc_i2_firstFailingCase.2.1 16 = .ok (.iload_n 2, 1) := by decide +kernel
theorem tc_d2_firstFailingCase_17 : decode tc_i2_firstFailingCase.2.1 17 = .ok (.iload_n 1, 1) := by decide +kernel
theorem tc_d2_firstFailingCase_18 : decode tc_i2_firstFailingCase.2.1 18 = .ok (.invokevirtual 89, 3) := by decide +kernel
theorem tc_d2_firstFailingCase_21 : decode tc_i2_firstFailingCase.2.1 21 = .ok (.iconst 0, 1) := by decide +kernel
theorem tc_d2_firstFailingCase_22 : decode tc_i2_firstFailingCase.2.1 22 = .ok (.istore_n 3, 1) := by decide +kernel
theorem tc_d2_firstFailingCase_23 : decode tc_i2_firstFailingCase.2.1 23 = .ok (.iload_n 3, 1) := by decide +kernel
theorem tc_d2_firstFailingCase_24 : decode tc_i2_firstFailingCase.2.1 24 = .ok (.aload_n 0, 1) := by decide +kernel
theorem tc_d2_firstFailingCase_25 : decode tc_i2_firstFailingCase.2.1 25 = .ok (.getfield 9, 3) := by decide +kernel
theorem tc_d2_firstFailingCase_28 : decode tc_i2_firstFailingCase.2.1 28 = .ok (.getfield 86, 3) := by decide +kernel
theorem tc_d2_firstFailingCase_31 : decode tc_i2_firstFailingCase.2.1 31 = .ok (.if_icmp .gt 24, 3) := by decide +kernel
theorem tc_d2_firstFailingCase_34 : decode tc_i2_firstFailingCase.2.1 34 = .ok (.aload_n 0, 1) := by decide +kernel
theorem tc_d2_firstFailingCase_35 : decode tc_i2_firstFailingCase.2.1 35 = .ok (.iload_n 3, 1) := by decide +kernel
theorem tc_d2_firstFailingCase_36 : decode tc_i2_firstFailingCase.2.1 36 = .ok (.invokevirtual 92, 3) := by decide +kernel
theorem tc_d2_firstFailingCase_39 : decode tc_i2_firstFailingCase.2.1 39 = .ok (.ifCond .eq 10, 3) := by decide +kernel
theorem tc_d2_firstFailingCase_42 : decode tc_i2_firstFailingCase.2.1 42 = .ok (.bipush 100, 2) := by decide +kernel
theorem tc_d2_firstFailingCase_44 : decode tc_i2_firstFailingCase.2.1 44 = .ok (.iload_n 2, 1) := by decide +kernel
theorem tc_d2_firstFailingCase_45 : decode tc_i2_firstFailingCase.2.1 45 = .ok (.imul, 1) := by decide +kernel
theorem tc_d2_firstFailingCase_46 : decode tc_i2_firstFailingCase.2.1 46 = .ok (.iload_n 3, 1) := by decide +kernel
theorem tc_d2_firstFailingCase_47 : decode tc_i2_firstFailingCase.2.1 47 = .ok (.iadd, 1) := by decide +kernel
theorem tc_d2_firstFailingCase_48 : decode tc_i2_firstFailingCase.2.1 48 = .ok (.ireturn, 1) := by decide +kernel
theorem tc_d2_firstFailingCase_49 : decode tc_i2_firstFailingCase.2.1 49 = .ok (.iinc 3 1, 3) := by decide +kernel
theorem tc_d2_firstFailingCase_52 : decode tc_i2_firstFailingCase.2.1 52 = .ok (.goto (-29), 3) := by decide +kernel
theorem tc_d2_firstFailingCase_55 : decode tc_i2_firstFailingCase.2.1 55 = .ok (.iinc 2 1, 3) := by decide +kernel
theorem tc_d2_firstFailingCase_58 : decode tc_i2_firstFailingCase.2.1 58 = .ok (.goto (-56), 3) := by decide +kernel
theorem tc_d2_firstFailingCase_61 : decode tc_i2_firstFailingCase.2.1 61 = .ok (.iconst (-1), 1) := by decide +kernel
theorem tc_d2_firstFailingCase_62 : decode tc_i2_firstFailingCase.2.1 62 = .ok (.ireturn, 1) := by decide +kernel
theorem tc_d2_firstOtherwise_0 : decode tc_i2_firstOtherwise.2.1 0 = .ok (.aload_n 0, 1) := by decide +kernel
theorem tc_d2_firstOtherwise_1 : decode tc_i2_firstOtherwise.2.1 1 = .ok (.getfield 18, 3) := by decide +kernel
theorem tc_d2_firstOtherwise_4 : decode tc_i2_firstOtherwise.2.1 4 = .ok (.aload_n 0, 1) := by decide +kernel
theorem tc_d2_firstOtherwise_5 : decode tc_i2_firstOtherwise.2.1 5 = .ok (.getfield 9, 3) := by decide +kernel
theorem tc_d2_firstOtherwise_8 : decode tc_i2_firstOtherwise.2.1 8 = .ok (.invokevirtual 28, 3) := by decide +kernel
theorem tc_d2_firstOtherwise_11 : decode tc_i2_firstOtherwise.2.1 11 = .ok (.aload_n 0, 1) := by decide +kernel
theorem tc_d2_firstOtherwise_12 : decode tc_i2_firstOtherwise.2.1 12 = .ok (.getfield 18, 3) := by decide +kernel
theorem tc_d2_firstOtherwise_15 : decode tc_i2_firstOtherwise.2.1 15 = .ok (.getfield 124, 3) := by decide +kernel
theorem tc_d2_firstOtherwise_18 : decode tc_i2_firstOtherwise.2.1 18 = .ok (.iload_n 3, 1) := by decide +kernel
theorem tc_d2_firstOtherwise_19 : decode tc_i2_firstOtherwise.2.1 19 = .ok (.iload 4, 2) := by decide +kernel
theorem tc_d2_firstOtherwise_21 : decode tc_i2_firstOtherwise.2.1 21 = .ok (.iastore, 1) := by decide +kernel
theorem tc_d2_firstOtherwise_22 : decode tc_i2_firstOtherwise.2.1 22 = .ok (.aload_n 1, 1) := by decide +kernel
theorem tc_d2_firstOtherwise_23 : decode tc_i2_firstOtherwise.2.1 23 = .ok (.getfield 128, 3) := by decide +kernel
theorem tc_d2_firstOtherwise_26 : decode tc_i2_firstOtherwise.2.1 26 = .ok (.iload_n 2, 1) := by decide +kernel
theorem tc_d2_firstOtherwise_27 : decode tc_i2_firstOtherwise.2.1 27 = .ok (.iaload, 1) := by decide +kernel
theorem tc_d2_firstOtherwise_28 : decode tc_i2_firstOtherwise.2.1 28 = .ok (.istore 5, 2) := by decide +kernel
theorem tc_d2_firstOtherwise_30 : decode tc_i2_firstOtherwise.2.1 30 = .ok (.iconst 0, 1) := by decide +kernel
theorem tc_d2_firstOtherwise_31 : decode tc_i2_firstOtherwise.2.1 31 = .ok (.istore 6, 2) := by decide +kernel
theorem tc_d2_firstOtherwise_33 : decode tc_i2_firstOtherwise.2.1 33 = .ok (.iload 6, 2) := by decide +kernel
theorem tc_d2_firstOtherwise_35 : decode tc_i2_firstOtherwise.2.1 35 = .ok (.iload 5, 2) := by decide +kernel
theorem tc_d2_firstOtherwise_37 : decode tc_i2_firstOtherwise.2.1 37 = .ok (.if_icmp .ge 54, 3) := by decide +kernel
theorem tc_d2_firstOtherwise_40 : decode tc_i2_firstOtherwise.2.1 40 = .ok (.aload_n 0, 1) := by decide +kernel
theorem tc_d2_firstOtherwise_41 : decode tc_i2_firstOtherwise.2.1 41 = .ok (.getfield 24, 3) := by decide +kernel
theorem tc_d2_firstOtherwise_44 : decode tc_i2_firstOtherwise.2.1 44 = .ok (.aload_n 0, 1) := by decide +kernel
theorem tc_d2_firstOtherwise_45 : decode tc_i2_firstOtherwise.2.1 45 = .ok (.getfield 18, 3) := by decide +kernel
theorem tc_d2_firstOtherwise_48 : decode tc_i2_firstOtherwise.2.1 48 = .ok (.invokevirtual 32, 3) := by decide +kernel
theorem tc_d2_firstOtherwise_51 : decode tc_i2_firstOtherwise.2.1 51 = .ok (.ifCond .ne 6, 3) := by decide +kernel
theorem tc_d2_firstOtherwise_54 : decode tc_i2_firstOtherwise.2.1 54 = .ok (.iload 6, 2) := by decide +kernel
theorem tc_d2_firstOtherwise_56 : decode tc_i2_firstOtherwise.2.1 56 = .ok (.ireturn, 1) := by decide +kernel
theorem tc_d2_firstOtherwise_57 : decode tc_i2_firstOtherwise.2.1 57 = .ok (.aload_n 0, 1) := by decide +kernel
theorem tc_d2_firstOtherwise_58 : decode tc_i2_firstOtherwise.2.1 58 = .ok (.getfield 18, 3) := by decide +kernel
theorem tc_d2_firstOtherwise_61 : decode tc_i2_firstOtherwise.2.1 61 = .ok (.iload_n 3, 1) := by decide +kernel
theorem tc_d2_firstOtherwise_62 : decode tc_i2_firstOtherwise.2.1 62 = .ok (.invokevirtual 59, 3) := by decide +kernel
theorem tc_d2_firstOtherwise_65 : decode tc_i2_firstOtherwise.2.1 65 = .ok (.aload_n 1, 1) := by decide +kernel
theorem tc_d2_firstOtherwise_66 : decode tc_i2_firstOtherwise.2.1 66 = .ok (.iload_n 2, 1) := by decide +kernel
theorem tc_d2_firstOtherwise_67 : decode tc_i2_firstOtherwise.2.1 67 = .ok (.iload 6, 2) := by decide +kernel
theorem tc_d2_firstOtherwise_69 : decode tc_i2_firstOtherwise.2.1 69 = .ok (.invokevirtual 133, 3) := by decide +kernel
theorem tc_d2_firstOtherwise_72 : decode tc_i2_firstOtherwise.2.1 72 = .ok (.if_icmp .eq 6, 3) := by decide +kernel
theorem tc_d2_firstOtherwise_75 : decode tc_i2_firstOtherwise.2.1 75 = .ok (.iload 6, 2) := by decide +kernel
theorem tc_d2_firstOtherwise_77 : decode tc_i2_firstOtherwise.2.1 77 = .ok (.ireturn, 1) := by decide +kernel
theorem tc_d2_firstOtherwise_78 : decode tc_i2_firstOtherwise.2.1 78 = .ok (.aload_n 0, 1) := by decide +kernel
theorem tc_d2_firstOtherwise_79 : decode tc_i2_firstOtherwise.2.1 79 = .ok (.getfield 18, 3) := by decide +kernel
theorem tc_d2_firstOtherwise_82 : decode tc_i2_firstOtherwise.2.1 82 = .ok (.invokevirtual 50, 3) := by decide +kernel
theorem tc_d2_firstOtherwise_85 : decode tc_i2_firstOtherwise.2.1 85 = .ok (.iinc 6 1, 3) := by decide +kernel
theorem tc_d2_firstOtherwise_88 : decode tc_i2_firstOtherwise.2.1 88 = .ok (.goto (-55), 3) := by decide +kernel
theorem tc_d2_firstOtherwise_91 : decode tc_i2_firstOtherwise.2.1 91 = .ok (.iconst (-1), 1) := by decide +kernel
theorem tc_d2_firstOtherwise_92 : decode tc_i2_firstOtherwise.2.1 92 = .ok (.ireturn, 1) := by decide +kernel
theorem tc_d2_fromLast_0 : decode tc_i2_fromLast.2.1 0 = .ok (.aload_n 0, 1) := by decide +kernel
theorem tc_d2_fromLast_1 : decode tc_i2_fromLast.2.1 1 = .ok (.getfield 18, 3) := by decide +kernel
theorem tc_d2_fromLast_4 : decode tc_i2_fromLast.2.1 4 = .ok (.aload_n 0, 1) := by decide +kernel
theorem tc_d2_fromLast_5 : decode tc_i2_fromLast.2.1 5 = .ok (.getfield 9, 3) := by decide +kernel
theorem tc_d2_fromLast_8 : decode tc_i2_fromLast.2.1 8 = .ok (.invokevirtual 28, 3) := by decide +kernel
theorem tc_d2_fromLast_11 : decode tc_i2_fromLast.2.1 11 = .ok (.aload_n 0, 1) := by decide +kernel
theorem tc_d2_fromLast_12 : decode tc_i2_fromLast.2.1 12 = .ok (.getfield 24, 3) := by decide +kernel
theorem tc_d2_fromLast_15 : decode tc_i2_fromLast.2.1 15 = .ok (.aload_n 0, 1) := by decide +kernel
theorem tc_d2_fromLast_16 : decode tc_i2_fromLast.2.1 16 = .ok (.getfield 18, 3) := by decide +kernel
theorem tc_d2_fromLast_19 : decode tc_i2_fromLast.2.1 19 = .ok (.iconst 0, 1) := by decide +kernel
theorem tc_d2_fromLast_20 : decode tc_i2_fromLast.2.1 20 = .ok (.invokevirtual 62, 3) := by decide +kernel
theorem tc_d2_fromLast_23 : decode tc_i2_fromLast.2.1 23 = .ok (.ifCond .ne 6, 3) := by decide +kernel
theorem tc_d2_fromLast_26 : decode tc_i2_fromLast.2.1 26 = .ok (.bipush (-3), 2) := by decide +kernel
theorem tc_d2_fromLast_28 : decode tc_i2_fromLast.2.1 28 = .ok (.ireturn, 1) := by decide +kernel
theorem tc_d2_fromLast_29 : decode tc_i2_fromLast.2.1 29 = .ok (.aload_n 0, 1) := by decide +kernel
theorem tc_d2_fromLast_30 : decode tc_i2_fromLast.2.1 30 = .ok (.getfield 18, 3) := by decide +kernel
theorem tc_d2_fromLast_33 : decode tc_i2_fromLast.2.1 33 = .ok (.getfield 53, 3) := by decide +kernel
theorem tc_d2_fromLast_36 : decode tc_i2_fromLast.2.1 36 = .ok (.istore_n 2, 1) := by decide +kernel
theorem tc_d2_fromLast_37 : decode tc_i2_fromLast.2.1 37 = .ok (.aload_n 0, 1) := by decide +kernel
theorem tc_d2_fromLast_38 : decode tc_i2_fromLast.2.1 38 = .ok (.getfield 18, 3) := by decide +kernel
theorem tc_d2_fromLast_41 : decode tc_i2_fromLast.2.1 41 = .ok (.aload_n 0, 1) := by decide +kernel
theorem tc_d2_fromLast_42 : decode tc_i2_fromLast.2.1 42 = .ok (.getfield 9, 3) := by decide +kernel
theorem tc_d2_fromLast_45 : decode tc_i2_fromLast.2.1 45 = .ok (.getfield 53, 3) := by decide +kernel
theorem tc_d2_fromLast_48 : decode tc_i2_fromLast.2.1 48 = .ok (.putfield 53, 3) := by decide +kernel
theorem tc_d2_fromLast_51 : decode tc_i2_fromLast.2.1 51 = .ok (.aload_n 0, 1) := by decide +kernel
theorem tc_d2_fromLast_52 : decode tc_i2_fromLast.2.1 52 = .ok (.getfield 24, 3) := by decide +kernel
theorem tc_d2_fromLast_55 : decode tc_i2_fromLast.2.1 55 = .ok (.aload_n 0, 1) := by decide +kernel
theorem tc_d2_fromLast_56 : decode tc_i2_fromLast.2.1 56 = .ok (.getfield 18, 3) := by decide +kernel
theorem tc_d2_fromLast_59 : decode tc_i2_fromLast.2.1 59 = .ok (.iconst 1, 1) := by decide +kernel
theorem tc_d2_fromLast_60 : decode tc_i2_fromLast.2.1 60 = .ok (.invokevirtual 62, 3) := by decide +kernel
theorem tc_d2_fromLast_63 : decode tc_i2_fromLast.2.1 63 = .ok (.ifCond .ne 6, 3) := by decide +kernel
theorem tc_d2_fromLast_66 : decode tc_i2_fromLast.2.1 66 = .ok (.bipush (-3), 2) := by decide +kernel
theorem tc_d2_fromLast_68 : decode tc_i2_fromLast.2.1 68 = .ok (.ireturn, 1) := by decide +kernel
theorem tc_d2_fromLast_69 : decode tc_i2_fromLast.2.1 69 = .ok (.iload_n 1, 1) := by decide +kernel
theorem tc_d2_fromLast_70 : decode tc_i2_fromLast.2.1 70 = .ok (.iconst 1, 1) := by decide +kernel
theorem tc_d2_fromLast_71 : decode tc_i2_fromLast.2.1 71 = .ok (.if_icmp .ne 11, 3) := by decide +kernel
theorem tc_d2_fromLast_74 : decode tc_i2_fromLast.2.1 74 = .ok (.aload_n 0, 1) := by decide +kernel
theorem tc_d2_fromLast_75 : decode tc_i2_fromLast.2.1 75 = .ok (.getfield 24, 3) := by decide +kernel
theorem tc_d2_fromLast_78 : decode tc_i2_fromLast.2.1 78 = .ok (.getfield 46, 3) := by decide +kernel
theorem tc_d2_fromLast_81 : decode tc_i2_fromLast.2.1 81 = .ok (.ireturn, 1) := by decide +kernel
theorem tc_d2_fromLast_82 : decode tc_i2_fromLast.2.1 82 = .ok (.aload_n 0, 1) := by decide +kernel
theorem tc_d2_fromLast_83 : decode tc_i2_fromLast.2.1 83 = .ok (.getfield 18, 3) := by decide +kernel
theorem tc_d2_fromLast_86 : decode tc_i2_fromLast.2.1 86 = .ok (.getfield 53, 3) := by decide +kernel
theorem tc_d2_fromLast_89 : decode tc_i2_fromLast.2.1 89 = .ok (.iload_n 2, 1) := by decide +kernel
theorem tc_d2_fromLast_90 : decode tc_i2_fromLast.2.1 90 = .ok (.if_icmp .ne 7, 3) := by decide +kernel
theorem tc_d2_fromLast_93 : decode tc_i2_fromLast.2.1 93 = .ok (.iconst 1, 1) := by decide +kernel
theorem tc_d2_fromLast_94 : decode tc_i2_fromLast.2.1 94 = .ok (.goto 4, 3) := by decide +kernel
theorem tc_d2_fromLast_97 : decode tc_i2_fromLast.2.1 97 = .ok (.iconst 0, 1) := by decide +kernel
theorem tc_d2_fromLast_98 : decode tc_i2_fromLast.2.1 98 = .ok (.ireturn, 1) := by decide +kernel
theorem tc_d2_isFair_0 : decode tc_i2_isFair.2.1 0 = .ok (.aload_n 0, 1) := by decide +kernel
theorem tc_d2_isFair_1 : decode tc_i2_isFair.2.1 1 = .ok (.getfield 18, 3) := by decide +kernel
theorem tc_d2_isFair_4 : decode tc_i2_isFair.2.1 4 = .ok (.aload_n 0, 1) := by decide +kernel
theorem tc_d2_isFair_5 : decode tc_i2_isFair.2.1 5 = .ok (.getfield 9, 3) := by decide +kernel
theorem tc_d2_isFair_8 : decode tc_i2_isFair.2.1 8 = .ok (.invokevirtual 28, 3) := by decide +kernel
theorem tc_d2_isFair_11 : decode tc_i2_isFair.2.1 11 = .ok (.aload_n 0, 1) := by decide +kernel
theorem tc_d2_isFair_12 : decode tc_i2_isFair.2.1 12 = .ok (.getfield 18, 3) := by decide +kernel
theorem tc_d2_isFair_15 : decode tc_i2_isFair.2.1 15 = .ok (.iload_n 1, 1) := by decide +kernel
theorem tc_d2_isFair_16 : decode tc_i2_isFair.2.1 16 = .ok (.putfield 77, 3) := by decide +kernel
theorem tc_d2_isFair_19 : decode tc_i2_isFair.2.1 19 = .ok (.aload_n 0, 1) := by decide +kernel
theorem tc_d2_isFair_20 : decode tc_i2_isFair.2.1 20 = .ok (.getfield 18, 3) := by decide +kernel
theorem tc_d2_isFair_23 : decode tc_i2_isFair.2.1 23 = .ok (.iload_n 2, 1) := by decide +kernel
theorem tc_d2_isFair_24 : decode tc_i2_isFair.2.1 24 = .ok (.putfield 66, 3) := by decide +kernel
theorem tc_d2_isFair_27 : decode tc_i2_isFair.2.1 27 = .ok (.aload_n 0, 1) := by decide +kernel
theorem tc_d2_isFair_28 : decode tc_i2_isFair.2.1 28 = .ok (.getfield 24, 3) := by decide +kernel
theorem tc_d2_isFair_31 : decode tc_i2_isFair.2.1 31 = .ok (.aload_n 0, 1) := by decide +kernel
theorem tc_d2_isFair_32 : decode tc_i2_isFair.2.1 32 = .ok (.getfield 18, 3) := by decide +kernel
theorem tc_d2_isFair_35 : decode tc_i2_isFair.2.1 35 = .ok (.iconst 0, 1) := by decide +kernel
theorem tc_d2_isFair_36 : decode tc_i2_isFair.2.1 36 = .ok (.invokevirtual 62, 3) := by decide +kernel
theorem tc_d2_isFair_39 : decode tc_i2_isFair.2.1 39 = .ok (.ifCond .eq 17, 3) := by decide +kernel
theorem tc_d2_isFair_42 : decode tc_i2_isFair.2.1 42 = .ok (.aload_n 0, 1) := by decide +kernel
theorem tc_d2_isFair_43 : decode tc_i2_isFair.2.1 43 = .ok (.getfield 18, 3) := by decide +kernel
theorem tc_d2_isFair_46 : decode tc_i2_isFair.2.1 46 = .ok (.invokevirtual 83, 3) := by decide +kernel
theorem tc_d2_isFair_49 : decode tc_i2_isFair.2.1 49 = .ok (.ifCond .ne 7, 3) := by decide +kernel
theorem tc_d2_isFair_52 : decode tc_i2_isFair.2.1 52 = .ok (.iconst 1, 1) := by decide +kernel
theorem tc_d2_isFair_53 : decode tc_i2_isFair.2.1 53 = .ok (.goto 4, 3) := by decide +kernel
theorem tc_d2_isFair_56 : decode tc_i2_isFair.2.1 56 = .ok (.iconst 0, 1) := by decide +kernel
theorem tc_d2_isFair_57 : decode tc_i2_isFair.2.1 57 = .ok (.ireturn, 1) := by decide +kernel
theorem tc_d2_greatestFairPick_0 : decode tc_i2_greatestFairPick.2.1 0 = .ok (.bipush 99, 2) := by decide +kernel
theorem tc_d2_greatestFairPick_2 : decode tc_i2_greatestFairPick.2.1 2 = .ok (.istore_n 1, 1) := by decide +kernel
theorem tc_d2_greatestFairPick_3 : decode tc_i2_greatestFairPick.2.1 3 = .ok (.iload_n 1, 1) := by decide +kernel
theorem tc_d2_greatestFairPick_4 : decode tc_i2_greatestFairPick.2.1 4 = .ok (.ifCond .lt 26, 3) := by decide +kernel
theorem tc_d2_greatestFairPick_7 : decode tc_i2_greatestFairPick.2.1 7 = .ok (.aload_n 0, 1) := by decide +kernel
theorem tc_d2_greatestFairPick_8 : decode tc_i2_greatestFairPick.2.1 8 = .ok (.iload_n 1, 1) := by decide +kernel
theorem tc_d2_greatestFairPick_9 : decode tc_i2_greatestFairPick.2.1 9 = .ok (.aload_n 0, 1) := by decide +kernel
theorem tc_d2_greatestFairPick_10 : decode tc_i2_greatestFairPick.2.1 10 = .ok (.getfield 9, 3) := by decide +kernel
theorem tc_d2_greatestFairPick_13 : decode tc_i2_greatestFairPick.2.1 13 = .ok (.getfield 66, 3) := by decide +kernel
theorem tc_d2_greatestFairPick_16 : decode tc_i2_greatestFairPick.2.1 16 = .ok (.invokevirtual 80, 3) := by decide +kernel
theorem tc_d2_greatestFairPick_19 : decode tc_i2_greatestFairPick.2.1 19 = .ok (.ifCond .eq 5, 3) := by decide +kernel
theorem tc_d2_greatestFairPick_22 : decode tc_i2_greatestFairPick.2.1 22 = .ok (.iload_n 1, 1) := by decide +kernel
theorem tc_d2_greatestFairPick_23 : decode tc_i2_greatestFairPick.2.1 23 = .ok (.ireturn, 1) := by decide +kernel
theorem tc_d2_greatestFairPick_24 : decode tc_i2_greatestFairPick.2.1 24 = .ok (.iinc 1 (-1), 3) := by decide +kernel
theorem tc_d2_greatestFairPick_27 : decode tc_i2_greatestFairPick.2.1 27 = .ok (.goto (-24), 3) := by decide +kernel
theorem tc_d2_greatestFairPick_30 : decode tc_i2_greatestFairPick.2.1 30 = .ok (.iconst (-1), 1) := by decide +kernel
theorem tc_d2_greatestFairPick_31 : decode tc_i2_greatestFairPick.2.1 31 = .ok (.ireturn, 1) := by decide +kernel
theorem tc_d2_greatestFairWeather_0 : decode tc_i2_greatestFairWeather.2.1 0 = .ok (.bipush 9, 2) := by decide +kernel
theorem tc_d2_greatestFairWeather_2 : decode tc_i2_greatestFairWeather.2.1 2 = .ok (.istore_n 1, 1) := by decide +kernel
theorem tc_d2_greatestFairWeather_3 : decode tc_i2_greatestFairWeather.2.1 3 = .ok (.iload_n 1, 1) := by decide +kernel
theorem tc_d2_greatestFairWeather_4 : decode tc_i2_greatestFairWeather.2.1 4 = .ok (.ifCond .lt 26, 3) := by decide +kernel
theorem tc_d2_greatestFairWeather_7 : decode tc_i2_greatestFairWeather.2.1 7 = .ok (.aload_n 0, 1) := by decide +kernel
theorem tc_d2_greatestFairWeather_8 : decode tc_i2_greatestFairWeather.2.1 8 = .ok (.aload_n 0, 1) := by decide +kernel
theorem tc_d2_greatestFairWeather_9 : decode tc_i2_greatestFairWeather.2.1 9 = .ok (.getfield 9, 3) := by decide +kernel
theorem tc_d2_greatestFairWeather_12 : decode tc_i2_greatestFairWeather.2.1 12 = .ok (.getfield 77, 3) := by decide +kernel
theorem tc_d2_greatestFairWeather_15 : decode tc_i2_greatestFairWeather.2.1 15 = .ok (.iload_n 1, 1) := by decide +kernel
theorem tc_d2_greatestFairWeather_16 : decode tc_i2_greatestFairWeather.2.1 16 = .ok (.invokevirtual 80, 3) := by decide +kernel
theorem tc_d2_greatestFairWeather_19 : decode tc_i2_greatestFairWeather.2.1 19 = .ok (.ifCond .eq 5, 3) := by decide +kernel
theorem tc_d2_greatestFairWeather_22 : decode tc_i2_greatestFairWeather.2.1 22 = .ok (.iload_n 1, 1) := by decide +kernel
theorem tc_d2_greatestFairWeather_23 : decode tc_i2_greatestFairWeather.2.1 23 = .ok (.ireturn, 1) := by decide +kernel
theorem tc_d2_greatestFairWeather_24 : decode tc_i2_greatestFairWeather.2.1 24 = .ok (.iinc 1 (-1), 3) := by decide +kernel
theorem tc_d2_greatestFairWeather_27 : decode tc_i2_greatestFairWeather.2.1 27 = .ok (.goto (-24), 3) := by decide +kernel
theorem tc_d2_greatestFairWeather_30 : decode tc_i2_greatestFairWeather.2.1 30 = .ok (.iconst (-1), 1) := by decide +kernel
theorem tc_d2_greatestFairWeather_31 : decode tc_i2_greatestFairWeather.2.1 31 = .ok (.ireturn, 1) := by decide +kernel
theorem tc_d2_settlesWithBreak_0 : decode tc_i2_settlesWithBreak.2.1 0 = .ok (.aload_n 0, 1) := by decide +kernel
theorem tc_d2_settlesWithBreak_1 : decode tc_i2_settlesWithBreak.2.1 1 = .ok (.getfield 18, 3) := by decide +kernel
theorem tc_d2_settlesWithBreak_4 : decode tc_i2_settlesWithBreak.2.1 4 = .ok (.aload_n 0, 1) := by decide +kernel
theorem tc_d2_settlesWithBreak_5 : decode tc_i2_settlesWithBreak.2.1 5 = .ok (.getfield 9, 3) := by decide +kernel
theorem tc_d2_settlesWithBreak_8 : decode tc_i2_settlesWithBreak.2.1 8 = .ok (.invokevirtual 28, 3) := by decide +kernel
theorem tc_d2_settlesWithBreak_11 : decode tc_i2_settlesWithBreak.2.1 11 = .ok (.aload_n 0, 1) := by decide +kernel
theorem tc_d2_settlesWithBreak_12 : decode tc_i2_settlesWithBreak.2.1 12 = .ok (.getfield 18, 3) := by decide +kernel
theorem tc_d2_settlesWithBreak_15 : decode tc_i2_settlesWithBreak.2.1 15 = .ok (.iload_n 2, 1) := by decide +kernel
theorem tc_d2_settlesWithBreak_16 : decode tc_i2_settlesWithBreak.2.1 16 = .ok (.putfield 66, 3) := by decide +kernel
theorem tc_d2_settlesWithBreak_19 : decode tc_i2_settlesWithBreak.2.1 19 = .ok (.aload_n 0, 1) := by decide +kernel
theorem tc_d2_settlesWithBreak_20 : decode tc_i2_settlesWithBreak.2.1 20 = .ok (.getfield 18, 3) := by decide +kernel
theorem tc_d2_settlesWithBreak_23 : decode tc_i2_settlesWithBreak.2.1 23 = .ok (.iconst 0, 1) := by decide +kernel
theorem tc_d2_settlesWithBreak_24 : decode tc_i2_settlesWithBreak.2.1 24 = .ok (.iload_n 1, 1) := by decide +kernel
theorem tc_d2_settlesWithBreak_25 : decode tc_i2_settlesWithBreak.2.1 25 = .ok (.invokevirtual 73, 3) := by decide +kernel
theorem tc_d2_settlesWithBreak_28 : decode tc_i2_settlesWithBreak.2.1 28 = .ok (.aload_n 0, 1) := by decide +kernel
theorem tc_d2_settlesWithBreak_29 : decode tc_i2_settlesWithBreak.2.1 29 = .ok (.getfield 24, 3) := by decide +kernel
theorem tc_d2_settlesWithBreak_32 : decode tc_i2_settlesWithBreak.2.1 32 = .ok (.aload_n 0, 1) := by decide +kernel
theorem tc_d2_settlesWithBreak_33 : decode tc_i2_settlesWithBreak.2.1 33 = .ok (.getfield 18, 3) := by decide +kernel
theorem tc_d2_settlesWithBreak_36 : decode tc_i2_settlesWithBreak.2.1 36 = .ok (.iconst 0, 1) := by decide +kernel
theorem tc_d2_settlesWithBreak_37 : decode tc_i2_settlesWithBreak.2.1 37 = .ok (.invokevirtual 62, 3) := by decide +kernel
theorem tc_d2_settlesWithBreak_40 : decode tc_i2_settlesWithBreak.2.1 40 = .ok (.ireturn, 1) := by decide +kernel
theorem tc_d2_leastBlindWeather_0 : decode tc_i2_leastBlindWeather.2.1 0 = .ok (.iconst 0, 1) := by decide +kernel
theorem tc_d2_leastBlindWeather_1 : decode tc_i2_leastBlindWeather.2.1 1 = .ok (.istore_n 1, 1) := by decide +kernel
theorem tc_d2_leastBlindWeather_2 : decode tc_i2_leastBlindWeather.2.1 2 = .ok (.iload_n 1, 1) := by decide +kernel
theorem tc_d2_leastBlindWeather_3 : decode tc_i2_leastBlindWeather.2.1 3 = .ok (.bipush 9, 2) := by decide +kernel
theorem tc_d2_leastBlindWeather_5 : decode tc_i2_leastBlindWeather.2.1 5 = .ok (.if_icmp .gt 51, 3) := by decide +kernel
theorem tc_d2_leastBlindWeather_8 : decode tc_i2_leastBlindWeather.2.1 8 = .ok (.iconst 0, 1) := by decide +kernel
theorem tc_d2_leastBlindWeather_9 : decode tc_i2_leastBlindWeather.2.1 9 = .ok (.istore_n 2, 1) := by decide +kernel
theorem tc_d2_leastBlindWeather_10 : decode tc_i2_leastBlindWeather.2.1 10 = .ok (.iload_n 2, 1) := by decide +kernel
theorem tc_d2_leastBlindWeather_11 : decode tc_i2_leastBlindWeather.2.1 11 = .ok (.aload_n 0, 1) := by decide +kernel
theorem tc_d2_leastBlindWeather_12 : decode tc_i2_leastBlindWeather.2.1 12 = .ok (.getfield 9, 3) := by decide +kernel
theorem tc_d2_leastBlindWeather_15 : decode tc_i2_leastBlindWeather.2.1 15 = .ok (.getfield 86, 3) := by decide +kernel
theorem tc_d2_leastBlindWeather_18 : decode tc_i2_leastBlindWeather.2.1 18 = .ok (.if_icmp .ge 32, 3) := by decide +kernel
theorem tc_d2_leastBlindWeather_21 : decode tc_i2_leastBlindWeather.2.1 21 = .ok (.aload_n 0, 1) := by decide +kernel
theorem tc_d2_leastBlindWeather_22 : decode tc_i2_leastBlindWeather.2.1 22 = .ok (.iload_n 2, 1) := by decide +kernel
theorem tc_d2_leastBlindWeather_23 : decode tc_i2_leastBlindWeather.2.1 23 = .ok (.iload_n 1, 1) := by decide +kernel
theorem tc_d2_leastBlindWeather_24 : decode tc_i2_leastBlindWeather.2.1 24 = .ok (.invokevirtual 69, 3) := by decide +kernel
theorem tc_d2_leastBlindWeather_27 : decode tc_i2_leastBlindWeather.2.1 27 = .ok (.ifCond .eq 17, 3) := by decide +kernel
theorem tc_d2_leastBlindWeather_30 : decode tc_i2_leastBlindWeather.2.1 30 = .ok (.aload_n 0, 1) := by decide +kernel
theorem tc_d2_leastBlindWeather_31 : decode tc_i2_leastBlindWeather.2.1 31 = .ok (.getfield 18, 3) := by decide +kernel
theorem tc_d2_leastBlindWeather_34 : decode tc_i2_leastBlindWeather.2.1 34 = .ok (.iload_n 2, 1) := by decide +kernel
theorem tc_d2_leastBlindWeather_35 : decode tc_i2_leastBlindWeather.2.1 35 = .ok (.invokevirtual 59, 3) := by decide +kernel
theorem tc_d2_leastBlindWeather_38 : decode tc_i2_leastBlindWeather.2.1 38 = .ok (.iconst 1, 1) := by decide +kernel
theorem tc_d2_leastBlindWeather_39 : decode tc_i2_leastBlindWeather.2.1 39 = .ok (.if_icmp .ne 5, 3) := by decide +kernel
theorem tc_d2_leastBlindWeather_42 : decode tc_i2_leastBlindWeather.2.1 42 = .ok (.iload_n 1, 1) := by decide +kernel
theorem tc_d2_leastBlindWeather_43 : decode tc_i2_leastBlindWeather.2.1 43 = .ok (.ireturn, 1) := by decide +kernel
theorem tc_d2_leastBlindWeather_44 : decode tc_i2_leastBlindWeather.2.1 44 = .ok (.iinc 2 1, 3) := by decide +kernel
theorem tc_d2_leastBlindWeather_47 : decode tc_i2_leastBlindWeather.2.1 47 = .ok (.goto (-37), 3) := by decide +kernel
theorem tc_d2_leastBlindWeather_50 : decode tc_i2_leastBlindWeather.2.1 50 = .ok (.iinc 1 1, 3) := by decide +kernel
theorem tc_d2_leastBlindWeather_53 : decode tc_i2_leastBlindWeather.2.1 53 = .ok (.goto (-51), 3) := by decide +kernel
theorem tc_d2_leastBlindWeather_56 : decode tc_i2_leastBlindWeather.2.1 56 = .ok (.iconst (-1), 1) := by decide +kernel
theorem tc_d2_leastBlindWeather_57 : decode tc_i2_leastBlindWeather.2.1 57 = .ok (.ireturn, 1) := by decide +kernel
theorem tc_d2_leastSafePick_0 : decode tc_i2_leastSafePick.2.1 0 = .ok (.iconst 0, 1) := by decide +kernel
theorem tc_d2_leastSafePick_1 : decode tc_i2_leastSafePick.2.1 1 = .ok (.istore_n 1, 1) := by decide +kernel
theorem tc_d2_leastSafePick_2 : decode tc_i2_leastSafePick.2.1 2 = .ok (.iload_n 1, 1) := by decide +kernel
theorem tc_d2_leastSafePick_3 : decode tc_i2_leastSafePick.2.1 3 = .ok (.bipush 99, 2) := by decide +kernel
theorem tc_d2_leastSafePick_5 : decode tc_i2_leastSafePick.2.1 5 = .ok (.if_icmp .gt 20, 3) := by decide +kernel
theorem tc_d2_leastSafePick_8 : decode tc_i2_leastSafePick.2.1 8 = .ok (.aload_n 0, 1) := by decide +kernel
theorem tc_d2_leastSafePick_9 : decode tc_i2_leastSafePick.2.1 9 = .ok (.iload_n 1, 1) := by decide +kernel
theorem tc_d2_leastSafePick_10 : decode tc_i2_leastSafePick.2.1 10 = .ok (.invokevirtual 96, 3) := by decide +kernel
theorem tc_d2_leastSafePick_13 : decode tc_i2_leastSafePick.2.1 13 = .ok (.iconst (-1), 1) := by decide +kernel
theorem tc_d2_leastSafePick_14 : decode tc_i2_leastSafePick.2.1 14 = .ok (.if_icmp .ne 5, 3) := by decide +kernel
theorem tc_d2_leastSafePick_17 : decode tc_i2_leastSafePick.2.1 17 = .ok (.iload_n 1, 1) := by decide +kernel
theorem tc_d2_leastSafePick_18 : decode tc_i2_leastSafePick.2.1 18 = .ok (.ireturn, 1) := by decide +kernel
theorem tc_d2_leastSafePick_19 : decode tc_i2_leastSafePick.2.1 19 = .ok (.iinc 1 1, 3) := by decide +kernel
theorem tc_d2_leastSafePick_22 : decode tc_i2_leastSafePick.2.1 22 = .ok (.goto (-20), 3) := by decide +kernel
theorem tc_d2_leastSafePick_25 : decode tc_i2_leastSafePick.2.1 25 = .ok (.iconst (-1), 1) := by decide +kernel
theorem tc_d2_leastSafePick_26 : decode tc_i2_leastSafePick.2.1 26 = .ok (.ireturn, 1) := by decide +kernel
theorem tc_d2_unsafeByLot_0 : decode tc_i2_unsafeByLot.2.1 0 = .ok (.aload_n 0, 1) := by decide +kernel
theorem tc_d2_unsafeByLot_1 : decode tc_i2_unsafeByLot.2.1 1 = .ok (.getfield 18, 3) := by decide +kernel
theorem tc_d2_unsafeByLot_4 : decode tc_i2_unsafeByLot.2.1 4 = .ok (.aload_n 0, 1) := by decide +kernel
theorem tc_d2_unsafeByLot_5 : decode tc_i2_unsafeByLot.2.1 5 = .ok (.getfield 9, 3) := by decide +kernel
theorem tc_d2_unsafeByLot_8 : decode tc_i2_unsafeByLot.2.1 8 = .ok (.invokevirtual 28, 3) := by decide +kernel
theorem tc_d2_unsafeByLot_11 : decode tc_i2_unsafeByLot.2.1 11 = .ok (.iload_n 1, 1) := by decide +kernel
theorem tc_d2_unsafeByLot_12 : decode tc_i2_unsafeByLot.2.1 12 = .ok (.istore_n 3, 1) := by decide +kernel
theorem tc_d2_unsafeByLot_13 : decode tc_i2_unsafeByLot.2.1 13 = .ok (.iconst 0, 1) := by decide +kernel
theorem tc_d2_unsafeByLot_14 : decode tc_i2_unsafeByLot.2.1 14 = .ok (.istore 4, 2) := by decide +kernel
theorem tc_d2_unsafeByLot_16 : decode tc_i2_unsafeByLot.2.1 16 = .ok (.iload 4, 2) := by decide +kernel
theorem tc_d2_unsafeByLot_18 : decode tc_i2_unsafeByLot.2.1 18 = .ok (.iload_n 2, 1) := by decide +kernel
theorem tc_d2_unsafeByLot_19 : decode tc_i2_unsafeByLot.2.1 19 = .ok (.if_icmp .ge 53, 3) := by decide +kernel
theorem tc_d2_unsafeByLot_22 : decode tc_i2_unsafeByLot.2.1 22 = .ok (.aload_n 0, 1) := by decide +kernel
theorem tc_d2_unsafeByLot_23 : decode tc_i2_unsafeByLot.2.1 23 = .ok (.getfield 18, 3) := by decide +kernel
theorem tc_d2_unsafeByLot_26 : decode tc_i2_unsafeByLot.2.1 26 = .ok (.getfield 86, 3) := by decide +kernel
theorem tc_d2_unsafeByLot_29 : decode tc_i2_unsafeByLot.2.1 29 = .ok (.ifCond .le 43, 3) := by decide +kernel
theorem tc_d2_unsafeByLot_32 : decode tc_i2_unsafeByLot.2.1 32 = .ok (.iload_n 3, 1) := by decide +kernel
theorem tc_d2_unsafeByLot_33 : decode tc_i2_unsafeByLot.2.1 33 = .ok (.ldc 119, 2) := by decide +kernel
theorem tc_d2_unsafeByLot_35 : decode tc_i2_unsafeByLot.2.1 35 = .ok (.imul, 1) := by decide +kernel
theorem tc_d2_unsafeByLot_36 : decode tc_i2_unsafeByLot.2.1 36 = .ok (.sipush 12345, 3) := by decide +kernel
theorem tc_d2_unsafeByLot_39 : decode tc_i2_unsafeByLot.2.1 39 = .ok (.iadd, 1) := by decide +kernel
theorem tc_d2_unsafeByLot_40 : decode tc_i2_unsafeByLot.2.1 40 = .ok (.istore_n 3, 1) := by decide +kernel
theorem tc_d2_unsafeByLot_41 : decode tc_i2_unsafeByLot.2.1 41 = .ok (.aload_n 0, 1) := by decide +kernel
theorem tc_d2_unsafeByLot_42 : decode tc_i2_unsafeByLot.2.1 42 = .ok (.getfield 18, 3) := by decide +kernel
theorem tc_d2_unsafeByLot_45 : decode tc_i2_unsafeByLot.2.1 45 = .ok (.iload_n 3, 1) := by decide +kernel
theorem tc_d2_unsafeByLot_46 : decode tc_i2_unsafeByLot.2.1 46 = .ok (.bipush 9, 2) := by decide +kernel
theorem tc_d2_unsafeByLot_48 : decode tc_i2_unsafeByLot.2.1 48 = .ok (.iushr, 1) := by decide +kernel
theorem tc_d2_unsafeByLot_49 : decode tc_i2_unsafeByLot.2.1 49 = .ok (.iconst 4, 1) := by decide +kernel
theorem tc_d2_unsafeByLot_50 : decode tc_i2_unsafeByLot.2.1 50 = .ok (.irem, 1) := by decide +kernel
theorem tc_d2_unsafeByLot_51 : decode tc_i2_unsafeByLot.2.1 51 = .ok (.iload_n 3, 1) := by decide +kernel
theorem tc_d2_unsafeByLot_52 : decode tc_i2_unsafeByLot.2.1 52 = .ok (.bipush 16, 2) := by decide +kernel
theorem tc_d2_unsafeByLot_54 : decode tc_i2_unsafeByLot.2.1 54 = .ok (.iushr, 1) := by decide +kernel
theorem tc_d2_unsafeByLot_55 : decode tc_i2_unsafeByLot.2.1 55 = .ok (.aload_n 0, 1) := by decide +kernel
theorem tc_d2_unsafeByLot_56 : decode tc_i2_unsafeByLot.2.1 56 = .ok (.getfield 18, 3) := by decide +kernel
theorem tc_d2_unsafeByLot_59 : decode tc_i2_unsafeByLot.2.1 59 = .ok (.getfield 86, 3) := by decide +kernel
theorem tc_d2_unsafeByLot_62 : decode tc_i2_unsafeByLot.2.1 62 = .ok (.irem, 1) := by decide +kernel
theorem tc_d2_unsafeByLot_63 : decode tc_i2_unsafeByLot.2.1 63 = .ok (.invokevirtual 73, 3) := by decide +kernel
theorem tc_d2_unsafeByLot_66 : decode tc_i2_unsafeByLot.2.1 66 = .ok (.iinc 4 1, 3) := by decide +kernel
theorem tc_d2_unsafeByLot_69 : decode tc_i2_unsafeByLot.2.1 69 = .ok (.goto (-53), 3) := by decide +kernel
theorem tc_d2_unsafeByLot_72 : decode tc_i2_unsafeByLot.2.1 72 = .ok (.aload_n 0, 1) := by decide +kernel
theorem tc_d2_unsafeByLot_73 : decode tc_i2_unsafeByLot.2.1 73 = .ok (.getfield 24, 3) := by decide +kernel
theorem tc_d2_unsafeByLot_76 : decode tc_i2_unsafeByLot.2.1 76 = .ok (.aload_n 0, 1) := by decide +kernel
theorem tc_d2_unsafeByLot_77 : decode tc_i2_unsafeByLot.2.1 77 = .ok (.getfield 18, 3) := by decide +kernel
theorem tc_d2_unsafeByLot_80 : decode tc_i2_unsafeByLot.2.1 80 = .ok (.iconst 0, 1) := by decide +kernel
theorem tc_d2_unsafeByLot_81 : decode tc_i2_unsafeByLot.2.1 81 = .ok (.invokevirtual 62, 3) := by decide +kernel
theorem tc_d2_unsafeByLot_84 : decode tc_i2_unsafeByLot.2.1 84 = .ok (.ifCond .eq 16, 3) := by decide +kernel
theorem tc_d2_unsafeByLot_87 : decode tc_i2_unsafeByLot.2.1 87 = .ok (.aload_n 0, 1) := by decide +kernel
theorem tc_d2_unsafeByLot_88 : decode tc_i2_unsafeByLot.2.1 88 = .ok (.getfield 18, 3) := by decide +kernel
theorem tc_d2_unsafeByLot_91 : decode tc_i2_unsafeByLot.2.1 91 = .ok (.invokevirtual 36, 3) := by decide +kernel
theorem tc_d2_unsafeByLot_94 : decode tc_i2_unsafeByLot.2.1 94 = .ok (.invokestatic 40, 3) := by decide +kernel
theorem tc_d2_unsafeByLot_97 : decode tc_i2_unsafeByLot.2.1 97 = .ok (.goto 5, 3) := by decide +kernel
theorem tc_d2_unsafeByLot_100 : decode tc_i2_unsafeByLot.2.1 100 = .ok (.bipush 9, 2) := by decide +kernel
theorem tc_d2_unsafeByLot_102 : decode tc_i2_unsafeByLot.2.1 102 = .ok (.ireturn, 1) := by decide +kernel
theorem tc_d2_lotsWith_0 : decode tc_i2_lotsWith.2.1 0 = .ok (.iconst 0, 1) := by decide +kernel
theorem tc_d2_lotsWith_1 : decode tc_i2_lotsWith.2.1 1 = .ok (.istore 5, 2) := by decide +kernel
theorem tc_d2_lotsWith_3 : decode tc_i2_lotsWith.2.1 3 = .ok (.iconst 0, 1) := by decide +kernel
theorem tc_d2_lotsWith_4 : decode tc_i2_lotsWith.2.1 4 = .ok (.istore 6, 2) := by decide +kernel
theorem tc_d2_lotsWith_6 : decode tc_i2_lotsWith.2.1 6 = .ok (.iload 6, 2) := by decide +kernel
theorem tc_d2_lotsWith_8 : decode tc_i2_lotsWith.2.1 8 = .ok (.iload_n 2, 1) := by decide +kernel
theorem tc_d2_lotsWith_9 : decode tc_i2_lotsWith.2.1 9 = .ok (.if_icmp .ge 26, 3) := by decide +kernel
theorem tc_d2_lotsWith_12 : decode tc_i2_lotsWith.2.1 12 = .ok (.aload_n 0, 1) := by decide +kernel
theorem tc_d2_lotsWith_13 : decode tc_i2_lotsWith.2.1 13 = .ok (.iload_n 1, 1) := by decide +kernel
theorem tc_d2_lotsWith_14 : decode tc_i2_lotsWith.2.1 14 = .ok (.iload 6, 2) := by decide +kernel
theorem tc_d2_lotsWith_16 : decode tc_i2_lotsWith.2.1 16 = .ok (.iadd, 1) := by decide +kernel
theorem tc_d2_lotsWith_17 : decode tc_i2_lotsWith.2.1 17 = .ok (.iload_n 3, 1) := by decide +kernel
theorem tc_d2_lotsWith_18 : decode tc_i2_lotsWith.2.1 18 = .ok (.invokevirtual 120, 3) := by decide +kernel
theorem tc_d2_lotsWith_21 : decode tc_i2_lotsWith.2.1 21 = .ok (.iload 4, 2) := by decide +kernel
theorem tc_d2_lotsWith_23 : decode tc_i2_lotsWith.2.1 23 = .ok (.if_icmp .lt 6, 3) := by decide +kernel
theorem tc_d2_lotsWith_26 : decode tc_i2_lotsWith.2.1 26 = .ok (.iinc 5 1, 3) := by decide +kernel
theorem tc_d2_lotsWith_29 : decode tc_i2_lotsWith.2.1 29 = .ok (.iinc 6 1, 3) := by decide +kernel
theorem tc_d2_lotsWith_32 : decode tc_i2_lotsWith.2.1 32 = .ok (.goto (-26), 3) := by decide +kernel
theorem tc_d2_lotsWith_35 : decode tc_i2_lotsWith.2.1 35 = .ok (.iload 5, 2) := by decide +kernel
theorem tc_d2_lotsWith_37 : decode tc_i2_lotsWith.2.1 37 = .ok (.ireturn, 1) := by decide +kernel
theorem tc_d2_pictures_0 : decode tc_i2_pictures.2.1 0 = .ok (.aload_n 0, 1) := by decide +kernel
theorem tc_d2_pictures_1 : decode tc_i2_pictures.2.1 1 = .ok (.getfield 18, 3) := by decide +kernel
theorem tc_d2_pictures_4 : decode tc_i2_pictures.2.1 4 = .ok (.aload_n 0, 1) := by decide +kernel
theorem tc_d2_pictures_5 : decode tc_i2_pictures.2.1 5 = .ok (.getfield 9, 3) := by decide +kernel
theorem tc_d2_pictures_8 : decode tc_i2_pictures.2.1 8 = .ok (.invokevirtual 28, 3) := by decide +kernel
theorem tc_d2_pictures_11 : decode tc_i2_pictures.2.1 11 = .ok (.iconst 0, 1) := by decide +kernel
theorem tc_d2_pictures_12 : decode tc_i2_pictures.2.1 12 = .ok (.istore_n 3, 1) := by decide +kernel
theorem tc_d2_pictures_13 : decode tc_i2_pictures.2.1 13 = .ok (.iconst 0, 1) := by decide +kernel
theorem tc_d2_pictures_14 : decode tc_i2_pictures.2.1 14 = .ok (.istore 4, 2) := by decide +kernel
theorem tc_d2_pictures_16 : decode tc_i2_pictures.2.1 16 = .ok (.iload 4, 2) := by decide +kernel
theorem tc_d2_pictures_18 : decode tc_i2_pictures.2.1 18 = .ok (.iload_n 2, 1) := by decide +kernel
theorem tc_d2_pictures_19 : decode tc_i2_pictures.2.1 19 = .ok (.if_icmp .ge 56, 3) := by decide +kernel
theorem tc_d2_pictures_22 : decode tc_i2_pictures.2.1 22 = .ok (.aload_n 0, 1) := by decide +kernel
theorem tc_d2_pictures_23 : decode tc_i2_pictures.2.1 23 = .ok (.getfield 24, 3) := by decide +kernel
theorem tc_d2_pictures_26 : decode tc_i2_pictures.2.1 26 = .ok (.aload_n 0, 1) := by decide +kernel
theorem tc_d2_pictures_27 : decode tc_i2_pictures.2.1 27 = .ok (.getfield 18, 3) := by decide +kernel
theorem tc_d2_pictures_30 : decode tc_i2_pictures.2.1 30 = .ok (.invokevirtual 32, 3) := by decide +kernel
theorem tc_d2_pictures_33 : decode tc_i2_pictures.2.1 33 = .ok (.ifCond .ne 5, 3) := by decide +kernel
theorem tc_d2_pictures_36 : decode tc_i2_pictures.2.1 36 = .ok (.iconst (-1), 1) := by decide +kernel
theorem tc_d2_pictures_37 : decode tc_i2_pictures.2.1 37 = .ok (.ireturn, 1) := by decide +kernel
theorem tc_d2_pictures_38 : decode tc_i2_pictures.2.1 38 = .ok (.iload_n 3, 1) := by decide +kernel
theorem tc_d2_pictures_39 : decode tc_i2_pictures.2.1 39 = .ok (.iload 4, 2) := by decide +kernel
theorem tc_d2_pictures_41 : decode tc_i2_pictures.2.1 41 = .ok (.aload_n 0, 1) := by decide +kernel
theorem tc_d2_pictures_42 : decode tc_i2_pictures.2.1 42 = .ok (.getfield 18, 3) := by decide +kernel
theorem tc_d2_pictures_45 : decode tc_i2_pictures.2.1 45 = .ok (.iload_n 1, 1) := by decide +kernel
theorem tc_d2_pictures_46 : decode tc_i2_pictures.2.1 46 = .ok (.invokevirtual 59, 3) := by decide +kernel
theorem tc_d2_pictures_49 : decode tc_i2_pictures.2.1 49 = .ok (.iconst 1, 1) := by decide +kernel
theorem tc_d2_pictures_50 : decode tc_i2_pictures.2.1 50 = .ok (.if_icmp .ne 7, 3) := by decide +kernel
theorem tc_d2_pictures_53 : decode tc_i2_pictures.2.1 53 = .ok (.iconst 1, 1) := by decide +kernel
theorem tc_d2_pictures_54 : decode tc_i2_pictures.2.1 54 = .ok (.goto 4, 3) := by decide +kernel
theorem tc_d2_pictures_57 : decode tc_i2_pictures.2.1 57 = .ok (.iconst 0, 1) := by decide +kernel
theorem tc_d2_pictures_58 : decode tc_i2_pictures.2.1 58 = .ok (.invokestatic 99, 3) := by decide +kernel
theorem tc_d2_pictures_61 : decode tc_i2_pictures.2.1 61 = .ok (.istore_n 3, 1) := by decide +kernel
theorem tc_d2_pictures_62 : decode tc_i2_pictures.2.1 62 = .ok (.aload_n 0, 1) := by decide +kernel
theorem tc_d2_pictures_63 : decode tc_i2_pictures.2.1 63 = .ok (.getfield 18, 3) := by decide +kernel
theorem tc_d2_pictures_66 : decode tc_i2_pictures.2.1 66 = .ok (.invokevirtual 50, 3) := by decide +kernel
theorem tc_d2_pictures_69 : decode tc_i2_pictures.2.1 69 = .ok (.iinc 4 1, 3) := by decide +kernel
theorem tc_d2_pictures_72 : decode tc_i2_pictures.2.1 72 = .ok (.goto (-56), 3) := by decide +kernel
theorem tc_d2_pictures_75 : decode tc_i2_pictures.2.1 75 = .ok (.iload_n 3, 1) := by decide +kernel
theorem tc_d2_pictures_76 : decode tc_i2_pictures.2.1 76 = .ok (.ireturn, 1) := by decide +kernel
theorem tc_d2_ran_0 : decode tc_i2_ran.2.1 0 = .ok (.aload_n 0, 1) := by decide +kernel
theorem tc_d2_ran_1 : decode tc_i2_ran.2.1 1 = .ok (.getfield 18, 3) := by decide +kernel
theorem tc_d2_ran_4 : decode tc_i2_ran.2.1 4 = .ok (.aload_n 0, 1) := by decide +kernel
theorem tc_d2_ran_5 : decode tc_i2_ran.2.1 5 = .ok (.getfield 9, 3) := by decide +kernel
theorem tc_d2_ran_8 : decode tc_i2_ran.2.1 8 = .ok (.invokevirtual 28, 3) := by decide +kernel
theorem tc_d2_ran_11 : decode tc_i2_ran.2.1 11 = .ok (.iconst 0, 1) := by decide +kernel
theorem tc_d2_ran_12 : decode tc_i2_ran.2.1 12 = .ok (.istore_n 3, 1) := by decide +kernel
theorem tc_d2_ran_13 : decode tc_i2_ran.2.1 13 = .ok (.iconst 0, 1) := by decide +kernel
theorem tc_d2_ran_14 : decode tc_i2_ran.2.1 14 = .ok (.istore 4, 2) := by decide +kernel
theorem tc_d2_ran_16 : decode tc_i2_ran.2.1 16 = .ok (.iconst 0, 1) := by decide +kernel
theorem tc_d2_ran_17 : decode tc_i2_ran.2.1 17 = .ok (.istore 5, 2) := by decide +kernel
theorem tc_d2_ran_19 : decode tc_i2_ran.2.1 19 = .ok (.iload 5, 2) := by decide +kernel
theorem tc_d2_ran_21 : decode tc_i2_ran.2.1 21 = .ok (.iload_n 1, 1) := by decide +kernel
theorem tc_d2_ran_22 : decode tc_i2_ran.2.1 22 = .ok (.if_icmp .ge 58, 3) := by decide +kernel
theorem tc_d2_ran_25 : decode tc_i2_ran.2.1 25 = .ok (.aload_n 0, 1) := by decide +kernel
theorem tc_d2_ran_26 : decode tc_i2_ran.2.1 26 = .ok (.getfield 24, 3) := by decide +kernel
theorem tc_d2_ran_29 : decode tc_i2_ran.2.1 29 = .ok (.aload_n 0, 1) := by decide +kernel
theorem tc_d2_ran_30 : decode tc_i2_ran.2.1 30 = .ok (.getfield 18, 3) := by decide +kernel
theorem tc_d2_ran_33 : decode tc_i2_ran.2.1 33 = .ok (.invokevirtual 32, 3) := by decide +kernel
theorem tc_d2_ran_36 : decode tc_i2_ran.2.1 36 = .ok (.ifCond .ne 6, 3) := by decide +kernel
theorem tc_d2_ran_39 : decode tc_i2_ran.2.1 39 = .ok (.bipush (-3), 2) := by decide +kernel
theorem tc_d2_ran_41 : decode tc_i2_ran.2.1 41 = .ok (.ireturn, 1) := by decide +kernel
theorem tc_d2_ran_42 : decode tc_i2_ran.2.1 42 = .ok (.iload_n 3, 1) := by decide +kernel
theorem tc_d2_ran_43 : decode tc_i2_ran.2.1 43 = .ok (.aload_n 0, 1) := by decide +kernel
theorem tc_d2_ran_44 : decode tc_i2_ran.2.1 44 = .ok (.getfield 18, 3) := by decide +kernel
theorem tc_d2_ran_47 : decode tc_i2_ran.2.1 47 = .ok (.invokevirtual 36, 3) := by decide +kernel
theorem tc_d2_ran_50 : decode tc_i2_ran.2.1 50 = .ok (.invokestatic 40, 3) := by decide +kernel
theorem tc_d2_ran_53 : decode tc_i2_ran.2.1 53 = .ok (.iadd, 1) := by decide +kernel
theorem tc_d2_ran_54 : decode tc_i2_ran.2.1 54 = .ok (.istore_n 3, 1) := by decide +kernel
theorem tc_d2_ran_55 : decode tc_i2_ran.2.1 55 = .ok (.iload 4, 2) := by decide +kernel
theorem tc_d2_ran_57 : decode tc_i2_ran.2.1 57 = .ok (.aload_n 0, 1) := by decide +kernel
theorem tc_d2_ran_58 : decode tc_i2_ran.2.1 58 = .ok (.getfield 24, 3) := by decide +kernel
theorem tc_d2_ran_61 : decode tc_i2_ran.2.1 61 = .ok (.getfield 46, 3) := by decide +kernel
theorem tc_d2_ran_64 : decode tc_i2_ran.2.1 64 = .ok (.iadd, 1) := by decide +kernel
theorem tc_d2_ran_65 : decode tc_i2_ran.2.1 65 = .ok (.istore 4, 2) := by decide +kernel
theorem tc_d2_ran_67 : decode tc_i2_ran.2.1 67 = .ok (.aload_n 0, 1) := by decide +kernel
theorem tc_d2_ran_68 : decode tc_i2_ran.2.1 68 = .ok (.getfield 18, 3) := by decide +kernel
theorem tc_d2_ran_71 : decode tc_i2_ran.2.1 71 = .ok (.invokevirtual 50, 3) := by decide +kernel
theorem tc_d2_ran_74 : decode tc_i2_ran.2.1 74 = .ok (.iinc 5 1, 3) := by decide +kernel
theorem tc_d2_ran_77 : decode tc_i2_ran.2.1 77 = .ok (.goto (-58), 3) := by decide +kernel
theorem tc_d2_ran_80 : decode tc_i2_ran.2.1 80 = .ok (.iload_n 2, 1) := by decide +kernel
theorem tc_d2_ran_81 : decode tc_i2_ran.2.1 81 = .ok (.tableswitch 40 0 2 #[27, 35, 37], 27) := by decide +kernel
theorem tc_d2_ran_108 : decode tc_i2_ran.2.1 108 = .ok (.aload_n 0, 1) := by decide +kernel
theorem tc_d2_ran_109 : decode tc_i2_ran.2.1 109 = .ok (.getfield 18, 3) := by decide +kernel
theorem tc_d2_ran_112 : decode tc_i2_ran.2.1 112 = .ok (.getfield 53, 3) := by decide +kernel
theorem tc_d2_ran_115 : decode tc_i2_ran.2.1 115 = .ok (.ireturn, 1) := by decide +kernel
theorem tc_d2_ran_116 : decode tc_i2_ran.2.1 116 = .ok (.iload_n 3, 1) := by decide +kernel
theorem tc_d2_ran_117 : decode tc_i2_ran.2.1 117 = .ok (.ireturn, 1) := by decide +kernel
theorem tc_d2_ran_118 : decode tc_i2_ran.2.1 118 = .ok (.iload 4, 2) := by decide +kernel
theorem tc_d2_ran_120 : decode tc_i2_ran.2.1 120 = .ok (.ireturn, 1) := by decide +kernel
theorem tc_d2_ran_121 : decode tc_i2_ran.2.1 121 = .ok (.aload_n 0, 1) := by decide +kernel
theorem tc_d2_ran_122 : decode tc_i2_ran.2.1 122 = .ok (.getfield 18, 3) := by decide +kernel
theorem tc_d2_ran_125 : decode tc_i2_ran.2.1 125 = .ok (.getfield 56, 3) := by decide +kernel
theorem tc_d2_ran_128 : decode tc_i2_ran.2.1 128 = .ok (.ireturn, 1) := by decide +kernel
theorem tc_d2_seesBreak_0 : decode tc_i2_seesBreak.2.1 0 = .ok (.aload_n 0, 1) := by decide +kernel
theorem tc_d2_seesBreak_1 : decode tc_i2_seesBreak.2.1 1 = .ok (.iload_n 1, 1) := by decide +kernel
theorem tc_d2_seesBreak_2 : decode tc_i2_seesBreak.2.1 2 = .ok (.aload_n 0, 1) := by decide +kernel
theorem tc_d2_seesBreak_3 : decode tc_i2_seesBreak.2.1 3 = .ok (.getfield 9, 3) := by decide +kernel
theorem tc_d2_seesBreak_6 : decode tc_i2_seesBreak.2.1 6 = .ok (.getfield 66, 3) := by decide +kernel
theorem tc_d2_seesBreak_9 : decode tc_i2_seesBreak.2.1 9 = .ok (.invokevirtual 69, 3) := by decide +kernel
theorem tc_d2_seesBreak_12 : decode tc_i2_seesBreak.2.1 12 = .ok (.ifCond .eq 18, 3) := by decide +kernel
theorem tc_d2_seesBreak_15 : decode tc_i2_seesBreak.2.1 15 = .ok (.aload_n 0, 1) := by decide +kernel
theorem tc_d2_seesBreak_16 : decode tc_i2_seesBreak.2.1 16 = .ok (.getfield 18, 3) := by decide +kernel
theorem tc_d2_seesBreak_19 : decode tc_i2_seesBreak.2.1 19 = .ok (.iload_n 1, 1) := by decide +kernel
theorem tc_d2_seesBreak_20 : decode tc_i2_seesBreak.2.1 20 = .ok (.invokevirtual 59, 3) := by decide +kernel
theorem tc_d2_seesBreak_23 : decode tc_i2_seesBreak.2.1 23 = .ok (.ifCond .ne 7, 3) := by decide +kernel
theorem tc_d2_seesBreak_26 : decode tc_i2_seesBreak.2.1 26 = .ok (.iconst 1, 1) := by decide +kernel
theorem tc_d2_seesBreak_27 : decode tc_i2_seesBreak.2.1 27 = .ok (.goto 4, 3) := by decide +kernel
theorem tc_d2_seesBreak_30 : decode tc_i2_seesBreak.2.1 30 = .ok (.iconst 0, 1) := by decide +kernel
theorem tc_d2_seesBreak_31 : decode tc_i2_seesBreak.2.1 31 = .ok (.ireturn, 1) := by decide +kernel
theorem tc_d4_isSpelt_0 : decode tc_i4_isSpelt.2.1 0 = .ok (.aload_n 0, 1) := by decide +kernel
theorem tc_d4_isSpelt_1 : decode tc_i4_isSpelt.2.1 1 = .ok (.getfield 25, 3) := by decide +kernel
theorem tc_d4_isSpelt_4 : decode tc_i4_isSpelt.2.1 4 = .ok (.iload_n 2, 1) := by decide +kernel
theorem tc_d4_isSpelt_5 : decode tc_i4_isSpelt.2.1 5 = .ok (.isub, 1) := by decide +kernel
theorem tc_d4_isSpelt_6 : decode tc_i4_isSpelt.2.1 6 = .ok (.aload_n 1, 1) := by decide +kernel
theorem tc_d4_isSpelt_7 : decode tc_i4_isSpelt.2.1 7 = .ok (.invokevirtual 59, 3) := by decide +kernel
theorem tc_d4_isSpelt_10 : decode tc_i4_isSpelt.2.1 10 = .ok (.if_icmp .eq 5, 3) := by decide +kernel
theorem tc_d4_isSpelt_13 : decode tc_i4_isSpelt.2.1 13 = .ok (.iconst 0, 1) := by decide +kernel
theorem tc_d4_isSpelt_14 : decode tc_i4_isSpelt.2.1 14 = .ok (.ireturn, 1) := by decide +kernel
theorem tc_d4_isSpelt_15 : decode tc_i4_isSpelt.2.1 15 = .ok (.iconst 0, 1) := by decide +kernel
theorem tc_d4_isSpelt_16 : decode tc_i4_isSpelt.2.1 16 = .ok (.istore_n 3, 1) := by decide +kernel
theorem tc_d4_isSpelt_17 : decode tc_i4_isSpelt.2.1 17 = .ok (.iload_n 3, 1) := by decide +kernel
theorem tc_d4_isSpelt_18 : decode tc_i4_isSpelt.2.1 18 = .ok (.aload_n 1, 1) := by decide +kernel
theorem tc_d4_isSpelt_19 : decode tc_i4_isSpelt.2.1 19 = .ok (.invokevirtual 59, 3) := by decide +kernel
theorem tc_d4_isSpelt_22 : decode tc_i4_isSpelt.2.1 22 = .ok (.if_icmp .ge 27, 3) := by decide +kernel
theorem tc_d4_isSpelt_25 : decode tc_i4_isSpelt.2.1 25 = .ok (.aload_n 0, 1) := by decide +kernel
theorem tc_d4_isSpelt_26 : decode tc_i4_isSpelt.2.1 26 = .ok (.getfield 9, 3) := by decide +kernel
theorem tc_d4_isSpelt_29 : decode tc_i4_isSpelt.2.1 29 = .ok (.iload_n 2, 1) := by decide +kernel
theorem tc_d4_isSpelt_30 : decode tc_i4_isSpelt.2.1 30 = .ok (.iload_n 3, 1) := by decide +kernel
theorem tc_d4_isSpelt_31 : decode tc_i4_isSpelt.2.1 31 = .ok (.iadd, 1) := by decide +kernel
theorem tc_d4_isSpelt_32 : decode tc_i4_isSpelt.2.1 32 = .ok (.iaload, 1) := by decide +kernel
theorem tc_d4_isSpelt_33 : decode tc_i4_isSpelt.2.1 33 = .ok (.aload_n 1, 1) := by decide +kernel
theorem tc_d4_isSpelt_34 : decode tc_i4_isSpelt.2.1 34 = .ok (.iload_n 3, 1) := by decide +kernel
theorem tc_d4_isSpelt_35 : decode tc_i4_isSpelt.2.1 35 = .ok (.invokevirtual 65, 3) := by decide +kernel
theorem tc_d4_isSpelt_38 : decode tc_i4_isSpelt.2.1 38 = .ok (.if_icmp .eq 5, 3) := by decide +kernel
theorem tc_d4_isSpelt_41 : decode tc_i4_isSpelt.2.1 41 = .ok (.iconst 0, 1) := by decide +kernel
theorem tc_d4_isSpelt_42 : decode tc_i4_isSpelt.2.1 42 = .ok (.ireturn, 1) := by decide +kernel
theorem tc_d4_isSpelt_43 : decode tc_i4_isSpelt.2.1 43 = .ok (.iinc 3 1, 3) := by decide +kernel
theorem tc_d4_isSpelt_46 : decode tc_i4_isSpelt.2.1 46 = .ok (.goto (-29), 3) := by decide +kernel
theorem tc_d4_isSpelt_49 : decode tc_i4_isSpelt.2.1 49 = .ok (.iconst 1, 1) := by decide +kernel
theorem tc_d4_isSpelt_50 : decode tc_i4_isSpelt.2.1 50 = .ok (.ireturn, 1) := by decide +kernel
theorem tc_d4_spelling_0 : decode tc_i4_spelling.2.1 0 = .ok (.iload_n 0, 1) := by decide +kernel
theorem tc_d4_spelling_1 : decode tc_i4_spelling.2.1 1 = .ok (.tableswitch 64 0 6 #[43, 46, 49, 52, 55, 58, 61], 43) := by decide +kernel
theorem tc_d4_spelling_44 : decode tc_i4_spelling.2.1 44 = .ok (.ldc 69, 2) := by decide +kernel
theorem tc_d4_spelling_46 : decode tc_i4_spelling.2.1 46 = .ok (.areturn, 1) := by decide +kernel
theorem tc_d4_spelling_47 : decode tc_i4_spelling.2.1 47 = .ok (.ldc 71, 2) := by decide +kernel
theorem tc_d4_spelling_49 : decode tc_i4_spelling.2.1 49 = .ok (.areturn, 1) := by decide +kernel
theorem tc_d4_spelling_50 : decode tc_i4_spelling.2.1 50 = .ok (.ldc 73, 2) := by decide +kernel
theorem tc_d4_spelling_52 : decode tc_i4_spelling.2.1 52 = .ok (.areturn, 1) := by decide +kernel
theorem tc_d4_spelling_53 : decode tc_i4_spelling.2.1 53 = .ok (.ldc 75, 2) := by decide +kernel
theorem tc_d4_spelling_55 : decode tc_i4_spelling.2.1 55 = .ok (.areturn, 1) := by decide +kernel
theorem tc_d4_spelling_56 : decode tc_i4_spelling.2.1 56 = .ok (.ldc 77, 2) := by decide +kernel
theorem tc_d4_spelling_58 : decode tc_i4_spelling.2.1 58 = .ok (.areturn, 1) := by decide +kernel
theorem tc_d4_spelling_59 : decode tc_i4_spelling.2.1 59 = .ok (.ldc 79, 2) := by decide +kernel
theorem tc_d4_spelling_61 : decode tc_i4_spelling.2.1 61 = .ok (.areturn, 1) := by decide +kernel
theorem tc_d4_spelling_62 : decode tc_i4_spelling.2.1 62 = .ok (.ldc 81, 2) := by decide +kernel
theorem tc_d4_spelling_64 : decode tc_i4_spelling.2.1 64 = .ok (.areturn, 1) := by decide +kernel
theorem tc_d4_spelling_65 : decode tc_i4_spelling.2.1 65 = .ok (.ldc 83, 2) := by decide +kernel
theorem tc_d4_spelling_67 : decode tc_i4_spelling.2.1 67 = .ok (.areturn, 1) := by decide +kernel
theorem tc_d4_wordFrom_0 : decode tc_i4_wordFrom.2.1 0 = .ok (.iconst 0, 1) := by decide +kernel
theorem tc_d4_wordFrom_1 : decode tc_i4_wordFrom.2.1 1 = .ok (.istore_n 2, 1) := by decide +kernel
theorem tc_d4_wordFrom_2 : decode tc_i4_wordFrom.2.1 2 = .ok (.iload_n 2, 1) := by decide +kernel
theorem tc_d4_wordFrom_3 : decode tc_i4_wordFrom.2.1 3 = .ok (.bipush 8, 2) := by decide +kernel
theorem tc_d4_wordFrom_5 : decode tc_i4_wordFrom.2.1 5 = .ok (.if_icmp .ge 23, 3) := by decide +kernel
theorem tc_d4_wordFrom_8 : decode tc_i4_wordFrom.2.1 8 = .ok (.aload_n 0, 1) := by decide +kernel
theorem tc_d4_wordFrom_9 : decode tc_i4_wordFrom.2.1 9 = .ok (.iload_n 2, 1) := by decide +kernel
theorem tc_d4_wordFrom_10 : decode tc_i4_wordFrom.2.1 10 = .ok (.invokestatic 51, 3) := by decide +kernel
theorem tc_d4_wordFrom_13 : decode tc_i4_wordFrom.2.1 13 = .ok (.iload_n 1, 1) := by decide +kernel
theorem tc_d4_wordFrom_14 : decode tc_i4_wordFrom.2.1 14 = .ok (.invokevirtual 55, 3) := by decide +kernel
theorem tc_d4_wordFrom_17 : decode tc_i4_wordFrom.2.1 17 = .ok (.ifCond .eq 5, 3) := by decide +kernel
theorem tc_d4_wordFrom_20 : decode tc_i4_wordFrom.2.1 20 = .ok (.iload_n 2, 1) := by decide +kernel
theorem tc_d4_wordFrom_21 : decode tc_i4_wordFrom.2.1 21 = .ok (.ireturn, 1) := by decide +kernel
theorem tc_d4_wordFrom_22 : decode tc_i4_wordFrom.2.1 22 = .ok (.iinc 2 1, 3) := by decide +kernel
theorem tc_d4_wordFrom_25 : decode tc_i4_wordFrom.2.1 25 = .ok (.goto (-23), 3) := by decide +kernel
theorem tc_d4_wordFrom_28 : decode tc_i4_wordFrom.2.1 28 = .ok (.iconst (-1), 1) := by decide +kernel
theorem tc_d4_wordFrom_29 : decode tc_i4_wordFrom.2.1 29 = .ok (.ireturn, 1) := by decide +kernel
theorem tc_d4_readClause_0 : decode tc_i4_readClause.2.1 0 = .ok (.aload_n 0, 1) := by decide +kernel
theorem tc_d4_readClause_1 : decode tc_i4_readClause.2.1 1 = .ok (.invokevirtual 35, 3) := by decide +kernel
theorem tc_d4_readClause_4 : decode tc_i4_readClause.2.1 4 = .ok (.aload_n 0, 1) := by decide +kernel
theorem tc_d4_readClause_5 : decode tc_i4_readClause.2.1 5 = .ok (.getfield 25, 3) := by decide +kernel
theorem tc_d4_readClause_8 : decode tc_i4_readClause.2.1 8 = .ok (.istore_n 2, 1) := by decide +kernel
theorem tc_d4_readClause_9 : decode tc_i4_readClause.2.1 9 = .ok (.aload_n 0, 1) := by decide +kernel
theorem tc_d4_readClause_10 : decode tc_i4_readClause.2.1 10 = .ok (.bipush 97, 2) := by decide +kernel
theorem tc_d4_readClause_12 : decode tc_i4_readClause.2.1 12 = .ok (.bipush 122, 2) := by decide +kernel
theorem tc_d4_readClause_14 : decode tc_i4_readClause.2.1 14 = .ok (.invokevirtual 38, 3) := by decide +kernel
theorem tc_d4_readClause_17 : decode tc_i4_readClause.2.1 17 = .ok (.aload_n 0, 1) := by decide +kernel
theorem tc_d4_readClause_18 : decode tc_i4_readClause.2.1 18 = .ok (.iload_n 2, 1) := by decide +kernel
theorem tc_d4_readClause_19 : decode tc_i4_readClause.2.1 19 = .ok (.invokevirtual 42, 3) := by decide +kernel
theorem tc_d4_readClause_22 : decode tc_i4_readClause.2.1 22 = .ok (.istore_n 3, 1) := by decide +kernel
theorem tc_d4_readClause_23 : decode tc_i4_readClause.2.1 23 = .ok (.iload_n 3, 1) := by decide +kernel
theorem tc_d4_readClause_24 : decode tc_i4_readClause.2.1 24 = .ok (.iconst (-1), 1) := by decide +kernel
theorem tc_d4_readClause_25 : decode tc_i4_readClause.2.1 25 = .ok (.if_icmp .ne 5, 3) := by decide +kernel
theorem tc_d4_readClause_28 : decode tc_i4_readClause.2.1 28 = .ok (.iload_n 2, 1) := by decide +kernel
theorem tc_d4_readClause_29 : decode tc_i4_readClause.2.1 29 = .ok (.ireturn, 1) := by decide +kernel
theorem tc_d4_readClause_30 : decode tc_i4_readClause.2.1 30 = .ok (.aload_n 0, 1) := by decide +kernel
theorem tc_d4_readClause_31 : decode tc_i4_readClause.2.1 31 = .ok (.getfield 15, 3) := by decide +kernel
theorem tc_d4_readClause_34 : decode tc_i4_readClause.2.1 34 = .ok (.iload_n 1, 1) := by decide +kernel
theorem tc_d4_readClause_35 : decode tc_i4_readClause.2.1 35 = .ok (.iload_n 3, 1) := by decide +kernel
theorem tc_d4_readClause_36 : decode tc_i4_readClause.2.1 36 = .ok (.iastore, 1) := by decide +kernel
theorem tc_d4_readClause_37 : decode tc_i4_readClause.2.1 37 = .ok (.iconst 0, 1) := by decide +kernel
theorem tc_d4_readClause_38 : decode tc_i4_readClause.2.1 38 = .ok (.istore 4, 2) := by decide +kernel
theorem tc_d4_readClause_40 : decode tc_i4_readClause.2.1 40 = .ok (.iload 4, 2) := by decide +kernel
theorem tc_d4_readClause_42 : decode tc_i4_readClause.2.1 42 = .ok (.getstatic 45, 3) := by decide +kernel
theorem tc_d4_readClause_45 : decode tc_i4_readClause.2.1 45 = .ok (.iload_n 3, 1) := by decide +kernel
theorem tc_d4_readClause_46 : decode tc_i4_readClause.2.1 46 = .ok (.iaload, 1) := by decide +kernel
theorem tc_d4_readClause_47 : decode tc_i4_readClause.2.1 47 = .ok (.if_icmp .ge 62, 3) := by decide +kernel
theorem tc_d4_readClause_50 : decode tc_i4_readClause.2.1 50 = .ok (.aload_n 0, 1) := by decide +kernel
theorem tc_d4_readClause_51 : decode tc_i4_readClause.2.1 51 = .ok (.invokevirtual 35, 3) := by decide +kernel
theorem tc_d4_readClause_54 : decode tc_i4_readClause.2.1 54 = .ok (.aload_n 0, 1) := by decide +kernel
theorem tc_d4_readClause_55 : decode tc_i4_readClause.2.1 55 = .ok (.getfield 25, 3) := by decide +kernel
theorem tc_d4_readClause_58 : decode tc_i4_readClause.2.1 58 = .ok (.istore_n 2, 1) := by decide +kernel
theorem tc_d4_readClause_59 : decode tc_i4_readClause.2.1 59 = .ok (.aload_n 0, 1) := by decide +kernel
theorem tc_d4_readClause_60 : decode tc_i4_readClause.2.1 60 = .ok (.bipush 48, 2) := by decide +kernel
theorem tc_d4_readClause_62 : decode tc_i4_readClause.2.1 62 = .ok (.bipush 57, 2) := by decide +kernel
theorem tc_d4_readClause_64 : decode tc_i4_readClause.2.1 64 = .ok (.invokevirtual 38, 3) := by decide +kernel
theorem tc_d4_readClause_67 : decode tc_i4_readClause.2.1 67 = .ok (.aload_n 0, 1) := by decide +kernel
theorem tc_d4_readClause_68 : decode tc_i4_readClause.2.1 68 = .ok (.getfield 25, 3) := by decide +kernel
theorem tc_d4_readClause_71 : decode tc_i4_readClause.2.1 71 = .ok (.iload_n 2, 1) := by decide +kernel
theorem tc_d4_readClause_72 : decode tc_i4_readClause.2.1 72 = .ok (.if_icmp .eq 13, 3) := by decide +kernel
theorem tc_d4_readClause_75 : decode tc_i4_readClause.2.1 75 = .ok (.aload_n 0, 1) := by decide +kernel
theorem tc_d4_readClause_76 : decode tc_i4_readClause.2.1 76 = .ok (.getfield 25, 3) := by decide +kernel
theorem tc_d4_readClause_79 : decode tc_i4_readClause.2.1 79 = .ok (.iload_n 2, 1) := by decide +kernel
theorem tc_d4_readClause_80 : decode tc_i4_readClause.2.1 80 = .ok (.iconst 2, 1) := by decide +kernel
theorem tc_d4_readClause_81 : decode tc_i4_readClause.2.1 81 = .ok (.iadd, 1) := by decide +kernel
theorem tc_d4_readClause_82 : decode tc_i4_readClause.2.1 82 = .ok (.if_icmp .le 5, 3) := by decide +kernel
theorem tc_d4_readClause_85 : decode tc_i4_readClause.2.1 85 = .ok (.iload_n 2, 1) := by decide +kernel
theorem tc_d4_readClause_86 : decode tc_i4_readClause.2.1 86 = .ok (.ireturn, 1) := by decide +kernel
theorem tc_d4_readClause_87 : decode tc_i4_readClause.2.1 87 = .ok (.aload_n 0, 1) := by decide +kernel
theorem tc_d4_readClause_88 : decode tc_i4_readClause.2.1 88 = .ok (.getfield 18, 3) := by decide +kernel
theorem tc_d4_readClause_91 : decode tc_i4_readClause.2.1 91 = .ok (.iload_n 1, 1) := by decide +kernel
theorem tc_d4_readClause_92 : decode tc_i4_readClause.2.1 92 = .ok (.iconst 4, 1) := by decide +kernel
theorem tc_d4_readClause_93 : decode tc_i4_readClause.2.1 93 = .ok (.imul, 1) := by decide +kernel
theorem tc_d4_readClause_94 : decode tc_i4_readClause.2.1 94 = .ok (.iload 4, 2) := by decide +kernel
theorem tc_d4_readClause_96 : decode tc_i4_readClause.2.1 96 = .ok (.iadd, 1) := by decide +kernel
theorem tc_d4_readClause_97 : decode tc_i4_readClause.2.1 97 = .ok (.aload_n 0, 1) := by decide +kernel
theorem tc_d4_readClause_98 : decode tc_i4_readClause.2.1 98 = .ok (.iload_n 2, 1) := by decide +kernel
theorem tc_d4_readClause_99 : decode tc_i4_readClause.2.1 99 = .ok (.invokevirtual 48, 3) := by decide +kernel
theorem tc_d4_readClause_102 : decode tc_i4_readClause.2.1 102 = .ok (.iastore, 1) := by decide +kernel
theorem tc_d4_readClause_103 : decode tc_i4_readClause.2.1 103 = .ok (.iinc 4 1, 3) := by decide +kernel
theorem tc_d4_readClause_106 : decode tc_i4_readClause.2.1 106 = .ok (.goto (-66), 3) := by decide +kernel
theorem tc_d4_readClause_109 : decode tc_i4_readClause.2.1 109 = .ok (.iconst (-1), 1) := by decide +kernel
theorem tc_d4_readClause_110 : decode tc_i4_readClause.2.1 110 = .ok (.ireturn, 1) := by decide +kernel
theorem tc_d4_placeOfFault_0 : decode tc_i4_placeOfFault.2.1 0 = .ok (.aload_n 0, 1) := by decide +kernel
theorem tc_d4_placeOfFault_1 : decode tc_i4_placeOfFault.2.1 1 = .ok (.iconst 0, 1) := by decide +kernel
theorem tc_d4_placeOfFault_2 : decode tc_i4_placeOfFault.2.1 2 = .ok (.putfield 25, 3) := by decide +kernel
theorem tc_d4_placeOfFault_5 : decode tc_i4_placeOfFault.2.1 5 = .ok (.aload_n 0, 1) := by decide +kernel
theorem tc_d4_placeOfFault_6 : decode tc_i4_placeOfFault.2.1 6 = .ok (.iconst 0, 1) := by decide +kernel
theorem tc_d4_placeOfFault_7 : decode tc_i4_placeOfFault.2.1 7 = .ok (.putfield 28, 3) := by decide +kernel
theorem tc_d4_placeOfFault_10 : decode tc_i4_placeOfFault.2.1 10 = .ok (.iconst 0, 1) := by decide +kernel
theorem tc_d4_placeOfFault_11 : decode tc_i4_placeOfFault.2.1 11 = .ok (.istore_n 1, 1) := by decide +kernel
theorem tc_d4_placeOfFault_12 : decode tc_i4_placeOfFault.2.1 12 = .ok (.iload_n 1, 1) := by decide +kernel
theorem tc_d4_placeOfFault_13 : decode tc_i4_placeOfFault.2.1 13 = .ok (.bipush 15, 2) := by decide +kernel
theorem tc_d4_placeOfFault_15 : decode tc_i4_placeOfFault.2.1 15 = .ok (.if_icmp .ge 78, 3) := by decide +kernel
theorem tc_d4_placeOfFault_18 : decode tc_i4_placeOfFault.2.1 18 = .ok (.aload_n 0, 1) := by decide +kernel
theorem tc_d4_placeOfFault_19 : decode tc_i4_placeOfFault.2.1 19 = .ok (.iload_n 1, 1) := by decide +kernel
theorem tc_d4_placeOfFault_20 : decode tc_i4_placeOfFault.2.1 20 = .ok (.invokevirtual 31, 3) := by decide +kernel
theorem tc_d4_placeOfFault_23 : decode tc_i4_placeOfFault.2.1 23 = .ok (.istore_n 2, 1) := by decide +kernel
theorem tc_d4_placeOfFault_24 : decode tc_i4_placeOfFault.2.1 24 = .ok (.iload_n 2, 1) := by decide +kernel
theorem tc_d4_placeOfFault_25 : decode tc_i4_placeOfFault.2.1 25 = .ok (.iconst (-1), 1) := by decide +kernel
theorem tc_d4_placeOfFault_26 : decode tc_i4_placeOfFault.2.1 26 = .ok (.if_icmp .eq 5, 3) := by decide +kernel
theorem tc_d4_placeOfFault_29 : decode tc_i4_placeOfFault.2.1 29 = .ok (.iload_n 2, 1) := by decide +kernel
theorem tc_d4_placeOfFault_30 : decode tc_i4_placeOfFault.2.1 30 = .ok (.ireturn, 1) := by decide +kernel
theorem tc_d4_placeOfFault_31 : decode tc_i4_placeOfFault.2.1 31 = .ok (.aload_n 0, 1) := by decide +kernel
theorem tc_d4_placeOfFault_32 : decode tc_i4_placeOfFault.2.1 32 = .ok (.dup, 1) := by decide +kernel
theorem tc_d4_placeOfFault_33 : decode tc_i4_placeOfFault.2.1 33 = .ok (.getfield 28, 3) := by decide +kernel
theorem tc_d4_placeOfFault_36 : decode tc_i4_placeOfFault.2.1 36 = .ok (.iconst 1, 1) := by decide +kernel
theorem tc_d4_placeOfFault_37 : decode tc_i4_placeOfFault.2.1 37 = .ok (.iadd, 1) := by decide +kernel
theorem tc_d4_placeOfFault_38 : decode tc_i4_placeOfFault.2.1 38 = .ok (.putfield 28, 3) := by decide +kernel
theorem tc_d4_placeOfFault_41 : decode tc_i4_placeOfFault.2.1 41 = .ok (.aload_n 0, 1) := by decide +kernel
theorem tc_d4_placeOfFault_42 : decode tc_i4_placeOfFault.2.1 42 = .ok (.invokevirtual 35, 3) := by decide +kernel
theorem tc_d4_placeOfFault_45 : decode tc_i4_placeOfFault.2.1 45 = .ok (.aload_n 0, 1) := by decide +kernel
theorem tc_d4_placeOfFault_46 : decode tc_i4_placeOfFault.2.1 46 = .ok (.getfield 25, 3) := by decide +kernel
theorem tc_d4_placeOfFault_49 : decode tc_i4_placeOfFault.2.1 49 = .ok (.aload_n 0, 1) := by decide +kernel
theorem tc_d4_placeOfFault_50 : decode tc_i4_placeOfFault.2.1 50 = .ok (.getfield 21, 3) := by decide +kernel
theorem tc_d4_placeOfFault_53 : decode tc_i4_placeOfFault.2.1 53 = .ok (.if_icmp .lt 5, 3) := by decide +kernel
theorem tc_d4_placeOfFault_56 : decode tc_i4_placeOfFault.2.1 56 = .ok (.iconst (-1), 1) := by decide +kernel
theorem tc_d4_placeOfFault_57 : decode tc_i4_placeOfFault.2.1 57 = .ok (.ireturn, 1) := by decide +kernel
theorem tc_d4_placeOfFault_58 : decode tc_i4_placeOfFault.2.1 58 = .ok (.aload_n 0, 1) := by decide +kernel
theorem tc_d4_placeOfFault_59 : decode tc_i4_placeOfFault.2.1 59 = .ok (.getfield 9, 3) := by decide +kernel
theorem tc_d4_placeOfFault_62 : decode tc_i4_placeOfFault.2.1 62 = .ok (.aload_n 0, 1) := by decide +kernel
theorem tc_d4_placeOfFault_63 : decode tc_i4_placeOfFault.2.1 63 = .ok (.getfield 25, 3) := by decide +kernel
theorem tc_d4_placeOfFault_66 : decode tc_i4_placeOfFault.2.1 66 = .ok (.iaload, 1) := by decide +kernel
theorem tc_d4_placeOfFault_67 : decode tc_i4_placeOfFault.2.1 67 = .ok (.bipush 59, 2) := by decide +kernel
theorem tc_d4_placeOfFault_69 : decode tc_i4_placeOfFault.2.1 69 = .ok (.if_icmp .eq 8, 3) := by decide +kernel
theorem tc_d4_placeOfFault_72 : decode tc_i4_placeOfFault.2.1 72 = .ok (.aload_n 0, 1) := by decide +kernel
theorem tc_d4_placeOfFault_73 : decode tc_i4_placeOfFault.2.1 73 = .ok (.getfield 25, 3) := by decide +kernel
theorem tc_d4_placeOfFault_76 : decode tc_i4_placeOfFault.2.1 76 = .ok (.ireturn, 1) := by decide +kernel
theorem tc_d4_placeOfFault_77 : decode tc_i4_placeOfFault.2.1 77 = .ok (.aload_n 0, 1) := by decide +kernel
theorem tc_d4_placeOfFault_78 : decode tc_i4_placeOfFault.2.1 78 = .ok (.dup, 1) := by decide +kernel
theorem tc_d4_placeOfFault_79 : decode tc_i4_placeOfFault.2.1 79 = .ok (.getfield 25, 3) := by decide +kernel
theorem tc_d4_placeOfFault_82 : decode tc_i4_placeOfFault.2.1 82 = .ok (.iconst 1, 1) := by decide +kernel
theorem tc_d4_placeOfFault_83 : decode tc_i4_placeOfFault.2.1 83 = .ok (.iadd, 1) := by decide +kernel
theorem tc_d4_placeOfFault_84 : decode tc_i4_placeOfFault.2.1 84 = .ok (.putfield 25, 3) := by decide +kernel
theorem tc_d4_placeOfFault_87 : decode tc_i4_placeOfFault.2.1 87 = .ok (.iinc 1 1, 3) := by decide +kernel
theorem tc_d4_placeOfFault_90 : decode tc_i4_placeOfFault.2.1 90 = .ok (.goto (-78), 3) := by decide +kernel
theorem tc_d4_placeOfFault_93 : decode tc_i4_placeOfFault.2.1 93 = .ok (.aload_n 0, 1) := by decide +kernel
theorem tc_d4_placeOfFault_94 : decode tc_i4_placeOfFault.2.1 94 = .ok (.getfield 25, 3) := by decide +kernel
theorem tc_d4_placeOfFault_97 : decode tc_i4_placeOfFault.2.1 97 = .ok (.ireturn, 1) := by decide +kernel
