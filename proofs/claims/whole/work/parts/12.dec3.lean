theorem tc_d7_caughtBy_0 : decode tc_i7_caughtBy.2.1 0 = .ok (.iload_n 1, 1) := by decide +kernel
theorem tc_d7_caughtBy_1 : decode tc_i7_caughtBy.2.1 1 = .ok (.iconst 2, 1) := by decide +kernel
theorem tc_d7_caughtBy_2 : decode tc_i7_caughtBy.2.1 2 = .ok (.if_icmp .ne 26, 3) := by decide +kernel
theorem tc_d7_caughtBy_5 : decode tc_i7_caughtBy.2.1 5 = .ok (.iload_n 2, 1) := by decide +kernel
theorem tc_d7_caughtBy_6 : decode tc_i7_caughtBy.2.1 6 = .ok (.aload_n 0, 1) := by decide +kernel
theorem tc_d7_caughtBy_7 : decode tc_i7_caughtBy.2.1 7 = .ok (.getfield 93, 3) := by decide +kernel
theorem tc_d7_caughtBy_10 : decode tc_i7_caughtBy.2.1 10 = .ok (.iconst 1, 1) := by decide +kernel
theorem tc_d7_caughtBy_11 : decode tc_i7_caughtBy.2.1 11 = .ok (.isub, 1) := by decide +kernel
theorem tc_d7_caughtBy_12 : decode tc_i7_caughtBy.2.1 12 = .ok (.if_icmp .ge 16, 3) := by decide +kernel
theorem tc_d7_caughtBy_15 : decode tc_i7_caughtBy.2.1 15 = .ok (.aload_n 0, 1) := by decide +kernel
theorem tc_d7_caughtBy_16 : decode tc_i7_caughtBy.2.1 16 = .ok (.getfield 13, 3) := by decide +kernel
theorem tc_d7_caughtBy_19 : decode tc_i7_caughtBy.2.1 19 = .ok (.iload_n 2, 1) := by decide +kernel
theorem tc_d7_caughtBy_20 : decode tc_i7_caughtBy.2.1 20 = .ok (.iconst 1, 1) := by decide +kernel
theorem tc_d7_caughtBy_21 : decode tc_i7_caughtBy.2.1 21 = .ok (.iadd, 1) := by decide +kernel
theorem tc_d7_caughtBy_22 : decode tc_i7_caughtBy.2.1 22 = .ok (.iaload, 1) := by decide +kernel
theorem tc_d7_caughtBy_23 : decode tc_i7_caughtBy.2.1 23 = .ok (.iconst 2, 1) := by decide +kernel
theorem tc_d7_caughtBy_24 : decode tc_i7_caughtBy.2.1 24 = .ok (.idiv, 1) := by decide +kernel
theorem tc_d7_caughtBy_25 : decode tc_i7_caughtBy.2.1 25 = .ok (.goto 4, 3) := by decide +kernel
theorem tc_d7_caughtBy_28 : decode tc_i7_caughtBy.2.1 28 = .ok (.iconst 0, 1) := by decide +kernel
theorem tc_d7_caughtBy_29 : decode tc_i7_caughtBy.2.1 29 = .ok (.ireturn, 1) := by decide +kernel
theorem tc_d7_addFault_0 : decode tc_i7_addFault.2.1 0 = .ok (.aload_n 0, 1) := by decide +kernel
theorem tc_d7_addFault_1 : decode tc_i7_addFault.2.1 1 = .ok (.getfield 35, 3) := by decide +kernel
theorem tc_d7_addFault_4 : decode tc_i7_addFault.2.1 4 = .ok (.aload_n 0, 1) := by decide +kernel
theorem tc_d7_addFault_5 : decode tc_i7_addFault.2.1 5 = .ok (.getfield 100, 3) := by decide +kernel
theorem tc_d7_addFault_8 : decode tc_i7_addFault.2.1 8 = .ok (.iload_n 1, 1) := by decide +kernel
theorem tc_d7_addFault_9 : decode tc_i7_addFault.2.1 9 = .ok (.iastore, 1) := by decide +kernel
theorem tc_d7_addFault_10 : decode tc_i7_addFault.2.1 10 = .ok (.aload_n 0, 1) := by decide +kernel
theorem tc_d7_addFault_11 : decode tc_i7_addFault.2.1 11 = .ok (.getfield 38, 3) := by decide +kernel
theorem tc_d7_addFault_14 : decode tc_i7_addFault.2.1 14 = .ok (.aload_n 0, 1) := by decide +kernel
theorem tc_d7_addFault_15 : decode tc_i7_addFault.2.1 15 = .ok (.getfield 100, 3) := by decide +kernel
theorem tc_d7_addFault_18 : decode tc_i7_addFault.2.1 18 = .ok (.iload_n 2, 1) := by decide +kernel
theorem tc_d7_addFault_19 : decode tc_i7_addFault.2.1 19 = .ok (.iastore, 1) := by decide +kernel
theorem tc_d7_addFault_20 : decode tc_i7_addFault.2.1 20 = .ok (.aload_n 0, 1) := by decide +kernel
theorem tc_d7_addFault_21 : decode tc_i7_addFault.2.1 21 = .ok (.getfield 41, 3) := by decide +kernel
theorem tc_d7_addFault_24 : decode tc_i7_addFault.2.1 24 = .ok (.aload_n 0, 1) := by decide +kernel
theorem tc_d7_addFault_25 : decode tc_i7_addFault.2.1 25 = .ok (.getfield 100, 3) := by decide +kernel
theorem tc_d7_addFault_28 : decode tc_i7_addFault.2.1 28 = .ok (.aload_n 0, 1) := by decide +kernel
theorem tc_d7_addFault_29 : decode tc_i7_addFault.2.1 29 = .ok (.iload_n 1, 1) := by decide +kernel
theorem tc_d7_addFault_30 : decode tc_i7_addFault.2.1 30 = .ok (.iload_n 2, 1) := by decide +kernel
theorem tc_d7_addFault_31 : decode tc_i7_addFault.2.1 31 = .ok (.invokevirtual 120, 3) := by decide +kernel
theorem tc_d7_addFault_34 : decode tc_i7_addFault.2.1 34 = .ok (.iastore, 1) := by decide +kernel
theorem tc_d7_addFault_35 : decode tc_i7_addFault.2.1 35 = .ok (.aload_n 0, 1) := by decide +kernel
theorem tc_d7_addFault_36 : decode tc_i7_addFault.2.1 36 = .ok (.dup, 1) := by decide +kernel
theorem tc_d7_addFault_37 : decode tc_i7_addFault.2.1 37 = .ok (.getfield 100, 3) := by decide +kernel
theorem tc_d7_addFault_40 : decode tc_i7_addFault.2.1 40 = .ok (.iconst 1, 1) := by decide +kernel
theorem tc_d7_addFault_41 : decode tc_i7_addFault.2.1 41 = .ok (.iadd, 1) := by decide +kernel
theorem tc_d7_addFault_42 : decode tc_i7_addFault.2.1 42 = .ok (.putfield 100, 3) := by decide +kernel
theorem tc_d7_addFault_45 : decode tc_i7_addFault.2.1 45 = .ok (.return_, 1) := by decide +kernel
theorem tc_d7_keepsNow_0 : decode tc_i7_keepsNow.2.1 0 = .ok (.iconst 0, 1) := by decide +kernel
theorem tc_d7_keepsNow_1 : decode tc_i7_keepsNow.2.1 1 = .ok (.istore_n 1, 1) := by decide +kernel
theorem tc_d7_keepsNow_2 : decode tc_i7_keepsNow.2.1 2 = .ok (.iload_n 1, 1) := by decide +kernel
theorem tc_d7_keepsNow_3 : decode tc_i7_keepsNow.2.1 3 = .ok (.bipush 8, 2) := by decide +kernel
theorem tc_d7_keepsNow_5 : decode tc_i7_keepsNow.2.1 5 = .ok (.if_icmp .ge 45, 3) := by decide +kernel
theorem tc_d7_keepsNow_8 : decode tc_i7_keepsNow.2.1 8 = .ok (.aload_n 0, 1) := by decide +kernel
theorem tc_d7_keepsNow_9 : decode tc_i7_keepsNow.2.1 9 = .ok (.getfield 78, 3) := by decide +kernel
theorem tc_d7_keepsNow_12 : decode tc_i7_keepsNow.2.1 12 = .ok (.iload_n 1, 1) := by decide +kernel
theorem tc_d7_keepsNow_13 : decode tc_i7_keepsNow.2.1 13 = .ok (.aload_n 0, 1) := by decide +kernel
theorem tc_d7_keepsNow_14 : decode tc_i7_keepsNow.2.1 14 = .ok (.getfield 25, 3) := by decide +kernel
theorem tc_d7_keepsNow_17 : decode tc_i7_keepsNow.2.1 17 = .ok (.iload_n 1, 1) := by decide +kernel
theorem tc_d7_keepsNow_18 : decode tc_i7_keepsNow.2.1 18 = .ok (.baload, 1) := by decide +kernel
theorem tc_d7_keepsNow_19 : decode tc_i7_keepsNow.2.1 19 = .ok (.bastore, 1) := by decide +kernel
theorem tc_d7_keepsNow_20 : decode tc_i7_keepsNow.2.1 20 = .ok (.aload_n 0, 1) := by decide +kernel
theorem tc_d7_keepsNow_21 : decode tc_i7_keepsNow.2.1 21 = .ok (.getfield 81, 3) := by decide +kernel
theorem tc_d7_keepsNow_24 : decode tc_i7_keepsNow.2.1 24 = .ok (.iload_n 1, 1) := by decide +kernel
theorem tc_d7_keepsNow_25 : decode tc_i7_keepsNow.2.1 25 = .ok (.aload_n 0, 1) := by decide +kernel
theorem tc_d7_keepsNow_26 : decode tc_i7_keepsNow.2.1 26 = .ok (.getfield 29, 3) := by decide +kernel
theorem tc_d7_keepsNow_29 : decode tc_i7_keepsNow.2.1 29 = .ok (.iload_n 1, 1) := by decide +kernel
theorem tc_d7_keepsNow_30 : decode tc_i7_keepsNow.2.1 30 = .ok (.baload, 1) := by decide +kernel
theorem tc_d7_keepsNow_31 : decode tc_i7_keepsNow.2.1 31 = .ok (.bastore, 1) := by decide +kernel
theorem tc_d7_keepsNow_32 : decode tc_i7_keepsNow.2.1 32 = .ok (.aload_n 0, 1) := by decide +kernel
theorem tc_d7_keepsNow_33 : decode tc_i7_keepsNow.2.1 33 = .ok (.getfield 84, 3) := by decide +kernel
theorem tc_d7_keepsNow_36 : decode tc_i7_keepsNow.2.1 36 = .ok (.iload_n 1, 1) := by decide +kernel
theorem tc_d7_keepsNow_37 : decode tc_i7_keepsNow.2.1 37 = .ok (.aload_n 0, 1) := by decide +kernel
theorem tc_d7_keepsNow_38 : decode tc_i7_keepsNow.2.1 38 = .ok (.getfield 22, 3) := by decide +kernel
theorem tc_d7_keepsNow_41 : decode tc_i7_keepsNow.2.1 41 = .ok (.iload_n 1, 1) := by decide +kernel
theorem tc_d7_keepsNow_42 : decode tc_i7_keepsNow.2.1 42 = .ok (.iaload, 1) := by decide +kernel
theorem tc_d7_keepsNow_43 : decode tc_i7_keepsNow.2.1 43 = .ok (.iastore, 1) := by decide +kernel
theorem tc_d7_keepsNow_44 : decode tc_i7_keepsNow.2.1 44 = .ok (.iinc 1 1, 3) := by decide +kernel
theorem tc_d7_keepsNow_47 : decode tc_i7_keepsNow.2.1 47 = .ok (.goto (-45), 3) := by decide +kernel
theorem tc_d7_keepsNow_50 : decode tc_i7_keepsNow.2.1 50 = .ok (.aload_n 0, 1) := by decide +kernel
theorem tc_d7_keepsNow_51 : decode tc_i7_keepsNow.2.1 51 = .ok (.aload_n 0, 1) := by decide +kernel
theorem tc_d7_keepsNow_52 : decode tc_i7_keepsNow.2.1 52 = .ok (.getfield 100, 3) := by decide +kernel
theorem tc_d7_keepsNow_55 : decode tc_i7_keepsNow.2.1 55 = .ok (.putfield 161, 3) := by decide +kernel
theorem tc_d7_keepsNow_58 : decode tc_i7_keepsNow.2.1 58 = .ok (.return_, 1) := by decide +kernel
theorem tc_d7_comes_0 : decode tc_i7_comes.2.1 0 = .ok (.aload_n 0, 1) := by decide +kernel
theorem tc_d7_comes_1 : decode tc_i7_comes.2.1 1 = .ok (.getfield 69, 3) := by decide +kernel
theorem tc_d7_comes_4 : decode tc_i7_comes.2.1 4 = .ok (.iload_n 1, 1) := by decide +kernel
theorem tc_d7_comes_5 : decode tc_i7_comes.2.1 5 = .ok (.baload, 1) := by decide +kernel
theorem tc_d7_comes_6 : decode tc_i7_comes.2.1 6 = .ok (.ifCond .eq 4, 3) := by decide +kernel
theorem tc_d7_comes_9 : decode tc_i7_comes.2.1 9 = .ok (.return_, 1) := by decide +kernel
theorem tc_d7_comes_10 : decode tc_i7_comes.2.1 10 = .ok (.aload_n 0, 1) := by decide +kernel
theorem tc_d7_comes_11 : decode tc_i7_comes.2.1 11 = .ok (.getfield 66, 3) := by decide +kernel
theorem tc_d7_comes_14 : decode tc_i7_comes.2.1 14 = .ok (.aload_n 0, 1) := by decide +kernel
theorem tc_d7_comes_15 : decode tc_i7_comes.2.1 15 = .ok (.getfield 142, 3) := by decide +kernel
theorem tc_d7_comes_18 : decode tc_i7_comes.2.1 18 = .ok (.aload_n 0, 1) := by decide +kernel
theorem tc_d7_comes_19 : decode tc_i7_comes.2.1 19 = .ok (.getfield 145, 3) := by decide +kernel
theorem tc_d7_comes_22 : decode tc_i7_comes.2.1 22 = .ok (.iadd, 1) := by decide +kernel
theorem tc_d7_comes_23 : decode tc_i7_comes.2.1 23 = .ok (.bipush 8, 2) := by decide +kernel
theorem tc_d7_comes_25 : decode tc_i7_comes.2.1 25 = .ok (.irem, 1) := by decide +kernel
theorem tc_d7_comes_26 : decode tc_i7_comes.2.1 26 = .ok (.iload_n 1, 1) := by decide +kernel
theorem tc_d7_comes_27 : decode tc_i7_comes.2.1 27 = .ok (.iastore, 1) := by decide +kernel
theorem tc_d7_comes_28 : decode tc_i7_comes.2.1 28 = .ok (.aload_n 0, 1) := by decide +kernel
theorem tc_d7_comes_29 : decode tc_i7_comes.2.1 29 = .ok (.getfield 69, 3) := by decide +kernel
theorem tc_d7_comes_32 : decode tc_i7_comes.2.1 32 = .ok (.iload_n 1, 1) := by decide +kernel
theorem tc_d7_comes_33 : decode tc_i7_comes.2.1 33 = .ok (.iconst 1, 1) := by decide +kernel
theorem tc_d7_comes_34 : decode tc_i7_comes.2.1 34 = .ok (.bastore, 1) := by decide +kernel
theorem tc_d7_comes_35 : decode tc_i7_comes.2.1 35 = .ok (.aload_n 0, 1) := by decide +kernel
theorem tc_d7_comes_36 : decode tc_i7_comes.2.1 36 = .ok (.dup, 1) := by decide +kernel
theorem tc_d7_comes_37 : decode tc_i7_comes.2.1 37 = .ok (.getfield 145, 3) := by decide +kernel
theorem tc_d7_comes_40 : decode tc_i7_comes.2.1 40 = .ok (.iconst 1, 1) := by decide +kernel
theorem tc_d7_comes_41 : decode tc_i7_comes.2.1 41 = .ok (.iadd, 1) := by decide +kernel
theorem tc_d7_comes_42 : decode tc_i7_comes.2.1 42 = .ok (.putfield 145, 3) := by decide +kernel
theorem tc_d7_comes_45 : decode tc_i7_comes.2.1 45 = .ok (.return_, 1) := by decide +kernel
theorem tc_d7_leakOf_0 : decode tc_i7_leakOf.2.1 0 = .ok (.aload_n 0, 1) := by decide +kernel
theorem tc_d7_leakOf_1 : decode tc_i7_leakOf.2.1 1 = .ok (.getfield 16, 3) := by decide +kernel
theorem tc_d7_leakOf_4 : decode tc_i7_leakOf.2.1 4 = .ok (.iload_n 1, 1) := by decide +kernel
theorem tc_d7_leakOf_5 : decode tc_i7_leakOf.2.1 5 = .ok (.iaload, 1) := by decide +kernel
theorem tc_d7_leakOf_6 : decode tc_i7_leakOf.2.1 6 = .ok (.aload_n 0, 1) := by decide +kernel
theorem tc_d7_leakOf_7 : decode tc_i7_leakOf.2.1 7 = .ok (.getfield 19, 3) := by decide +kernel
theorem tc_d7_leakOf_10 : decode tc_i7_leakOf.2.1 10 = .ok (.iload_n 1, 1) := by decide +kernel
theorem tc_d7_leakOf_11 : decode tc_i7_leakOf.2.1 11 = .ok (.iaload, 1) := by decide +kernel
theorem tc_d7_leakOf_12 : decode tc_i7_leakOf.2.1 12 = .ok (.imul, 1) := by decide +kernel
theorem tc_d7_leakOf_13 : decode tc_i7_leakOf.2.1 13 = .ok (.aload_n 0, 1) := by decide +kernel
theorem tc_d7_leakOf_14 : decode tc_i7_leakOf.2.1 14 = .ok (.getfield 32, 3) := by decide +kernel
theorem tc_d7_leakOf_17 : decode tc_i7_leakOf.2.1 17 = .ok (.iconst 2, 1) := by decide +kernel
theorem tc_d7_leakOf_18 : decode tc_i7_leakOf.2.1 18 = .ok (.iaload, 1) := by decide +kernel
theorem tc_d7_leakOf_19 : decode tc_i7_leakOf.2.1 19 = .ok (.imul, 1) := by decide +kernel
theorem tc_d7_leakOf_20 : decode tc_i7_leakOf.2.1 20 = .ok (.bipush 10, 2) := by decide +kernel
theorem tc_d7_leakOf_22 : decode tc_i7_leakOf.2.1 22 = .ok (.idiv, 1) := by decide +kernel
theorem tc_d7_leakOf_23 : decode tc_i7_leakOf.2.1 23 = .ok (.ireturn, 1) := by decide +kernel
theorem tc_d7_hasFault_0 : decode tc_i7_hasFault.2.1 0 = .ok (.iconst 0, 1) := by decide +kernel
theorem tc_d7_hasFault_1 : decode tc_i7_hasFault.2.1 1 = .ok (.istore_n 3, 1) := by decide +kernel
theorem tc_d7_hasFault_2 : decode tc_i7_hasFault.2.1 2 = .ok (.iload_n 3, 1) := by decide +kernel
theorem tc_d7_hasFault_3 : decode tc_i7_hasFault.2.1 3 = .ok (.aload_n 0, 1) := by decide +kernel
theorem tc_d7_hasFault_4 : decode tc_i7_hasFault.2.1 4 = .ok (.getfield 100, 3) := by decide +kernel
theorem tc_d7_hasFault_7 : decode tc_i7_hasFault.2.1 7 = .ok (.if_icmp .ge 39, 3) := by decide +kernel
theorem tc_d7_hasFault_10 : decode tc_i7_hasFault.2.1 10 = .ok (.iload_n 3, 1) := by decide +kernel
theorem tc_d7_hasFault_11 : decode tc_i7_hasFault.2.1 11 = .ok (.aload_n 0, 1) := by decide +kernel
theorem tc_d7_hasFault_12 : decode tc_i7_hasFault.2.1 12 = .ok (.getfield 44, 3) := by decide +kernel
theorem tc_d7_hasFault_15 : decode tc_i7_hasFault.2.1 15 = .ok (.if_icmp .eq 25, 3) := by decide +kernel
theorem tc_d7_hasFault_18 : decode tc_i7_hasFault.2.1 18 = .ok (.aload_n 0, 1) := by decide +kernel
theorem tc_d7_hasFault_19 : decode tc_i7_hasFault.2.1 19 = .ok (.getfield 38, 3) := by decide +kernel
theorem tc_d7_hasFault_22 : decode tc_i7_hasFault.2.1 22 = .ok (.iload_n 3, 1) := by decide +kernel
theorem tc_d7_hasFault_23 : decode tc_i7_hasFault.2.1 23 = .ok (.iaload, 1) := by decide +kernel
theorem tc_d7_hasFault_24 : decode tc_i7_hasFault.2.1 24 = .ok (.iload_n 1, 1) := by decide +kernel
theorem tc_d7_hasFault_25 : decode tc_i7_hasFault.2.1 25 = .ok (.if_icmp .ne 15, 3) := by decide +kernel
theorem tc_d7_hasFault_28 : decode tc_i7_hasFault.2.1 28 = .ok (.aload_n 0, 1) := by decide +kernel
theorem tc_d7_hasFault_29 : decode tc_i7_hasFault.2.1 29 = .ok (.getfield 35, 3) := by decide +kernel
theorem tc_d7_hasFault_32 : decode tc_i7_hasFault.2.1 32 = .ok (.iload_n 3, 1) := by decide +kernel
theorem tc_d7_hasFault_33 : decode tc_i7_hasFault.2.1 33 = .ok (.iaload, 1) := by decide +kernel
theorem tc_d7_hasFault_34 : decode tc_i7_hasFault.2.1 34 = .ok (.iload_n 2, 1) := by decide +kernel
theorem tc_d7_hasFault_35 : decode tc_i7_hasFault.2.1 35 = .ok (.if_icmp .ne 5, 3) := by decide +kernel
theorem tc_d7_hasFault_38 : decode tc_i7_hasFault.2.1 38 = .ok (.iconst 1, 1) := by decide +kernel
theorem tc_d7_hasFault_39 : decode tc_i7_hasFault.2.1 39 = .ok (.ireturn, 1) := by decide +kernel
theorem tc_d7_hasFault_40 : decode tc_i7_hasFault.2.1 40 = .ok (.iinc 3 1, 3) := by decide +kernel
theorem tc_d7_hasFault_43 : decode tc_i7_hasFault.2.1 43 = .ok (.goto (-41), 3) := by decide +kernel
theorem tc_d7_hasFault_46 : decode tc_i7_hasFault.2.1 46 = .ok (.iconst 0, 1) := by decide +kernel
theorem tc_d7_hasFault_47 : decode tc_i7_hasFault.2.1 47 = .ok (.ireturn, 1) := by decide +kernel
theorem tc_d7_currentOf_0 : decode tc_i7_currentOf.2.1 0 = .ok (.iconst 0, 1) := by decide +kernel
theorem tc_d7_currentOf_1 : decode tc_i7_currentOf.2.1 1 = .ok (.aload_n 0, 1) := by decide +kernel
theorem tc_d7_currentOf_2 : decode tc_i7_currentOf.2.1 2 = .ok (.getfield 13, 3) := by decide +kernel
theorem tc_d7_currentOf_5 : decode tc_i7_currentOf.2.1 5 = .ok (.iload_n 1, 1) := by decide +kernel
theorem tc_d7_currentOf_6 : decode tc_i7_currentOf.2.1 6 = .ok (.iaload, 1) := by decide +kernel
theorem tc_d7_currentOf_7 : decode tc_i7_currentOf.2.1 7 = .ok (.aload_n 0, 1) := by decide +kernel
theorem tc_d7_currentOf_8 : decode tc_i7_currentOf.2.1 8 = .ok (.iload_n 1, 1) := by decide +kernel
theorem tc_d7_currentOf_9 : decode tc_i7_currentOf.2.1 9 = .ok (.invokevirtual 103, 3) := by decide +kernel
theorem tc_d7_currentOf_12 : decode tc_i7_currentOf.2.1 12 = .ok (.isub, 1) := by decide +kernel
theorem tc_d7_currentOf_13 : decode tc_i7_currentOf.2.1 13 = .ok (.invokestatic 107, 3) := by decide +kernel
theorem tc_d7_currentOf_16 : decode tc_i7_currentOf.2.1 16 = .ok (.istore_n 2, 1) := by decide +kernel
theorem tc_d7_currentOf_17 : decode tc_i7_currentOf.2.1 17 = .ok (.iconst 0, 1) := by decide +kernel
theorem tc_d7_currentOf_18 : decode tc_i7_currentOf.2.1 18 = .ok (.istore_n 3, 1) := by decide +kernel
theorem tc_d7_currentOf_19 : decode tc_i7_currentOf.2.1 19 = .ok (.iload_n 3, 1) := by decide +kernel
theorem tc_d7_currentOf_20 : decode tc_i7_currentOf.2.1 20 = .ok (.aload_n 0, 1) := by decide +kernel
theorem tc_d7_currentOf_21 : decode tc_i7_currentOf.2.1 21 = .ok (.getfield 100, 3) := by decide +kernel
theorem tc_d7_currentOf_24 : decode tc_i7_currentOf.2.1 24 = .ok (.if_icmp .ge 98, 3) := by decide +kernel
theorem tc_d7_currentOf_27 : decode tc_i7_currentOf.2.1 27 = .ok (.iload_n 3, 1) := by decide +kernel
theorem tc_d7_currentOf_28 : decode tc_i7_currentOf.2.1 28 = .ok (.aload_n 0, 1) := by decide +kernel
theorem tc_d7_currentOf_29 : decode tc_i7_currentOf.2.1 29 = .ok (.getfield 44, 3) := by decide +kernel
theorem tc_d7_currentOf_32 : decode tc_i7_currentOf.2.1 32 = .ok (.if_icmp .eq 84, 3) := by decide +kernel
theorem tc_d7_currentOf_35 : decode tc_i7_currentOf.2.1 35 = .ok (.aload_n 0, 1) := by decide +kernel
theorem tc_d7_currentOf_36 : decode tc_i7_currentOf.2.1 36 = .ok (.getfield 38, 3) := by decide +kernel
theorem tc_d7_currentOf_39 : decode tc_i7_currentOf.2.1 39 = .ok (.iload_n 3, 1) := by decide +kernel
theorem tc_d7_currentOf_40 : decode tc_i7_currentOf.2.1 40 = .ok (.iaload, 1) := by decide +kernel
theorem tc_d7_currentOf_41 : decode tc_i7_currentOf.2.1 41 = .ok (.iload_n 1, 1) := by decide +kernel
theorem tc_d7_currentOf_42 : decode tc_i7_currentOf.2.1 42 = .ok (.if_icmp .eq 6, 3) := by decide +kernel
theorem tc_d7_currentOf_45 : decode tc_i7_currentOf.2.1 45 = .ok (.goto 71, 3) := by decide +kernel
theorem tc_d7_currentOf_48 : decode tc_i7_currentOf.2.1 48 = .ok (.aload_n 0, 1) := by decide +kernel
theorem tc_d7_currentOf_49 : decode tc_i7_currentOf.2.1 49 = .ok (.getfield 35, 3) := by decide +kernel
theorem tc_d7_currentOf_52 : decode tc_i7_currentOf.2.1 52 = .ok (.iload_n 3, 1) := by decide +kernel
theorem tc_d7_currentOf_53 : decode tc_i7_currentOf.2.1 53 = .ok (.iaload, 1) := by decide +kernel
theorem tc_d7_currentOf_54 : decode tc_i7_currentOf.2.1 54 = .ok (.tableswitch 62 0 2 #[26, 37, 44], 26) := by decide +kernel
theorem tc_d7_currentOf_80 : decode tc_i7_currentOf.2.1 80 = .ok (.aload_n 0, 1) := by decide +kernel
theorem tc_d7_currentOf_81 : decode tc_i7_currentOf.2.1 81 = .ok (.iload_n 1, 1) := by decide +kernel
theorem tc_d7_currentOf_82 : decode tc_i7_currentOf.2.1 82 = .ok (.invokevirtual 103, 3) := by decide +kernel
theorem tc_d7_currentOf_85 : decode tc_i7_currentOf.2.1 85 = .ok (.iconst 2, 1) := by decide +kernel
theorem tc_d7_currentOf_86 : decode tc_i7_currentOf.2.1 86 = .ok (.idiv, 1) := by decide +kernel
theorem tc_d7_currentOf_87 : decode tc_i7_currentOf.2.1 87 = .ok (.istore_n 2, 1) := by decide +kernel
theorem tc_d7_currentOf_88 : decode tc_i7_currentOf.2.1 88 = .ok (.goto 28, 3) := by decide +kernel
theorem tc_d7_currentOf_91 : decode tc_i7_currentOf.2.1 91 = .ok (.iload_n 2, 1) := by decide +kernel
theorem tc_d7_currentOf_92 : decode tc_i7_currentOf.2.1 92 = .ok (.iconst 2, 1) := by decide +kernel
theorem tc_d7_currentOf_93 : decode tc_i7_currentOf.2.1 93 = .ok (.idiv, 1) := by decide +kernel
theorem tc_d7_currentOf_94 : decode tc_i7_currentOf.2.1 94 = .ok (.istore_n 2, 1) := by decide +kernel
theorem tc_d7_currentOf_95 : decode tc_i7_currentOf.2.1 95 = .ok (.goto 21, 3) := by decide +kernel
theorem tc_d7_currentOf_98 : decode tc_i7_currentOf.2.1 98 = .ok (.sipush 999, 3) := by decide +kernel
theorem tc_d7_currentOf_101 : decode tc_i7_currentOf.2.1 101 = .ok (.iload_n 2, 1) := by decide +kernel
theorem tc_d7_currentOf_102 : decode tc_i7_currentOf.2.1 102 = .ok (.aload_n 0, 1) := by decide +kernel
theorem tc_d7_currentOf_103 : decode tc_i7_currentOf.2.1 103 = .ok (.getfield 41, 3) := by decide +kernel
theorem tc_d7_currentOf_106 : decode tc_i7_currentOf.2.1 106 = .ok (.iload_n 3, 1) := by decide +kernel
theorem tc_d7_currentOf_107 : decode tc_i7_currentOf.2.1 107 = .ok (.iaload, 1) := by decide +kernel
theorem tc_d7_currentOf_108 : decode tc_i7_currentOf.2.1 108 = .ok (.iadd, 1) := by decide +kernel
theorem tc_d7_currentOf_109 : decode tc_i7_currentOf.2.1 109 = .ok (.invokestatic 113, 3) := by decide +kernel
theorem tc_d7_currentOf_112 : decode tc_i7_currentOf.2.1 112 = .ok (.istore_n 2, 1) := by decide +kernel
theorem tc_d7_currentOf_113 : decode tc_i7_currentOf.2.1 113 = .ok (.goto 3, 3) := by decide +kernel
theorem tc_d7_currentOf_116 : decode tc_i7_currentOf.2.1 116 = .ok (.iinc 3 1, 3) := by decide +kernel
theorem tc_d7_currentOf_119 : decode tc_i7_currentOf.2.1 119 = .ok (.goto (-100), 3) := by decide +kernel
theorem tc_d7_currentOf_122 : decode tc_i7_currentOf.2.1 122 = .ok (.aload_n 0, 1) := by decide +kernel
theorem tc_d7_currentOf_123 : decode tc_i7_currentOf.2.1 123 = .ok (.getfield 29, 3) := by decide +kernel
theorem tc_d7_currentOf_126 : decode tc_i7_currentOf.2.1 126 = .ok (.iload_n 1, 1) := by decide +kernel
theorem tc_d7_currentOf_127 : decode tc_i7_currentOf.2.1 127 = .ok (.baload, 1) := by decide +kernel
theorem tc_d7_currentOf_128 : decode tc_i7_currentOf.2.1 128 = .ok (.ifCond .ne 7, 3) := by decide +kernel
theorem tc_d7_currentOf_131 : decode tc_i7_currentOf.2.1 131 = .ok (.iload_n 2, 1) := by decide +kernel
theorem tc_d7_currentOf_132 : decode tc_i7_currentOf.2.1 132 = .ok (.goto 19, 3) := by decide +kernel
theorem tc_d7_currentOf_135 : decode tc_i7_currentOf.2.1 135 = .ok (.aload_n 0, 1) := by decide +kernel
theorem tc_d7_currentOf_136 : decode tc_i7_currentOf.2.1 136 = .ok (.iload_n 1, 1) := by decide +kernel
theorem tc_d7_currentOf_137 : decode tc_i7_currentOf.2.1 137 = .ok (.iconst 3, 1) := by decide +kernel
theorem tc_d7_currentOf_138 : decode tc_i7_currentOf.2.1 138 = .ok (.invokevirtual 116, 3) := by decide +kernel
theorem tc_d7_currentOf_141 : decode tc_i7_currentOf.2.1 141 = .ok (.ifCond .eq 9, 3) := by decide +kernel
theorem tc_d7_currentOf_144 : decode tc_i7_currentOf.2.1 144 = .ok (.iload_n 2, 1) := by decide +kernel
theorem tc_d7_currentOf_145 : decode tc_i7_currentOf.2.1 145 = .ok (.iconst 4, 1) := by decide +kernel
theorem tc_d7_currentOf_146 : decode tc_i7_currentOf.2.1 146 = .ok (.idiv, 1) := by decide +kernel
theorem tc_d7_currentOf_147 : decode tc_i7_currentOf.2.1 147 = .ok (.goto 4, 3) := by decide +kernel
theorem tc_d7_currentOf_150 : decode tc_i7_currentOf.2.1 150 = .ok (.iconst 0, 1) := by decide +kernel
theorem tc_d7_currentOf_151 : decode tc_i7_currentOf.2.1 151 = .ok (.ireturn, 1) := by decide +kernel
theorem tc_d7_goesPlain_0 : decode tc_i7_goesPlain.2.1 0 = .ok (.iload_n 2, 1) := by decide +kernel
theorem tc_d7_goesPlain_1 : decode tc_i7_goesPlain.2.1 1 = .ok (.aload_n 0, 1) := by decide +kernel
theorem tc_d7_goesPlain_2 : decode tc_i7_goesPlain.2.1 2 = .ok (.getfield 32, 3) := by decide +kernel
theorem tc_d7_goesPlain_5 : decode tc_i7_goesPlain.2.1 5 = .ok (.iconst 0, 1) := by decide +kernel
theorem tc_d7_goesPlain_6 : decode tc_i7_goesPlain.2.1 6 = .ok (.iaload, 1) := by decide +kernel
theorem tc_d7_goesPlain_7 : decode tc_i7_goesPlain.2.1 7 = .ok (.if_icmp .ge 22, 3) := by decide +kernel
theorem tc_d7_goesPlain_10 : decode tc_i7_goesPlain.2.1 10 = .ok (.iload_n 2, 1) := by decide +kernel
theorem tc_d7_goesPlain_11 : decode tc_i7_goesPlain.2.1 11 = .ok (.aload_n 0, 1) := by decide +kernel
theorem tc_d7_goesPlain_12 : decode tc_i7_goesPlain.2.1 12 = .ok (.getfield 32, 3) := by decide +kernel
theorem tc_d7_goesPlain_15 : decode tc_i7_goesPlain.2.1 15 = .ok (.iconst 1, 1) := by decide +kernel
theorem tc_d7_goesPlain_16 : decode tc_i7_goesPlain.2.1 16 = .ok (.iaload, 1) := by decide +kernel
theorem tc_d7_goesPlain_17 : decode tc_i7_goesPlain.2.1 17 = .ok (.if_icmp .lt 16, 3) := by decide +kernel
theorem tc_d7_goesPlain_20 : decode tc_i7_goesPlain.2.1 20 = .ok (.aload_n 0, 1) := by decide +kernel
theorem tc_d7_goesPlain_21 : decode tc_i7_goesPlain.2.1 21 = .ok (.getfield 25, 3) := by decide +kernel
theorem tc_d7_goesPlain_24 : decode tc_i7_goesPlain.2.1 24 = .ok (.iload_n 1, 1) := by decide +kernel
theorem tc_d7_goesPlain_25 : decode tc_i7_goesPlain.2.1 25 = .ok (.baload, 1) := by decide +kernel
theorem tc_d7_goesPlain_26 : decode tc_i7_goesPlain.2.1 26 = .ok (.ifCond .eq 7, 3) := by decide +kernel
theorem tc_d7_goesPlain_29 : decode tc_i7_goesPlain.2.1 29 = .ok (.iconst 1, 1) := by decide +kernel
theorem tc_d7_goesPlain_30 : decode tc_i7_goesPlain.2.1 30 = .ok (.goto 4, 3) := by decide +kernel
theorem tc_d7_goesPlain_33 : decode tc_i7_goesPlain.2.1 33 = .ok (.iconst 0, 1) := by decide +kernel
theorem tc_d7_goesPlain_34 : decode tc_i7_goesPlain.2.1 34 = .ok (.ireturn, 1) := by decide +kernel
theorem tc_d7_goesSlow_0 : decode tc_i7_goesSlow.2.1 0 = .ok (.aload_n 0, 1) := by decide +kernel
theorem tc_d7_goesSlow_1 : decode tc_i7_goesSlow.2.1 1 = .ok (.iload_n 1, 1) := by decide +kernel
theorem tc_d7_goesSlow_2 : decode tc_i7_goesSlow.2.1 2 = .ok (.iload_n 2, 1) := by decide +kernel
theorem tc_d7_goesSlow_3 : decode tc_i7_goesSlow.2.1 3 = .ok (.invokevirtual 123, 3) := by decide +kernel
theorem tc_d7_goesSlow_6 : decode tc_i7_goesSlow.2.1 6 = .ok (.ifCond .eq 26, 3) := by decide +kernel
theorem tc_d7_goesSlow_9 : decode tc_i7_goesSlow.2.1 9 = .ok (.aload_n 0, 1) := by decide +kernel
theorem tc_d7_goesSlow_10 : decode tc_i7_goesSlow.2.1 10 = .ok (.getfield 25, 3) := by decide +kernel
theorem tc_d7_goesSlow_13 : decode tc_i7_goesSlow.2.1 13 = .ok (.iload_n 1, 1) := by decide +kernel
theorem tc_d7_goesSlow_14 : decode tc_i7_goesSlow.2.1 14 = .ok (.baload, 1) := by decide +kernel
theorem tc_d7_goesSlow_15 : decode tc_i7_goesSlow.2.1 15 = .ok (.ifCond .ne 13, 3) := by decide +kernel
theorem tc_d7_goesSlow_18 : decode tc_i7_goesSlow.2.1 18 = .ok (.aload_n 0, 1) := by decide +kernel
theorem tc_d7_goesSlow_19 : decode tc_i7_goesSlow.2.1 19 = .ok (.getfield 22, 3) := by decide +kernel
theorem tc_d7_goesSlow_22 : decode tc_i7_goesSlow.2.1 22 = .ok (.iload_n 1, 1) := by decide +kernel
theorem tc_d7_goesSlow_23 : decode tc_i7_goesSlow.2.1 23 = .ok (.iaload, 1) := by decide +kernel
theorem tc_d7_goesSlow_24 : decode tc_i7_goesSlow.2.1 24 = .ok (.iconst 2, 1) := by decide +kernel
theorem tc_d7_goesSlow_25 : decode tc_i7_goesSlow.2.1 25 = .ok (.if_icmp .lt 7, 3) := by decide +kernel
theorem tc_d7_goesSlow_28 : decode tc_i7_goesSlow.2.1 28 = .ok (.iconst 1, 1) := by decide +kernel
theorem tc_d7_goesSlow_29 : decode tc_i7_goesSlow.2.1 29 = .ok (.goto 4, 3) := by decide +kernel
theorem tc_d7_goesSlow_32 : decode tc_i7_goesSlow.2.1 32 = .ok (.iconst 0, 1) := by decide +kernel
theorem tc_d7_goesSlow_33 : decode tc_i7_goesSlow.2.1 33 = .ok (.ireturn, 1) := by decide +kernel
theorem tc_d7_goesStick_0 : decode tc_i7_goesStick.2.1 0 = .ok (.aload_n 0, 1) := by decide +kernel
theorem tc_d7_goesStick_1 : decode tc_i7_goesStick.2.1 1 = .ok (.iload_n 1, 1) := by decide +kernel
theorem tc_d7_goesStick_2 : decode tc_i7_goesStick.2.1 2 = .ok (.iload_n 2, 1) := by decide +kernel
theorem tc_d7_goesStick_3 : decode tc_i7_goesStick.2.1 3 = .ok (.invokevirtual 123, 3) := by decide +kernel
theorem tc_d7_goesStick_6 : decode tc_i7_goesStick.2.1 6 = .ok (.ifCond .eq 31, 3) := by decide +kernel
theorem tc_d7_goesStick_9 : decode tc_i7_goesStick.2.1 9 = .ok (.aload_n 0, 1) := by decide +kernel
theorem tc_d7_goesStick_10 : decode tc_i7_goesStick.2.1 10 = .ok (.getfield 25, 3) := by decide +kernel
theorem tc_d7_goesStick_13 : decode tc_i7_goesStick.2.1 13 = .ok (.iload_n 1, 1) := by decide +kernel
theorem tc_d7_goesStick_14 : decode tc_i7_goesStick.2.1 14 = .ok (.baload, 1) := by decide +kernel
theorem tc_d7_goesStick_15 : decode tc_i7_goesStick.2.1 15 = .ok (.ifCond .ne 18, 3) := by decide +kernel
theorem tc_d7_goesStick_18 : decode tc_i7_goesStick.2.1 18 = .ok (.iload_n 1, 1) := by decide +kernel
theorem tc_d7_goesStick_19 : decode tc_i7_goesStick.2.1 19 = .ok (.ifCond .eq 14, 3) := by decide +kernel
theorem tc_d7_goesStick_22 : decode tc_i7_goesStick.2.1 22 = .ok (.aload_n 0, 1) := by decide +kernel
theorem tc_d7_goesStick_23 : decode tc_i7_goesStick.2.1 23 = .ok (.getfield 25, 3) := by decide +kernel
theorem tc_d7_goesStick_26 : decode tc_i7_goesStick.2.1 26 = .ok (.iload_n 1, 1) := by decide +kernel
theorem tc_d7_goesStick_27 : decode tc_i7_goesStick.2.1 27 = .ok (.iconst 1, 1) := by decide +kernel
theorem tc_d7_goesStick_28 : decode tc_i7_goesStick.2.1 28 = .ok (.isub, 1) := by decide +kernel
theorem tc_d7_goesStick_29 : decode tc_i7_goesStick.2.1 29 = .ok (.baload, 1) := by decide +kernel
theorem tc_d7_goesStick_30 : decode tc_i7_goesStick.2.1 30 = .ok (.ifCond .eq 7, 3) := by decide +kernel
theorem tc_d7_goesStick_33 : decode tc_i7_goesStick.2.1 33 = .ok (.iconst 1, 1) := by decide +kernel
theorem tc_d7_goesStick_34 : decode tc_i7_goesStick.2.1 34 = .ok (.goto 4, 3) := by decide +kernel
theorem tc_d7_goesStick_37 : decode tc_i7_goesStick.2.1 37 = .ok (.iconst 0, 1) := by decide +kernel
theorem tc_d7_goesStick_38 : decode tc_i7_goesStick.2.1 38 = .ok (.ireturn, 1) := by decide +kernel
theorem tc_d7_isUpRight_0 : decode tc_i7_isUpRight.2.1 0 = .ok (.iload_n 1, 1) := by decide +kernel
theorem tc_d7_isUpRight_1 : decode tc_i7_isUpRight.2.1 1 = .ok (.aload_n 0, 1) := by decide +kernel
theorem tc_d7_isUpRight_2 : decode tc_i7_isUpRight.2.1 2 = .ok (.getfield 93, 3) := by decide +kernel
theorem tc_d7_isUpRight_5 : decode tc_i7_isUpRight.2.1 5 = .ok (.iconst 1, 1) := by decide +kernel
theorem tc_d7_isUpRight_6 : decode tc_i7_isUpRight.2.1 6 = .ok (.isub, 1) := by decide +kernel
theorem tc_d7_isUpRight_7 : decode tc_i7_isUpRight.2.1 7 = .ok (.if_icmp .ge 18, 3) := by decide +kernel
theorem tc_d7_isUpRight_10 : decode tc_i7_isUpRight.2.1 10 = .ok (.aload_n 0, 1) := by decide +kernel
theorem tc_d7_isUpRight_11 : decode tc_i7_isUpRight.2.1 11 = .ok (.getfield 25, 3) := by decide +kernel
theorem tc_d7_isUpRight_14 : decode tc_i7_isUpRight.2.1 14 = .ok (.iload_n 1, 1) := by decide +kernel
theorem tc_d7_isUpRight_15 : decode tc_i7_isUpRight.2.1 15 = .ok (.iconst 1, 1) := by decide +kernel
theorem tc_d7_isUpRight_16 : decode tc_i7_isUpRight.2.1 16 = .ok (.iadd, 1) := by decide +kernel
theorem tc_d7_isUpRight_17 : decode tc_i7_isUpRight.2.1 17 = .ok (.baload, 1) := by decide +kernel
theorem tc_d7_isUpRight_18 : decode tc_i7_isUpRight.2.1 18 = .ok (.ifCond .eq 7, 3) := by decide +kernel
theorem tc_d7_isUpRight_21 : decode tc_i7_isUpRight.2.1 21 = .ok (.iconst 1, 1) := by decide +kernel
theorem tc_d7_isUpRight_22 : decode tc_i7_isUpRight.2.1 22 = .ok (.goto 4, 3) := by decide +kernel
theorem tc_d7_isUpRight_25 : decode tc_i7_isUpRight.2.1 25 = .ok (.iconst 0, 1) := by decide +kernel
theorem tc_d7_isUpRight_26 : decode tc_i7_isUpRight.2.1 26 = .ok (.ireturn, 1) := by decide +kernel
theorem tc_d7_isUpLeft_0 : decode tc_i7_isUpLeft.2.1 0 = .ok (.iload_n 1, 1) := by decide +kernel
theorem tc_d7_isUpLeft_1 : decode tc_i7_isUpLeft.2.1 1 = .ok (.ifCond .le 18, 3) := by decide +kernel
theorem tc_d7_isUpLeft_4 : decode tc_i7_isUpLeft.2.1 4 = .ok (.aload_n 0, 1) := by decide +kernel
theorem tc_d7_isUpLeft_5 : decode tc_i7_isUpLeft.2.1 5 = .ok (.getfield 25, 3) := by decide +kernel
theorem tc_d7_isUpLeft_8 : decode tc_i7_isUpLeft.2.1 8 = .ok (.iload_n 1, 1) := by decide +kernel
theorem tc_d7_isUpLeft_9 : decode tc_i7_isUpLeft.2.1 9 = .ok (.iconst 1, 1) := by decide +kernel
theorem tc_d7_isUpLeft_10 : decode tc_i7_isUpLeft.2.1 10 = .ok (.isub, 1) := by decide +kernel
theorem tc_d7_isUpLeft_11 : decode tc_i7_isUpLeft.2.1 11 = .ok (.baload, 1) := by decide +kernel
theorem tc_d7_isUpLeft_12 : decode tc_i7_isUpLeft.2.1 12 = .ok (.ifCond .eq 7, 3) := by decide +kernel
theorem tc_d7_isUpLeft_15 : decode tc_i7_isUpLeft.2.1 15 = .ok (.iconst 1, 1) := by decide +kernel
theorem tc_d7_isUpLeft_16 : decode tc_i7_isUpLeft.2.1 16 = .ok (.goto 4, 3) := by decide +kernel
theorem tc_d7_isUpLeft_19 : decode tc_i7_isUpLeft.2.1 19 = .ok (.iconst 0, 1) := by decide +kernel
theorem tc_d7_isUpLeft_20 : decode tc_i7_isUpLeft.2.1 20 = .ok (.ireturn, 1) := by decide +kernel
theorem tc_d7_goesUp_0 : decode tc_i7_goesUp.2.1 0 = .ok (.aload_n 0, 1) := by decide +kernel
theorem tc_d7_goesUp_1 : decode tc_i7_goesUp.2.1 1 = .ok (.iload_n 1, 1) := by decide +kernel
theorem tc_d7_goesUp_2 : decode tc_i7_goesUp.2.1 2 = .ok (.invokevirtual 126, 3) := by decide +kernel
theorem tc_d7_goesUp_5 : decode tc_i7_goesUp.2.1 5 = .ok (.istore_n 2, 1) := by decide +kernel
theorem tc_d7_goesUp_6 : decode tc_i7_goesUp.2.1 6 = .ok (.aload_n 0, 1) := by decide +kernel
theorem tc_d7_goesUp_7 : decode tc_i7_goesUp.2.1 7 = .ok (.getfield 7, 3) := by decide +kernel
theorem tc_d7_goesUp_10 : decode tc_i7_goesUp.2.1 10 = .ok (.iload_n 1, 1) := by decide +kernel
theorem tc_d7_goesUp_11 : decode tc_i7_goesUp.2.1 11 = .ok (.iaload, 1) := by decide +kernel
theorem tc_d7_goesUp_12 : decode tc_i7_goesUp.2.1 12 = .ok (.tableswitch 114 0 4 #[36, 43, 50, 57, 91], 36) := by decide +kernel
theorem tc_d7_goesUp_48 : decode tc_i7_goesUp.2.1 48 = .ok (.aload_n 0, 1) := by decide +kernel
theorem tc_d7_goesUp_49 : decode tc_i7_goesUp.2.1 49 = .ok (.iload_n 1, 1) := by decide +kernel
theorem tc_d7_goesUp_50 : decode tc_i7_goesUp.2.1 50 = .ok (.iload_n 2, 1) := by decide +kernel
theorem tc_d7_goesUp_51 : decode tc_i7_goesUp.2.1 51 = .ok (.invokevirtual 123, 3) := by decide +kernel
theorem tc_d7_goesUp_54 : decode tc_i7_goesUp.2.1 54 = .ok (.ireturn, 1) := by decide +kernel
theorem tc_d7_goesUp_55 : decode tc_i7_goesUp.2.1 55 = .ok (.aload_n 0, 1) := by decide +kernel
theorem tc_d7_goesUp_56 : decode tc_i7_goesUp.2.1 56 = .ok (.iload_n 1, 1) := by decide +kernel
theorem tc_d7_goesUp_57 : decode tc_i7_goesUp.2.1 57 = .ok (.iload_n 2, 1) := by decide +kernel
theorem tc_d7_goesUp_58 : decode tc_i7_goesUp.2.1 58 = .ok (.invokevirtual 129, 3) := by decide +kernel
theorem tc_d7_goesUp_61 : decode tc_i7_goesUp.2.1 61 = .ok (.ireturn, 1) := by decide +kernel
theorem tc_d7_goesUp_62 : decode tc_i7_goesUp.2.1 62 = .ok (.aload_n 0, 1) := by decide +kernel
theorem tc_d7_goesUp_63 : decode tc_i7_goesUp.2.1 63 = .ok (.iload_n 1, 1) := by decide +kernel
theorem tc_d7_goesUp_64 : decode tc_i7_goesUp.2.1 64 = .ok (.iload_n 2, 1) := by decide +kernel
theorem tc_d7_goesUp_65 : decode tc_i7_goesUp.2.1 65 = .ok (.invokevirtual 132, 3) := by decide +kernel
theorem tc_d7_goesUp_68 : decode tc_i7_goesUp.2.1 68 = .ok (.ireturn, 1) := by decide +kernel
theorem tc_d7_goesUp_69 : decode tc_i7_goesUp.2.1 69 = .ok (.aload_n 0, 1) := by decide +kernel
theorem tc_d7_goesUp_70 : decode tc_i7_goesUp.2.1 70 = .ok (.iload_n 1, 1) := by decide +kernel
theorem tc_d7_goesUp_71 : decode tc_i7_goesUp.2.1 71 = .ok (.iload_n 1, 1) := by decide +kernel
theorem tc_d7_goesUp_72 : decode tc_i7_goesUp.2.1 72 = .ok (.aload_n 0, 1) := by decide +kernel
theorem tc_d7_goesUp_73 : decode tc_i7_goesUp.2.1 73 = .ok (.getfield 93, 3) := by decide +kernel
theorem tc_d7_goesUp_76 : decode tc_i7_goesUp.2.1 76 = .ok (.iconst 1, 1) := by decide +kernel
theorem tc_d7_goesUp_77 : decode tc_i7_goesUp.2.1 77 = .ok (.isub, 1) := by decide +kernel
theorem tc_d7_goesUp_78 : decode tc_i7_goesUp.2.1 78 = .ok (.if_icmp .ge 20, 3) := by decide +kernel
theorem tc_d7_goesUp_81 : decode tc_i7_goesUp.2.1 81 = .ok (.aload_n 0, 1) := by decide +kernel
theorem tc_d7_goesUp_82 : decode tc_i7_goesUp.2.1 82 = .ok (.getfield 25, 3) := by decide +kernel
theorem tc_d7_goesUp_85 : decode tc_i7_goesUp.2.1 85 = .ok (.iload_n 1, 1) := by decide +kernel
theorem tc_d7_goesUp_86 : decode tc_i7_goesUp.2.1 86 = .ok (.iconst 1, 1) := by decide +kernel
theorem tc_d7_goesUp_87 : decode tc_i7_goesUp.2.1 87 = .ok (.iadd, 1) := by decide +kernel
theorem tc_d7_goesUp_88 : decode tc_i7_goesUp.2.1 88 = .ok (.baload, 1) := by decide +kernel
theorem tc_d7_goesUp_89 : decode tc_i7_goesUp.2.1 89 = .ok (.ifCond .ne 9, 3) := by decide +kernel
theorem tc_d7_goesUp_92 : decode tc_i7_goesUp.2.1 92 = .ok (.iload_n 2, 1) := by decide +kernel
theorem tc_d7_goesUp_93 : decode tc_i7_goesUp.2.1 93 = .ok (.iconst 2, 1) := by decide +kernel
theorem tc_d7_goesUp_94 : decode tc_i7_goesUp.2.1 94 = .ok (.idiv, 1) := by decide +kernel
theorem tc_d7_goesUp_95 : decode tc_i7_goesUp.2.1 95 = .ok (.goto 4, 3) := by decide +kernel
theorem tc_d7_goesUp_98 : decode tc_i7_goesUp.2.1 98 = .ok (.iload_n 2, 1) := by decide +kernel
theorem tc_d7_goesUp_99 : decode tc_i7_goesUp.2.1 99 = .ok (.invokevirtual 129, 3) := by decide +kernel
theorem tc_d7_goesUp_102 : decode tc_i7_goesUp.2.1 102 = .ok (.ireturn, 1) := by decide +kernel
theorem tc_d7_goesUp_103 : decode tc_i7_goesUp.2.1 103 = .ok (.aload_n 0, 1) := by decide +kernel
theorem tc_d7_goesUp_104 : decode tc_i7_goesUp.2.1 104 = .ok (.iload_n 1, 1) := by decide +kernel
theorem tc_d7_goesUp_105 : decode tc_i7_goesUp.2.1 105 = .ok (.iload_n 2, 1) := by decide +kernel
theorem tc_d7_goesUp_106 : decode tc_i7_goesUp.2.1 106 = .ok (.invokevirtual 123, 3) := by decide +kernel
theorem tc_d7_goesUp_109 : decode tc_i7_goesUp.2.1 109 = .ok (.ifCond .eq 15, 3) := by decide +kernel
theorem tc_d7_goesUp_112 : decode tc_i7_goesUp.2.1 112 = .ok (.aload_n 0, 1) := by decide +kernel
theorem tc_d7_goesUp_113 : decode tc_i7_goesUp.2.1 113 = .ok (.iload_n 1, 1) := by decide +kernel
theorem tc_d7_goesUp_114 : decode tc_i7_goesUp.2.1 114 = .ok (.invokevirtual 135, 3) := by decide +kernel
theorem tc_d7_goesUp_117 : decode tc_i7_goesUp.2.1 117 = .ok (.ifCond .ne 7, 3) := by decide +kernel
theorem tc_d7_goesUp_120 : decode tc_i7_goesUp.2.1 120 = .ok (.iconst 1, 1) := by decide +kernel
theorem tc_d7_goesUp_121 : decode tc_i7_goesUp.2.1 121 = .ok (.goto 4, 3) := by decide +kernel
theorem tc_d7_goesUp_124 : decode tc_i7_goesUp.2.1 124 = .ok (.iconst 0, 1) := by decide +kernel
theorem tc_d7_goesUp_125 : decode tc_i7_goesUp.2.1 125 = .ok (.ireturn, 1) := by decide +kernel
theorem tc_d7_goesUp_126 : decode tc_i7_goesUp.2.1 126 = .ok (.aload_n 0, 1) := by decide +kernel
theorem tc_d7_goesUp_127 : decode tc_i7_goesUp.2.1 127 = .ok (.iload_n 1, 1) := by decide +kernel
theorem tc_d7_goesUp_128 : decode tc_i7_goesUp.2.1 128 = .ok (.iload_n 2, 1) := by decide +kernel
theorem tc_d7_goesUp_129 : decode tc_i7_goesUp.2.1 129 = .ok (.invokevirtual 132, 3) := by decide +kernel
theorem tc_d7_goesUp_132 : decode tc_i7_goesUp.2.1 132 = .ok (.ifCond .eq 31, 3) := by decide +kernel
theorem tc_d7_goesUp_135 : decode tc_i7_goesUp.2.1 135 = .ok (.aload_n 0, 1) := by decide +kernel
theorem tc_d7_goesUp_136 : decode tc_i7_goesUp.2.1 136 = .ok (.getfield 93, 3) := by decide +kernel
theorem tc_d7_goesUp_139 : decode tc_i7_goesUp.2.1 139 = .ok (.iconst 1, 1) := by decide +kernel
theorem tc_d7_goesUp_140 : decode tc_i7_goesUp.2.1 140 = .ok (.if_icmp .eq 19, 3) := by decide +kernel
theorem tc_d7_goesUp_143 : decode tc_i7_goesUp.2.1 143 = .ok (.aload_n 0, 1) := by decide +kernel
theorem tc_d7_goesUp_144 : decode tc_i7_goesUp.2.1 144 = .ok (.iload_n 1, 1) := by decide +kernel
theorem tc_d7_goesUp_145 : decode tc_i7_goesUp.2.1 145 = .ok (.invokevirtual 139, 3) := by decide +kernel
theorem tc_d7_goesUp_148 : decode tc_i7_goesUp.2.1 148 = .ok (.ifCond .ne 11, 3) := by decide +kernel
theorem tc_d7_goesUp_151 : decode tc_i7_goesUp.2.1 151 = .ok (.aload_n 0, 1) := by decide +kernel
theorem tc_d7_goesUp_152 : decode tc_i7_goesUp.2.1 152 = .ok (.iload_n 1, 1) := by decide +kernel
theorem tc_d7_goesUp_153 : decode tc_i7_goesUp.2.1 153 = .ok (.invokevirtual 135, 3) := by decide +kernel
theorem tc_d7_goesUp_156 : decode tc_i7_goesUp.2.1 156 = .ok (.ifCond .eq 7, 3) := by decide +kernel
theorem tc_d7_goesUp_159 : decode tc_i7_goesUp.2.1 159 = .ok (.iconst 1, 1) := by decide +kernel
theorem tc_d7_goesUp_160 : decode tc_i7_goesUp.2.1 160 = .ok (.goto 4, 3) := by decide +kernel
theorem tc_d7_goesUp_163 : decode tc_i7_goesUp.2.1 163 = .ok (.iconst 0, 1) := by decide +kernel
theorem tc_d7_goesUp_164 : decode tc_i7_goesUp.2.1 164 = .ok (.ireturn, 1) := by decide +kernel
theorem tc_d7_looksOf_0 : decode tc_i7_looksOf.2.1 0 = .ok (.iload_n 0, 1) := by decide +kernel
theorem tc_d7_looksOf_1 : decode tc_i7_looksOf.2.1 1 = .ok (.tableswitch 37 2 5 #[31, 33, 33, 35], 31) := by decide +kernel
theorem tc_d7_looksOf_32 : decode tc_i7_looksOf.2.1 32 = .ok (.iconst 1, 1) := by decide +kernel
theorem tc_d7_looksOf_33 : decode tc_i7_looksOf.2.1 33 = .ok (.ireturn, 1) := by decide +kernel
theorem tc_d7_looksOf_34 : decode tc_i7_looksOf.2.1 34 = .ok (.iconst 2, 1) := by decide +kernel
theorem tc_d7_looksOf_35 : decode tc_i7_looksOf.2.1 35 = .ok (.ireturn, 1) := by decide +kernel
theorem tc_d7_looksOf_36 : decode tc_i7_looksOf.2.1 36 = .ok (.iconst 3, 1) := by decide +kernel
theorem tc_d7_looksOf_37 : decode tc_i7_looksOf.2.1 37 = .ok (.ireturn, 1) := by decide +kernel
theorem tc_d7_looksOf_38 : decode tc_i7_looksOf.2.1 38 = .ok (.iconst 0, 1) := by decide +kernel
theorem tc_d7_looksOf_39 : decode tc_i7_looksOf.2.1 39 = .ok (.ireturn, 1) := by decide +kernel
theorem tc_d7_goes_0 : decode tc_i7_goes.2.1 0 = .ok (.aload_n 0, 1) := by decide +kernel
theorem tc_d7_goes_1 : decode tc_i7_goes.2.1 1 = .ok (.iconst 0, 1) := by decide +kernel
theorem tc_d7_goes_2 : decode tc_i7_goes.2.1 2 = .ok (.putfield 142, 3) := by decide +kernel
theorem tc_d7_goes_5 : decode tc_i7_goes.2.1 5 = .ok (.aload_n 0, 1) := by decide +kernel
theorem tc_d7_goes_6 : decode tc_i7_goes.2.1 6 = .ok (.iconst 0, 1) := by decide +kernel
theorem tc_d7_goes_7 : decode tc_i7_goes.2.1 7 = .ok (.putfield 145, 3) := by decide +kernel
theorem tc_d7_goes_10 : decode tc_i7_goes.2.1 10 = .ok (.iconst 0, 1) := by decide +kernel
theorem tc_d7_goes_11 : decode tc_i7_goes.2.1 11 = .ok (.istore_n 2, 1) := by decide +kernel
theorem tc_d7_goes_12 : decode tc_i7_goes.2.1 12 = .ok (.iload_n 2, 1) := by decide +kernel
theorem tc_d7_goes_13 : decode tc_i7_goes.2.1 13 = .ok (.bipush 8, 2) := by decide +kernel
theorem tc_d7_goes_15 : decode tc_i7_goes.2.1 15 = .ok (.if_icmp .ge 28, 3) := by decide +kernel
theorem tc_d7_goes_18 : decode tc_i7_goes.2.1 18 = .ok (.aload_n 0, 1) := by decide +kernel
theorem tc_d7_goes_19 : decode tc_i7_goes.2.1 19 = .ok (.getfield 69, 3) := by decide +kernel
theorem tc_d7_goes_22 : decode tc_i7_goes.2.1 22 = .ok (.iload_n 2, 1) := by decide +kernel
theorem tc_d7_goes_23 : decode tc_i7_goes.2.1 23 = .ok (.iconst 0, 1) := by decide +kernel
theorem tc_d7_goes_24 : decode tc_i7_goes.2.1 24 = .ok (.bastore, 1) := by decide +kernel
theorem tc_d7_goes_25 : decode tc_i7_goes.2.1 25 = .ok (.aload_n 0, 1) := by decide +kernel
theorem tc_d7_goes_26 : decode tc_i7_goes.2.1 26 = .ok (.getfield 72, 3) := by decide +kernel
theorem tc_d7_goes_29 : decode tc_i7_goes.2.1 29 = .ok (.iload_n 2, 1) := by decide +kernel
theorem tc_d7_goes_30 : decode tc_i7_goes.2.1 30 = .ok (.aload_n 0, 1) := by decide +kernel
theorem tc_d7_goes_31 : decode tc_i7_goes.2.1 31 = .ok (.getfield 25, 3) := by decide +kernel
theorem tc_d7_goes_34 : decode tc_i7_goes.2.1 34 = .ok (.iload_n 2, 1) := by decide +kernel
theorem tc_d7_goes_35 : decode tc_i7_goes.2.1 35 = .ok (.baload, 1) := by decide +kernel
theorem tc_d7_goes_36 : decode tc_i7_goes.2.1 36 = .ok (.bastore, 1) := by decide +kernel
theorem tc_d7_goes_37 : decode tc_i7_goes.2.1 37 = .ok (.iinc 2 1, 3) := by decide +kernel
theorem tc_d7_goes_40 : decode tc_i7_goes.2.1 40 = .ok (.goto (-28), 3) := by decide +kernel
theorem tc_d7_goes_43 : decode tc_i7_goes.2.1 43 = .ok (.iconst 0, 1) := by decide +kernel
theorem tc_d7_goes_44 : decode tc_i7_goes.2.1 44 = .ok (.istore_n 2, 1) := by decide +kernel
theorem tc_d7_goes_45 : decode tc_i7_goes.2.1 45 = .ok (.iload_n 2, 1) := by decide +kernel
theorem tc_d7_goes_46 : decode tc_i7_goes.2.1 46 = .ok (.aload_n 0, 1) := by decide +kernel
theorem tc_d7_goes_47 : decode tc_i7_goes.2.1 47 = .ok (.getfield 93, 3) := by decide +kernel
theorem tc_d7_goes_50 : decode tc_i7_goes.2.1 50 = .ok (.if_icmp .ge 29, 3) := by decide +kernel
theorem tc_d7_goes_53 : decode tc_i7_goes.2.1 53 = .ok (.aload_n 0, 1) := by decide +kernel
theorem tc_d7_goes_54 : decode tc_i7_goes.2.1 54 = .ok (.iload_n 1, 1) := by decide +kernel
theorem tc_d7_goes_55 : decode tc_i7_goes.2.1 55 = .ok (.ifCond .eq 14, 3) := by decide +kernel
theorem tc_d7_goes_58 : decode tc_i7_goes.2.1 58 = .ok (.aload_n 0, 1) := by decide +kernel
theorem tc_d7_goes_59 : decode tc_i7_goes.2.1 59 = .ok (.getfield 93, 3) := by decide +kernel
theorem tc_d7_goes_62 : decode tc_i7_goes.2.1 62 = .ok (.iconst 1, 1) := by decide +kernel
theorem tc_d7_goes_63 : decode tc_i7_goes.2.1 63 = .ok (.isub, 1) := by decide +kernel
theorem tc_d7_goes_64 : decode tc_i7_goes.2.1 64 = .ok (.iload_n 2, 1) := by decide +kernel
theorem tc_d7_goes_65 : decode tc_i7_goes.2.1 65 = .ok (.isub, 1) := by decide +kernel
theorem tc_d7_goes_66 : decode tc_i7_goes.2.1 66 = .ok (.goto 4, 3) := by decide +kernel
theorem tc_d7_goes_69 : decode tc_i7_goes.2.1 69 = .ok (.iload_n 2, 1) := by decide +kernel
theorem tc_d7_goes_70 : decode tc_i7_goes.2.1 70 = .ok (.invokevirtual 148, 3) := by decide +kernel
theorem tc_d7_goes_73 : decode tc_i7_goes.2.1 73 = .ok (.iinc 2 1, 3) := by decide +kernel
theorem tc_d7_goes_76 : decode tc_i7_goes.2.1 76 = .ok (.goto (-31), 3) := by decide +kernel
theorem tc_d7_goes_79 : decode tc_i7_goes.2.1 79 = .ok (.iconst 0, 1) := by decide +kernel
theorem tc_d7_goes_80 : decode tc_i7_goes.2.1 80 = .ok (.istore_n 2, 1) := by decide +kernel
theorem tc_d7_goes_81 : decode tc_i7_goes.2.1 81 = .ok (.aload_n 0, 1) := by decide +kernel
theorem tc_d7_goes_82 : decode tc_i7_goes.2.1 82 = .ok (.getfield 145, 3) := by decide +kernel
theorem tc_d7_goes_85 : decode tc_i7_goes.2.1 85 = .ok (.ifCond .le 211, 3) := by decide +kernel
theorem tc_d7_goes_88 : decode tc_i7_goes.2.1 88 = .ok (.aload_n 0, 1) := by decide +kernel
theorem tc_d7_goes_89 : decode tc_i7_goes.2.1 89 = .ok (.getfield 66, 3) := by decide +kernel
theorem tc_d7_goes_92 : decode tc_i7_goes.2.1 92 = .ok (.aload_n 0, 1) := by decide +kernel
theorem tc_d7_goes_93 : decode tc_i7_goes.2.1 93 = .ok (.getfield 142, 3) := by decide +kernel
theorem tc_d7_goes_96 : decode tc_i7_goes.2.1 96 = .ok (.iaload, 1) := by decide +kernel
theorem tc_d7_goes_97 : decode tc_i7_goes.2.1 97 = .ok (.istore_n 3, 1) := by decide +kernel
theorem tc_d7_goes_98 : decode tc_i7_goes.2.1 98 = .ok (.aload_n 0, 1) := by decide +kernel
theorem tc_d7_goes_99 : decode tc_i7_goes.2.1 99 = .ok (.aload_n 0, 1) := by decide +kernel
theorem tc_d7_goes_100 : decode tc_i7_goes.2.1 100 = .ok (.getfield 142, 3) := by decide +kernel
theorem tc_d7_goes_103 : decode tc_i7_goes.2.1 103 = .ok (.iconst 1, 1) := by decide +kernel
theorem tc_d7_goes_104 : decode tc_i7_goes.2.1 104 = .ok (.iadd, 1) := by decide +kernel
theorem tc_d7_goes_105 : decode tc_i7_goes.2.1 105 = .ok (.bipush 8, 2) := by decide +kernel
theorem tc_d7_goes_107 : decode tc_i7_goes.2.1 107 = .ok (.irem, 1) := by decide +kernel
theorem tc_d7_goes_108 : decode tc_i7_goes.2.1 108 = .ok (.putfield 142, 3) := by decide +kernel
theorem tc_d7_goes_111 : decode tc_i7_goes.2.1 111 = .ok (.aload_n 0, 1) := by decide +kernel
theorem tc_d7_goes_112 : decode tc_i7_goes.2.1 112 = .ok (.dup, 1) := by decide +kernel
theorem tc_d7_goes_113 : decode tc_i7_goes.2.1 113 = .ok (.getfield 145, 3) := by decide +kernel
theorem tc_d7_goes_116 : decode tc_i7_goes.2.1 116 = .ok (.iconst 1, 1) := by decide +kernel
theorem tc_d7_goes_117 : decode tc_i7_goes.2.1 117 = .ok (.isub, 1) := by decide +kernel
theorem tc_d7_goes_118 : decode tc_i7_goes.2.1 118 = .ok (.putfield 145, 3) := by decide +kernel
theorem tc_d7_goes_121 : decode tc_i7_goes.2.1 121 = .ok (.aload_n 0, 1) := by decide +kernel
theorem tc_d7_goes_122 : decode tc_i7_goes.2.1 122 = .ok (.getfield 69, 3) := by decide +kernel
theorem tc_d7_goes_125 : decode tc_i7_goes.2.1 125 = .ok (.iload_n 3, 1) := by decide +kernel
theorem tc_d7_goes_126 : decode tc_i7_goes.2.1 126 = .ok (.iconst 0, 1) := by decide +kernel
theorem tc_d7_goes_127 : decode tc_i7_goes.2.1 127 = .ok (.bastore, 1) := by decide +kernel
theorem tc_d7_goes_128 : decode tc_i7_goes.2.1 128 = .ok (.aload_n 0, 1) := by decide +kernel
theorem tc_d7_goes_129 : decode tc_i7_goes.2.1 129 = .ok (.iload_n 3, 1) := by decide +kernel
theorem tc_d7_goes_130 : decode tc_i7_goes.2.1 130 = .ok (.invokevirtual 152, 3) := by decide +kernel
theorem tc_d7_goes_133 : decode tc_i7_goes.2.1 133 = .ok (.aload_n 0, 1) := by decide +kernel
theorem tc_d7_goes_134 : decode tc_i7_goes.2.1 134 = .ok (.getfield 25, 3) := by decide +kernel
theorem tc_d7_goes_137 : decode tc_i7_goes.2.1 137 = .ok (.iload_n 3, 1) := by decide +kernel
theorem tc_d7_goes_138 : decode tc_i7_goes.2.1 138 = .ok (.baload, 1) := by decide +kernel
theorem tc_d7_goes_139 : decode tc_i7_goes.2.1 139 = .ok (.if_icmp .ne 6, 3) := by decide +kernel
theorem tc_d7_goes_142 : decode tc_i7_goes.2.1 142 = .ok (.goto (-61), 3) := by decide +kernel
theorem tc_d7_goes_145 : decode tc_i7_goes.2.1 145 = .ok (.iload_n 2, 1) := by decide +kernel
theorem tc_d7_goes_146 : decode tc_i7_goes.2.1 146 = .ok (.bipush 40, 2) := by decide +kernel
theorem tc_d7_goes_148 : decode tc_i7_goes.2.1 148 = .ok (.if_icmp .ne 35, 3) := by decide +kernel
theorem tc_d7_goes_151 : decode tc_i7_goes.2.1 151 = .ok (.iconst 0, 1) := by decide +kernel
theorem tc_d7_goes_152 : decode tc_i7_goes.2.1 152 = .ok (.istore 4, 2) := by decide +kernel
theorem tc_d7_goes_154 : decode tc_i7_goes.2.1 154 = .ok (.iload 4, 2) := by decide +kernel
theorem tc_d7_goes_156 : decode tc_i7_goes.2.1 156 = .ok (.bipush 8, 2) := by decide +kernel
theorem tc_d7_goes_158 : decode tc_i7_goes.2.1 158 = .ok (.if_icmp .ge 23, 3) := by decide +kernel
theorem tc_d7_goes_161 : decode tc_i7_goes.2.1 161 = .ok (.aload_n 0, 1) := by decide +kernel
theorem tc_d7_goes_162 : decode tc_i7_goes.2.1 162 = .ok (.getfield 25, 3) := by decide +kernel
theorem tc_d7_goes_165 : decode tc_i7_goes.2.1 165 = .ok (.iload 4, 2) := by decide +kernel
theorem tc_d7_goes_167 : decode tc_i7_goes.2.1 167 = .ok (.aload_n 0, 1) := by decide +kernel
theorem tc_d7_goes_168 : decode tc_i7_goes.2.1 168 = .ok (.getfield 72, 3) := by decide +kernel
theorem tc_d7_goes_171 : decode tc_i7_goes.2.1 171 = .ok (.iload 4, 2) := by decide +kernel
theorem tc_d7_goes_173 : decode tc_i7_goes.2.1 173 = .ok (.baload, 1) := by decide +kernel
theorem tc_d7_goes_174 : decode tc_i7_goes.2.1 174 = .ok (.bastore, 1) := by decide +kernel
theorem tc_d7_goes_175 : decode tc_i7_goes.2.1 175 = .ok (.iinc 4 1, 3) := by decide +kernel
theorem tc_d7_goes_178 : decode tc_i7_goes.2.1 178 = .ok (.goto (-24), 3) := by decide +kernel
theorem tc_d7_goes_181 : decode tc_i7_goes.2.1 181 = .ok (.iconst (-1), 1) := by decide +kernel
theorem tc_d7_goes_182 : decode tc_i7_goes.2.1 182 = .ok (.ireturn, 1) := by decide +kernel
theorem tc_d7_goes_183 : decode tc_i7_goes.2.1 183 = .ok (.aload_n 0, 1) := by decide +kernel
theorem tc_d7_goes_184 : decode tc_i7_goes.2.1 184 = .ok (.getfield 25, 3) := by decide +kernel
theorem tc_d7_goes_187 : decode tc_i7_goes.2.1 187 = .ok (.iload_n 3, 1) := by decide +kernel
theorem tc_d7_goes_188 : decode tc_i7_goes.2.1 188 = .ok (.aload_n 0, 1) := by decide +kernel
theorem tc_d7_goes_189 : decode tc_i7_goes.2.1 189 = .ok (.getfield 25, 3) := by decide +kernel
theorem tc_d7_goes_192 : decode tc_i7_goes.2.1 192 = .ok (.iload_n 3, 1) := by decide +kernel
theorem tc_d7_goes_193 : decode tc_i7_goes.2.1 193 = .ok (.baload, 1) := by decide +kernel
theorem tc_d7_goes_194 : decode tc_i7_goes.2.1 194 = .ok (.ifCond .ne 7, 3) := by decide +kernel
theorem tc_d7_goes_197 : decode tc_i7_goes.2.1 197 = .ok (.iconst 1, 1) := by decide +kernel
theorem tc_d7_goes_198 : decode tc_i7_goes.2.1 198 = .ok (.goto 4, 3) := by decide +kernel
theorem tc_d7_goes_201 : decode tc_i7_goes.2.1 201 = .ok (.iconst 0, 1) := by decide +kernel
theorem tc_d7_goes_202 : decode tc_i7_goes.2.1 202 = .ok (.bastore, 1) := by decide +kernel
theorem tc_d7_goes_203 : decode tc_i7_goes.2.1 203 = .ok (.aload_n 0, 1) := by decide +kernel
theorem tc_d7_goes_204 : decode tc_i7_goes.2.1 204 = .ok (.getfield 75, 3) := by decide +kernel
theorem tc_d7_goes_207 : decode tc_i7_goes.2.1 207 = .ok (.iload_n 2, 1) := by decide +kernel
theorem tc_d7_goes_208 : decode tc_i7_goes.2.1 208 = .ok (.bipush 10, 2) := by decide +kernel
theorem tc_d7_goes_210 : decode tc_i7_goes.2.1 210 = .ok (.iload_n 3, 1) := by decide +kernel
theorem tc_d7_goes_211 : decode tc_i7_goes.2.1 211 = .ok (.imul, 1) := by decide +kernel
theorem tc_d7_goes_212 : decode tc_i7_goes.2.1 212 = .ok (.aload_n 0, 1) := by decide +kernel
theorem tc_d7_goes_213 : decode tc_i7_goes.2.1 213 = .ok (.getfield 25, 3) := by decide +kernel
theorem tc_d7_goes_216 : decode tc_i7_goes.2.1 216 = .ok (.iload_n 3, 1) := by decide +kernel
theorem tc_d7_goes_217 : decode tc_i7_goes.2.1 217 = .ok (.baload, 1) := by decide +kernel
theorem tc_d7_goes_218 : decode tc_i7_goes.2.1 218 = .ok (.ifCond .eq 7, 3) := by decide +kernel
theorem tc_d7_goes_221 : decode tc_i7_goes.2.1 221 = .ok (.iconst 1, 1) := by decide +kernel
theorem tc_d7_goes_222 : decode tc_i7_goes.2.1 222 = .ok (.goto 4, 3) := by decide +kernel
theorem tc_d7_goes_225 : decode tc_i7_goes.2.1 225 = .ok (.iconst 0, 1) := by decide +kernel
theorem tc_d7_goes_226 : decode tc_i7_goes.2.1 226 = .ok (.iadd, 1) := by decide +kernel
theorem tc_d7_goes_227 : decode tc_i7_goes.2.1 227 = .ok (.iastore, 1) := by decide +kernel
theorem tc_d7_goes_228 : decode tc_i7_goes.2.1 228 = .ok (.iinc 2 1, 3) := by decide +kernel
theorem tc_d7_goes_231 : decode tc_i7_goes.2.1 231 = .ok (.iload_n 3, 1) := by decide +kernel
theorem tc_d7_goes_232 : decode tc_i7_goes.2.1 232 = .ok (.ifCond .le 27, 3) := by decide +kernel
theorem tc_d7_goes_235 : decode tc_i7_goes.2.1 235 = .ok (.aload_n 0, 1) := by decide +kernel
theorem tc_d7_goes_236 : decode tc_i7_goes.2.1 236 = .ok (.getfield 7, 3) := by decide +kernel
theorem tc_d7_goes_239 : decode tc_i7_goes.2.1 239 = .ok (.iload_n 3, 1) := by decide +kernel
theorem tc_d7_goes_240 : decode tc_i7_goes.2.1 240 = .ok (.iconst 1, 1) := by decide +kernel
theorem tc_d7_goes_241 : decode tc_i7_goes.2.1 241 = .ok (.isub, 1) := by decide +kernel
theorem tc_d7_goes_242 : decode tc_i7_goes.2.1 242 = .ok (.iaload, 1) := by decide +kernel
theorem tc_d7_goes_243 : decode tc_i7_goes.2.1 243 = .ok (.invokestatic 155, 3) := by decide +kernel
theorem tc_d7_goes_246 : decode tc_i7_goes.2.1 246 = .ok (.iconst 2, 1) := by decide +kernel
theorem tc_d7_goes_247 : decode tc_i7_goes.2.1 247 = .ok (.idiv, 1) := by decide +kernel
theorem tc_d7_goes_248 : decode tc_i7_goes.2.1 248 = .ok (.iconst 1, 1) := by decide +kernel
theorem tc_d7_goes_249 : decode tc_i7_goes.2.1 249 = .ok (.if_icmp .ne 10, 3) := by decide +kernel
theorem tc_d7_goes_252 : decode tc_i7_goes.2.1 252 = .ok (.aload_n 0, 1) := by decide +kernel
theorem tc_d7_goes_253 : decode tc_i7_goes.2.1 253 = .ok (.iload_n 3, 1) := by decide +kernel
theorem tc_d7_goes_254 : decode tc_i7_goes.2.1 254 = .ok (.iconst 1, 1) := by decide +kernel
theorem tc_d7_goes_255 : decode tc_i7_goes.2.1 255 = .ok (.isub, 1) := by decide +kernel
theorem tc_d7_goes_256 : decode tc_i7_goes.2.1 256 = .ok (.invokevirtual 148, 3) := by decide +kernel
theorem tc_d7_goes_259 : decode tc_i7_goes.2.1 259 = .ok (.iload_n 3, 1) := by decide +kernel
theorem tc_d7_goes_260 : decode tc_i7_goes.2.1 260 = .ok (.aload_n 0, 1) := by decide +kernel
theorem tc_d7_goes_261 : decode tc_i7_goes.2.1 261 = .ok (.getfield 93, 3) := by decide +kernel
theorem tc_d7_goes_264 : decode tc_i7_goes.2.1 264 = .ok (.iconst 1, 1) := by decide +kernel
theorem tc_d7_goes_265 : decode tc_i7_goes.2.1 265 = .ok (.isub, 1) := by decide +kernel
theorem tc_d7_goes_266 : decode tc_i7_goes.2.1 266 = .ok (.if_icmp .ge 27, 3) := by decide +kernel
theorem tc_d7_goes_269 : decode tc_i7_goes.2.1 269 = .ok (.aload_n 0, 1) := by decide +kernel
theorem tc_d7_goes_270 : decode tc_i7_goes.2.1 270 = .ok (.getfield 7, 3) := by decide +kernel
theorem tc_d7_goes_273 : decode tc_i7_goes.2.1 273 = .ok (.iload_n 3, 1) := by decide +kernel
theorem tc_d7_goes_274 : decode tc_i7_goes.2.1 274 = .ok (.iconst 1, 1) := by decide +kernel
theorem tc_d7_goes_275 : decode tc_i7_goes.2.1 275 = .ok (.iadd, 1) := by decide +kernel
theorem tc_d7_goes_276 : decode tc_i7_goes.2.1 276 = .ok (.iaload, 1) := by decide +kernel
theorem tc_d7_goes_277 : decode tc_i7_goes.2.1 277 = .ok (.invokestatic 155, 3) := by decide +kernel
theorem tc_d7_goes_280 : decode tc_i7_goes.2.1 280 = .ok (.iconst 2, 1) := by decide +kernel
theorem tc_d7_goes_281 : decode tc_i7_goes.2.1 281 = .ok (.irem, 1) := by decide +kernel
theorem tc_d7_goes_282 : decode tc_i7_goes.2.1 282 = .ok (.iconst 1, 1) := by decide +kernel
theorem tc_d7_goes_283 : decode tc_i7_goes.2.1 283 = .ok (.if_icmp .ne 10, 3) := by decide +kernel
theorem tc_d7_goes_286 : decode tc_i7_goes.2.1 286 = .ok (.aload_n 0, 1) := by decide +kernel
theorem tc_d7_goes_287 : decode tc_i7_goes.2.1 287 = .ok (.iload_n 3, 1) := by decide +kernel
theorem tc_d7_goes_288 : decode tc_i7_goes.2.1 288 = .ok (.iconst 1, 1) := by decide +kernel
theorem tc_d7_goes_289 : decode tc_i7_goes.2.1 289 = .ok (.iadd, 1) := by decide +kernel
theorem tc_d7_goes_290 : decode tc_i7_goes.2.1 290 = .ok (.invokevirtual 148, 3) := by decide +kernel
theorem tc_d7_goes_293 : decode tc_i7_goes.2.1 293 = .ok (.goto (-212), 3) := by decide +kernel
theorem tc_d7_goes_296 : decode tc_i7_goes.2.1 296 = .ok (.iconst 0, 1) := by decide +kernel
theorem tc_d7_goes_297 : decode tc_i7_goes.2.1 297 = .ok (.istore_n 3, 1) := by decide +kernel
theorem tc_d7_goes_298 : decode tc_i7_goes.2.1 298 = .ok (.iload_n 3, 1) := by decide +kernel
theorem tc_d7_goes_299 : decode tc_i7_goes.2.1 299 = .ok (.aload_n 0, 1) := by decide +kernel
theorem tc_d7_goes_300 : decode tc_i7_goes.2.1 300 = .ok (.getfield 93, 3) := by decide +kernel
theorem tc_d7_goes_303 : decode tc_i7_goes.2.1 303 = .ok (.if_icmp .ge 45, 3) := by decide +kernel
theorem tc_d7_goes_306 : decode tc_i7_goes.2.1 306 = .ok (.aload_n 0, 1) := by decide +kernel
theorem tc_d7_goes_307 : decode tc_i7_goes.2.1 307 = .ok (.getfield 22, 3) := by decide +kernel
theorem tc_d7_goes_310 : decode tc_i7_goes.2.1 310 = .ok (.iload_n 3, 1) := by decide +kernel
theorem tc_d7_goes_311 : decode tc_i7_goes.2.1 311 = .ok (.aload_n 0, 1) := by decide +kernel
theorem tc_d7_goes_312 : decode tc_i7_goes.2.1 312 = .ok (.iload_n 3, 1) := by decide +kernel
theorem tc_d7_goes_313 : decode tc_i7_goes.2.1 313 = .ok (.invokevirtual 126, 3) := by decide +kernel
theorem tc_d7_goes_316 : decode tc_i7_goes.2.1 316 = .ok (.aload_n 0, 1) := by decide +kernel
theorem tc_d7_goes_317 : decode tc_i7_goes.2.1 317 = .ok (.getfield 32, 3) := by decide +kernel
theorem tc_d7_goes_320 : decode tc_i7_goes.2.1 320 = .ok (.iconst 0, 1) := by decide +kernel
theorem tc_d7_goes_321 : decode tc_i7_goes.2.1 321 = .ok (.iaload, 1) := by decide +kernel
theorem tc_d7_goes_322 : decode tc_i7_goes.2.1 322 = .ok (.if_icmp .lt 18, 3) := by decide +kernel
theorem tc_d7_goes_325 : decode tc_i7_goes.2.1 325 = .ok (.iconst 3, 1) := by decide +kernel
theorem tc_d7_goes_326 : decode tc_i7_goes.2.1 326 = .ok (.aload_n 0, 1) := by decide +kernel
theorem tc_d7_goes_327 : decode tc_i7_goes.2.1 327 = .ok (.getfield 22, 3) := by decide +kernel
theorem tc_d7_goes_330 : decode tc_i7_goes.2.1 330 = .ok (.iload_n 3, 1) := by decide +kernel
theorem tc_d7_goes_331 : decode tc_i7_goes.2.1 331 = .ok (.iaload, 1) := by decide +kernel
theorem tc_d7_goes_332 : decode tc_i7_goes.2.1 332 = .ok (.iconst 1, 1) := by decide +kernel
theorem tc_d7_goes_333 : decode tc_i7_goes.2.1 333 = .ok (.iadd, 1) := by decide +kernel
theorem tc_d7_goes_334 : decode tc_i7_goes.2.1 334 = .ok (.invokestatic 113, 3) := by decide +kernel
theorem tc_d7_goes_337 : decode tc_i7_goes.2.1 337 = .ok (.goto 4, 3) := by decide +kernel
theorem tc_d7_goes_340 : decode tc_i7_goes.2.1 340 = .ok (.iconst 0, 1) := by decide +kernel
theorem tc_d7_goes_341 : decode tc_i7_goes.2.1 341 = .ok (.iastore, 1) := by decide +kernel
theorem tc_d7_goes_342 : decode tc_i7_goes.2.1 342 = .ok (.iinc 3 1, 3) := by decide +kernel
theorem tc_d7_goes_345 : decode tc_i7_goes.2.1 345 = .ok (.goto (-47), 3) := by decide +kernel
theorem tc_d7_goes_348 : decode tc_i7_goes.2.1 348 = .ok (.iload_n 2, 1) := by decide +kernel
theorem tc_d7_goes_349 : decode tc_i7_goes.2.1 349 = .ok (.ireturn, 1) := by decide +kernel
theorem tc_d7_isTroubled_0 : decode tc_i7_isTroubled.2.1 0 = .ok (.aload_n 0, 1) := by decide +kernel
theorem tc_d7_isTroubled_1 : decode tc_i7_isTroubled.2.1 1 = .ok (.getfield 29, 3) := by decide +kernel
theorem tc_d7_isTroubled_4 : decode tc_i7_isTroubled.2.1 4 = .ok (.iload_n 1, 1) := by decide +kernel
theorem tc_d7_isTroubled_5 : decode tc_i7_isTroubled.2.1 5 = .ok (.baload, 1) := by decide +kernel
theorem tc_d7_isTroubled_6 : decode tc_i7_isTroubled.2.1 6 = .ok (.ifCond .ne 12, 3) := by decide +kernel
theorem tc_d7_isTroubled_9 : decode tc_i7_isTroubled.2.1 9 = .ok (.aload_n 0, 1) := by decide +kernel
theorem tc_d7_isTroubled_10 : decode tc_i7_isTroubled.2.1 10 = .ok (.iload_n 1, 1) := by decide +kernel
theorem tc_d7_isTroubled_11 : decode tc_i7_isTroubled.2.1 11 = .ok (.iconst 0, 1) := by decide +kernel
theorem tc_d7_isTroubled_12 : decode tc_i7_isTroubled.2.1 12 = .ok (.invokevirtual 116, 3) := by decide +kernel
theorem tc_d7_isTroubled_15 : decode tc_i7_isTroubled.2.1 15 = .ok (.ifCond .eq 7, 3) := by decide +kernel
theorem tc_d7_isTroubled_18 : decode tc_i7_isTroubled.2.1 18 = .ok (.iconst 1, 1) := by decide +kernel
theorem tc_d7_isTroubled_19 : decode tc_i7_isTroubled.2.1 19 = .ok (.goto 4, 3) := by decide +kernel
theorem tc_d7_isTroubled_22 : decode tc_i7_isTroubled.2.1 22 = .ok (.iconst 0, 1) := by decide +kernel
theorem tc_d7_isTroubled_23 : decode tc_i7_isTroubled.2.1 23 = .ok (.ireturn, 1) := by decide +kernel
theorem tc_d7_bitsOf_0 : decode tc_i7_bitsOf.2.1 0 = .ok (.iconst 0, 1) := by decide +kernel
theorem tc_d7_bitsOf_1 : decode tc_i7_bitsOf.2.1 1 = .ok (.istore_n 2, 1) := by decide +kernel
theorem tc_d7_bitsOf_2 : decode tc_i7_bitsOf.2.1 2 = .ok (.iconst 0, 1) := by decide +kernel
theorem tc_d7_bitsOf_3 : decode tc_i7_bitsOf.2.1 3 = .ok (.istore_n 3, 1) := by decide +kernel
theorem tc_d7_bitsOf_4 : decode tc_i7_bitsOf.2.1 4 = .ok (.iload_n 3, 1) := by decide +kernel
theorem tc_d7_bitsOf_5 : decode tc_i7_bitsOf.2.1 5 = .ok (.aload_n 0, 1) := by decide +kernel
theorem tc_d7_bitsOf_6 : decode tc_i7_bitsOf.2.1 6 = .ok (.getfield 93, 3) := by decide +kernel
theorem tc_d7_bitsOf_9 : decode tc_i7_bitsOf.2.1 9 = .ok (.if_icmp .ge 140, 3) := by decide +kernel
theorem tc_d7_bitsOf_12 : decode tc_i7_bitsOf.2.1 12 = .ok (.iload_n 1, 1) := by decide +kernel
theorem tc_d7_bitsOf_13 : decode tc_i7_bitsOf.2.1 13 = .ok (.tableswitch 107 0 3 #[31, 42, 69, 96], 31) := by decide +kernel
theorem tc_d7_bitsOf_44 : decode tc_i7_bitsOf.2.1 44 = .ok (.aload_n 0, 1) := by decide +kernel
theorem tc_d7_bitsOf_45 : decode tc_i7_bitsOf.2.1 45 = .ok (.getfield 25, 3) := by decide +kernel
theorem tc_d7_bitsOf_48 : decode tc_i7_bitsOf.2.1 48 = .ok (.iload_n 3, 1) := by decide +kernel
theorem tc_d7_bitsOf_49 : decode tc_i7_bitsOf.2.1 49 = .ok (.baload, 1) := by decide +kernel
theorem tc_d7_bitsOf_50 : decode tc_i7_bitsOf.2.1 50 = .ok (.istore 4, 2) := by decide +kernel
theorem tc_d7_bitsOf_52 : decode tc_i7_bitsOf.2.1 52 = .ok (.goto 76, 3) := by decide +kernel
theorem tc_d7_bitsOf_55 : decode tc_i7_bitsOf.2.1 55 = .ok (.aload_n 0, 1) := by decide +kernel
theorem tc_d7_bitsOf_56 : decode tc_i7_bitsOf.2.1 56 = .ok (.iload_n 3, 1) := by decide +kernel
theorem tc_d7_bitsOf_57 : decode tc_i7_bitsOf.2.1 57 = .ok (.invokevirtual 158, 3) := by decide +kernel
theorem tc_d7_bitsOf_60 : decode tc_i7_bitsOf.2.1 60 = .ok (.ifCond .eq 16, 3) := by decide +kernel
theorem tc_d7_bitsOf_63 : decode tc_i7_bitsOf.2.1 63 = .ok (.aload_n 0, 1) := by decide +kernel
theorem tc_d7_bitsOf_64 : decode tc_i7_bitsOf.2.1 64 = .ok (.getfield 25, 3) := by decide +kernel
theorem tc_d7_bitsOf_67 : decode tc_i7_bitsOf.2.1 67 = .ok (.iload_n 3, 1) := by decide +kernel
theorem tc_d7_bitsOf_68 : decode tc_i7_bitsOf.2.1 68 = .ok (.baload, 1) := by decide +kernel
theorem tc_d7_bitsOf_69 : decode tc_i7_bitsOf.2.1 69 = .ok (.ifCond .eq 7, 3) := by decide +kernel
theorem tc_d7_bitsOf_72 : decode tc_i7_bitsOf.2.1 72 = .ok (.iconst 1, 1) := by decide +kernel
theorem tc_d7_bitsOf_73 : decode tc_i7_bitsOf.2.1 73 = .ok (.goto 4, 3) := by decide +kernel
theorem tc_d7_bitsOf_76 : decode tc_i7_bitsOf.2.1 76 = .ok (.iconst 0, 1) := by decide +kernel
theorem tc_d7_bitsOf_77 : decode tc_i7_bitsOf.2.1 77 = .ok (.istore 4, 2) := by decide +kernel
theorem tc_d7_bitsOf_79 : decode tc_i7_bitsOf.2.1 79 = .ok (.goto 49, 3) := by decide +kernel
theorem tc_d7_bitsOf_82 : decode tc_i7_bitsOf.2.1 82 = .ok (.aload_n 0, 1) := by decide +kernel
theorem tc_d7_bitsOf_83 : decode tc_i7_bitsOf.2.1 83 = .ok (.iload_n 3, 1) := by decide +kernel
theorem tc_d7_bitsOf_84 : decode tc_i7_bitsOf.2.1 84 = .ok (.invokevirtual 158, 3) := by decide +kernel
theorem tc_d7_bitsOf_87 : decode tc_i7_bitsOf.2.1 87 = .ok (.ifCond .ne 16, 3) := by decide +kernel
theorem tc_d7_bitsOf_90 : decode tc_i7_bitsOf.2.1 90 = .ok (.aload_n 0, 1) := by decide +kernel
theorem tc_d7_bitsOf_91 : decode tc_i7_bitsOf.2.1 91 = .ok (.getfield 25, 3) := by decide +kernel
theorem tc_d7_bitsOf_94 : decode tc_i7_bitsOf.2.1 94 = .ok (.iload_n 3, 1) := by decide +kernel
theorem tc_d7_bitsOf_95 : decode tc_i7_bitsOf.2.1 95 = .ok (.baload, 1) := by decide +kernel
theorem tc_d7_bitsOf_96 : decode tc_i7_bitsOf.2.1 96 = .ok (.ifCond .ne 7, 3) := by decide +kernel
theorem tc_d7_bitsOf_99 : decode tc_i7_bitsOf.2.1 99 = .ok (.iconst 1, 1) := by decide +kernel
theorem tc_d7_bitsOf_100 : decode tc_i7_bitsOf.2.1 100 = .ok (.goto 4, 3) := by decide +kernel
theorem tc_d7_bitsOf_103 : decode tc_i7_bitsOf.2.1 103 = .ok (.iconst 0, 1) := by decide +kernel
theorem tc_d7_bitsOf_104 : decode tc_i7_bitsOf.2.1 104 = .ok (.istore 4, 2) := by decide +kernel
theorem tc_d7_bitsOf_106 : decode tc_i7_bitsOf.2.1 106 = .ok (.goto 22, 3) := by decide +kernel
theorem tc_d7_bitsOf_109 : decode tc_i7_bitsOf.2.1 109 = .ok (.aload_n 0, 1) := by decide +kernel
theorem tc_d7_bitsOf_110 : decode tc_i7_bitsOf.2.1 110 = .ok (.getfield 29, 3) := by decide +kernel
theorem tc_d7_bitsOf_113 : decode tc_i7_bitsOf.2.1 113 = .ok (.iload_n 3, 1) := by decide +kernel
theorem tc_d7_bitsOf_114 : decode tc_i7_bitsOf.2.1 114 = .ok (.baload, 1) := by decide +kernel
theorem tc_d7_bitsOf_115 : decode tc_i7_bitsOf.2.1 115 = .ok (.istore 4, 2) := by decide +kernel
theorem tc_d7_bitsOf_117 : decode tc_i7_bitsOf.2.1 117 = .ok (.goto 11, 3) := by decide +kernel
theorem tc_d7_bitsOf_120 : decode tc_i7_bitsOf.2.1 120 = .ok (.aload_n 0, 1) := by decide +kernel
theorem tc_d7_bitsOf_121 : decode tc_i7_bitsOf.2.1 121 = .ok (.iload_n 3, 1) := by decide +kernel
theorem tc_d7_bitsOf_122 : decode tc_i7_bitsOf.2.1 122 = .ok (.iconst 0, 1) := by decide +kernel
theorem tc_d7_bitsOf_123 : decode tc_i7_bitsOf.2.1 123 = .ok (.invokevirtual 116, 3) := by decide +kernel
theorem tc_d7_bitsOf_126 : decode tc_i7_bitsOf.2.1 126 = .ok (.istore 4, 2) := by decide +kernel
theorem tc_d7_bitsOf_128 : decode tc_i7_bitsOf.2.1 128 = .ok (.iload_n 2, 1) := by decide +kernel
theorem tc_d7_bitsOf_129 : decode tc_i7_bitsOf.2.1 129 = .ok (.iload 4, 2) := by decide +kernel
theorem tc_d7_bitsOf_131 : decode tc_i7_bitsOf.2.1 131 = .ok (.ifCond .eq 9, 3) := by decide +kernel
theorem tc_d7_bitsOf_134 : decode tc_i7_bitsOf.2.1 134 = .ok (.iconst 1, 1) := by decide +kernel
theorem tc_d7_bitsOf_135 : decode tc_i7_bitsOf.2.1 135 = .ok (.iload_n 3, 1) := by decide +kernel
theorem tc_d7_bitsOf_136 : decode tc_i7_bitsOf.2.1 136 = .ok (.ishl, 1) := by decide +kernel
theorem tc_d7_bitsOf_137 : decode tc_i7_bitsOf.2.1 137 = .ok (.goto 4, 3) := by decide +kernel
theorem tc_d7_bitsOf_140 : decode tc_i7_bitsOf.2.1 140 = .ok (.iconst 0, 1) := by decide +kernel
theorem tc_d7_bitsOf_141 : decode tc_i7_bitsOf.2.1 141 = .ok (.ior, 1) := by decide +kernel
theorem tc_d7_bitsOf_142 : decode tc_i7_bitsOf.2.1 142 = .ok (.istore_n 2, 1) := by decide +kernel
theorem tc_d7_bitsOf_143 : decode tc_i7_bitsOf.2.1 143 = .ok (.iinc 3 1, 3) := by decide +kernel
theorem tc_d7_bitsOf_146 : decode tc_i7_bitsOf.2.1 146 = .ok (.goto (-142), 3) := by decide +kernel
theorem tc_d7_bitsOf_149 : decode tc_i7_bitsOf.2.1 149 = .ok (.iload_n 2, 1) := by decide +kernel
theorem tc_d7_bitsOf_150 : decode tc_i7_bitsOf.2.1 150 = .ok (.ireturn, 1) := by decide +kernel
theorem tc_d7_laysBack_0 : decode tc_i7_laysBack.2.1 0 = .ok (.iconst 0, 1) := by decide +kernel
theorem tc_d7_laysBack_1 : decode tc_i7_laysBack.2.1 1 = .ok (.istore_n 1, 1) := by decide +kernel
theorem tc_d7_laysBack_2 : decode tc_i7_laysBack.2.1 2 = .ok (.iload_n 1, 1) := by decide +kernel
theorem tc_d7_laysBack_3 : decode tc_i7_laysBack.2.1 3 = .ok (.bipush 8, 2) := by decide +kernel
theorem tc_d7_laysBack_5 : decode tc_i7_laysBack.2.1 5 = .ok (.if_icmp .ge 45, 3) := by decide +kernel
theorem tc_d7_laysBack_8 : decode tc_i7_laysBack.2.1 8 = .ok (.aload_n 0, 1) := by decide +kernel
theorem tc_d7_laysBack_9 : decode tc_i7_laysBack.2.1 9 = .ok (.getfield 25, 3) := by decide +kernel
theorem tc_d7_laysBack_12 : decode tc_i7_laysBack.2.1 12 = .ok (.iload_n 1, 1) := by decide +kernel
theorem tc_d7_laysBack_13 : decode tc_i7_laysBack.2.1 13 = .ok (.aload_n 0, 1) := by decide +kernel
theorem tc_d7_laysBack_14 : decode tc_i7_laysBack.2.1 14 = .ok (.getfield 78, 3) := by decide +kernel
theorem tc_d7_laysBack_17 : decode tc_i7_laysBack.2.1 17 = .ok (.iload_n 1, 1) := by decide +kernel
theorem tc_d7_laysBack_18 : decode tc_i7_laysBack.2.1 18 = .ok (.baload, 1) := by decide +kernel
theorem tc_d7_laysBack_19 : decode tc_i7_laysBack.2.1 19 = .ok (.bastore, 1) := by decide +kernel
theorem tc_d7_laysBack_20 : decode tc_i7_laysBack.2.1 20 = .ok (.aload_n 0, 1) := by decide +kernel
theorem tc_d7_laysBack_21 : decode tc_i7_laysBack.2.1 21 = .ok (.getfield 29, 3) := by decide +kernel
theorem tc_d7_laysBack_24 : decode tc_i7_laysBack.2.1 24 = .ok (.iload_n 1, 1) := by decide +kernel
theorem tc_d7_laysBack_25 : decode tc_i7_laysBack.2.1 25 = .ok (.aload_n 0, 1) := by decide +kernel
theorem tc_d7_laysBack_26 : decode tc_i7_laysBack.2.1 26 = .ok (.getfield 81, 3) := by decide +kernel
theorem tc_d7_laysBack_29 : decode tc_i7_laysBack.2.1 29 = .ok (.iload_n 1, 1) := by decide +kernel
theorem tc_d7_laysBack_30 : decode tc_i7_laysBack.2.1 30 = .ok (.baload, 1) := by decide +kernel
theorem tc_d7_laysBack_31 : decode tc_i7_laysBack.2.1 31 = .ok (.bastore, 1) := by decide +kernel
theorem tc_d7_laysBack_32 : decode tc_i7_laysBack.2.1 32 = .ok (.aload_n 0, 1) := by decide +kernel
theorem tc_d7_laysBack_33 : decode tc_i7_laysBack.2.1 33 = .ok (.getfield 22, 3) := by decide +kernel
theorem tc_d7_laysBack_36 : decode tc_i7_laysBack.2.1 36 = .ok (.iload_n 1, 1) := by decide +kernel
theorem tc_d7_laysBack_37 : decode tc_i7_laysBack.2.1 37 = .ok (.aload_n 0, 1) := by decide +kernel
theorem tc_d7_laysBack_38 : decode tc_i7_laysBack.2.1 38 = .ok (.getfield 84, 3) := by decide +kernel
theorem tc_d7_laysBack_41 : decode tc_i7_laysBack.2.1 41 = .ok (.iload_n 1, 1) := by decide +kernel
theorem tc_d7_laysBack_42 : decode tc_i7_laysBack.2.1 42 = .ok (.iaload, 1) := by decide +kernel
theorem tc_d7_laysBack_43 : decode tc_i7_laysBack.2.1 43 = .ok (.iastore, 1) := by decide +kernel
theorem tc_d7_laysBack_44 : decode tc_i7_laysBack.2.1 44 = .ok (.iinc 1 1, 3) := by decide +kernel
theorem tc_d7_laysBack_47 : decode tc_i7_laysBack.2.1 47 = .ok (.goto (-45), 3) := by decide +kernel
theorem tc_d7_laysBack_50 : decode tc_i7_laysBack.2.1 50 = .ok (.aload_n 0, 1) := by decide +kernel
theorem tc_d7_laysBack_51 : decode tc_i7_laysBack.2.1 51 = .ok (.aload_n 0, 1) := by decide +kernel
theorem tc_d7_laysBack_52 : decode tc_i7_laysBack.2.1 52 = .ok (.getfield 161, 3) := by decide +kernel
theorem tc_d7_laysBack_55 : decode tc_i7_laysBack.2.1 55 = .ok (.putfield 100, 3) := by decide +kernel
theorem tc_d7_laysBack_58 : decode tc_i7_laysBack.2.1 58 = .ok (.return_, 1) := by decide +kernel
theorem tc_d7_in_0 : decode tc_i7_in.2.1 0 = .ok (.iload_n 0, 1) := by decide +kernel
theorem tc_d7_in_1 : decode tc_i7_in.2.1 1 = .ok (.iload_n 1, 1) := by decide +kernel
theorem tc_d7_in_2 : decode tc_i7_in.2.1 2 = .ok (.if_icmp .lt 12, 3) := by decide +kernel
theorem tc_d7_in_5 : decode tc_i7_in.2.1 5 = .ok (.iload_n 0, 1) := by decide +kernel
theorem tc_d7_in_6 : decode tc_i7_in.2.1 6 = .ok (.iload_n 2, 1) := by decide +kernel
theorem tc_d7_in_7 : decode tc_i7_in.2.1 7 = .ok (.if_icmp .gt 7, 3) := by decide +kernel
theorem tc_d7_in_10 : decode tc_i7_in.2.1 10 = .ok (.iconst 1, 1) := by decide +kernel
theorem tc_d7_in_11 : decode tc_i7_in.2.1 11 = .ok (.goto 4, 3) := by decide +kernel
theorem tc_d7_in_14 : decode tc_i7_in.2.1 14 = .ok (.iconst 0, 1) := by decide +kernel
theorem tc_d7_in_15 : decode tc_i7_in.2.1 15 = .ok (.ireturn, 1) := by decide +kernel
theorem tc_d7_isSection_0 : decode tc_i7_isSection.2.1 0 = .ok (.iload_n 1, 1) := by decide +kernel
theorem tc_d7_isSection_1 : decode tc_i7_isSection.2.1 1 = .ok (.iconst 0, 1) := by decide +kernel
theorem tc_d7_isSection_2 : decode tc_i7_isSection.2.1 2 = .ok (.aload_n 0, 1) := by decide +kernel
theorem tc_d7_isSection_3 : decode tc_i7_isSection.2.1 3 = .ok (.getfield 93, 3) := by decide +kernel
theorem tc_d7_isSection_6 : decode tc_i7_isSection.2.1 6 = .ok (.iconst 1, 1) := by decide +kernel
theorem tc_d7_isSection_7 : decode tc_i7_isSection.2.1 7 = .ok (.isub, 1) := by decide +kernel
theorem tc_d7_isSection_8 : decode tc_i7_isSection.2.1 8 = .ok (.invokestatic 96, 3) := by decide +kernel
theorem tc_d7_isSection_11 : decode tc_i7_isSection.2.1 11 = .ok (.ireturn, 1) := by decide +kernel
theorem tc_d7_goTrains_0 : decode tc_i7_goTrains.2.1 0 = .ok (.aload_n 0, 1) := by decide +kernel
theorem tc_d7_goTrains_1 : decode tc_i7_goTrains.2.1 1 = .ok (.getfield 93, 3) := by decide +kernel
theorem tc_d7_goTrains_4 : decode tc_i7_goTrains.2.1 4 = .ok (.iconst 1, 1) := by decide +kernel
theorem tc_d7_goTrains_5 : decode tc_i7_goTrains.2.1 5 = .ok (.isub, 1) := by decide +kernel
theorem tc_d7_goTrains_6 : decode tc_i7_goTrains.2.1 6 = .ok (.istore_n 1, 1) := by decide +kernel
theorem tc_d7_goTrains_7 : decode tc_i7_goTrains.2.1 7 = .ok (.iload_n 1, 1) := by decide +kernel
theorem tc_d7_goTrains_8 : decode tc_i7_goTrains.2.1 8 = .ok (.ifCond .le 23, 3) := by decide +kernel
theorem tc_d7_goTrains_11 : decode tc_i7_goTrains.2.1 11 = .ok (.aload_n 0, 1) := by decide +kernel
theorem tc_d7_goTrains_12 : decode tc_i7_goTrains.2.1 12 = .ok (.getfield 29, 3) := by decide +kernel
theorem tc_d7_goTrains_15 : decode tc_i7_goTrains.2.1 15 = .ok (.iload_n 1, 1) := by decide +kernel
theorem tc_d7_goTrains_16 : decode tc_i7_goTrains.2.1 16 = .ok (.aload_n 0, 1) := by decide +kernel
theorem tc_d7_goTrains_17 : decode tc_i7_goTrains.2.1 17 = .ok (.getfield 29, 3) := by decide +kernel
theorem tc_d7_goTrains_20 : decode tc_i7_goTrains.2.1 20 = .ok (.iload_n 1, 1) := by decide +kernel
theorem tc_d7_goTrains_21 : decode tc_i7_goTrains.2.1 21 = .ok (.iconst 1, 1) := by decide +kernel
theorem tc_d7_goTrains_22 : decode tc_i7_goTrains.2.1 22 = .ok (.isub, 1) := by decide +kernel
theorem tc_d7_goTrains_23 : decode tc_i7_goTrains.2.1 23 = .ok (.baload, 1) := by decide +kernel
theorem tc_d7_goTrains_24 : decode tc_i7_goTrains.2.1 24 = .ok (.bastore, 1) := by decide +kernel
theorem tc_d7_goTrains_25 : decode tc_i7_goTrains.2.1 25 = .ok (.iinc 1 (-1), 3) := by decide +kernel
theorem tc_d7_goTrains_28 : decode tc_i7_goTrains.2.1 28 = .ok (.goto (-21), 3) := by decide +kernel
theorem tc_d7_goTrains_31 : decode tc_i7_goTrains.2.1 31 = .ok (.aload_n 0, 1) := by decide +kernel
theorem tc_d7_goTrains_32 : decode tc_i7_goTrains.2.1 32 = .ok (.getfield 93, 3) := by decide +kernel
theorem tc_d7_goTrains_35 : decode tc_i7_goTrains.2.1 35 = .ok (.ifCond .le 10, 3) := by decide +kernel
theorem tc_d7_goTrains_38 : decode tc_i7_goTrains.2.1 38 = .ok (.aload_n 0, 1) := by decide +kernel
theorem tc_d7_goTrains_39 : decode tc_i7_goTrains.2.1 39 = .ok (.getfield 29, 3) := by decide +kernel
theorem tc_d7_goTrains_42 : decode tc_i7_goTrains.2.1 42 = .ok (.iconst 0, 1) := by decide +kernel
theorem tc_d7_goTrains_43 : decode tc_i7_goTrains.2.1 43 = .ok (.iconst 0, 1) := by decide +kernel
theorem tc_d7_goTrains_44 : decode tc_i7_goTrains.2.1 44 = .ok (.bastore, 1) := by decide +kernel
theorem tc_d7_goTrains_45 : decode tc_i7_goTrains.2.1 45 = .ok (.return_, 1) := by decide +kernel
theorem tc_d7_adds_0 : decode tc_i7_adds.2.1 0 = .ok (.aload_n 0, 1) := by decide +kernel
theorem tc_d7_adds_1 : decode tc_i7_adds.2.1 1 = .ok (.getfield 51, 3) := by decide +kernel
theorem tc_d7_adds_4 : decode tc_i7_adds.2.1 4 = .ok (.aload_n 0, 1) := by decide +kernel
theorem tc_d7_adds_5 : decode tc_i7_adds.2.1 5 = .ok (.getfield 228, 3) := by decide +kernel
theorem tc_d7_adds_8 : decode tc_i7_adds.2.1 8 = .ok (.iload_n 1, 1) := by decide +kernel
theorem tc_d7_adds_9 : decode tc_i7_adds.2.1 9 = .ok (.iastore, 1) := by decide +kernel
theorem tc_d7_adds_10 : decode tc_i7_adds.2.1 10 = .ok (.aload_n 0, 1) := by decide +kernel
theorem tc_d7_adds_11 : decode tc_i7_adds.2.1 11 = .ok (.dup, 1) := by decide +kernel
theorem tc_d7_adds_12 : decode tc_i7_adds.2.1 12 = .ok (.getfield 228, 3) := by decide +kernel
theorem tc_d7_adds_15 : decode tc_i7_adds.2.1 15 = .ok (.iconst 1, 1) := by decide +kernel
theorem tc_d7_adds_16 : decode tc_i7_adds.2.1 16 = .ok (.iadd, 1) := by decide +kernel
theorem tc_d7_adds_17 : decode tc_i7_adds.2.1 17 = .ok (.putfield 228, 3) := by decide +kernel
theorem tc_d7_adds_20 : decode tc_i7_adds.2.1 20 = .ok (.return_, 1) := by decide +kernel
theorem tc_d7_amiss_0 : decode tc_i7_amiss.2.1 0 = .ok (.aload_n 0, 1) := by decide +kernel
theorem tc_d7_amiss_1 : decode tc_i7_amiss.2.1 1 = .ok (.invokevirtual 187, 3) := by decide +kernel
theorem tc_d7_amiss_4 : decode tc_i7_amiss.2.1 4 = .ok (.aload_n 0, 1) := by decide +kernel
theorem tc_d7_amiss_5 : decode tc_i7_amiss.2.1 5 = .ok (.iconst 0, 1) := by decide +kernel
theorem tc_d7_amiss_6 : decode tc_i7_amiss.2.1 6 = .ok (.invokevirtual 180, 3) := by decide +kernel
theorem tc_d7_amiss_9 : decode tc_i7_amiss.2.1 9 = .ok (.ifCond .ge 8, 3) := by decide +kernel
theorem tc_d7_amiss_12 : decode tc_i7_amiss.2.1 12 = .ok (.bipush 16, 2) := by decide +kernel
theorem tc_d7_amiss_14 : decode tc_i7_amiss.2.1 14 = .ok (.goto 20, 3) := by decide +kernel
theorem tc_d7_amiss_17 : decode tc_i7_amiss.2.1 17 = .ok (.aload_n 0, 1) := by decide +kernel
theorem tc_d7_amiss_18 : decode tc_i7_amiss.2.1 18 = .ok (.iconst 1, 1) := by decide +kernel
theorem tc_d7_amiss_19 : decode tc_i7_amiss.2.1 19 = .ok (.invokevirtual 173, 3) := by decide +kernel
theorem tc_d7_amiss_22 : decode tc_i7_amiss.2.1 22 = .ok (.invokestatic 190, 3) := by decide +kernel
theorem tc_d7_amiss_25 : decode tc_i7_amiss.2.1 25 = .ok (.aload_n 0, 1) := by decide +kernel
theorem tc_d7_amiss_26 : decode tc_i7_amiss.2.1 26 = .ok (.iconst 2, 1) := by decide +kernel
theorem tc_d7_amiss_27 : decode tc_i7_amiss.2.1 27 = .ok (.invokevirtual 173, 3) := by decide +kernel
theorem tc_d7_amiss_30 : decode tc_i7_amiss.2.1 30 = .ok (.invokestatic 190, 3) := by decide +kernel
theorem tc_d7_amiss_33 : decode tc_i7_amiss.2.1 33 = .ok (.iadd, 1) := by decide +kernel
theorem tc_d7_amiss_34 : decode tc_i7_amiss.2.1 34 = .ok (.istore_n 1, 1) := by decide +kernel
theorem tc_d7_amiss_35 : decode tc_i7_amiss.2.1 35 = .ok (.aload_n 0, 1) := by decide +kernel
theorem tc_d7_amiss_36 : decode tc_i7_amiss.2.1 36 = .ok (.invokevirtual 195, 3) := by decide +kernel
theorem tc_d7_amiss_39 : decode tc_i7_amiss.2.1 39 = .ok (.iload_n 1, 1) := by decide +kernel
theorem tc_d7_amiss_40 : decode tc_i7_amiss.2.1 40 = .ok (.ireturn, 1) := by decide +kernel
theorem tc_d7_aspect_0 : decode tc_i7_aspect.2.1 0 = .ok (.aload_n 0, 1) := by decide +kernel
theorem tc_d7_aspect_1 : decode tc_i7_aspect.2.1 1 = .ok (.iload_n 1, 1) := by decide +kernel
theorem tc_d7_aspect_2 : decode tc_i7_aspect.2.1 2 = .ok (.invokevirtual 167, 3) := by decide +kernel
theorem tc_d7_aspect_5 : decode tc_i7_aspect.2.1 5 = .ok (.ifCond .ne 6, 3) := by decide +kernel
theorem tc_d7_aspect_8 : decode tc_i7_aspect.2.1 8 = .ok (.bipush (-2), 2) := by decide +kernel
theorem tc_d7_aspect_10 : decode tc_i7_aspect.2.1 10 = .ok (.ireturn, 1) := by decide +kernel
theorem tc_d7_aspect_11 : decode tc_i7_aspect.2.1 11 = .ok (.aload_n 0, 1) := by decide +kernel
theorem tc_d7_aspect_12 : decode tc_i7_aspect.2.1 12 = .ok (.getfield 25, 3) := by decide +kernel
theorem tc_d7_aspect_15 : decode tc_i7_aspect.2.1 15 = .ok (.iload_n 1, 1) := by decide +kernel
theorem tc_d7_aspect_16 : decode tc_i7_aspect.2.1 16 = .ok (.baload, 1) := by decide +kernel
theorem tc_d7_aspect_17 : decode tc_i7_aspect.2.1 17 = .ok (.ifCond .ne 7, 3) := by decide +kernel
theorem tc_d7_aspect_20 : decode tc_i7_aspect.2.1 20 = .ok (.iconst 0, 1) := by decide +kernel
theorem tc_d7_aspect_21 : decode tc_i7_aspect.2.1 21 = .ok (.goto 29, 3) := by decide +kernel
theorem tc_d7_aspect_24 : decode tc_i7_aspect.2.1 24 = .ok (.iload_n 1, 1) := by decide +kernel
theorem tc_d7_aspect_25 : decode tc_i7_aspect.2.1 25 = .ok (.aload_n 0, 1) := by decide +kernel
theorem tc_d7_aspect_26 : decode tc_i7_aspect.2.1 26 = .ok (.getfield 93, 3) := by decide +kernel
theorem tc_d7_aspect_29 : decode tc_i7_aspect.2.1 29 = .ok (.iconst 1, 1) := by decide +kernel
theorem tc_d7_aspect_30 : decode tc_i7_aspect.2.1 30 = .ok (.isub, 1) := by decide +kernel
theorem tc_d7_aspect_31 : decode tc_i7_aspect.2.1 31 = .ok (.if_icmp .eq 14, 3) := by decide +kernel
theorem tc_d7_aspect_34 : decode tc_i7_aspect.2.1 34 = .ok (.aload_n 0, 1) := by decide +kernel
theorem tc_d7_aspect_35 : decode tc_i7_aspect.2.1 35 = .ok (.getfield 25, 3) := by decide +kernel
theorem tc_d7_aspect_38 : decode tc_i7_aspect.2.1 38 = .ok (.iload_n 1, 1) := by decide +kernel
theorem tc_d7_aspect_39 : decode tc_i7_aspect.2.1 39 = .ok (.iconst 1, 1) := by decide +kernel
theorem tc_d7_aspect_40 : decode tc_i7_aspect.2.1 40 = .ok (.iadd, 1) := by decide +kernel
theorem tc_d7_aspect_41 : decode tc_i7_aspect.2.1 41 = .ok (.baload, 1) := by decide +kernel
theorem tc_d7_aspect_42 : decode tc_i7_aspect.2.1 42 = .ok (.ifCond .eq 7, 3) := by decide +kernel
theorem tc_d7_aspect_45 : decode tc_i7_aspect.2.1 45 = .ok (.iconst 2, 1) := by decide +kernel
theorem tc_d7_aspect_46 : decode tc_i7_aspect.2.1 46 = .ok (.goto 4, 3) := by decide +kernel
theorem tc_d7_aspect_49 : decode tc_i7_aspect.2.1 49 = .ok (.iconst 1, 1) := by decide +kernel
theorem tc_d7_aspect_50 : decode tc_i7_aspect.2.1 50 = .ok (.ireturn, 1) := by decide +kernel
theorem tc_d7_back_0 : decode tc_i7_back.2.1 0 = .ok (.aload_n 0, 1) := by decide +kernel
theorem tc_d7_back_1 : decode tc_i7_back.2.1 1 = .ok (.getfield 313, 3) := by decide +kernel
theorem tc_d7_back_4 : decode tc_i7_back.2.1 4 = .ok (.ifCond .ne 6, 3) := by decide +kernel
theorem tc_d7_back_7 : decode tc_i7_back.2.1 7 = .ok (.bipush (-3), 2) := by decide +kernel
theorem tc_d7_back_9 : decode tc_i7_back.2.1 9 = .ok (.ireturn, 1) := by decide +kernel
theorem tc_d7_back_10 : decode tc_i7_back.2.1 10 = .ok (.iconst 0, 1) := by decide +kernel
theorem tc_d7_back_11 : decode tc_i7_back.2.1 11 = .ok (.istore_n 1, 1) := by decide +kernel
theorem tc_d7_back_12 : decode tc_i7_back.2.1 12 = .ok (.iload_n 1, 1) := by decide +kernel
theorem tc_d7_back_13 : decode tc_i7_back.2.1 13 = .ok (.bipush 8, 2) := by decide +kernel
theorem tc_d7_back_15 : decode tc_i7_back.2.1 15 = .ok (.if_icmp .ge 129, 3) := by decide +kernel
theorem tc_d7_back_18 : decode tc_i7_back.2.1 18 = .ok (.aload_n 0, 1) := by decide +kernel
theorem tc_d7_back_19 : decode tc_i7_back.2.1 19 = .ok (.getfield 7, 3) := by decide +kernel
theorem tc_d7_back_22 : decode tc_i7_back.2.1 22 = .ok (.iload_n 1, 1) := by decide +kernel
theorem tc_d7_back_23 : decode tc_i7_back.2.1 23 = .ok (.aload_n 0, 1) := by decide +kernel
theorem tc_d7_back_24 : decode tc_i7_back.2.1 24 = .ok (.getfield 90, 3) := by decide +kernel
theorem tc_d7_back_27 : decode tc_i7_back.2.1 27 = .ok (.iload_n 1, 1) := by decide +kernel
theorem tc_d7_back_28 : decode tc_i7_back.2.1 28 = .ok (.iaload, 1) := by decide +kernel
theorem tc_d7_back_29 : decode tc_i7_back.2.1 29 = .ok (.iastore, 1) := by decide +kernel
theorem tc_d7_back_30 : decode tc_i7_back.2.1 30 = .ok (.aload_n 0, 1) := by decide +kernel
theorem tc_d7_back_31 : decode tc_i7_back.2.1 31 = .ok (.getfield 13, 3) := by decide +kernel
theorem tc_d7_back_34 : decode tc_i7_back.2.1 34 = .ok (.iload_n 1, 1) := by decide +kernel
theorem tc_d7_back_35 : decode tc_i7_back.2.1 35 = .ok (.aload_n 0, 1) := by decide +kernel
theorem tc_d7_back_36 : decode tc_i7_back.2.1 36 = .ok (.getfield 90, 3) := by decide +kernel
theorem tc_d7_back_39 : decode tc_i7_back.2.1 39 = .ok (.bipush 8, 2) := by decide +kernel
theorem tc_d7_back_41 : decode tc_i7_back.2.1 41 = .ok (.iload_n 1, 1) := by decide +kernel
theorem tc_d7_back_42 : decode tc_i7_back.2.1 42 = .ok (.iadd, 1) := by decide +kernel
theorem tc_d7_back_43 : decode tc_i7_back.2.1 43 = .ok (.iaload, 1) := by decide +kernel
theorem tc_d7_back_44 : decode tc_i7_back.2.1 44 = .ok (.iastore, 1) := by decide +kernel
theorem tc_d7_back_45 : decode tc_i7_back.2.1 45 = .ok (.aload_n 0, 1) := by decide +kernel
theorem tc_d7_back_46 : decode tc_i7_back.2.1 46 = .ok (.getfield 16, 3) := by decide +kernel
theorem tc_d7_back_49 : decode tc_i7_back.2.1 49 = .ok (.iload_n 1, 1) := by decide +kernel
theorem tc_d7_back_50 : decode tc_i7_back.2.1 50 = .ok (.aload_n 0, 1) := by decide +kernel
theorem tc_d7_back_51 : decode tc_i7_back.2.1 51 = .ok (.getfield 90, 3) := by decide +kernel
theorem tc_d7_back_54 : decode tc_i7_back.2.1 54 = .ok (.bipush 16, 2) := by decide +kernel
theorem tc_d7_back_56 : decode tc_i7_back.2.1 56 = .ok (.iload_n 1, 1) := by decide +kernel
theorem tc_d7_back_57 : decode tc_i7_back.2.1 57 = .ok (.iadd, 1) := by decide +kernel
theorem tc_d7_back_58 : decode tc_i7_back.2.1 58 = .ok (.iaload, 1) := by decide +kernel
theorem tc_d7_back_59 : decode tc_i7_back.2.1 59 = .ok (.iastore, 1) := by decide +kernel
theorem tc_d7_back_60 : decode tc_i7_back.2.1 60 = .ok (.aload_n 0, 1) := by decide +kernel
theorem tc_d7_back_61 : decode tc_i7_back.2.1 61 = .ok (.getfield 19, 3) := by decide +kernel
theorem tc_d7_back_64 : decode tc_i7_back.2.1 64 = .ok (.iload_n 1, 1) := by decide +kernel
theorem tc_d7_back_65 : decode tc_i7_back.2.1 65 = .ok (.aload_n 0, 1) := by decide +kernel
theorem tc_d7_back_66 : decode tc_i7_back.2.1 66 = .ok (.getfield 90, 3) := by decide +kernel
theorem tc_d7_back_69 : decode tc_i7_back.2.1 69 = .ok (.bipush 24, 2) := by decide +kernel
theorem tc_d7_back_71 : decode tc_i7_back.2.1 71 = .ok (.iload_n 1, 1) := by decide +kernel
theorem tc_d7_back_72 : decode tc_i7_back.2.1 72 = .ok (.iadd, 1) := by decide +kernel
theorem tc_d7_back_73 : decode tc_i7_back.2.1 73 = .ok (.iaload, 1) := by decide +kernel
theorem tc_d7_back_74 : decode tc_i7_back.2.1 74 = .ok (.iastore, 1) := by decide +kernel
theorem tc_d7_back_75 : decode tc_i7_back.2.1 75 = .ok (.aload_n 0, 1) := by decide +kernel
theorem tc_d7_back_76 : decode tc_i7_back.2.1 76 = .ok (.getfield 22, 3) := by decide +kernel
theorem tc_d7_back_79 : decode tc_i7_back.2.1 79 = .ok (.iload_n 1, 1) := by decide +kernel
theorem tc_d7_back_80 : decode tc_i7_back.2.1 80 = .ok (.aload_n 0, 1) := by decide +kernel
theorem tc_d7_back_81 : decode tc_i7_back.2.1 81 = .ok (.getfield 90, 3) := by decide +kernel
theorem tc_d7_back_84 : decode tc_i7_back.2.1 84 = .ok (.bipush 32, 2) := by decide +kernel
theorem tc_d7_back_86 : decode tc_i7_back.2.1 86 = .ok (.iload_n 1, 1) := by decide +kernel
theorem tc_d7_back_87 : decode tc_i7_back.2.1 87 = .ok (.iadd, 1) := by decide +kernel
theorem tc_d7_back_88 : decode tc_i7_back.2.1 88 = .ok (.iaload, 1) := by decide +kernel
theorem tc_d7_back_89 : decode tc_i7_back.2.1 89 = .ok (.iastore, 1) := by decide +kernel
theorem tc_d7_back_90 : decode tc_i7_back.2.1 90 = .ok (.aload_n 0, 1) := by decide +kernel
theorem tc_d7_back_91 : decode tc_i7_back.2.1 91 = .ok (.getfield 25, 3) := by decide +kernel
theorem tc_d7_back_94 : decode tc_i7_back.2.1 94 = .ok (.iload_n 1, 1) := by decide +kernel
theorem tc_d7_back_95 : decode tc_i7_back.2.1 95 = .ok (.aload_n 0, 1) := by decide +kernel
theorem tc_d7_back_96 : decode tc_i7_back.2.1 96 = .ok (.getfield 90, 3) := by decide +kernel
theorem tc_d7_back_99 : decode tc_i7_back.2.1 99 = .ok (.bipush 40, 2) := by decide +kernel
theorem tc_d7_back_101 : decode tc_i7_back.2.1 101 = .ok (.iload_n 1, 1) := by decide +kernel
theorem tc_d7_back_102 : decode tc_i7_back.2.1 102 = .ok (.iadd, 1) := by decide +kernel
theorem tc_d7_back_103 : decode tc_i7_back.2.1 103 = .ok (.iaload, 1) := by decide +kernel
theorem tc_d7_back_104 : decode tc_i7_back.2.1 104 = .ok (.iconst 1, 1) := by decide +kernel
theorem tc_d7_back_105 : decode tc_i7_back.2.1 105 = .ok (.if_icmp .ne 7, 3) := by decide +kernel
theorem tc_d7_back_108 : decode tc_i7_back.2.1 108 = .ok (.iconst 1, 1) := by decide +kernel
theorem tc_d7_back_109 : decode tc_i7_back.2.1 109 = .ok (.goto 4, 3) := by decide +kernel
theorem tc_d7_back_112 : decode tc_i7_back.2.1 112 = .ok (.iconst 0, 1) := by decide +kernel
theorem tc_d7_back_113 : decode tc_i7_back.2.1 113 = .ok (.bastore, 1) := by decide +kernel
theorem tc_d7_back_114 : decode tc_i7_back.2.1 114 = .ok (.aload_n 0, 1) := by decide +kernel
theorem tc_d7_back_115 : decode tc_i7_back.2.1 115 = .ok (.getfield 29, 3) := by decide +kernel
theorem tc_d7_back_118 : decode tc_i7_back.2.1 118 = .ok (.iload_n 1, 1) := by decide +kernel
theorem tc_d7_back_119 : decode tc_i7_back.2.1 119 = .ok (.aload_n 0, 1) := by decide +kernel
theorem tc_d7_back_120 : decode tc_i7_back.2.1 120 = .ok (.getfield 90, 3) := by decide +kernel
theorem tc_d7_back_123 : decode tc_i7_back.2.1 123 = .ok (.bipush 48, 2) := by decide +kernel
theorem tc_d7_back_125 : decode tc_i7_back.2.1 125 = .ok (.iload_n 1, 1) := by decide +kernel
theorem tc_d7_back_126 : decode tc_i7_back.2.1 126 = .ok (.iadd, 1) := by decide +kernel
theorem tc_d7_back_127 : decode tc_i7_back.2.1 127 = .ok (.iaload, 1) := by decide +kernel
theorem tc_d7_back_128 : decode tc_i7_back.2.1 128 = .ok (.iconst 1, 1) := by decide +kernel
theorem tc_d7_back_129 : decode tc_i7_back.2.1 129 = .ok (.if_icmp .ne 7, 3) := by decide +kernel
theorem tc_d7_back_132 : decode tc_i7_back.2.1 132 = .ok (.iconst 1, 1) := by decide +kernel
theorem tc_d7_back_133 : decode tc_i7_back.2.1 133 = .ok (.goto 4, 3) := by decide +kernel
theorem tc_d7_back_136 : decode tc_i7_back.2.1 136 = .ok (.iconst 0, 1) := by decide +kernel
theorem tc_d7_back_137 : decode tc_i7_back.2.1 137 = .ok (.bastore, 1) := by decide +kernel
theorem tc_d7_back_138 : decode tc_i7_back.2.1 138 = .ok (.iinc 1 1, 3) := by decide +kernel
theorem tc_d7_back_141 : decode tc_i7_back.2.1 141 = .ok (.goto (-129), 3) := by decide +kernel
theorem tc_d7_back_144 : decode tc_i7_back.2.1 144 = .ok (.iconst 0, 1) := by decide +kernel
theorem tc_d7_back_145 : decode tc_i7_back.2.1 145 = .ok (.istore_n 1, 1) := by decide +kernel
theorem tc_d7_back_146 : decode tc_i7_back.2.1 146 = .ok (.iload_n 1, 1) := by decide +kernel
theorem tc_d7_back_147 : decode tc_i7_back.2.1 147 = .ok (.bipush 6, 2) := by decide +kernel
theorem tc_d7_back_149 : decode tc_i7_back.2.1 149 = .ok (.if_icmp .ge 54, 3) := by decide +kernel
theorem tc_d7_back_152 : decode tc_i7_back.2.1 152 = .ok (.aload_n 0, 1) := by decide +kernel
theorem tc_d7_back_153 : decode tc_i7_back.2.1 153 = .ok (.getfield 35, 3) := by decide +kernel
theorem tc_d7_back_156 : decode tc_i7_back.2.1 156 = .ok (.iload_n 1, 1) := by decide +kernel
theorem tc_d7_back_157 : decode tc_i7_back.2.1 157 = .ok (.aload_n 0, 1) := by decide +kernel
theorem tc_d7_back_158 : decode tc_i7_back.2.1 158 = .ok (.getfield 90, 3) := by decide +kernel
theorem tc_d7_back_161 : decode tc_i7_back.2.1 161 = .ok (.bipush 56, 2) := by decide +kernel
theorem tc_d7_back_163 : decode tc_i7_back.2.1 163 = .ok (.iload_n 1, 1) := by decide +kernel
theorem tc_d7_back_164 : decode tc_i7_back.2.1 164 = .ok (.iadd, 1) := by decide +kernel
theorem tc_d7_back_165 : decode tc_i7_back.2.1 165 = .ok (.iaload, 1) := by decide +kernel
theorem tc_d7_back_166 : decode tc_i7_back.2.1 166 = .ok (.iastore, 1) := by decide +kernel
theorem tc_d7_back_167 : decode tc_i7_back.2.1 167 = .ok (.aload_n 0, 1) := by decide +kernel
theorem tc_d7_back_168 : decode tc_i7_back.2.1 168 = .ok (.getfield 38, 3) := by decide +kernel
theorem tc_d7_back_171 : decode tc_i7_back.2.1 171 = .ok (.iload_n 1, 1) := by decide +kernel
theorem tc_d7_back_172 : decode tc_i7_back.2.1 172 = .ok (.aload_n 0, 1) := by decide +kernel
theorem tc_d7_back_173 : decode tc_i7_back.2.1 173 = .ok (.getfield 90, 3) := by decide +kernel
theorem tc_d7_back_176 : decode tc_i7_back.2.1 176 = .ok (.bipush 62, 2) := by decide +kernel
theorem tc_d7_back_178 : decode tc_i7_back.2.1 178 = .ok (.iload_n 1, 1) := by decide +kernel
theorem tc_d7_back_179 : decode tc_i7_back.2.1 179 = .ok (.iadd, 1) := by decide +kernel
theorem tc_d7_back_180 : decode tc_i7_back.2.1 180 = .ok (.iaload, 1) := by decide +kernel
theorem tc_d7_back_181 : decode tc_i7_back.2.1 181 = .ok (.iastore, 1) := by decide +kernel
theorem tc_d7_back_182 : decode tc_i7_back.2.1 182 = .ok (.aload_n 0, 1) := by decide +kernel
theorem tc_d7_back_183 : decode tc_i7_back.2.1 183 = .ok (.getfield 41, 3) := by decide +kernel
theorem tc_d7_back_186 : decode tc_i7_back.2.1 186 = .ok (.iload_n 1, 1) := by decide +kernel
theorem tc_d7_back_187 : decode tc_i7_back.2.1 187 = .ok (.aload_n 0, 1) := by decide +kernel
theorem tc_d7_back_188 : decode tc_i7_back.2.1 188 = .ok (.getfield 90, 3) := by decide +kernel
theorem tc_d7_back_191 : decode tc_i7_back.2.1 191 = .ok (.bipush 68, 2) := by decide +kernel
theorem tc_d7_back_193 : decode tc_i7_back.2.1 193 = .ok (.iload_n 1, 1) := by decide +kernel
theorem tc_d7_back_194 : decode tc_i7_back.2.1 194 = .ok (.iadd, 1) := by decide +kernel
theorem tc_d7_back_195 : decode tc_i7_back.2.1 195 = .ok (.iaload, 1) := by decide +kernel
theorem tc_d7_back_196 : decode tc_i7_back.2.1 196 = .ok (.iastore, 1) := by decide +kernel
theorem tc_d7_back_197 : decode tc_i7_back.2.1 197 = .ok (.iinc 1 1, 3) := by decide +kernel
theorem tc_d7_back_200 : decode tc_i7_back.2.1 200 = .ok (.goto (-54), 3) := by decide +kernel
theorem tc_d7_back_203 : decode tc_i7_back.2.1 203 = .ok (.iconst 0, 1) := by decide +kernel
theorem tc_d7_back_204 : decode tc_i7_back.2.1 204 = .ok (.istore_n 1, 1) := by decide +kernel
theorem tc_d7_back_205 : decode tc_i7_back.2.1 205 = .ok (.iload_n 1, 1) := by decide +kernel
theorem tc_d7_back_206 : decode tc_i7_back.2.1 206 = .ok (.iconst 3, 1) := by decide +kernel
theorem tc_d7_back_207 : decode tc_i7_back.2.1 207 = .ok (.if_icmp .ge 24, 3) := by decide +kernel
theorem tc_d7_back_210 : decode tc_i7_back.2.1 210 = .ok (.aload_n 0, 1) := by decide +kernel
theorem tc_d7_back_211 : decode tc_i7_back.2.1 211 = .ok (.getfield 32, 3) := by decide +kernel
theorem tc_d7_back_214 : decode tc_i7_back.2.1 214 = .ok (.iload_n 1, 1) := by decide +kernel
theorem tc_d7_back_215 : decode tc_i7_back.2.1 215 = .ok (.aload_n 0, 1) := by decide +kernel
theorem tc_d7_back_216 : decode tc_i7_back.2.1 216 = .ok (.getfield 90, 3) := by decide +kernel
theorem tc_d7_back_219 : decode tc_i7_back.2.1 219 = .ok (.bipush 74, 2) := by decide +kernel
theorem tc_d7_back_221 : decode tc_i7_back.2.1 221 = .ok (.iload_n 1, 1) := by decide +kernel
theorem tc_d7_back_222 : decode tc_i7_back.2.1 222 = .ok (.iadd, 1) := by decide +kernel
theorem tc_d7_back_223 : decode tc_i7_back.2.1 223 = .ok (.iaload, 1) := by decide +kernel
theorem tc_d7_back_224 : decode tc_i7_back.2.1 224 = .ok (.iastore, 1) := by decide +kernel
theorem tc_d7_back_225 : decode tc_i7_back.2.1 225 = .ok (.iinc 1 1, 3) := by decide +kernel
theorem tc_d7_back_228 : decode tc_i7_back.2.1 228 = .ok (.goto (-23), 3) := by decide +kernel
theorem tc_d7_back_231 : decode tc_i7_back.2.1 231 = .ok (.aload_n 0, 1) := by decide +kernel
theorem tc_d7_back_232 : decode tc_i7_back.2.1 232 = .ok (.aload_n 0, 1) := by decide +kernel
theorem tc_d7_back_233 : decode tc_i7_back.2.1 233 = .ok (.getfield 90, 3) := by decide +kernel
theorem tc_d7_back_236 : decode tc_i7_back.2.1 236 = .ok (.bipush 77, 2) := by decide +kernel
theorem tc_d7_back_238 : decode tc_i7_back.2.1 238 = .ok (.iaload, 1) := by decide +kernel
theorem tc_d7_back_239 : decode tc_i7_back.2.1 239 = .ok (.putfield 93, 3) := by decide +kernel
theorem tc_d7_back_242 : decode tc_i7_back.2.1 242 = .ok (.aload_n 0, 1) := by decide +kernel
theorem tc_d7_back_243 : decode tc_i7_back.2.1 243 = .ok (.aload_n 0, 1) := by decide +kernel
theorem tc_d7_back_244 : decode tc_i7_back.2.1 244 = .ok (.getfield 90, 3) := by decide +kernel
theorem tc_d7_back_247 : decode tc_i7_back.2.1 247 = .ok (.bipush 78, 2) := by decide +kernel
theorem tc_d7_back_249 : decode tc_i7_back.2.1 249 = .ok (.iaload, 1) := by decide +kernel
theorem tc_d7_back_250 : decode tc_i7_back.2.1 250 = .ok (.putfield 100, 3) := by decide +kernel
theorem tc_d7_back_253 : decode tc_i7_back.2.1 253 = .ok (.aload_n 0, 1) := by decide +kernel
theorem tc_d7_back_254 : decode tc_i7_back.2.1 254 = .ok (.getfield 93, 3) := by decide +kernel
theorem tc_d7_back_257 : decode tc_i7_back.2.1 257 = .ok (.ireturn, 1) := by decide +kernel
theorem tc_d7_isRight_0 : decode tc_i7_isRight.2.1 0 = .ok (.aload_n 0, 1) := by decide +kernel
theorem tc_d7_isRight_1 : decode tc_i7_isRight.2.1 1 = .ok (.invokevirtual 187, 3) := by decide +kernel
theorem tc_d7_isRight_4 : decode tc_i7_isRight.2.1 4 = .ok (.aload_n 0, 1) := by decide +kernel
theorem tc_d7_isRight_5 : decode tc_i7_isRight.2.1 5 = .ok (.iconst 0, 1) := by decide +kernel
theorem tc_d7_isRight_6 : decode tc_i7_isRight.2.1 6 = .ok (.invokevirtual 180, 3) := by decide +kernel
theorem tc_d7_isRight_9 : decode tc_i7_isRight.2.1 9 = .ok (.ifCond .lt 15, 3) := by decide +kernel
theorem tc_d7_isRight_12 : decode tc_i7_isRight.2.1 12 = .ok (.aload_n 0, 1) := by decide +kernel
theorem tc_d7_isRight_13 : decode tc_i7_isRight.2.1 13 = .ok (.iconst 2, 1) := by decide +kernel
theorem tc_d7_isRight_14 : decode tc_i7_isRight.2.1 14 = .ok (.invokevirtual 173, 3) := by decide +kernel
theorem tc_d7_isRight_17 : decode tc_i7_isRight.2.1 17 = .ok (.ifCond .ne 7, 3) := by decide +kernel
theorem tc_d7_isRight_20 : decode tc_i7_isRight.2.1 20 = .ok (.iconst 1, 1) := by decide +kernel
theorem tc_d7_isRight_21 : decode tc_i7_isRight.2.1 21 = .ok (.goto 4, 3) := by decide +kernel
theorem tc_d7_isRight_24 : decode tc_i7_isRight.2.1 24 = .ok (.iconst 0, 1) := by decide +kernel
theorem tc_d7_isRight_25 : decode tc_i7_isRight.2.1 25 = .ok (.istore_n 1, 1) := by decide +kernel
theorem tc_d7_isRight_26 : decode tc_i7_isRight.2.1 26 = .ok (.aload_n 0, 1) := by decide +kernel
theorem tc_d7_isRight_27 : decode tc_i7_isRight.2.1 27 = .ok (.invokevirtual 195, 3) := by decide +kernel
theorem tc_d7_isRight_30 : decode tc_i7_isRight.2.1 30 = .ok (.iload_n 1, 1) := by decide +kernel
theorem tc_d7_isRight_31 : decode tc_i7_isRight.2.1 31 = .ok (.ireturn, 1) := by decide +kernel
theorem tc_d7_broken_0 : decode tc_i7_broken.2.1 0 = .ok (.aload_n 0, 1) := by decide +kernel
theorem tc_d7_broken_1 : decode tc_i7_broken.2.1 1 = .ok (.invokevirtual 187, 3) := by decide +kernel
theorem tc_d7_broken_4 : decode tc_i7_broken.2.1 4 = .ok (.aload_n 0, 1) := by decide +kernel
theorem tc_d7_broken_5 : decode tc_i7_broken.2.1 5 = .ok (.iconst 0, 1) := by decide +kernel
theorem tc_d7_broken_6 : decode tc_i7_broken.2.1 6 = .ok (.iload_n 1, 1) := by decide +kernel
theorem tc_d7_broken_7 : decode tc_i7_broken.2.1 7 = .ok (.invokevirtual 176, 3) := by decide +kernel
theorem tc_d7_broken_10 : decode tc_i7_broken.2.1 10 = .ok (.aload_n 0, 1) := by decide +kernel
theorem tc_d7_broken_11 : decode tc_i7_broken.2.1 11 = .ok (.iconst 0, 1) := by decide +kernel
theorem tc_d7_broken_12 : decode tc_i7_broken.2.1 12 = .ok (.invokevirtual 180, 3) := by decide +kernel
theorem tc_d7_broken_15 : decode tc_i7_broken.2.1 15 = .ok (.istore_n 2, 1) := by decide +kernel
theorem tc_d7_broken_16 : decode tc_i7_broken.2.1 16 = .ok (.iload_n 2, 1) := by decide +kernel
theorem tc_d7_broken_17 : decode tc_i7_broken.2.1 17 = .ok (.ifCond .ge 7, 3) := by decide +kernel
theorem tc_d7_broken_20 : decode tc_i7_broken.2.1 20 = .ok (.iconst (-1), 1) := by decide +kernel
theorem tc_d7_broken_21 : decode tc_i7_broken.2.1 21 = .ok (.goto 17, 3) := by decide +kernel
theorem tc_d7_broken_24 : decode tc_i7_broken.2.1 24 = .ok (.aload_n 0, 1) := by decide +kernel
theorem tc_d7_broken_25 : decode tc_i7_broken.2.1 25 = .ok (.getfield 25, 3) := by decide +kernel
theorem tc_d7_broken_28 : decode tc_i7_broken.2.1 28 = .ok (.iload_n 1, 1) := by decide +kernel
theorem tc_d7_broken_29 : decode tc_i7_broken.2.1 29 = .ok (.baload, 1) := by decide +kernel
theorem tc_d7_broken_30 : decode tc_i7_broken.2.1 30 = .ok (.ifCond .eq 7, 3) := by decide +kernel
theorem tc_d7_broken_33 : decode tc_i7_broken.2.1 33 = .ok (.iconst 1, 1) := by decide +kernel
theorem tc_d7_broken_34 : decode tc_i7_broken.2.1 34 = .ok (.goto 4, 3) := by decide +kernel
theorem tc_d7_broken_37 : decode tc_i7_broken.2.1 37 = .ok (.iconst 0, 1) := by decide +kernel
theorem tc_d7_broken_38 : decode tc_i7_broken.2.1 38 = .ok (.istore_n 3, 1) := by decide +kernel
theorem tc_d7_broken_39 : decode tc_i7_broken.2.1 39 = .ok (.aload_n 0, 1) := by decide +kernel
theorem tc_d7_broken_40 : decode tc_i7_broken.2.1 40 = .ok (.invokevirtual 195, 3) := by decide +kernel
theorem tc_d7_broken_43 : decode tc_i7_broken.2.1 43 = .ok (.iload_n 3, 1) := by decide +kernel
theorem tc_d7_broken_44 : decode tc_i7_broken.2.1 44 = .ok (.ireturn, 1) := by decide +kernel
theorem tc_d7_isUnseen_0 : decode tc_i7_isUnseen.2.1 0 = .ok (.iconst 0, 1) := by decide +kernel
theorem tc_d7_isUnseen_1 : decode tc_i7_isUnseen.2.1 1 = .ok (.istore_n 1, 1) := by decide +kernel
theorem tc_d7_isUnseen_2 : decode tc_i7_isUnseen.2.1 2 = .ok (.iload_n 1, 1) := by decide +kernel
theorem tc_d7_isUnseen_3 : decode tc_i7_isUnseen.2.1 3 = .ok (.aload_n 0, 1) := by decide +kernel
theorem tc_d7_isUnseen_4 : decode tc_i7_isUnseen.2.1 4 = .ok (.getfield 93, 3) := by decide +kernel
theorem tc_d7_isUnseen_7 : decode tc_i7_isUnseen.2.1 7 = .ok (.if_icmp .ge 20, 3) := by decide +kernel
theorem tc_d7_isUnseen_10 : decode tc_i7_isUnseen.2.1 10 = .ok (.aload_n 0, 1) := by decide +kernel
theorem tc_d7_isUnseen_11 : decode tc_i7_isUnseen.2.1 11 = .ok (.iload_n 1, 1) := by decide +kernel
theorem tc_d7_isUnseen_12 : decode tc_i7_isUnseen.2.1 12 = .ok (.invokevirtual 198, 3) := by decide +kernel
theorem tc_d7_isUnseen_15 : decode tc_i7_isUnseen.2.1 15 = .ok (.iconst 1, 1) := by decide +kernel
theorem tc_d7_isUnseen_16 : decode tc_i7_isUnseen.2.1 16 = .ok (.if_icmp .ne 5, 3) := by decide +kernel
theorem tc_d7_isUnseen_19 : decode tc_i7_isUnseen.2.1 19 = .ok (.iconst 1, 1) := by decide +kernel
theorem tc_d7_isUnseen_20 : decode tc_i7_isUnseen.2.1 20 = .ok (.ireturn, 1) := by decide +kernel
theorem tc_d7_isUnseen_21 : decode tc_i7_isUnseen.2.1 21 = .ok (.iinc 1 1, 3) := by decide +kernel
theorem tc_d7_isUnseen_24 : decode tc_i7_isUnseen.2.1 24 = .ok (.goto (-22), 3) := by decide +kernel
theorem tc_d7_isUnseen_27 : decode tc_i7_isUnseen.2.1 27 = .ok (.iconst 0, 1) := by decide +kernel
theorem tc_d7_isUnseen_28 : decode tc_i7_isUnseen.2.1 28 = .ok (.ireturn, 1) := by decide +kernel
theorem tc_d7_bound_0 : decode tc_i7_bound.2.1 0 = .ok (.iload_n 1, 1) := by decide +kernel
theorem tc_d7_bound_1 : decode tc_i7_bound.2.1 1 = .ok (.iconst 0, 1) := by decide +kernel
theorem tc_d7_bound_2 : decode tc_i7_bound.2.1 2 = .ok (.iconst 1, 1) := by decide +kernel
theorem tc_d7_bound_3 : decode tc_i7_bound.2.1 3 = .ok (.invokestatic 96, 3) := by decide +kernel
theorem tc_d7_bound_6 : decode tc_i7_bound.2.1 6 = .ok (.ifCond .ne 6, 3) := by decide +kernel
theorem tc_d7_bound_9 : decode tc_i7_bound.2.1 9 = .ok (.bipush (-2), 2) := by decide +kernel
theorem tc_d7_bound_11 : decode tc_i7_bound.2.1 11 = .ok (.ireturn, 1) := by decide +kernel
theorem tc_d7_bound_12 : decode tc_i7_bound.2.1 12 = .ok (.aload_n 0, 1) := by decide +kernel
theorem tc_d7_bound_13 : decode tc_i7_bound.2.1 13 = .ok (.getfield 32, 3) := by decide +kernel
theorem tc_d7_bound_16 : decode tc_i7_bound.2.1 16 = .ok (.iconst 2, 1) := by decide +kernel
theorem tc_d7_bound_17 : decode tc_i7_bound.2.1 17 = .ok (.iaload, 1) := by decide +kernel
theorem tc_d7_bound_18 : decode tc_i7_bound.2.1 18 = .ok (.istore_n 2, 1) := by decide +kernel
theorem tc_d7_bound_19 : decode tc_i7_bound.2.1 19 = .ok (.iconst (-1), 1) := by decide +kernel
theorem tc_d7_bound_20 : decode tc_i7_bound.2.1 20 = .ok (.istore_n 3, 1) := by decide +kernel
theorem tc_d7_bound_21 : decode tc_i7_bound.2.1 21 = .ok (.iconst 0, 1) := by decide +kernel
theorem tc_d7_bound_22 : decode tc_i7_bound.2.1 22 = .ok (.istore 4, 2) := by decide +kernel
theorem tc_d7_bound_24 : decode tc_i7_bound.2.1 24 = .ok (.iload 4, 2) := by decide +kernel
theorem tc_d7_bound_26 : decode tc_i7_bound.2.1 26 = .ok (.bipush 10, 2) := by decide +kernel
theorem tc_d7_bound_28 : decode tc_i7_bound.2.1 28 = .ok (.if_icmp .ge 61, 3) := by decide +kernel
theorem tc_d7_bound_31 : decode tc_i7_bound.2.1 31 = .ok (.iload_n 3, 1) := by decide +kernel
theorem tc_d7_bound_32 : decode tc_i7_bound.2.1 32 = .ok (.ifCond .ge 57, 3) := by decide +kernel
theorem tc_d7_bound_35 : decode tc_i7_bound.2.1 35 = .ok (.aload_n 0, 1) := by decide +kernel
theorem tc_d7_bound_36 : decode tc_i7_bound.2.1 36 = .ok (.getfield 32, 3) := by decide +kernel
theorem tc_d7_bound_39 : decode tc_i7_bound.2.1 39 = .ok (.iconst 2, 1) := by decide +kernel
theorem tc_d7_bound_40 : decode tc_i7_bound.2.1 40 = .ok (.iload_n 1, 1) := by decide +kernel
theorem tc_d7_bound_41 : decode tc_i7_bound.2.1 41 = .ok (.ifCond .ne 11, 3) := by decide +kernel
theorem tc_d7_bound_44 : decode tc_i7_bound.2.1 44 = .ok (.bipush 9, 2) := by decide +kernel
theorem tc_d7_bound_46 : decode tc_i7_bound.2.1 46 = .ok (.iload 4, 2) := by decide +kernel
theorem tc_d7_bound_48 : decode tc_i7_bound.2.1 48 = .ok (.isub, 1) := by decide +kernel
theorem tc_d7_bound_49 : decode tc_i7_bound.2.1 49 = .ok (.goto 5, 3) := by decide +kernel
theorem tc_d7_bound_52 : decode tc_i7_bound.2.1 52 = .ok (.iload 4, 2) := by decide +kernel
theorem tc_d7_bound_54 : decode tc_i7_bound.2.1 54 = .ok (.iastore, 1) := by decide +kernel
theorem tc_d7_bound_55 : decode tc_i7_bound.2.1 55 = .ok (.iload_n 1, 1) := by decide +kernel
theorem tc_d7_bound_56 : decode tc_i7_bound.2.1 56 = .ok (.ifCond .ne 13, 3) := by decide +kernel
theorem tc_d7_bound_59 : decode tc_i7_bound.2.1 59 = .ok (.aload_n 0, 1) := by decide +kernel
theorem tc_d7_bound_60 : decode tc_i7_bound.2.1 60 = .ok (.invokevirtual 201, 3) := by decide +kernel
theorem tc_d7_bound_63 : decode tc_i7_bound.2.1 63 = .ok (.ifCond .eq 20, 3) := by decide +kernel
theorem tc_d7_bound_66 : decode tc_i7_bound.2.1 66 = .ok (.goto 10, 3) := by decide +kernel
theorem tc_d7_bound_69 : decode tc_i7_bound.2.1 69 = .ok (.aload_n 0, 1) := by decide +kernel
theorem tc_d7_bound_70 : decode tc_i7_bound.2.1 70 = .ok (.invokevirtual 205, 3) := by decide +kernel
theorem tc_d7_bound_73 : decode tc_i7_bound.2.1 73 = .ok (.ifCond .eq 10, 3) := by decide +kernel
theorem tc_d7_bound_76 : decode tc_i7_bound.2.1 76 = .ok (.aload_n 0, 1) := by decide +kernel
theorem tc_d7_bound_77 : decode tc_i7_bound.2.1 77 = .ok (.getfield 32, 3) := by decide +kernel
theorem tc_d7_bound_80 : decode tc_i7_bound.2.1 80 = .ok (.iconst 2, 1) := by decide +kernel
theorem tc_d7_bound_81 : decode tc_i7_bound.2.1 81 = .ok (.iaload, 1) := by decide +kernel
theorem tc_d7_bound_82 : decode tc_i7_bound.2.1 82 = .ok (.istore_n 3, 1) := by decide +kernel
theorem tc_d7_bound_83 : decode tc_i7_bound.2.1 83 = .ok (.iinc 4 1, 3) := by decide +kernel
theorem tc_d7_bound_86 : decode tc_i7_bound.2.1 86 = .ok (.goto (-62), 3) := by decide +kernel
theorem tc_d7_bound_89 : decode tc_i7_bound.2.1 89 = .ok (.aload_n 0, 1) := by decide +kernel
theorem tc_d7_bound_90 : decode tc_i7_bound.2.1 90 = .ok (.getfield 32, 3) := by decide +kernel
theorem tc_d7_bound_93 : decode tc_i7_bound.2.1 93 = .ok (.iconst 2, 1) := by decide +kernel
theorem tc_d7_bound_94 : decode tc_i7_bound.2.1 94 = .ok (.iload_n 2, 1) := by decide +kernel
theorem tc_d7_bound_95 : decode tc_i7_bound.2.1 95 = .ok (.iastore, 1) := by decide +kernel
theorem tc_d7_bound_96 : decode tc_i7_bound.2.1 96 = .ok (.iload_n 3, 1) := by decide +kernel
theorem tc_d7_bound_97 : decode tc_i7_bound.2.1 97 = .ok (.ireturn, 1) := by decide +kernel
theorem tc_d7_drawnBy_0 : decode tc_i7_drawnBy.2.1 0 = .ok (.aload_n 0, 1) := by decide +kernel
theorem tc_d7_drawnBy_1 : decode tc_i7_drawnBy.2.1 1 = .ok (.invokevirtual 187, 3) := by decide +kernel
theorem tc_d7_drawnBy_4 : decode tc_i7_drawnBy.2.1 4 = .ok (.iload_n 1, 1) := by decide +kernel
theorem tc_d7_drawnBy_5 : decode tc_i7_drawnBy.2.1 5 = .ok (.istore_n 3, 1) := by decide +kernel
theorem tc_d7_drawnBy_6 : decode tc_i7_drawnBy.2.1 6 = .ok (.iconst 0, 1) := by decide +kernel
theorem tc_d7_drawnBy_7 : decode tc_i7_drawnBy.2.1 7 = .ok (.istore 4, 2) := by decide +kernel
theorem tc_d7_drawnBy_9 : decode tc_i7_drawnBy.2.1 9 = .ok (.iload 4, 2) := by decide +kernel
theorem tc_d7_drawnBy_11 : decode tc_i7_drawnBy.2.1 11 = .ok (.iload_n 2, 1) := by decide +kernel
theorem tc_d7_drawnBy_12 : decode tc_i7_drawnBy.2.1 12 = .ok (.if_icmp .ge 37, 3) := by decide +kernel
theorem tc_d7_drawnBy_15 : decode tc_i7_drawnBy.2.1 15 = .ok (.iload_n 3, 1) := by decide +kernel
theorem tc_d7_drawnBy_16 : decode tc_i7_drawnBy.2.1 16 = .ok (.ldc 218, 2) := by decide +kernel
theorem tc_d7_drawnBy_18 : decode tc_i7_drawnBy.2.1 18 = .ok (.imul, 1) := by decide +kernel
theorem tc_d7_drawnBy_19 : decode tc_i7_drawnBy.2.1 19 = .ok (.sipush 12345, 3) := by decide +kernel
theorem tc_d7_drawnBy_22 : decode tc_i7_drawnBy.2.1 22 = .ok (.iadd, 1) := by decide +kernel
theorem tc_d7_drawnBy_23 : decode tc_i7_drawnBy.2.1 23 = .ok (.istore_n 3, 1) := by decide +kernel
theorem tc_d7_drawnBy_24 : decode tc_i7_drawnBy.2.1 24 = .ok (.aload_n 0, 1) := by decide +kernel
theorem tc_d7_drawnBy_25 : decode tc_i7_drawnBy.2.1 25 = .ok (.iload_n 3, 1) := by decide +kernel
theorem tc_d7_drawnBy_26 : decode tc_i7_drawnBy.2.1 26 = .ok (.bipush 9, 2) := by decide +kernel
theorem tc_d7_drawnBy_28 : decode tc_i7_drawnBy.2.1 28 = .ok (.iushr, 1) := by decide +kernel
theorem tc_d7_drawnBy_29 : decode tc_i7_drawnBy.2.1 29 = .ok (.iconst 4, 1) := by decide +kernel
theorem tc_d7_drawnBy_30 : decode tc_i7_drawnBy.2.1 30 = .ok (.irem, 1) := by decide +kernel
theorem tc_d7_drawnBy_31 : decode tc_i7_drawnBy.2.1 31 = .ok (.iload_n 3, 1) := by decide +kernel
theorem tc_d7_drawnBy_32 : decode tc_i7_drawnBy.2.1 32 = .ok (.bipush 16, 2) := by decide +kernel
theorem tc_d7_drawnBy_34 : decode tc_i7_drawnBy.2.1 34 = .ok (.iushr, 1) := by decide +kernel
theorem tc_d7_drawnBy_35 : decode tc_i7_drawnBy.2.1 35 = .ok (.aload_n 0, 1) := by decide +kernel
theorem tc_d7_drawnBy_36 : decode tc_i7_drawnBy.2.1 36 = .ok (.getfield 93, 3) := by decide +kernel
theorem tc_d7_drawnBy_39 : decode tc_i7_drawnBy.2.1 39 = .ok (.irem, 1) := by decide +kernel
theorem tc_d7_drawnBy_40 : decode tc_i7_drawnBy.2.1 40 = .ok (.invokevirtual 176, 3) := by decide +kernel
theorem tc_d7_drawnBy_43 : decode tc_i7_drawnBy.2.1 43 = .ok (.iinc 4 1, 3) := by decide +kernel
theorem tc_d7_drawnBy_46 : decode tc_i7_drawnBy.2.1 46 = .ok (.goto (-37), 3) := by decide +kernel
theorem tc_d7_drawnBy_49 : decode tc_i7_drawnBy.2.1 49 = .ok (.aload_n 0, 1) := by decide +kernel
theorem tc_d7_drawnBy_50 : decode tc_i7_drawnBy.2.1 50 = .ok (.iconst 0, 1) := by decide +kernel
theorem tc_d7_drawnBy_51 : decode tc_i7_drawnBy.2.1 51 = .ok (.invokevirtual 180, 3) := by decide +kernel
theorem tc_d7_drawnBy_54 : decode tc_i7_drawnBy.2.1 54 = .ok (.ifCond .ge 8, 3) := by decide +kernel
theorem tc_d7_drawnBy_57 : decode tc_i7_drawnBy.2.1 57 = .ok (.bipush 9, 2) := by decide +kernel
theorem tc_d7_drawnBy_59 : decode tc_i7_drawnBy.2.1 59 = .ok (.goto 11, 3) := by decide +kernel
theorem tc_d7_drawnBy_62 : decode tc_i7_drawnBy.2.1 62 = .ok (.aload_n 0, 1) := by decide +kernel
theorem tc_d7_drawnBy_63 : decode tc_i7_drawnBy.2.1 63 = .ok (.iconst 1, 1) := by decide +kernel
theorem tc_d7_drawnBy_64 : decode tc_i7_drawnBy.2.1 64 = .ok (.invokevirtual 173, 3) := by decide +kernel
theorem tc_d7_drawnBy_67 : decode tc_i7_drawnBy.2.1 67 = .ok (.invokestatic 190, 3) := by decide +kernel
theorem tc_d7_drawnBy_70 : decode tc_i7_drawnBy.2.1 70 = .ok (.istore 4, 2) := by decide +kernel
theorem tc_d7_drawnBy_72 : decode tc_i7_drawnBy.2.1 72 = .ok (.aload_n 0, 1) := by decide +kernel
theorem tc_d7_drawnBy_73 : decode tc_i7_drawnBy.2.1 73 = .ok (.invokevirtual 195, 3) := by decide +kernel
theorem tc_d7_drawnBy_76 : decode tc_i7_drawnBy.2.1 76 = .ok (.iload 4, 2) := by decide +kernel
theorem tc_d7_drawnBy_78 : decode tc_i7_drawnBy.2.1 78 = .ok (.ireturn, 1) := by decide +kernel
theorem tc_d7_chance_0 : decode tc_i7_chance.2.1 0 = .ok (.iload_n 2, 1) := by decide +kernel
theorem tc_d7_chance_1 : decode tc_i7_chance.2.1 1 = .ok (.iconst 1, 1) := by decide +kernel
theorem tc_d7_chance_2 : decode tc_i7_chance.2.1 2 = .ok (.bipush 20, 2) := by decide +kernel
theorem tc_d7_chance_4 : decode tc_i7_chance.2.1 4 = .ok (.invokestatic 96, 3) := by decide +kernel
theorem tc_d7_chance_7 : decode tc_i7_chance.2.1 7 = .ok (.ifCond .eq 41, 3) := by decide +kernel
theorem tc_d7_chance_10 : decode tc_i7_chance.2.1 10 = .ok (.iload_n 3, 1) := by decide +kernel
theorem tc_d7_chance_11 : decode tc_i7_chance.2.1 11 = .ok (.iconst 0, 1) := by decide +kernel
theorem tc_d7_chance_12 : decode tc_i7_chance.2.1 12 = .ok (.bipush 9, 2) := by decide +kernel
theorem tc_d7_chance_14 : decode tc_i7_chance.2.1 14 = .ok (.invokestatic 96, 3) := by decide +kernel
theorem tc_d7_chance_17 : decode tc_i7_chance.2.1 17 = .ok (.ifCond .eq 31, 3) := by decide +kernel
theorem tc_d7_chance_20 : decode tc_i7_chance.2.1 20 = .ok (.iload 4, 2) := by decide +kernel
theorem tc_d7_chance_22 : decode tc_i7_chance.2.1 22 = .ok (.iconst 0, 1) := by decide +kernel
theorem tc_d7_chance_23 : decode tc_i7_chance.2.1 23 = .ok (.bipush 8, 2) := by decide +kernel
theorem tc_d7_chance_25 : decode tc_i7_chance.2.1 25 = .ok (.invokestatic 96, 3) := by decide +kernel
theorem tc_d7_chance_28 : decode tc_i7_chance.2.1 28 = .ok (.ifCond .eq 20, 3) := by decide +kernel
theorem tc_d7_chance_31 : decode tc_i7_chance.2.1 31 = .ok (.iload 5, 2) := by decide +kernel
theorem tc_d7_chance_33 : decode tc_i7_chance.2.1 33 = .ok (.iconst 0, 1) := by decide +kernel
theorem tc_d7_chance_34 : decode tc_i7_chance.2.1 34 = .ok (.iconst 1, 1) := by decide +kernel
theorem tc_d7_chance_35 : decode tc_i7_chance.2.1 35 = .ok (.invokestatic 96, 3) := by decide +kernel
theorem tc_d7_chance_38 : decode tc_i7_chance.2.1 38 = .ok (.ifCond .eq 10, 3) := by decide +kernel
theorem tc_d7_chance_41 : decode tc_i7_chance.2.1 41 = .ok (.aload_n 0, 1) := by decide +kernel
theorem tc_d7_chance_42 : decode tc_i7_chance.2.1 42 = .ok (.getfield 93, 3) := by decide +kernel
theorem tc_d7_chance_45 : decode tc_i7_chance.2.1 45 = .ok (.ifCond .ne 6, 3) := by decide +kernel
theorem tc_d7_chance_48 : decode tc_i7_chance.2.1 48 = .ok (.bipush (-2), 2) := by decide +kernel
theorem tc_d7_chance_50 : decode tc_i7_chance.2.1 50 = .ok (.ireturn, 1) := by decide +kernel
theorem tc_d7_chance_51 : decode tc_i7_chance.2.1 51 = .ok (.iconst 0, 1) := by decide +kernel
theorem tc_d7_chance_52 : decode tc_i7_chance.2.1 52 = .ok (.istore 6, 2) := by decide +kernel
theorem tc_d7_chance_54 : decode tc_i7_chance.2.1 54 = .ok (.iconst 0, 1) := by decide +kernel
theorem tc_d7_chance_55 : decode tc_i7_chance.2.1 55 = .ok (.istore 7, 2) := by decide +kernel
theorem tc_d7_chance_57 : decode tc_i7_chance.2.1 57 = .ok (.iload 7, 2) := by decide +kernel
theorem tc_d7_chance_59 : decode tc_i7_chance.2.1 59 = .ok (.iload_n 2, 1) := by decide +kernel
theorem tc_d7_chance_60 : decode tc_i7_chance.2.1 60 = .ok (.if_icmp .ge 33, 3) := by decide +kernel
theorem tc_d7_chance_63 : decode tc_i7_chance.2.1 63 = .ok (.iload 6, 2) := by decide +kernel
theorem tc_d7_chance_65 : decode tc_i7_chance.2.1 65 = .ok (.aload_n 0, 1) := by decide +kernel
theorem tc_d7_chance_66 : decode tc_i7_chance.2.1 66 = .ok (.iload_n 1, 1) := by decide +kernel
theorem tc_d7_chance_67 : decode tc_i7_chance.2.1 67 = .ok (.iload 7, 2) := by decide +kernel
theorem tc_d7_chance_69 : decode tc_i7_chance.2.1 69 = .ok (.iadd, 1) := by decide +kernel
theorem tc_d7_chance_70 : decode tc_i7_chance.2.1 70 = .ok (.iload_n 3, 1) := by decide +kernel
theorem tc_d7_chance_71 : decode tc_i7_chance.2.1 71 = .ok (.invokevirtual 219, 3) := by decide +kernel
theorem tc_d7_chance_74 : decode tc_i7_chance.2.1 74 = .ok (.iload 4, 2) := by decide +kernel
theorem tc_d7_chance_76 : decode tc_i7_chance.2.1 76 = .ok (.if_icmp .lt 7, 3) := by decide +kernel
theorem tc_d7_chance_79 : decode tc_i7_chance.2.1 79 = .ok (.iconst 1, 1) := by decide +kernel
theorem tc_d7_chance_80 : decode tc_i7_chance.2.1 80 = .ok (.goto 4, 3) := by decide +kernel
theorem tc_d7_chance_83 : decode tc_i7_chance.2.1 83 = .ok (.iconst 0, 1) := by decide +kernel
theorem tc_d7_chance_84 : decode tc_i7_chance.2.1 84 = .ok (.iadd, 1) := by decide +kernel
theorem tc_d7_chance_85 : decode tc_i7_chance.2.1 85 = .ok (.istore 6, 2) := by decide +kernel
theorem tc_d7_chance_87 : decode tc_i7_chance.2.1 87 = .ok (.iinc 7 1, 3) := by decide +kernel
theorem tc_d7_chance_90 : decode tc_i7_chance.2.1 90 = .ok (.goto (-33), 3) := by decide +kernel
theorem tc_d7_chance_93 : decode tc_i7_chance.2.1 93 = .ok (.iload 6, 2) := by decide +kernel
theorem tc_d7_chance_95 : decode tc_i7_chance.2.1 95 = .ok (.istore 7, 2) := by decide +kernel
theorem tc_d7_chance_97 : decode tc_i7_chance.2.1 97 = .ok (.iload_n 2, 1) := by decide +kernel
theorem tc_d7_chance_98 : decode tc_i7_chance.2.1 98 = .ok (.istore 8, 2) := by decide +kernel
theorem tc_d7_chance_100 : decode tc_i7_chance.2.1 100 = .ok (.iload 8, 2) := by decide +kernel
theorem tc_d7_chance_102 : decode tc_i7_chance.2.1 102 = .ok (.ifCond .eq 21, 3) := by decide +kernel
theorem tc_d7_chance_105 : decode tc_i7_chance.2.1 105 = .ok (.iload 7, 2) := by decide +kernel
theorem tc_d7_chance_107 : decode tc_i7_chance.2.1 107 = .ok (.iload 8, 2) := by decide +kernel
theorem tc_d7_chance_109 : decode tc_i7_chance.2.1 109 = .ok (.irem, 1) := by decide +kernel
theorem tc_d7_chance_110 : decode tc_i7_chance.2.1 110 = .ok (.istore 9, 2) := by decide +kernel
theorem tc_d7_chance_112 : decode tc_i7_chance.2.1 112 = .ok (.iload 8, 2) := by decide +kernel
theorem tc_d7_chance_114 : decode tc_i7_chance.2.1 114 = .ok (.istore 7, 2) := by decide +kernel
theorem tc_d7_chance_116 : decode tc_i7_chance.2.1 116 = .ok (.iload 9, 2) := by decide +kernel
theorem tc_d7_chance_118 : decode tc_i7_chance.2.1 118 = .ok (.istore 8, 2) := by decide +kernel
theorem tc_d7_chance_120 : decode tc_i7_chance.2.1 120 = .ok (.goto (-20), 3) := by decide +kernel
theorem tc_d7_chance_123 : decode tc_i7_chance.2.1 123 = .ok (.iload 5, 2) := by decide +kernel
theorem tc_d7_chance_125 : decode tc_i7_chance.2.1 125 = .ok (.ifCond .ne 11, 3) := by decide +kernel
theorem tc_d7_chance_128 : decode tc_i7_chance.2.1 128 = .ok (.iload 6, 2) := by decide +kernel
theorem tc_d7_chance_130 : decode tc_i7_chance.2.1 130 = .ok (.iload 7, 2) := by decide +kernel
theorem tc_d7_chance_132 : decode tc_i7_chance.2.1 132 = .ok (.idiv, 1) := by decide +kernel
theorem tc_d7_chance_133 : decode tc_i7_chance.2.1 133 = .ok (.goto 7, 3) := by decide +kernel
theorem tc_d7_chance_136 : decode tc_i7_chance.2.1 136 = .ok (.iload_n 2, 1) := by decide +kernel
theorem tc_d7_chance_137 : decode tc_i7_chance.2.1 137 = .ok (.iload 7, 2) := by decide +kernel
theorem tc_d7_chance_139 : decode tc_i7_chance.2.1 139 = .ok (.idiv, 1) := by decide +kernel
theorem tc_d7_chance_140 : decode tc_i7_chance.2.1 140 = .ok (.ireturn, 1) := by decide +kernel
theorem tc_d7_clears_0 : decode tc_i7_clears.2.1 0 = .ok (.aload_n 0, 1) := by decide +kernel
theorem tc_d7_clears_1 : decode tc_i7_clears.2.1 1 = .ok (.iload_n 1, 1) := by decide +kernel
theorem tc_d7_clears_2 : decode tc_i7_clears.2.1 2 = .ok (.invokevirtual 167, 3) := by decide +kernel
theorem tc_d7_clears_5 : decode tc_i7_clears.2.1 5 = .ok (.ifCond .ne 6, 3) := by decide +kernel
theorem tc_d7_clears_8 : decode tc_i7_clears.2.1 8 = .ok (.bipush (-2), 2) := by decide +kernel
theorem tc_d7_clears_10 : decode tc_i7_clears.2.1 10 = .ok (.ireturn, 1) := by decide +kernel
theorem tc_d7_clears_11 : decode tc_i7_clears.2.1 11 = .ok (.aload_n 0, 1) := by decide +kernel
theorem tc_d7_clears_12 : decode tc_i7_clears.2.1 12 = .ok (.invokevirtual 187, 3) := by decide +kernel
theorem tc_d7_clears_15 : decode tc_i7_clears.2.1 15 = .ok (.iconst (-1), 1) := by decide +kernel
theorem tc_d7_clears_16 : decode tc_i7_clears.2.1 16 = .ok (.istore_n 2, 1) := by decide +kernel
theorem tc_d7_clears_17 : decode tc_i7_clears.2.1 17 = .ok (.iconst 1, 1) := by decide +kernel
theorem tc_d7_clears_18 : decode tc_i7_clears.2.1 18 = .ok (.istore_n 3, 1) := by decide +kernel
theorem tc_d7_clears_19 : decode tc_i7_clears.2.1 19 = .ok (.iconst 1, 1) := by decide +kernel
theorem tc_d7_clears_20 : decode tc_i7_clears.2.1 20 = .ok (.istore 4, 2) := by decide +kernel
theorem tc_d7_clears_22 : decode tc_i7_clears.2.1 22 = .ok (.iload 4, 2) := by decide +kernel
theorem tc_d7_clears_24 : decode tc_i7_clears.2.1 24 = .ok (.bipush 20, 2) := by decide +kernel
theorem tc_d7_clears_26 : decode tc_i7_clears.2.1 26 = .ok (.if_icmp .gt 51, 3) := by decide +kernel
theorem tc_d7_clears_29 : decode tc_i7_clears.2.1 29 = .ok (.iload_n 3, 1) := by decide +kernel
theorem tc_d7_clears_30 : decode tc_i7_clears.2.1 30 = .ok (.ifCond .eq 47, 3) := by decide +kernel
theorem tc_d7_clears_33 : decode tc_i7_clears.2.1 33 = .ok (.iload_n 2, 1) := by decide +kernel
theorem tc_d7_clears_34 : decode tc_i7_clears.2.1 34 = .ok (.ifCond .ge 43, 3) := by decide +kernel
theorem tc_d7_clears_37 : decode tc_i7_clears.2.1 37 = .ok (.aload_n 0, 1) := by decide +kernel
theorem tc_d7_clears_38 : decode tc_i7_clears.2.1 38 = .ok (.iconst 0, 1) := by decide +kernel
theorem tc_d7_clears_39 : decode tc_i7_clears.2.1 39 = .ok (.invokevirtual 180, 3) := by decide +kernel
theorem tc_d7_clears_42 : decode tc_i7_clears.2.1 42 = .ok (.ifCond .lt 7, 3) := by decide +kernel
theorem tc_d7_clears_45 : decode tc_i7_clears.2.1 45 = .ok (.iconst 1, 1) := by decide +kernel
theorem tc_d7_clears_46 : decode tc_i7_clears.2.1 46 = .ok (.goto 4, 3) := by decide +kernel
theorem tc_d7_clears_49 : decode tc_i7_clears.2.1 49 = .ok (.iconst 0, 1) := by decide +kernel
theorem tc_d7_clears_50 : decode tc_i7_clears.2.1 50 = .ok (.istore_n 3, 1) := by decide +kernel
theorem tc_d7_clears_51 : decode tc_i7_clears.2.1 51 = .ok (.iload_n 3, 1) := by decide +kernel
theorem tc_d7_clears_52 : decode tc_i7_clears.2.1 52 = .ok (.ifCond .eq 17, 3) := by decide +kernel
theorem tc_d7_clears_55 : decode tc_i7_clears.2.1 55 = .ok (.aload_n 0, 1) := by decide +kernel
theorem tc_d7_clears_56 : decode tc_i7_clears.2.1 56 = .ok (.getfield 25, 3) := by decide +kernel
theorem tc_d7_clears_59 : decode tc_i7_clears.2.1 59 = .ok (.iload_n 1, 1) := by decide +kernel
theorem tc_d7_clears_60 : decode tc_i7_clears.2.1 60 = .ok (.baload, 1) := by decide +kernel
theorem tc_d7_clears_61 : decode tc_i7_clears.2.1 61 = .ok (.ifCond .eq 8, 3) := by decide +kernel
theorem tc_d7_clears_64 : decode tc_i7_clears.2.1 64 = .ok (.iload 4, 2) := by decide +kernel
theorem tc_d7_clears_66 : decode tc_i7_clears.2.1 66 = .ok (.goto 4, 3) := by decide +kernel
theorem tc_d7_clears_69 : decode tc_i7_clears.2.1 69 = .ok (.iconst (-1), 1) := by decide +kernel
theorem tc_d7_clears_70 : decode tc_i7_clears.2.1 70 = .ok (.istore_n 2, 1) := by decide +kernel
theorem tc_d7_clears_71 : decode tc_i7_clears.2.1 71 = .ok (.iinc 4 1, 3) := by decide +kernel
theorem tc_d7_clears_74 : decode tc_i7_clears.2.1 74 = .ok (.goto (-52), 3) := by decide +kernel
theorem tc_d7_clears_77 : decode tc_i7_clears.2.1 77 = .ok (.aload_n 0, 1) := by decide +kernel
theorem tc_d7_clears_78 : decode tc_i7_clears.2.1 78 = .ok (.invokevirtual 195, 3) := by decide +kernel
theorem tc_d7_clears_81 : decode tc_i7_clears.2.1 81 = .ok (.iload_n 2, 1) := by decide +kernel
theorem tc_d7_clears_82 : decode tc_i7_clears.2.1 82 = .ok (.ireturn, 1) := by decide +kernel
theorem tc_d7_isSheet_0 : decode tc_i7_isSheet.2.1 0 = .ok (.iload_n 0, 1) := by decide +kernel
theorem tc_d7_isSheet_1 : decode tc_i7_isSheet.2.1 1 = .ok (.iconst 0, 1) := by decide +kernel
theorem tc_d7_isSheet_2 : decode tc_i7_isSheet.2.1 2 = .ok (.iconst 3, 1) := by decide +kernel
theorem tc_d7_isSheet_3 : decode tc_i7_isSheet.2.1 3 = .ok (.invokestatic 96, 3) := by decide +kernel
theorem tc_d7_isSheet_6 : decode tc_i7_isSheet.2.1 6 = .ok (.ireturn, 1) := by decide +kernel
theorem tc_d7_copy_0 : decode tc_i7_copy.2.1 0 = .ok (.iload_n 1, 1) := by decide +kernel
theorem tc_d7_copy_1 : decode tc_i7_copy.2.1 1 = .ok (.invokestatic 222, 3) := by decide +kernel
theorem tc_d7_copy_4 : decode tc_i7_copy.2.1 4 = .ok (.ifCond .eq 10, 3) := by decide +kernel
theorem tc_d7_copy_7 : decode tc_i7_copy.2.1 7 = .ok (.iload_n 3, 1) := by decide +kernel
theorem tc_d7_copy_8 : decode tc_i7_copy.2.1 8 = .ok (.invokestatic 222, 3) := by decide +kernel
theorem tc_d7_copy_11 : decode tc_i7_copy.2.1 11 = .ok (.ifCond .ne 6, 3) := by decide +kernel
theorem tc_d7_copy_14 : decode tc_i7_copy.2.1 14 = .ok (.bipush (-2), 2) := by decide +kernel
theorem tc_d7_copy_16 : decode tc_i7_copy.2.1 16 = .ok (.ireturn, 1) := by decide +kernel
theorem tc_d7_copy_17 : decode tc_i7_copy.2.1 17 = .ok (.aload_n 0, 1) := by decide +kernel
theorem tc_d7_copy_18 : decode tc_i7_copy.2.1 18 = .ok (.getfield 54, 3) := by decide +kernel
theorem tc_d7_copy_21 : decode tc_i7_copy.2.1 21 = .ok (.iload_n 1, 1) := by decide +kernel
theorem tc_d7_copy_22 : decode tc_i7_copy.2.1 22 = .ok (.iaload, 1) := by decide +kernel
theorem tc_d7_copy_23 : decode tc_i7_copy.2.1 23 = .ok (.ifCond .lt 12, 3) := by decide +kernel
theorem tc_d7_copy_26 : decode tc_i7_copy.2.1 26 = .ok (.aload_n 0, 1) := by decide +kernel
theorem tc_d7_copy_27 : decode tc_i7_copy.2.1 27 = .ok (.getfield 54, 3) := by decide +kernel
theorem tc_d7_copy_30 : decode tc_i7_copy.2.1 30 = .ok (.iload_n 3, 1) := by decide +kernel
theorem tc_d7_copy_31 : decode tc_i7_copy.2.1 31 = .ok (.iaload, 1) := by decide +kernel
theorem tc_d7_copy_32 : decode tc_i7_copy.2.1 32 = .ok (.ifCond .ge 6, 3) := by decide +kernel
theorem tc_d7_copy_35 : decode tc_i7_copy.2.1 35 = .ok (.bipush (-11), 2) := by decide +kernel
theorem tc_d7_copy_37 : decode tc_i7_copy.2.1 37 = .ok (.ireturn, 1) := by decide +kernel
theorem tc_d7_copy_38 : decode tc_i7_copy.2.1 38 = .ok (.aload_n 0, 1) := by decide +kernel
theorem tc_d7_copy_39 : decode tc_i7_copy.2.1 39 = .ok (.getfield 54, 3) := by decide +kernel
theorem tc_d7_copy_42 : decode tc_i7_copy.2.1 42 = .ok (.iload_n 1, 1) := by decide +kernel
theorem tc_d7_copy_43 : decode tc_i7_copy.2.1 43 = .ok (.iaload, 1) := by decide +kernel
theorem tc_d7_copy_44 : decode tc_i7_copy.2.1 44 = .ok (.aload_n 0, 1) := by decide +kernel
theorem tc_d7_copy_45 : decode tc_i7_copy.2.1 45 = .ok (.getfield 54, 3) := by decide +kernel
theorem tc_d7_copy_48 : decode tc_i7_copy.2.1 48 = .ok (.iload_n 3, 1) := by decide +kernel
theorem tc_d7_copy_49 : decode tc_i7_copy.2.1 49 = .ok (.iaload, 1) := by decide +kernel
theorem tc_d7_copy_50 : decode tc_i7_copy.2.1 50 = .ok (.if_icmp .eq 6, 3) := by decide +kernel
theorem tc_d7_copy_53 : decode tc_i7_copy.2.1 53 = .ok (.bipush (-13), 2) := by decide +kernel
theorem tc_d7_copy_55 : decode tc_i7_copy.2.1 55 = .ok (.ireturn, 1) := by decide +kernel
theorem tc_d7_copy_56 : decode tc_i7_copy.2.1 56 = .ok (.iload 5, 2) := by decide +kernel
theorem tc_d7_copy_58 : decode tc_i7_copy.2.1 58 = .ok (.ifCond .lt 47, 3) := by decide +kernel
theorem tc_d7_copy_61 : decode tc_i7_copy.2.1 61 = .ok (.iload_n 2, 1) := by decide +kernel
theorem tc_d7_copy_62 : decode tc_i7_copy.2.1 62 = .ok (.ifCond .lt 43, 3) := by decide +kernel
theorem tc_d7_copy_65 : decode tc_i7_copy.2.1 65 = .ok (.iload 4, 2) := by decide +kernel
theorem tc_d7_copy_67 : decode tc_i7_copy.2.1 67 = .ok (.ifCond .lt 38, 3) := by decide +kernel
theorem tc_d7_copy_70 : decode tc_i7_copy.2.1 70 = .ok (.iload_n 2, 1) := by decide +kernel
theorem tc_d7_copy_71 : decode tc_i7_copy.2.1 71 = .ok (.i2l, 1) := by decide +kernel
theorem tc_d7_copy_72 : decode tc_i7_copy.2.1 72 = .ok (.iload 5, 2) := by decide +kernel
theorem tc_d7_copy_74 : decode tc_i7_copy.2.1 74 = .ok (.i2l, 1) := by decide +kernel
theorem tc_d7_copy_75 : decode tc_i7_copy.2.1 75 = .ok (.ladd, 1) := by decide +kernel
theorem tc_d7_copy_76 : decode tc_i7_copy.2.1 76 = .ok (.aload_n 0, 1) := by decide +kernel
theorem tc_d7_copy_77 : decode tc_i7_copy.2.1 77 = .ok (.getfield 57, 3) := by decide +kernel
theorem tc_d7_copy_80 : decode tc_i7_copy.2.1 80 = .ok (.iload_n 1, 1) := by decide +kernel
theorem tc_d7_copy_81 : decode tc_i7_copy.2.1 81 = .ok (.iaload, 1) := by decide +kernel
theorem tc_d7_copy_82 : decode tc_i7_copy.2.1 82 = .ok (.i2l, 1) := by decide +kernel
theorem tc_d7_copy_83 : decode tc_i7_copy.2.1 83 = .ok (.lcmp, 1) := by decide +kernel
theorem tc_d7_copy_84 : decode tc_i7_copy.2.1 84 = .ok (.ifCond .gt 21, 3) := by decide +kernel
theorem tc_d7_copy_87 : decode tc_i7_copy.2.1 87 = .ok (.iload 4, 2) := by decide +kernel
theorem tc_d7_copy_89 : decode tc_i7_copy.2.1 89 = .ok (.i2l, 1) := by decide +kernel
theorem tc_d7_copy_90 : decode tc_i7_copy.2.1 90 = .ok (.iload 5, 2) := by decide +kernel
theorem tc_d7_copy_92 : decode tc_i7_copy.2.1 92 = .ok (.i2l, 1) := by decide +kernel
theorem tc_d7_copy_93 : decode tc_i7_copy.2.1 93 = .ok (.ladd, 1) := by decide +kernel
theorem tc_d7_copy_94 : decode tc_i7_copy.2.1 94 = .ok (.aload_n 0, 1) := by decide +kernel
theorem tc_d7_copy_95 : decode tc_i7_copy.2.1 95 = .ok (.getfield 57, 3) := by decide +kernel
theorem tc_d7_copy_98 : decode tc_i7_copy.2.1 98 = .ok (.iload_n 3, 1) := by decide +kernel
theorem tc_d7_copy_99 : decode tc_i7_copy.2.1 99 = .ok (.iaload, 1) := by decide +kernel
theorem tc_d7_copy_100 : decode tc_i7_copy.2.1 100 = .ok (.i2l, 1) := by decide +kernel
theorem tc_d7_copy_101 : decode tc_i7_copy.2.1 101 = .ok (.lcmp, 1) := by decide +kernel
theorem tc_d7_copy_102 : decode tc_i7_copy.2.1 102 = .ok (.ifCond .le 6, 3) := by decide +kernel
theorem tc_d7_copy_105 : decode tc_i7_copy.2.1 105 = .ok (.bipush (-12), 2) := by decide +kernel
theorem tc_d7_copy_107 : decode tc_i7_copy.2.1 107 = .ok (.ireturn, 1) := by decide +kernel
theorem tc_d7_copy_108 : decode tc_i7_copy.2.1 108 = .ok (.iconst 0, 1) := by decide +kernel
theorem tc_d7_copy_109 : decode tc_i7_copy.2.1 109 = .ok (.istore 6, 2) := by decide +kernel
theorem tc_d7_copy_111 : decode tc_i7_copy.2.1 111 = .ok (.iload 6, 2) := by decide +kernel
theorem tc_d7_copy_113 : decode tc_i7_copy.2.1 113 = .ok (.iload 5, 2) := by decide +kernel
theorem tc_d7_copy_115 : decode tc_i7_copy.2.1 115 = .ok (.if_icmp .ge 30, 3) := by decide +kernel
theorem tc_d7_copy_118 : decode tc_i7_copy.2.1 118 = .ok (.aload_n 0, 1) := by decide +kernel
theorem tc_d7_copy_119 : decode tc_i7_copy.2.1 119 = .ok (.getfield 63, 3) := by decide +kernel
theorem tc_d7_copy_122 : decode tc_i7_copy.2.1 122 = .ok (.iload 6, 2) := by decide +kernel
theorem tc_d7_copy_124 : decode tc_i7_copy.2.1 124 = .ok (.aload_n 0, 1) := by decide +kernel
theorem tc_d7_copy_125 : decode tc_i7_copy.2.1 125 = .ok (.getfield 60, 3) := by decide +kernel
theorem tc_d7_copy_128 : decode tc_i7_copy.2.1 128 = .ok (.bipush 40, 2) := by decide +kernel
theorem tc_d7_copy_130 : decode tc_i7_copy.2.1 130 = .ok (.iload_n 1, 1) := by decide +kernel
theorem tc_d7_copy_131 : decode tc_i7_copy.2.1 131 = .ok (.imul, 1) := by decide +kernel
theorem tc_d7_copy_132 : decode tc_i7_copy.2.1 132 = .ok (.iload_n 2, 1) := by decide +kernel
theorem tc_d7_copy_133 : decode tc_i7_copy.2.1 133 = .ok (.iadd, 1) := by decide +kernel
theorem tc_d7_copy_134 : decode tc_i7_copy.2.1 134 = .ok (.iload 6, 2) := by decide +kernel
theorem tc_d7_copy_136 : decode tc_i7_copy.2.1 136 = .ok (.iadd, 1) := by decide +kernel
theorem tc_d7_copy_137 : decode tc_i7_copy.2.1 137 = .ok (.iaload, 1) := by decide +kernel
theorem tc_d7_copy_138 : decode tc_i7_copy.2.1 138 = .ok (.iastore, 1) := by decide +kernel
theorem tc_d7_copy_139 : decode tc_i7_copy.2.1 139 = .ok (.iinc 6 1, 3) := by decide +kernel
theorem tc_d7_copy_142 : decode tc_i7_copy.2.1 142 = .ok (.goto (-31), 3) := by decide +kernel
theorem tc_d7_copy_145 : decode tc_i7_copy.2.1 145 = .ok (.iconst 0, 1) := by decide +kernel
theorem tc_d7_copy_146 : decode tc_i7_copy.2.1 146 = .ok (.istore 6, 2) := by decide +kernel
theorem tc_d7_copy_148 : decode tc_i7_copy.2.1 148 = .ok (.iload 6, 2) := by decide +kernel
theorem tc_d7_copy_150 : decode tc_i7_copy.2.1 150 = .ok (.iload 5, 2) := by decide +kernel
theorem tc_d7_copy_152 : decode tc_i7_copy.2.1 152 = .ok (.if_icmp .ge 31, 3) := by decide +kernel
theorem tc_d7_copy_155 : decode tc_i7_copy.2.1 155 = .ok (.aload_n 0, 1) := by decide +kernel
theorem tc_d7_copy_156 : decode tc_i7_copy.2.1 156 = .ok (.getfield 60, 3) := by decide +kernel
theorem tc_d7_copy_159 : decode tc_i7_copy.2.1 159 = .ok (.bipush 40, 2) := by decide +kernel
theorem tc_d7_copy_161 : decode tc_i7_copy.2.1 161 = .ok (.iload_n 3, 1) := by decide +kernel
theorem tc_d7_copy_162 : decode tc_i7_copy.2.1 162 = .ok (.imul, 1) := by decide +kernel
theorem tc_d7_copy_163 : decode tc_i7_copy.2.1 163 = .ok (.iload 4, 2) := by decide +kernel
theorem tc_d7_copy_165 : decode tc_i7_copy.2.1 165 = .ok (.iadd, 1) := by decide +kernel
theorem tc_d7_copy_166 : decode tc_i7_copy.2.1 166 = .ok (.iload 6, 2) := by decide +kernel
theorem tc_d7_copy_168 : decode tc_i7_copy.2.1 168 = .ok (.iadd, 1) := by decide +kernel
theorem tc_d7_copy_169 : decode tc_i7_copy.2.1 169 = .ok (.aload_n 0, 1) := by decide +kernel
theorem tc_d7_copy_170 : decode tc_i7_copy.2.1 170 = .ok (.getfield 63, 3) := by decide +kernel
theorem tc_d7_copy_173 : decode tc_i7_copy.2.1 173 = .ok (.iload 6, 2) := by decide +kernel
theorem tc_d7_copy_175 : decode tc_i7_copy.2.1 175 = .ok (.iaload, 1) := by decide +kernel
theorem tc_d7_copy_176 : decode tc_i7_copy.2.1 176 = .ok (.iastore, 1) := by decide +kernel
theorem tc_d7_copy_177 : decode tc_i7_copy.2.1 177 = .ok (.iinc 6 1, 3) := by decide +kernel
theorem tc_d7_copy_180 : decode tc_i7_copy.2.1 180 = .ok (.goto (-32), 3) := by decide +kernel
theorem tc_d7_copy_183 : decode tc_i7_copy.2.1 183 = .ok (.iload 5, 2) := by decide +kernel
theorem tc_d7_copy_185 : decode tc_i7_copy.2.1 185 = .ok (.ireturn, 1) := by decide +kernel
theorem tc_d7_count_0 : decode tc_i7_count.2.1 0 = .ok (.iload_n 1, 1) := by decide +kernel
theorem tc_d7_count_1 : decode tc_i7_count.2.1 1 = .ok (.tableswitch 87 0 4 #[35, 40, 45, 50, 59], 35) := by decide +kernel
theorem tc_d7_count_36 : decode tc_i7_count.2.1 36 = .ok (.aload_n 0, 1) := by decide +kernel
theorem tc_d7_count_37 : decode tc_i7_count.2.1 37 = .ok (.getfield 93, 3) := by decide +kernel
theorem tc_d7_count_40 : decode tc_i7_count.2.1 40 = .ok (.ireturn, 1) := by decide +kernel
theorem tc_d7_count_41 : decode tc_i7_count.2.1 41 = .ok (.aload_n 0, 1) := by decide +kernel
theorem tc_d7_count_42 : decode tc_i7_count.2.1 42 = .ok (.getfield 100, 3) := by decide +kernel
theorem tc_d7_count_45 : decode tc_i7_count.2.1 45 = .ok (.ireturn, 1) := by decide +kernel
theorem tc_d7_count_46 : decode tc_i7_count.2.1 46 = .ok (.aload_n 0, 1) := by decide +kernel
theorem tc_d7_count_47 : decode tc_i7_count.2.1 47 = .ok (.getfield 228, 3) := by decide +kernel
theorem tc_d7_count_50 : decode tc_i7_count.2.1 50 = .ok (.ireturn, 1) := by decide +kernel
theorem tc_d7_count_51 : decode tc_i7_count.2.1 51 = .ok (.aload_n 0, 1) := by decide +kernel
theorem tc_d7_count_52 : decode tc_i7_count.2.1 52 = .ok (.iconst 3, 1) := by decide +kernel
theorem tc_d7_count_53 : decode tc_i7_count.2.1 53 = .ok (.invokevirtual 173, 3) := by decide +kernel
theorem tc_d7_count_56 : decode tc_i7_count.2.1 56 = .ok (.invokestatic 190, 3) := by decide +kernel
theorem tc_d7_count_59 : decode tc_i7_count.2.1 59 = .ok (.ireturn, 1) := by decide +kernel
theorem tc_d7_count_60 : decode tc_i7_count.2.1 60 = .ok (.iconst 0, 1) := by decide +kernel
theorem tc_d7_count_61 : decode tc_i7_count.2.1 61 = .ok (.istore_n 2, 1) := by decide +kernel
theorem tc_d7_count_62 : decode tc_i7_count.2.1 62 = .ok (.iconst 0, 1) := by decide +kernel
theorem tc_d7_count_63 : decode tc_i7_count.2.1 63 = .ok (.istore_n 3, 1) := by decide +kernel
theorem tc_d7_count_64 : decode tc_i7_count.2.1 64 = .ok (.iload_n 3, 1) := by decide +kernel
theorem tc_d7_count_65 : decode tc_i7_count.2.1 65 = .ok (.aload_n 0, 1) := by decide +kernel
theorem tc_d7_count_66 : decode tc_i7_count.2.1 66 = .ok (.getfield 93, 3) := by decide +kernel
theorem tc_d7_count_69 : decode tc_i7_count.2.1 69 = .ok (.if_icmp .ge 17, 3) := by decide +kernel
theorem tc_d7_count_72 : decode tc_i7_count.2.1 72 = .ok (.iload_n 2, 1) := by decide +kernel
theorem tc_d7_count_73 : decode tc_i7_count.2.1 73 = .ok (.aload_n 0, 1) := by decide +kernel
theorem tc_d7_count_74 : decode tc_i7_count.2.1 74 = .ok (.iload_n 3, 1) := by decide +kernel
theorem tc_d7_count_75 : decode tc_i7_count.2.1 75 = .ok (.invokevirtual 126, 3) := by decide +kernel
theorem tc_d7_count_78 : decode tc_i7_count.2.1 78 = .ok (.iadd, 1) := by decide +kernel
theorem tc_d7_count_79 : decode tc_i7_count.2.1 79 = .ok (.istore_n 2, 1) := by decide +kernel
theorem tc_d7_count_80 : decode tc_i7_count.2.1 80 = .ok (.iinc 3 1, 3) := by decide +kernel
theorem tc_d7_count_83 : decode tc_i7_count.2.1 83 = .ok (.goto (-19), 3) := by decide +kernel
theorem tc_d7_count_86 : decode tc_i7_count.2.1 86 = .ok (.iload_n 2, 1) := by decide +kernel
theorem tc_d7_count_87 : decode tc_i7_count.2.1 87 = .ok (.ireturn, 1) := by decide +kernel
theorem tc_d7_count_88 : decode tc_i7_count.2.1 88 = .ok (.bipush (-2), 2) := by decide +kernel
theorem tc_d7_count_90 : decode tc_i7_count.2.1 90 = .ok (.ireturn, 1) := by decide +kernel
theorem tc_d7_section_0 : decode tc_i7_section.2.1 0 = .ok (.iload_n 1, 1) := by decide +kernel
theorem tc_d7_section_1 : decode tc_i7_section.2.1 1 = .ok (.iconst 0, 1) := by decide +kernel
theorem tc_d7_section_2 : decode tc_i7_section.2.1 2 = .ok (.iconst 5, 1) := by decide +kernel
theorem tc_d7_section_3 : decode tc_i7_section.2.1 3 = .ok (.invokestatic 96, 3) := by decide +kernel
theorem tc_d7_section_6 : decode tc_i7_section.2.1 6 = .ok (.ifCond .eq 34, 3) := by decide +kernel
theorem tc_d7_section_9 : decode tc_i7_section.2.1 9 = .ok (.iload_n 2, 1) := by decide +kernel
theorem tc_d7_section_10 : decode tc_i7_section.2.1 10 = .ok (.iconst 1, 1) := by decide +kernel
theorem tc_d7_section_11 : decode tc_i7_section.2.1 11 = .ok (.bipush 99, 2) := by decide +kernel
theorem tc_d7_section_13 : decode tc_i7_section.2.1 13 = .ok (.invokestatic 96, 3) := by decide +kernel
theorem tc_d7_section_16 : decode tc_i7_section.2.1 16 = .ok (.ifCond .eq 24, 3) := by decide +kernel
theorem tc_d7_section_19 : decode tc_i7_section.2.1 19 = .ok (.iload_n 3, 1) := by decide +kernel
theorem tc_d7_section_20 : decode tc_i7_section.2.1 20 = .ok (.iconst 0, 1) := by decide +kernel
theorem tc_d7_section_21 : decode tc_i7_section.2.1 21 = .ok (.bipush 9, 2) := by decide +kernel
theorem tc_d7_section_23 : decode tc_i7_section.2.1 23 = .ok (.invokestatic 96, 3) := by decide +kernel
theorem tc_d7_section_26 : decode tc_i7_section.2.1 26 = .ok (.ifCond .eq 14, 3) := by decide +kernel
theorem tc_d7_section_29 : decode tc_i7_section.2.1 29 = .ok (.iload 4, 2) := by decide +kernel
theorem tc_d7_section_31 : decode tc_i7_section.2.1 31 = .ok (.iconst 1, 1) := by decide +kernel
theorem tc_d7_section_32 : decode tc_i7_section.2.1 32 = .ok (.bipush 9, 2) := by decide +kernel
theorem tc_d7_section_34 : decode tc_i7_section.2.1 34 = .ok (.invokestatic 96, 3) := by decide +kernel
theorem tc_d7_section_37 : decode tc_i7_section.2.1 37 = .ok (.ifCond .ne 6, 3) := by decide +kernel
theorem tc_d7_section_40 : decode tc_i7_section.2.1 40 = .ok (.bipush (-2), 2) := by decide +kernel
theorem tc_d7_section_42 : decode tc_i7_section.2.1 42 = .ok (.ireturn, 1) := by decide +kernel
theorem tc_d7_section_43 : decode tc_i7_section.2.1 43 = .ok (.aload_n 0, 1) := by decide +kernel
theorem tc_d7_section_44 : decode tc_i7_section.2.1 44 = .ok (.getfield 93, 3) := by decide +kernel
theorem tc_d7_section_47 : decode tc_i7_section.2.1 47 = .ok (.bipush 8, 2) := by decide +kernel
theorem tc_d7_section_49 : decode tc_i7_section.2.1 49 = .ok (.if_icmp .ne 6, 3) := by decide +kernel
theorem tc_d7_section_52 : decode tc_i7_section.2.1 52 = .ok (.bipush (-4), 2) := by decide +kernel
theorem tc_d7_section_54 : decode tc_i7_section.2.1 54 = .ok (.ireturn, 1) := by decide +kernel
theorem tc_d7_section_55 : decode tc_i7_section.2.1 55 = .ok (.aload_n 0, 1) := by decide +kernel
theorem tc_d7_section_56 : decode tc_i7_section.2.1 56 = .ok (.getfield 7, 3) := by decide +kernel
theorem tc_d7_section_59 : decode tc_i7_section.2.1 59 = .ok (.aload_n 0, 1) := by decide +kernel
theorem tc_d7_section_60 : decode tc_i7_section.2.1 60 = .ok (.getfield 93, 3) := by decide +kernel
theorem tc_d7_section_63 : decode tc_i7_section.2.1 63 = .ok (.iload_n 1, 1) := by decide +kernel
theorem tc_d7_section_64 : decode tc_i7_section.2.1 64 = .ok (.iastore, 1) := by decide +kernel
theorem tc_d7_section_65 : decode tc_i7_section.2.1 65 = .ok (.aload_n 0, 1) := by decide +kernel
theorem tc_d7_section_66 : decode tc_i7_section.2.1 66 = .ok (.getfield 13, 3) := by decide +kernel
theorem tc_d7_section_69 : decode tc_i7_section.2.1 69 = .ok (.aload_n 0, 1) := by decide +kernel
theorem tc_d7_section_70 : decode tc_i7_section.2.1 70 = .ok (.getfield 93, 3) := by decide +kernel
theorem tc_d7_section_73 : decode tc_i7_section.2.1 73 = .ok (.iload_n 2, 1) := by decide +kernel
theorem tc_d7_section_74 : decode tc_i7_section.2.1 74 = .ok (.iastore, 1) := by decide +kernel
theorem tc_d7_section_75 : decode tc_i7_section.2.1 75 = .ok (.aload_n 0, 1) := by decide +kernel
theorem tc_d7_section_76 : decode tc_i7_section.2.1 76 = .ok (.getfield 16, 3) := by decide +kernel
theorem tc_d7_section_79 : decode tc_i7_section.2.1 79 = .ok (.aload_n 0, 1) := by decide +kernel
theorem tc_d7_section_80 : decode tc_i7_section.2.1 80 = .ok (.getfield 93, 3) := by decide +kernel
theorem tc_d7_section_83 : decode tc_i7_section.2.1 83 = .ok (.iload_n 3, 1) := by decide +kernel
theorem tc_d7_section_84 : decode tc_i7_section.2.1 84 = .ok (.iastore, 1) := by decide +kernel
theorem tc_d7_section_85 : decode tc_i7_section.2.1 85 = .ok (.aload_n 0, 1) := by decide +kernel
theorem tc_d7_section_86 : decode tc_i7_section.2.1 86 = .ok (.getfield 19, 3) := by decide +kernel
theorem tc_d7_section_89 : decode tc_i7_section.2.1 89 = .ok (.aload_n 0, 1) := by decide +kernel
theorem tc_d7_section_90 : decode tc_i7_section.2.1 90 = .ok (.getfield 93, 3) := by decide +kernel
theorem tc_d7_section_93 : decode tc_i7_section.2.1 93 = .ok (.iload 4, 2) := by decide +kernel
theorem tc_d7_section_95 : decode tc_i7_section.2.1 95 = .ok (.iastore, 1) := by decide +kernel
theorem tc_d7_section_96 : decode tc_i7_section.2.1 96 = .ok (.aload_n 0, 1) := by decide +kernel
theorem tc_d7_section_97 : decode tc_i7_section.2.1 97 = .ok (.getfield 25, 3) := by decide +kernel
theorem tc_d7_section_100 : decode tc_i7_section.2.1 100 = .ok (.aload_n 0, 1) := by decide +kernel
theorem tc_d7_section_101 : decode tc_i7_section.2.1 101 = .ok (.getfield 93, 3) := by decide +kernel
theorem tc_d7_section_104 : decode tc_i7_section.2.1 104 = .ok (.iconst 0, 1) := by decide +kernel
theorem tc_d7_section_105 : decode tc_i7_section.2.1 105 = .ok (.bastore, 1) := by decide +kernel
theorem tc_d7_section_106 : decode tc_i7_section.2.1 106 = .ok (.aload_n 0, 1) := by decide +kernel
theorem tc_d7_section_107 : decode tc_i7_section.2.1 107 = .ok (.getfield 22, 3) := by decide +kernel
theorem tc_d7_section_110 : decode tc_i7_section.2.1 110 = .ok (.aload_n 0, 1) := by decide +kernel
theorem tc_d7_section_111 : decode tc_i7_section.2.1 111 = .ok (.getfield 93, 3) := by decide +kernel
theorem tc_d7_section_114 : decode tc_i7_section.2.1 114 = .ok (.iconst 0, 1) := by decide +kernel
theorem tc_d7_section_115 : decode tc_i7_section.2.1 115 = .ok (.iastore, 1) := by decide +kernel
theorem tc_d7_section_116 : decode tc_i7_section.2.1 116 = .ok (.aload_n 0, 1) := by decide +kernel
theorem tc_d7_section_117 : decode tc_i7_section.2.1 117 = .ok (.getfield 29, 3) := by decide +kernel
theorem tc_d7_section_120 : decode tc_i7_section.2.1 120 = .ok (.aload_n 0, 1) := by decide +kernel
theorem tc_d7_section_121 : decode tc_i7_section.2.1 121 = .ok (.getfield 93, 3) := by decide +kernel
theorem tc_d7_section_124 : decode tc_i7_section.2.1 124 = .ok (.iconst 0, 1) := by decide +kernel
theorem tc_d7_section_125 : decode tc_i7_section.2.1 125 = .ok (.bastore, 1) := by decide +kernel
theorem tc_d7_section_126 : decode tc_i7_section.2.1 126 = .ok (.aload_n 0, 1) := by decide +kernel
theorem tc_d7_section_127 : decode tc_i7_section.2.1 127 = .ok (.dup, 1) := by decide +kernel
theorem tc_d7_section_128 : decode tc_i7_section.2.1 128 = .ok (.getfield 93, 3) := by decide +kernel
theorem tc_d7_section_131 : decode tc_i7_section.2.1 131 = .ok (.iconst 1, 1) := by decide +kernel
theorem tc_d7_section_132 : decode tc_i7_section.2.1 132 = .ok (.iadd, 1) := by decide +kernel
theorem tc_d7_section_133 : decode tc_i7_section.2.1 133 = .ok (.putfield 93, 3) := by decide +kernel
theorem tc_d7_section_136 : decode tc_i7_section.2.1 136 = .ok (.aload_n 0, 1) := by decide +kernel
theorem tc_d7_section_137 : decode tc_i7_section.2.1 137 = .ok (.getfield 93, 3) := by decide +kernel
theorem tc_d7_section_140 : decode tc_i7_section.2.1 140 = .ok (.iconst 1, 1) := by decide +kernel
theorem tc_d7_section_141 : decode tc_i7_section.2.1 141 = .ok (.isub, 1) := by decide +kernel
theorem tc_d7_section_142 : decode tc_i7_section.2.1 142 = .ok (.ireturn, 1) := by decide +kernel
theorem tc_d7_train_0 : decode tc_i7_train.2.1 0 = .ok (.aload_n 0, 1) := by decide +kernel
theorem tc_d7_train_1 : decode tc_i7_train.2.1 1 = .ok (.iload_n 1, 1) := by decide +kernel
theorem tc_d7_train_2 : decode tc_i7_train.2.1 2 = .ok (.invokevirtual 167, 3) := by decide +kernel
theorem tc_d7_train_5 : decode tc_i7_train.2.1 5 = .ok (.ifCond .eq 12, 3) := by decide +kernel
theorem tc_d7_train_8 : decode tc_i7_train.2.1 8 = .ok (.iload_n 2, 1) := by decide +kernel
theorem tc_d7_train_9 : decode tc_i7_train.2.1 9 = .ok (.iconst 0, 1) := by decide +kernel
theorem tc_d7_train_10 : decode tc_i7_train.2.1 10 = .ok (.iconst 1, 1) := by decide +kernel
theorem tc_d7_train_11 : decode tc_i7_train.2.1 11 = .ok (.invokestatic 96, 3) := by decide +kernel
theorem tc_d7_train_14 : decode tc_i7_train.2.1 14 = .ok (.ifCond .ne 6, 3) := by decide +kernel
theorem tc_d7_train_17 : decode tc_i7_train.2.1 17 = .ok (.bipush (-2), 2) := by decide +kernel
theorem tc_d7_train_19 : decode tc_i7_train.2.1 19 = .ok (.ireturn, 1) := by decide +kernel
theorem tc_d7_train_20 : decode tc_i7_train.2.1 20 = .ok (.aload_n 0, 1) := by decide +kernel
theorem tc_d7_train_21 : decode tc_i7_train.2.1 21 = .ok (.getfield 29, 3) := by decide +kernel
theorem tc_d7_train_24 : decode tc_i7_train.2.1 24 = .ok (.iload_n 1, 1) := by decide +kernel
theorem tc_d7_train_25 : decode tc_i7_train.2.1 25 = .ok (.baload, 1) := by decide +kernel
theorem tc_d7_train_26 : decode tc_i7_train.2.1 26 = .ok (.ifCond .eq 7, 3) := by decide +kernel
theorem tc_d7_train_29 : decode tc_i7_train.2.1 29 = .ok (.iconst 1, 1) := by decide +kernel
theorem tc_d7_train_30 : decode tc_i7_train.2.1 30 = .ok (.goto 4, 3) := by decide +kernel
theorem tc_d7_train_33 : decode tc_i7_train.2.1 33 = .ok (.iconst 0, 1) := by decide +kernel
theorem tc_d7_train_34 : decode tc_i7_train.2.1 34 = .ok (.istore_n 3, 1) := by decide +kernel
theorem tc_d7_train_35 : decode tc_i7_train.2.1 35 = .ok (.aload_n 0, 1) := by decide +kernel
theorem tc_d7_train_36 : decode tc_i7_train.2.1 36 = .ok (.getfield 29, 3) := by decide +kernel
theorem tc_d7_train_39 : decode tc_i7_train.2.1 39 = .ok (.iload_n 1, 1) := by decide +kernel
theorem tc_d7_train_40 : decode tc_i7_train.2.1 40 = .ok (.iload_n 2, 1) := by decide +kernel
theorem tc_d7_train_41 : decode tc_i7_train.2.1 41 = .ok (.iconst 1, 1) := by decide +kernel
theorem tc_d7_train_42 : decode tc_i7_train.2.1 42 = .ok (.if_icmp .ne 7, 3) := by decide +kernel
theorem tc_d7_train_45 : decode tc_i7_train.2.1 45 = .ok (.iconst 1, 1) := by decide +kernel
theorem tc_d7_train_46 : decode tc_i7_train.2.1 46 = .ok (.goto 4, 3) := by decide +kernel
theorem tc_d7_train_49 : decode tc_i7_train.2.1 49 = .ok (.iconst 0, 1) := by decide +kernel
theorem tc_d7_train_50 : decode tc_i7_train.2.1 50 = .ok (.bastore, 1) := by decide +kernel
theorem tc_d7_train_51 : decode tc_i7_train.2.1 51 = .ok (.iload_n 3, 1) := by decide +kernel
theorem tc_d7_train_52 : decode tc_i7_train.2.1 52 = .ok (.ireturn, 1) := by decide +kernel
theorem tc_d7_fault_0 : decode tc_i7_fault.2.1 0 = .ok (.iload_n 1, 1) := by decide +kernel
theorem tc_d7_fault_1 : decode tc_i7_fault.2.1 1 = .ok (.iconst 0, 1) := by decide +kernel
theorem tc_d7_fault_2 : decode tc_i7_fault.2.1 2 = .ok (.iconst 3, 1) := by decide +kernel
theorem tc_d7_fault_3 : decode tc_i7_fault.2.1 3 = .ok (.invokestatic 96, 3) := by decide +kernel
theorem tc_d7_fault_6 : decode tc_i7_fault.2.1 6 = .ok (.ifCond .eq 11, 3) := by decide +kernel
theorem tc_d7_fault_9 : decode tc_i7_fault.2.1 9 = .ok (.aload_n 0, 1) := by decide +kernel
theorem tc_d7_fault_10 : decode tc_i7_fault.2.1 10 = .ok (.iload_n 2, 1) := by decide +kernel
theorem tc_d7_fault_11 : decode tc_i7_fault.2.1 11 = .ok (.invokevirtual 167, 3) := by decide +kernel
theorem tc_d7_fault_14 : decode tc_i7_fault.2.1 14 = .ok (.ifCond .ne 6, 3) := by decide +kernel
theorem tc_d7_fault_17 : decode tc_i7_fault.2.1 17 = .ok (.bipush (-2), 2) := by decide +kernel
theorem tc_d7_fault_19 : decode tc_i7_fault.2.1 19 = .ok (.ireturn, 1) := by decide +kernel
theorem tc_d7_fault_20 : decode tc_i7_fault.2.1 20 = .ok (.aload_n 0, 1) := by decide +kernel
theorem tc_d7_fault_21 : decode tc_i7_fault.2.1 21 = .ok (.getfield 100, 3) := by decide +kernel
theorem tc_d7_fault_24 : decode tc_i7_fault.2.1 24 = .ok (.bipush 6, 2) := by decide +kernel
theorem tc_d7_fault_26 : decode tc_i7_fault.2.1 26 = .ok (.if_icmp .ne 6, 3) := by decide +kernel
theorem tc_d7_fault_29 : decode tc_i7_fault.2.1 29 = .ok (.bipush (-4), 2) := by decide +kernel
theorem tc_d7_fault_31 : decode tc_i7_fault.2.1 31 = .ok (.ireturn, 1) := by decide +kernel
theorem tc_d7_fault_32 : decode tc_i7_fault.2.1 32 = .ok (.aload_n 0, 1) := by decide +kernel
theorem tc_d7_fault_33 : decode tc_i7_fault.2.1 33 = .ok (.iload_n 1, 1) := by decide +kernel
theorem tc_d7_fault_34 : decode tc_i7_fault.2.1 34 = .ok (.iload_n 2, 1) := by decide +kernel
theorem tc_d7_fault_35 : decode tc_i7_fault.2.1 35 = .ok (.invokevirtual 176, 3) := by decide +kernel
theorem tc_d7_fault_38 : decode tc_i7_fault.2.1 38 = .ok (.aload_n 0, 1) := by decide +kernel
theorem tc_d7_fault_39 : decode tc_i7_fault.2.1 39 = .ok (.getfield 100, 3) := by decide +kernel
theorem tc_d7_fault_42 : decode tc_i7_fault.2.1 42 = .ok (.ireturn, 1) := by decide +kernel
theorem tc_d7_mends_0 : decode tc_i7_mends.2.1 0 = .ok (.iconst 0, 1) := by decide +kernel
theorem tc_d7_mends_1 : decode tc_i7_mends.2.1 1 = .ok (.istore_n 2, 1) := by decide +kernel
theorem tc_d7_mends_2 : decode tc_i7_mends.2.1 2 = .ok (.iconst 0, 1) := by decide +kernel
theorem tc_d7_mends_3 : decode tc_i7_mends.2.1 3 = .ok (.istore_n 3, 1) := by decide +kernel
theorem tc_d7_mends_4 : decode tc_i7_mends.2.1 4 = .ok (.iload_n 3, 1) := by decide +kernel
theorem tc_d7_mends_5 : decode tc_i7_mends.2.1 5 = .ok (.aload_n 0, 1) := by decide +kernel
theorem tc_d7_mends_6 : decode tc_i7_mends.2.1 6 = .ok (.getfield 100, 3) := by decide +kernel
theorem tc_d7_mends_9 : decode tc_i7_mends.2.1 9 = .ok (.if_icmp .ge 61, 3) := by decide +kernel
theorem tc_d7_mends_12 : decode tc_i7_mends.2.1 12 = .ok (.aload_n 0, 1) := by decide +kernel
theorem tc_d7_mends_13 : decode tc_i7_mends.2.1 13 = .ok (.getfield 38, 3) := by decide +kernel
theorem tc_d7_mends_16 : decode tc_i7_mends.2.1 16 = .ok (.iload_n 3, 1) := by decide +kernel
theorem tc_d7_mends_17 : decode tc_i7_mends.2.1 17 = .ok (.iaload, 1) := by decide +kernel
theorem tc_d7_mends_18 : decode tc_i7_mends.2.1 18 = .ok (.iload_n 1, 1) := by decide +kernel
theorem tc_d7_mends_19 : decode tc_i7_mends.2.1 19 = .ok (.if_icmp .ne 6, 3) := by decide +kernel
theorem tc_d7_mends_22 : decode tc_i7_mends.2.1 22 = .ok (.goto 42, 3) := by decide +kernel
theorem tc_d7_mends_25 : decode tc_i7_mends.2.1 25 = .ok (.aload_n 0, 1) := by decide +kernel
theorem tc_d7_mends_26 : decode tc_i7_mends.2.1 26 = .ok (.getfield 35, 3) := by decide +kernel
theorem tc_d7_mends_29 : decode tc_i7_mends.2.1 29 = .ok (.iload_n 2, 1) := by decide +kernel
theorem tc_d7_mends_30 : decode tc_i7_mends.2.1 30 = .ok (.aload_n 0, 1) := by decide +kernel
theorem tc_d7_mends_31 : decode tc_i7_mends.2.1 31 = .ok (.getfield 35, 3) := by decide +kernel
theorem tc_d7_mends_34 : decode tc_i7_mends.2.1 34 = .ok (.iload_n 3, 1) := by decide +kernel
theorem tc_d7_mends_35 : decode tc_i7_mends.2.1 35 = .ok (.iaload, 1) := by decide +kernel
theorem tc_d7_mends_36 : decode tc_i7_mends.2.1 36 = .ok (.iastore, 1) := by decide +kernel
theorem tc_d7_mends_37 : decode tc_i7_mends.2.1 37 = .ok (.aload_n 0, 1) := by decide +kernel
theorem tc_d7_mends_38 : decode tc_i7_mends.2.1 38 = .ok (.getfield 38, 3) := by decide +kernel
theorem tc_d7_mends_41 : decode tc_i7_mends.2.1 41 = .ok (.iload_n 2, 1) := by decide +kernel
theorem tc_d7_mends_42 : decode tc_i7_mends.2.1 42 = .ok (.aload_n 0, 1) := by decide +kernel
theorem tc_d7_mends_43 : decode tc_i7_mends.2.1 43 = .ok (.getfield 38, 3) := by decide +kernel
theorem tc_d7_mends_46 : decode tc_i7_mends.2.1 46 = .ok (.iload_n 3, 1) := by decide +kernel
theorem tc_d7_mends_47 : decode tc_i7_mends.2.1 47 = .ok (.iaload, 1) := by decide +kernel
theorem tc_d7_mends_48 : decode tc_i7_mends.2.1 48 = .ok (.iastore, 1) := by decide +kernel
theorem tc_d7_mends_49 : decode tc_i7_mends.2.1 49 = .ok (.aload_n 0, 1) := by decide +kernel
theorem tc_d7_mends_50 : decode tc_i7_mends.2.1 50 = .ok (.getfield 41, 3) := by decide +kernel
theorem tc_d7_mends_53 : decode tc_i7_mends.2.1 53 = .ok (.iload_n 2, 1) := by decide +kernel
theorem tc_d7_mends_54 : decode tc_i7_mends.2.1 54 = .ok (.aload_n 0, 1) := by decide +kernel
theorem tc_d7_mends_55 : decode tc_i7_mends.2.1 55 = .ok (.getfield 41, 3) := by decide +kernel
theorem tc_d7_mends_58 : decode tc_i7_mends.2.1 58 = .ok (.iload_n 3, 1) := by decide +kernel
theorem tc_d7_mends_59 : decode tc_i7_mends.2.1 59 = .ok (.iaload, 1) := by decide +kernel
theorem tc_d7_mends_60 : decode tc_i7_mends.2.1 60 = .ok (.iastore, 1) := by decide +kernel
theorem tc_d7_mends_61 : decode tc_i7_mends.2.1 61 = .ok (.iinc 2 1, 3) := by decide +kernel
theorem tc_d7_mends_64 : decode tc_i7_mends.2.1 64 = .ok (.iinc 3 1, 3) := by decide +kernel
theorem tc_d7_mends_67 : decode tc_i7_mends.2.1 67 = .ok (.goto (-63), 3) := by decide +kernel
theorem tc_d7_mends_70 : decode tc_i7_mends.2.1 70 = .ok (.aload_n 0, 1) := by decide +kernel
theorem tc_d7_mends_71 : decode tc_i7_mends.2.1 71 = .ok (.getfield 100, 3) := by decide +kernel
theorem tc_d7_mends_74 : decode tc_i7_mends.2.1 74 = .ok (.iload_n 2, 1) := by decide +kernel
theorem tc_d7_mends_75 : decode tc_i7_mends.2.1 75 = .ok (.isub, 1) := by decide +kernel
theorem tc_d7_mends_76 : decode tc_i7_mends.2.1 76 = .ok (.istore_n 3, 1) := by decide +kernel
theorem tc_d7_mends_77 : decode tc_i7_mends.2.1 77 = .ok (.aload_n 0, 1) := by decide +kernel
theorem tc_d7_mends_78 : decode tc_i7_mends.2.1 78 = .ok (.iload_n 2, 1) := by decide +kernel
theorem tc_d7_mends_79 : decode tc_i7_mends.2.1 79 = .ok (.putfield 100, 3) := by decide +kernel
theorem tc_d7_mends_82 : decode tc_i7_mends.2.1 82 = .ok (.iload_n 3, 1) := by decide +kernel
theorem tc_d7_mends_83 : decode tc_i7_mends.2.1 83 = .ok (.ireturn, 1) := by decide +kernel
theorem tc_d7_mend_0 : decode tc_i7_mend.2.1 0 = .ok (.aload_n 0, 1) := by decide +kernel
theorem tc_d7_mend_1 : decode tc_i7_mend.2.1 1 = .ok (.iload_n 1, 1) := by decide +kernel
theorem tc_d7_mend_2 : decode tc_i7_mend.2.1 2 = .ok (.invokevirtual 167, 3) := by decide +kernel
theorem tc_d7_mend_5 : decode tc_i7_mend.2.1 5 = .ok (.ifCond .eq 11, 3) := by decide +kernel
theorem tc_d7_mend_8 : decode tc_i7_mend.2.1 8 = .ok (.aload_n 0, 1) := by decide +kernel
theorem tc_d7_mend_9 : decode tc_i7_mend.2.1 9 = .ok (.iload_n 1, 1) := by decide +kernel
theorem tc_d7_mend_10 : decode tc_i7_mend.2.1 10 = .ok (.invokevirtual 164, 3) := by decide +kernel
theorem tc_d7_mend_13 : decode tc_i7_mend.2.1 13 = .ok (.goto 5, 3) := by decide +kernel
theorem tc_d7_mend_16 : decode tc_i7_mend.2.1 16 = .ok (.bipush (-2), 2) := by decide +kernel
theorem tc_d7_mend_18 : decode tc_i7_mend.2.1 18 = .ok (.ireturn, 1) := by decide +kernel
theorem tc_d7_rule_0 : decode tc_i7_rule.2.1 0 = .ok (.iload_n 1, 1) := by decide +kernel
theorem tc_d7_rule_1 : decode tc_i7_rule.2.1 1 = .ok (.iconst 0, 1) := by decide +kernel
theorem tc_d7_rule_2 : decode tc_i7_rule.2.1 2 = .ok (.iconst 2, 1) := by decide +kernel
theorem tc_d7_rule_3 : decode tc_i7_rule.2.1 3 = .ok (.invokestatic 96, 3) := by decide +kernel
theorem tc_d7_rule_6 : decode tc_i7_rule.2.1 6 = .ok (.ifCond .eq 23, 3) := by decide +kernel
theorem tc_d7_rule_9 : decode tc_i7_rule.2.1 9 = .ok (.iload_n 2, 1) := by decide +kernel
theorem tc_d7_rule_10 : decode tc_i7_rule.2.1 10 = .ok (.iconst 0, 1) := by decide +kernel
theorem tc_d7_rule_11 : decode tc_i7_rule.2.1 11 = .ok (.iload_n 1, 1) := by decide +kernel
theorem tc_d7_rule_12 : decode tc_i7_rule.2.1 12 = .ok (.iconst 2, 1) := by decide +kernel
theorem tc_d7_rule_13 : decode tc_i7_rule.2.1 13 = .ok (.if_icmp .ne 8, 3) := by decide +kernel
theorem tc_d7_rule_16 : decode tc_i7_rule.2.1 16 = .ok (.bipush 9, 2) := by decide +kernel
theorem tc_d7_rule_18 : decode tc_i7_rule.2.1 18 = .ok (.goto 5, 3) := by decide +kernel
theorem tc_d7_rule_21 : decode tc_i7_rule.2.1 21 = .ok (.bipush 99, 2) := by decide +kernel
theorem tc_d7_rule_23 : decode tc_i7_rule.2.1 23 = .ok (.invokestatic 96, 3) := by decide +kernel
theorem tc_d7_rule_26 : decode tc_i7_rule.2.1 26 = .ok (.ifCond .ne 6, 3) := by decide +kernel
theorem tc_d7_rule_29 : decode tc_i7_rule.2.1 29 = .ok (.bipush (-2), 2) := by decide +kernel
theorem tc_d7_rule_31 : decode tc_i7_rule.2.1 31 = .ok (.ireturn, 1) := by decide +kernel
theorem tc_d7_rule_32 : decode tc_i7_rule.2.1 32 = .ok (.aload_n 0, 1) := by decide +kernel
theorem tc_d7_rule_33 : decode tc_i7_rule.2.1 33 = .ok (.getfield 32, 3) := by decide +kernel
theorem tc_d7_rule_36 : decode tc_i7_rule.2.1 36 = .ok (.iload_n 1, 1) := by decide +kernel
theorem tc_d7_rule_37 : decode tc_i7_rule.2.1 37 = .ok (.iaload, 1) := by decide +kernel
theorem tc_d7_rule_38 : decode tc_i7_rule.2.1 38 = .ok (.istore_n 3, 1) := by decide +kernel
theorem tc_d7_rule_39 : decode tc_i7_rule.2.1 39 = .ok (.aload_n 0, 1) := by decide +kernel
theorem tc_d7_rule_40 : decode tc_i7_rule.2.1 40 = .ok (.getfield 32, 3) := by decide +kernel
theorem tc_d7_rule_43 : decode tc_i7_rule.2.1 43 = .ok (.iload_n 1, 1) := by decide +kernel
theorem tc_d7_rule_44 : decode tc_i7_rule.2.1 44 = .ok (.iload_n 2, 1) := by decide +kernel
theorem tc_d7_rule_45 : decode tc_i7_rule.2.1 45 = .ok (.iastore, 1) := by decide +kernel
theorem tc_d7_rule_46 : decode tc_i7_rule.2.1 46 = .ok (.iload_n 3, 1) := by decide +kernel
theorem tc_d7_rule_47 : decode tc_i7_rule.2.1 47 = .ok (.ireturn, 1) := by decide +kernel
theorem tc_d7_moment_0 : decode tc_i7_moment.2.1 0 = .ok (.aload_n 0, 1) := by decide +kernel
theorem tc_d7_moment_1 : decode tc_i7_moment.2.1 1 = .ok (.iconst 0, 1) := by decide +kernel
theorem tc_d7_moment_2 : decode tc_i7_moment.2.1 2 = .ok (.invokevirtual 180, 3) := by decide +kernel
theorem tc_d7_moment_5 : decode tc_i7_moment.2.1 5 = .ok (.istore_n 1, 1) := by decide +kernel
theorem tc_d7_moment_6 : decode tc_i7_moment.2.1 6 = .ok (.iload_n 1, 1) := by decide +kernel
theorem tc_d7_moment_7 : decode tc_i7_moment.2.1 7 = .ok (.ifCond .ge 6, 3) := by decide +kernel
theorem tc_d7_moment_10 : decode tc_i7_moment.2.1 10 = .ok (.bipush (-3), 2) := by decide +kernel
theorem tc_d7_moment_12 : decode tc_i7_moment.2.1 12 = .ok (.ireturn, 1) := by decide +kernel
theorem tc_d7_moment_13 : decode tc_i7_moment.2.1 13 = .ok (.aload_n 0, 1) := by decide +kernel
theorem tc_d7_moment_14 : decode tc_i7_moment.2.1 14 = .ok (.iload_n 1, 1) := by decide +kernel
theorem tc_d7_moment_15 : decode tc_i7_moment.2.1 15 = .ok (.putfield 184, 3) := by decide +kernel
theorem tc_d7_moment_18 : decode tc_i7_moment.2.1 18 = .ok (.iconst 0, 1) := by decide +kernel
theorem tc_d7_moment_19 : decode tc_i7_moment.2.1 19 = .ok (.istore_n 2, 1) := by decide +kernel
theorem tc_d7_moment_20 : decode tc_i7_moment.2.1 20 = .ok (.iload_n 2, 1) := by decide +kernel
theorem tc_d7_moment_21 : decode tc_i7_moment.2.1 21 = .ok (.iload_n 1, 1) := by decide +kernel
theorem tc_d7_moment_22 : decode tc_i7_moment.2.1 22 = .ok (.if_icmp .ge 21, 3) := by decide +kernel
theorem tc_d7_moment_25 : decode tc_i7_moment.2.1 25 = .ok (.aload_n 0, 1) := by decide +kernel
theorem tc_d7_moment_26 : decode tc_i7_moment.2.1 26 = .ok (.getfield 48, 3) := by decide +kernel
theorem tc_d7_moment_29 : decode tc_i7_moment.2.1 29 = .ok (.iload_n 2, 1) := by decide +kernel
theorem tc_d7_moment_30 : decode tc_i7_moment.2.1 30 = .ok (.aload_n 0, 1) := by decide +kernel
theorem tc_d7_moment_31 : decode tc_i7_moment.2.1 31 = .ok (.getfield 75, 3) := by decide +kernel
theorem tc_d7_moment_34 : decode tc_i7_moment.2.1 34 = .ok (.iload_n 2, 1) := by decide +kernel
theorem tc_d7_moment_35 : decode tc_i7_moment.2.1 35 = .ok (.iaload, 1) := by decide +kernel
theorem tc_d7_moment_36 : decode tc_i7_moment.2.1 36 = .ok (.iastore, 1) := by decide +kernel
theorem tc_d7_moment_37 : decode tc_i7_moment.2.1 37 = .ok (.iinc 2 1, 3) := by decide +kernel
theorem tc_d7_moment_40 : decode tc_i7_moment.2.1 40 = .ok (.goto (-20), 3) := by decide +kernel
theorem tc_d7_moment_43 : decode tc_i7_moment.2.1 43 = .ok (.iload_n 1, 1) := by decide +kernel
theorem tc_d7_moment_44 : decode tc_i7_moment.2.1 44 = .ok (.ireturn, 1) := by decide +kernel
theorem tc_d7_drop_0 : decode tc_i7_drop.2.1 0 = .ok (.aload_n 0, 1) := by decide +kernel
theorem tc_d7_drop_1 : decode tc_i7_drop.2.1 1 = .ok (.getfield 93, 3) := by decide +kernel
theorem tc_d7_drop_4 : decode tc_i7_drop.2.1 4 = .ok (.ifCond .ne 6, 3) := by decide +kernel
theorem tc_d7_drop_7 : decode tc_i7_drop.2.1 7 = .ok (.bipush (-3), 2) := by decide +kernel
theorem tc_d7_drop_9 : decode tc_i7_drop.2.1 9 = .ok (.ireturn, 1) := by decide +kernel
theorem tc_d7_drop_10 : decode tc_i7_drop.2.1 10 = .ok (.aload_n 0, 1) := by decide +kernel
theorem tc_d7_drop_11 : decode tc_i7_drop.2.1 11 = .ok (.dup, 1) := by decide +kernel
theorem tc_d7_drop_12 : decode tc_i7_drop.2.1 12 = .ok (.getfield 93, 3) := by decide +kernel
theorem tc_d7_drop_15 : decode tc_i7_drop.2.1 15 = .ok (.iconst 1, 1) := by decide +kernel
theorem tc_d7_drop_16 : decode tc_i7_drop.2.1 16 = .ok (.isub, 1) := by decide +kernel
theorem tc_d7_drop_17 : decode tc_i7_drop.2.1 17 = .ok (.putfield 93, 3) := by decide +kernel
theorem tc_d7_drop_20 : decode tc_i7_drop.2.1 20 = .ok (.aload_n 0, 1) := by decide +kernel
theorem tc_d7_drop_21 : decode tc_i7_drop.2.1 21 = .ok (.aload_n 0, 1) := by decide +kernel
theorem tc_d7_drop_22 : decode tc_i7_drop.2.1 22 = .ok (.getfield 93, 3) := by decide +kernel
theorem tc_d7_drop_25 : decode tc_i7_drop.2.1 25 = .ok (.invokevirtual 164, 3) := by decide +kernel
theorem tc_d7_drop_28 : decode tc_i7_drop.2.1 28 = .ok (.istore_n 1, 1) := by decide +kernel
theorem tc_d7_drop_29 : decode tc_i7_drop.2.1 29 = .ok (.aload_n 0, 1) := by decide +kernel
theorem tc_d7_drop_30 : decode tc_i7_drop.2.1 30 = .ok (.getfield 29, 3) := by decide +kernel
theorem tc_d7_drop_33 : decode tc_i7_drop.2.1 33 = .ok (.aload_n 0, 1) := by decide +kernel
theorem tc_d7_drop_34 : decode tc_i7_drop.2.1 34 = .ok (.getfield 93, 3) := by decide +kernel
theorem tc_d7_drop_37 : decode tc_i7_drop.2.1 37 = .ok (.iconst 0, 1) := by decide +kernel
theorem tc_d7_drop_38 : decode tc_i7_drop.2.1 38 = .ok (.bastore, 1) := by decide +kernel
theorem tc_d7_drop_39 : decode tc_i7_drop.2.1 39 = .ok (.aload_n 0, 1) := by decide +kernel
theorem tc_d7_drop_40 : decode tc_i7_drop.2.1 40 = .ok (.getfield 93, 3) := by decide +kernel
theorem tc_d7_drop_43 : decode tc_i7_drop.2.1 43 = .ok (.ireturn, 1) := by decide +kernel
theorem tc_d7_does_0 : decode tc_i7_does.2.1 0 = .ok (.iload_n 1, 1) := by decide +kernel
theorem tc_d7_does_1 : decode tc_i7_does.2.1 1 = .ok (.tableswitch 197 0 6 #[43, 80, 100, 120, 145, 164, 184], 43) := by decide +kernel
theorem tc_d7_does_44 : decode tc_i7_does.2.1 44 = .ok (.aload_n 0, 1) := by decide +kernel
theorem tc_d7_does_45 : decode tc_i7_does.2.1 45 = .ok (.aload_n 0, 1) := by decide +kernel
theorem tc_d7_does_46 : decode tc_i7_does.2.1 46 = .ok (.getfield 87, 3) := by decide +kernel
theorem tc_d7_does_49 : decode tc_i7_does.2.1 49 = .ok (.iconst 0, 1) := by decide +kernel
theorem tc_d7_does_50 : decode tc_i7_does.2.1 50 = .ok (.iaload, 1) := by decide +kernel
theorem tc_d7_does_51 : decode tc_i7_does.2.1 51 = .ok (.aload_n 0, 1) := by decide +kernel
theorem tc_d7_does_52 : decode tc_i7_does.2.1 52 = .ok (.getfield 87, 3) := by decide +kernel
theorem tc_d7_does_55 : decode tc_i7_does.2.1 55 = .ok (.iconst 1, 1) := by decide +kernel
theorem tc_d7_does_56 : decode tc_i7_does.2.1 56 = .ok (.iaload, 1) := by decide +kernel
theorem tc_d7_does_57 : decode tc_i7_does.2.1 57 = .ok (.aload_n 0, 1) := by decide +kernel
theorem tc_d7_does_58 : decode tc_i7_does.2.1 58 = .ok (.getfield 87, 3) := by decide +kernel
theorem tc_d7_does_61 : decode tc_i7_does.2.1 61 = .ok (.iconst 2, 1) := by decide +kernel
theorem tc_d7_does_62 : decode tc_i7_does.2.1 62 = .ok (.iaload, 1) := by decide +kernel
theorem tc_d7_does_63 : decode tc_i7_does.2.1 63 = .ok (.aload_n 0, 1) := by decide +kernel
theorem tc_d7_does_64 : decode tc_i7_does.2.1 64 = .ok (.getfield 87, 3) := by decide +kernel
theorem tc_d7_does_67 : decode tc_i7_does.2.1 67 = .ok (.iconst 3, 1) := by decide +kernel
theorem tc_d7_does_68 : decode tc_i7_does.2.1 68 = .ok (.iaload, 1) := by decide +kernel
theorem tc_d7_does_69 : decode tc_i7_does.2.1 69 = .ok (.invokevirtual 286, 3) := by decide +kernel
theorem tc_d7_does_72 : decode tc_i7_does.2.1 72 = .ok (.ifCond .lt 7, 3) := by decide +kernel
theorem tc_d7_does_75 : decode tc_i7_does.2.1 75 = .ok (.iconst 1, 1) := by decide +kernel
theorem tc_d7_does_76 : decode tc_i7_does.2.1 76 = .ok (.goto 4, 3) := by decide +kernel
theorem tc_d7_does_79 : decode tc_i7_does.2.1 79 = .ok (.iconst 0, 1) := by decide +kernel
theorem tc_d7_does_80 : decode tc_i7_does.2.1 80 = .ok (.ireturn, 1) := by decide +kernel
theorem tc_d7_does_81 : decode tc_i7_does.2.1 81 = .ok (.aload_n 0, 1) := by decide +kernel
theorem tc_d7_does_82 : decode tc_i7_does.2.1 82 = .ok (.aload_n 0, 1) := by decide +kernel
theorem tc_d7_does_83 : decode tc_i7_does.2.1 83 = .ok (.getfield 87, 3) := by decide +kernel
theorem tc_d7_does_86 : decode tc_i7_does.2.1 86 = .ok (.iconst 0, 1) := by decide +kernel
theorem tc_d7_does_87 : decode tc_i7_does.2.1 87 = .ok (.iaload, 1) := by decide +kernel
theorem tc_d7_does_88 : decode tc_i7_does.2.1 88 = .ok (.iconst 1, 1) := by decide +kernel
theorem tc_d7_does_89 : decode tc_i7_does.2.1 89 = .ok (.invokevirtual 289, 3) := by decide +kernel
theorem tc_d7_does_92 : decode tc_i7_does.2.1 92 = .ok (.ifCond .lt 7, 3) := by decide +kernel
theorem tc_d7_does_95 : decode tc_i7_does.2.1 95 = .ok (.iconst 1, 1) := by decide +kernel
theorem tc_d7_does_96 : decode tc_i7_does.2.1 96 = .ok (.goto 4, 3) := by decide +kernel
theorem tc_d7_does_99 : decode tc_i7_does.2.1 99 = .ok (.iconst 0, 1) := by decide +kernel
theorem tc_d7_does_100 : decode tc_i7_does.2.1 100 = .ok (.ireturn, 1) := by decide +kernel
theorem tc_d7_does_101 : decode tc_i7_does.2.1 101 = .ok (.aload_n 0, 1) := by decide +kernel
theorem tc_d7_does_102 : decode tc_i7_does.2.1 102 = .ok (.aload_n 0, 1) := by decide +kernel
theorem tc_d7_does_103 : decode tc_i7_does.2.1 103 = .ok (.getfield 87, 3) := by decide +kernel
theorem tc_d7_does_106 : decode tc_i7_does.2.1 106 = .ok (.iconst 0, 1) := by decide +kernel
theorem tc_d7_does_107 : decode tc_i7_does.2.1 107 = .ok (.iaload, 1) := by decide +kernel
theorem tc_d7_does_108 : decode tc_i7_does.2.1 108 = .ok (.iconst 0, 1) := by decide +kernel
theorem tc_d7_does_109 : decode tc_i7_does.2.1 109 = .ok (.invokevirtual 289, 3) := by decide +kernel
theorem tc_d7_does_112 : decode tc_i7_does.2.1 112 = .ok (.ifCond .lt 7, 3) := by decide +kernel
theorem tc_d7_does_115 : decode tc_i7_does.2.1 115 = .ok (.iconst 1, 1) := by decide +kernel
theorem tc_d7_does_116 : decode tc_i7_does.2.1 116 = .ok (.goto 4, 3) := by decide +kernel
theorem tc_d7_does_119 : decode tc_i7_does.2.1 119 = .ok (.iconst 0, 1) := by decide +kernel
theorem tc_d7_does_120 : decode tc_i7_does.2.1 120 = .ok (.ireturn, 1) := by decide +kernel
theorem tc_d7_does_121 : decode tc_i7_does.2.1 121 = .ok (.aload_n 0, 1) := by decide +kernel
theorem tc_d7_does_122 : decode tc_i7_does.2.1 122 = .ok (.aload_n 0, 1) := by decide +kernel
theorem tc_d7_does_123 : decode tc_i7_does.2.1 123 = .ok (.getfield 87, 3) := by decide +kernel
theorem tc_d7_does_126 : decode tc_i7_does.2.1 126 = .ok (.iconst 0, 1) := by decide +kernel
theorem tc_d7_does_127 : decode tc_i7_does.2.1 127 = .ok (.iaload, 1) := by decide +kernel
theorem tc_d7_does_128 : decode tc_i7_does.2.1 128 = .ok (.aload_n 0, 1) := by decide +kernel
theorem tc_d7_does_129 : decode tc_i7_does.2.1 129 = .ok (.getfield 87, 3) := by decide +kernel
theorem tc_d7_does_132 : decode tc_i7_does.2.1 132 = .ok (.iconst 1, 1) := by decide +kernel
theorem tc_d7_does_133 : decode tc_i7_does.2.1 133 = .ok (.iaload, 1) := by decide +kernel
theorem tc_d7_does_134 : decode tc_i7_does.2.1 134 = .ok (.invokevirtual 291, 3) := by decide +kernel
theorem tc_d7_does_137 : decode tc_i7_does.2.1 137 = .ok (.ifCond .lt 7, 3) := by decide +kernel
theorem tc_d7_does_140 : decode tc_i7_does.2.1 140 = .ok (.iconst 1, 1) := by decide +kernel
theorem tc_d7_does_141 : decode tc_i7_does.2.1 141 = .ok (.goto 4, 3) := by decide +kernel
theorem tc_d7_does_144 : decode tc_i7_does.2.1 144 = .ok (.iconst 0, 1) := by decide +kernel
theorem tc_d7_does_145 : decode tc_i7_does.2.1 145 = .ok (.ireturn, 1) := by decide +kernel
theorem tc_d7_does_146 : decode tc_i7_does.2.1 146 = .ok (.aload_n 0, 1) := by decide +kernel
theorem tc_d7_does_147 : decode tc_i7_does.2.1 147 = .ok (.aload_n 0, 1) := by decide +kernel
theorem tc_d7_does_148 : decode tc_i7_does.2.1 148 = .ok (.getfield 87, 3) := by decide +kernel
theorem tc_d7_does_151 : decode tc_i7_does.2.1 151 = .ok (.iconst 0, 1) := by decide +kernel
theorem tc_d7_does_152 : decode tc_i7_does.2.1 152 = .ok (.iaload, 1) := by decide +kernel
theorem tc_d7_does_153 : decode tc_i7_does.2.1 153 = .ok (.invokevirtual 293, 3) := by decide +kernel
theorem tc_d7_does_156 : decode tc_i7_does.2.1 156 = .ok (.ifCond .lt 7, 3) := by decide +kernel
theorem tc_d7_does_159 : decode tc_i7_does.2.1 159 = .ok (.iconst 1, 1) := by decide +kernel
theorem tc_d7_does_160 : decode tc_i7_does.2.1 160 = .ok (.goto 4, 3) := by decide +kernel
theorem tc_d7_does_163 : decode tc_i7_does.2.1 163 = .ok (.iconst 0, 1) := by decide +kernel
theorem tc_d7_does_164 : decode tc_i7_does.2.1 164 = .ok (.ireturn, 1) := by decide +kernel
theorem tc_d7_does_165 : decode tc_i7_does.2.1 165 = .ok (.aload_n 0, 1) := by decide +kernel
theorem tc_d7_does_166 : decode tc_i7_does.2.1 166 = .ok (.iconst 2, 1) := by decide +kernel
theorem tc_d7_does_167 : decode tc_i7_does.2.1 167 = .ok (.aload_n 0, 1) := by decide +kernel
theorem tc_d7_does_168 : decode tc_i7_does.2.1 168 = .ok (.getfield 87, 3) := by decide +kernel
theorem tc_d7_does_171 : decode tc_i7_does.2.1 171 = .ok (.iconst 0, 1) := by decide +kernel
theorem tc_d7_does_172 : decode tc_i7_does.2.1 172 = .ok (.iaload, 1) := by decide +kernel
theorem tc_d7_does_173 : decode tc_i7_does.2.1 173 = .ok (.invokevirtual 295, 3) := by decide +kernel
theorem tc_d7_does_176 : decode tc_i7_does.2.1 176 = .ok (.ifCond .lt 7, 3) := by decide +kernel
theorem tc_d7_does_179 : decode tc_i7_does.2.1 179 = .ok (.iconst 1, 1) := by decide +kernel
theorem tc_d7_does_180 : decode tc_i7_does.2.1 180 = .ok (.goto 4, 3) := by decide +kernel
theorem tc_d7_does_183 : decode tc_i7_does.2.1 183 = .ok (.iconst 0, 1) := by decide +kernel
theorem tc_d7_does_184 : decode tc_i7_does.2.1 184 = .ok (.ireturn, 1) := by decide +kernel
theorem tc_d7_does_185 : decode tc_i7_does.2.1 185 = .ok (.aload_n 0, 1) := by decide +kernel
theorem tc_d7_does_186 : decode tc_i7_does.2.1 186 = .ok (.invokevirtual 297, 3) := by decide +kernel
theorem tc_d7_does_189 : decode tc_i7_does.2.1 189 = .ok (.ifCond .lt 7, 3) := by decide +kernel
theorem tc_d7_does_192 : decode tc_i7_does.2.1 192 = .ok (.iconst 1, 1) := by decide +kernel
theorem tc_d7_does_193 : decode tc_i7_does.2.1 193 = .ok (.goto 4, 3) := by decide +kernel
theorem tc_d7_does_196 : decode tc_i7_does.2.1 196 = .ok (.iconst 0, 1) := by decide +kernel
theorem tc_d7_does_197 : decode tc_i7_does.2.1 197 = .ok (.ireturn, 1) := by decide +kernel
theorem tc_d7_does_198 : decode tc_i7_does.2.1 198 = .ok (.aload_n 0, 1) := by decide +kernel
theorem tc_d7_does_199 : decode tc_i7_does.2.1 199 = .ok (.invokevirtual 299, 3) := by decide +kernel
theorem tc_d7_does_202 : decode tc_i7_does.2.1 202 = .ok (.ifCond .lt 7, 3) := by decide +kernel
theorem tc_d7_does_205 : decode tc_i7_does.2.1 205 = .ok (.iconst 1, 1) := by decide +kernel
theorem tc_d7_does_206 : decode tc_i7_does.2.1 206 = .ok (.goto 4, 3) := by decide +kernel
theorem tc_d7_does_209 : decode tc_i7_does.2.1 209 = .ok (.iconst 0, 1) := by decide +kernel
theorem tc_d7_does_210 : decode tc_i7_does.2.1 210 = .ok (.ireturn, 1) := by decide +kernel
theorem tc_d7_drawn_0 : decode tc_i7_drawn.2.1 0 = .ok (.iload_n 2, 1) := by decide +kernel
theorem tc_d7_drawn_1 : decode tc_i7_drawn.2.1 1 = .ok (.iconst 0, 1) := by decide +kernel
theorem tc_d7_drawn_2 : decode tc_i7_drawn.2.1 2 = .ok (.bipush 9, 2) := by decide +kernel
theorem tc_d7_drawn_4 : decode tc_i7_drawn.2.1 4 = .ok (.invokestatic 96, 3) := by decide +kernel
theorem tc_d7_drawn_7 : decode tc_i7_drawn.2.1 7 = .ok (.ifCond .eq 10, 3) := by decide +kernel
theorem tc_d7_drawn_10 : decode tc_i7_drawn.2.1 10 = .ok (.aload_n 0, 1) := by decide +kernel
theorem tc_d7_drawn_11 : decode tc_i7_drawn.2.1 11 = .ok (.getfield 93, 3) := by decide +kernel
theorem tc_d7_drawn_14 : decode tc_i7_drawn.2.1 14 = .ok (.ifCond .ne 8, 3) := by decide +kernel
theorem tc_d7_drawn_17 : decode tc_i7_drawn.2.1 17 = .ok (.bipush (-2), 2) := by decide +kernel
theorem tc_d7_drawn_19 : decode tc_i7_drawn.2.1 19 = .ok (.goto 9, 3) := by decide +kernel
theorem tc_d7_drawn_22 : decode tc_i7_drawn.2.1 22 = .ok (.aload_n 0, 1) := by decide +kernel
theorem tc_d7_drawn_23 : decode tc_i7_drawn.2.1 23 = .ok (.iload_n 1, 1) := by decide +kernel
theorem tc_d7_drawn_24 : decode tc_i7_drawn.2.1 24 = .ok (.iload_n 2, 1) := by decide +kernel
theorem tc_d7_drawn_25 : decode tc_i7_drawn.2.1 25 = .ok (.invokevirtual 219, 3) := by decide +kernel
theorem tc_d7_drawn_28 : decode tc_i7_drawn.2.1 28 = .ok (.ireturn, 1) := by decide +kernel
theorem tc_d7_fails_0 : decode tc_i7_fails.2.1 0 = .ok (.aload_n 0, 1) := by decide +kernel
theorem tc_d7_fails_1 : decode tc_i7_fails.2.1 1 = .ok (.invokevirtual 187, 3) := by decide +kernel
theorem tc_d7_fails_4 : decode tc_i7_fails.2.1 4 = .ok (.iload_n 1, 1) := by decide +kernel
theorem tc_d7_fails_5 : decode tc_i7_fails.2.1 5 = .ok (.ifCond .le 17, 3) := by decide +kernel
theorem tc_d7_fails_8 : decode tc_i7_fails.2.1 8 = .ok (.aload_n 0, 1) := by decide +kernel
theorem tc_d7_fails_9 : decode tc_i7_fails.2.1 9 = .ok (.iload_n 1, 1) := by decide +kernel
theorem tc_d7_fails_10 : decode tc_i7_fails.2.1 10 = .ok (.iconst 1, 1) := by decide +kernel
theorem tc_d7_fails_11 : decode tc_i7_fails.2.1 11 = .ok (.isub, 1) := by decide +kernel
theorem tc_d7_fails_12 : decode tc_i7_fails.2.1 12 = .ok (.iconst 4, 1) := by decide +kernel
theorem tc_d7_fails_13 : decode tc_i7_fails.2.1 13 = .ok (.irem, 1) := by decide +kernel
theorem tc_d7_fails_14 : decode tc_i7_fails.2.1 14 = .ok (.iload_n 1, 1) := by decide +kernel
theorem tc_d7_fails_15 : decode tc_i7_fails.2.1 15 = .ok (.iconst 1, 1) := by decide +kernel
theorem tc_d7_fails_16 : decode tc_i7_fails.2.1 16 = .ok (.isub, 1) := by decide +kernel
theorem tc_d7_fails_17 : decode tc_i7_fails.2.1 17 = .ok (.iconst 4, 1) := by decide +kernel
theorem tc_d7_fails_18 : decode tc_i7_fails.2.1 18 = .ok (.idiv, 1) := by decide +kernel
theorem tc_d7_fails_19 : decode tc_i7_fails.2.1 19 = .ok (.invokevirtual 176, 3) := by decide +kernel
theorem tc_d7_fails_22 : decode tc_i7_fails.2.1 22 = .ok (.iload_n 2, 1) := by decide +kernel
theorem tc_d7_fails_23 : decode tc_i7_fails.2.1 23 = .ok (.ifCond .le 12, 3) := by decide +kernel
theorem tc_d7_fails_26 : decode tc_i7_fails.2.1 26 = .ok (.aload_n 0, 1) := by decide +kernel
theorem tc_d7_fails_27 : decode tc_i7_fails.2.1 27 = .ok (.getfield 29, 3) := by decide +kernel
theorem tc_d7_fails_30 : decode tc_i7_fails.2.1 30 = .ok (.iload_n 2, 1) := by decide +kernel
theorem tc_d7_fails_31 : decode tc_i7_fails.2.1 31 = .ok (.iconst 1, 1) := by decide +kernel
theorem tc_d7_fails_32 : decode tc_i7_fails.2.1 32 = .ok (.isub, 1) := by decide +kernel
theorem tc_d7_fails_33 : decode tc_i7_fails.2.1 33 = .ok (.iconst 1, 1) := by decide +kernel
theorem tc_d7_fails_34 : decode tc_i7_fails.2.1 34 = .ok (.bastore, 1) := by decide +kernel
theorem tc_d7_fails_35 : decode tc_i7_fails.2.1 35 = .ok (.aload_n 0, 1) := by decide +kernel
theorem tc_d7_fails_36 : decode tc_i7_fails.2.1 36 = .ok (.iconst 0, 1) := by decide +kernel
theorem tc_d7_fails_37 : decode tc_i7_fails.2.1 37 = .ok (.invokevirtual 180, 3) := by decide +kernel
theorem tc_d7_fails_40 : decode tc_i7_fails.2.1 40 = .ok (.ifCond .lt 11, 3) := by decide +kernel
theorem tc_d7_fails_43 : decode tc_i7_fails.2.1 43 = .ok (.aload_n 0, 1) := by decide +kernel
theorem tc_d7_fails_44 : decode tc_i7_fails.2.1 44 = .ok (.iconst 1, 1) := by decide +kernel
theorem tc_d7_fails_45 : decode tc_i7_fails.2.1 45 = .ok (.invokevirtual 173, 3) := by decide +kernel
theorem tc_d7_fails_48 : decode tc_i7_fails.2.1 48 = .ok (.ifCond .eq 7, 3) := by decide +kernel
theorem tc_d7_fails_51 : decode tc_i7_fails.2.1 51 = .ok (.iconst 1, 1) := by decide +kernel
theorem tc_d7_fails_52 : decode tc_i7_fails.2.1 52 = .ok (.goto 4, 3) := by decide +kernel
theorem tc_d7_fails_55 : decode tc_i7_fails.2.1 55 = .ok (.iconst 0, 1) := by decide +kernel
theorem tc_d7_fails_56 : decode tc_i7_fails.2.1 56 = .ok (.istore_n 3, 1) := by decide +kernel
theorem tc_d7_fails_57 : decode tc_i7_fails.2.1 57 = .ok (.aload_n 0, 1) := by decide +kernel
theorem tc_d7_fails_58 : decode tc_i7_fails.2.1 58 = .ok (.invokevirtual 195, 3) := by decide +kernel
theorem tc_d7_fails_61 : decode tc_i7_fails.2.1 61 = .ok (.iload_n 3, 1) := by decide +kernel
theorem tc_d7_fails_62 : decode tc_i7_fails.2.1 62 = .ok (.ireturn, 1) := by decide +kernel
theorem tc_d7_failsFrom_0 : decode tc_i7_failsFrom.2.1 0 = .ok (.iconst 4, 1) := by decide +kernel
theorem tc_d7_failsFrom_1 : decode tc_i7_failsFrom.2.1 1 = .ok (.aload_n 0, 1) := by decide +kernel
theorem tc_d7_failsFrom_2 : decode tc_i7_failsFrom.2.1 2 = .ok (.getfield 93, 3) := by decide +kernel
theorem tc_d7_failsFrom_5 : decode tc_i7_failsFrom.2.1 5 = .ok (.imul, 1) := by decide +kernel
theorem tc_d7_failsFrom_6 : decode tc_i7_failsFrom.2.1 6 = .ok (.iconst 1, 1) := by decide +kernel
theorem tc_d7_failsFrom_7 : decode tc_i7_failsFrom.2.1 7 = .ok (.iadd, 1) := by decide +kernel
theorem tc_d7_failsFrom_8 : decode tc_i7_failsFrom.2.1 8 = .ok (.aload_n 0, 1) := by decide +kernel
theorem tc_d7_failsFrom_9 : decode tc_i7_failsFrom.2.1 9 = .ok (.getfield 93, 3) := by decide +kernel
theorem tc_d7_failsFrom_12 : decode tc_i7_failsFrom.2.1 12 = .ok (.iconst 1, 1) := by decide +kernel
theorem tc_d7_failsFrom_13 : decode tc_i7_failsFrom.2.1 13 = .ok (.iadd, 1) := by decide +kernel
theorem tc_d7_failsFrom_14 : decode tc_i7_failsFrom.2.1 14 = .ok (.imul, 1) := by decide +kernel
theorem tc_d7_failsFrom_15 : decode tc_i7_failsFrom.2.1 15 = .ok (.istore_n 2, 1) := by decide +kernel
theorem tc_d7_failsFrom_16 : decode tc_i7_failsFrom.2.1 16 = .ok (.iload_n 1, 1) := by decide +kernel
theorem tc_d7_failsFrom_17 : decode tc_i7_failsFrom.2.1 17 = .ok (.istore_n 3, 1) := by decide +kernel
theorem tc_d7_failsFrom_18 : decode tc_i7_failsFrom.2.1 18 = .ok (.iload_n 3, 1) := by decide +kernel
theorem tc_d7_failsFrom_19 : decode tc_i7_failsFrom.2.1 19 = .ok (.iload_n 2, 1) := by decide +kernel
theorem tc_d7_failsFrom_20 : decode tc_i7_failsFrom.2.1 20 = .ok (.if_icmp .ge 34, 3) := by decide +kernel
theorem tc_d7_failsFrom_23 : decode tc_i7_failsFrom.2.1 23 = .ok (.aload_n 0, 1) := by decide +kernel
theorem tc_d7_failsFrom_24 : decode tc_i7_failsFrom.2.1 24 = .ok (.iload_n 3, 1) := by decide +kernel
theorem tc_d7_failsFrom_25 : decode tc_i7_failsFrom.2.1 25 = .ok (.aload_n 0, 1) := by decide +kernel
theorem tc_d7_failsFrom_26 : decode tc_i7_failsFrom.2.1 26 = .ok (.getfield 93, 3) := by decide +kernel
theorem tc_d7_failsFrom_29 : decode tc_i7_failsFrom.2.1 29 = .ok (.iconst 1, 1) := by decide +kernel
theorem tc_d7_failsFrom_30 : decode tc_i7_failsFrom.2.1 30 = .ok (.iadd, 1) := by decide +kernel
theorem tc_d7_failsFrom_31 : decode tc_i7_failsFrom.2.1 31 = .ok (.idiv, 1) := by decide +kernel
theorem tc_d7_failsFrom_32 : decode tc_i7_failsFrom.2.1 32 = .ok (.iload_n 3, 1) := by decide +kernel
theorem tc_d7_failsFrom_33 : decode tc_i7_failsFrom.2.1 33 = .ok (.aload_n 0, 1) := by decide +kernel
theorem tc_d7_failsFrom_34 : decode tc_i7_failsFrom.2.1 34 = .ok (.getfield 93, 3) := by decide +kernel
theorem tc_d7_failsFrom_37 : decode tc_i7_failsFrom.2.1 37 = .ok (.iconst 1, 1) := by decide +kernel
theorem tc_d7_failsFrom_38 : decode tc_i7_failsFrom.2.1 38 = .ok (.iadd, 1) := by decide +kernel
theorem tc_d7_failsFrom_39 : decode tc_i7_failsFrom.2.1 39 = .ok (.irem, 1) := by decide +kernel
theorem tc_d7_failsFrom_40 : decode tc_i7_failsFrom.2.1 40 = .ok (.invokevirtual 208, 3) := by decide +kernel
theorem tc_d7_failsFrom_43 : decode tc_i7_failsFrom.2.1 43 = .ok (.ifCond .eq 5, 3) := by decide +kernel
theorem tc_d7_failsFrom_46 : decode tc_i7_failsFrom.2.1 46 = .ok (.iload_n 3, 1) := by decide +kernel
theorem tc_d7_failsFrom_47 : decode tc_i7_failsFrom.2.1 47 = .ok (.ireturn, 1) := by decide +kernel
theorem tc_d7_failsFrom_48 : decode tc_i7_failsFrom.2.1 48 = .ok (.iinc 3 1, 3) := by decide +kernel
theorem tc_d7_failsFrom_51 : decode tc_i7_failsFrom.2.1 51 = .ok (.goto (-33), 3) := by decide +kernel
theorem tc_d7_failsFrom_54 : decode tc_i7_failsFrom.2.1 54 = .ok (.iconst (-1), 1) := by decide +kernel
theorem tc_d7_failsFrom_55 : decode tc_i7_failsFrom.2.1 55 = .ok (.ireturn, 1) := by decide +kernel
theorem tc_d7_faultOf_0 : decode tc_i7_faultOf.2.1 0 = .ok (.iload_n 1, 1) := by decide +kernel
theorem tc_d7_faultOf_1 : decode tc_i7_faultOf.2.1 1 = .ok (.iconst 0, 1) := by decide +kernel
theorem tc_d7_faultOf_2 : decode tc_i7_faultOf.2.1 2 = .ok (.aload_n 0, 1) := by decide +kernel
theorem tc_d7_faultOf_3 : decode tc_i7_faultOf.2.1 3 = .ok (.getfield 100, 3) := by decide +kernel
theorem tc_d7_faultOf_6 : decode tc_i7_faultOf.2.1 6 = .ok (.iconst 1, 1) := by decide +kernel
theorem tc_d7_faultOf_7 : decode tc_i7_faultOf.2.1 7 = .ok (.isub, 1) := by decide +kernel
theorem tc_d7_faultOf_8 : decode tc_i7_faultOf.2.1 8 = .ok (.invokestatic 96, 3) := by decide +kernel
theorem tc_d7_faultOf_11 : decode tc_i7_faultOf.2.1 11 = .ok (.ifCond .ne 6, 3) := by decide +kernel
theorem tc_d7_faultOf_14 : decode tc_i7_faultOf.2.1 14 = .ok (.bipush (-2), 2) := by decide +kernel
theorem tc_d7_faultOf_16 : decode tc_i7_faultOf.2.1 16 = .ok (.ireturn, 1) := by decide +kernel
theorem tc_d7_faultOf_17 : decode tc_i7_faultOf.2.1 17 = .ok (.iload_n 2, 1) := by decide +kernel
theorem tc_d7_faultOf_18 : decode tc_i7_faultOf.2.1 18 = .ok (.tableswitch 47 0 2 #[26, 33, 40], 26) := by decide +kernel
theorem tc_d7_faultOf_44 : decode tc_i7_faultOf.2.1 44 = .ok (.aload_n 0, 1) := by decide +kernel
theorem tc_d7_faultOf_45 : decode tc_i7_faultOf.2.1 45 = .ok (.getfield 35, 3) := by decide +kernel
theorem tc_d7_faultOf_48 : decode tc_i7_faultOf.2.1 48 = .ok (.iload_n 1, 1) := by decide +kernel
theorem tc_d7_faultOf_49 : decode tc_i7_faultOf.2.1 49 = .ok (.iaload, 1) := by decide +kernel
theorem tc_d7_faultOf_50 : decode tc_i7_faultOf.2.1 50 = .ok (.ireturn, 1) := by decide +kernel
theorem tc_d7_faultOf_51 : decode tc_i7_faultOf.2.1 51 = .ok (.aload_n 0, 1) := by decide +kernel
theorem tc_d7_faultOf_52 : decode tc_i7_faultOf.2.1 52 = .ok (.getfield 38, 3) := by decide +kernel
theorem tc_d7_faultOf_55 : decode tc_i7_faultOf.2.1 55 = .ok (.iload_n 1, 1) := by decide +kernel
theorem tc_d7_faultOf_56 : decode tc_i7_faultOf.2.1 56 = .ok (.iaload, 1) := by decide +kernel
theorem tc_d7_faultOf_57 : decode tc_i7_faultOf.2.1 57 = .ok (.ireturn, 1) := by decide +kernel
theorem tc_d7_faultOf_58 : decode tc_i7_faultOf.2.1 58 = .ok (.aload_n 0, 1) := by decide +kernel
theorem tc_d7_faultOf_59 : decode tc_i7_faultOf.2.1 59 = .ok (.getfield 41, 3) := by decide +kernel
theorem tc_d7_faultOf_62 : decode tc_i7_faultOf.2.1 62 = .ok (.iload_n 1, 1) := by decide +kernel
theorem tc_d7_faultOf_63 : decode tc_i7_faultOf.2.1 63 = .ok (.iaload, 1) := by decide +kernel
theorem tc_d7_faultOf_64 : decode tc_i7_faultOf.2.1 64 = .ok (.ireturn, 1) := by decide +kernel
theorem tc_d7_faultOf_65 : decode tc_i7_faultOf.2.1 65 = .ok (.bipush (-2), 2) := by decide +kernel
theorem tc_d7_faultOf_67 : decode tc_i7_faultOf.2.1 67 = .ok (.ireturn, 1) := by decide +kernel
theorem tc_d7_isByte_0 : decode tc_i7_isByte.2.1 0 = .ok (.iload_n 0, 1) := by decide +kernel
theorem tc_d7_isByte_1 : decode tc_i7_isByte.2.1 1 = .ok (.iconst 0, 1) := by decide +kernel
theorem tc_d7_isByte_2 : decode tc_i7_isByte.2.1 2 = .ok (.sipush 255, 3) := by decide +kernel
theorem tc_d7_isByte_5 : decode tc_i7_isByte.2.1 5 = .ok (.invokestatic 96, 3) := by decide +kernel
theorem tc_d7_isByte_8 : decode tc_i7_isByte.2.1 8 = .ok (.ireturn, 1) := by decide +kernel
theorem tc_d7_feed_0 : decode tc_i7_feed.2.1 0 = .ok (.iload_n 1, 1) := by decide +kernel
theorem tc_d7_feed_1 : decode tc_i7_feed.2.1 1 = .ok (.iconst 1, 1) := by decide +kernel
theorem tc_d7_feed_2 : decode tc_i7_feed.2.1 2 = .ok (.iconst 5, 1) := by decide +kernel
theorem tc_d7_feed_3 : decode tc_i7_feed.2.1 3 = .ok (.invokestatic 96, 3) := by decide +kernel
theorem tc_d7_feed_6 : decode tc_i7_feed.2.1 6 = .ok (.ifCond .eq 41, 3) := by decide +kernel
theorem tc_d7_feed_9 : decode tc_i7_feed.2.1 9 = .ok (.iload_n 2, 1) := by decide +kernel
theorem tc_d7_feed_10 : decode tc_i7_feed.2.1 10 = .ok (.invokestatic 231, 3) := by decide +kernel
theorem tc_d7_feed_13 : decode tc_i7_feed.2.1 13 = .ok (.ifCond .eq 34, 3) := by decide +kernel
theorem tc_d7_feed_16 : decode tc_i7_feed.2.1 16 = .ok (.iload_n 3, 1) := by decide +kernel
theorem tc_d7_feed_17 : decode tc_i7_feed.2.1 17 = .ok (.invokestatic 231, 3) := by decide +kernel
theorem tc_d7_feed_20 : decode tc_i7_feed.2.1 20 = .ok (.ifCond .eq 27, 3) := by decide +kernel
theorem tc_d7_feed_23 : decode tc_i7_feed.2.1 23 = .ok (.iload 4, 2) := by decide +kernel
theorem tc_d7_feed_25 : decode tc_i7_feed.2.1 25 = .ok (.invokestatic 231, 3) := by decide +kernel
theorem tc_d7_feed_28 : decode tc_i7_feed.2.1 28 = .ok (.ifCond .eq 19, 3) := by decide +kernel
theorem tc_d7_feed_31 : decode tc_i7_feed.2.1 31 = .ok (.iload 5, 2) := by decide +kernel
theorem tc_d7_feed_33 : decode tc_i7_feed.2.1 33 = .ok (.invokestatic 231, 3) := by decide +kernel
theorem tc_d7_feed_36 : decode tc_i7_feed.2.1 36 = .ok (.ifCond .eq 11, 3) := by decide +kernel
theorem tc_d7_feed_39 : decode tc_i7_feed.2.1 39 = .ok (.iload 6, 2) := by decide +kernel
theorem tc_d7_feed_41 : decode tc_i7_feed.2.1 41 = .ok (.invokestatic 231, 3) := by decide +kernel
theorem tc_d7_feed_44 : decode tc_i7_feed.2.1 44 = .ok (.ifCond .ne 6, 3) := by decide +kernel
theorem tc_d7_feed_47 : decode tc_i7_feed.2.1 47 = .ok (.bipush (-2), 2) := by decide +kernel
theorem tc_d7_feed_49 : decode tc_i7_feed.2.1 49 = .ok (.ireturn, 1) := by decide +kernel
theorem tc_d7_feed_50 : decode tc_i7_feed.2.1 50 = .ok (.aload_n 0, 1) := by decide +kernel
theorem tc_d7_feed_51 : decode tc_i7_feed.2.1 51 = .ok (.getfield 228, 3) := by decide +kernel
theorem tc_d7_feed_54 : decode tc_i7_feed.2.1 54 = .ok (.iload_n 1, 1) := by decide +kernel
theorem tc_d7_feed_55 : decode tc_i7_feed.2.1 55 = .ok (.iadd, 1) := by decide +kernel
theorem tc_d7_feed_56 : decode tc_i7_feed.2.1 56 = .ok (.bipush 60, 2) := by decide +kernel
theorem tc_d7_feed_58 : decode tc_i7_feed.2.1 58 = .ok (.if_icmp .le 6, 3) := by decide +kernel
theorem tc_d7_feed_61 : decode tc_i7_feed.2.1 61 = .ok (.bipush (-4), 2) := by decide +kernel
theorem tc_d7_feed_63 : decode tc_i7_feed.2.1 63 = .ok (.ireturn, 1) := by decide +kernel
theorem tc_d7_feed_64 : decode tc_i7_feed.2.1 64 = .ok (.aload_n 0, 1) := by decide +kernel
theorem tc_d7_feed_65 : decode tc_i7_feed.2.1 65 = .ok (.iload_n 2, 1) := by decide +kernel
theorem tc_d7_feed_66 : decode tc_i7_feed.2.1 66 = .ok (.invokevirtual 234, 3) := by decide +kernel
theorem tc_d7_feed_69 : decode tc_i7_feed.2.1 69 = .ok (.iload_n 1, 1) := by decide +kernel
theorem tc_d7_feed_70 : decode tc_i7_feed.2.1 70 = .ok (.iconst 1, 1) := by decide +kernel
theorem tc_d7_feed_71 : decode tc_i7_feed.2.1 71 = .ok (.if_icmp .le 8, 3) := by decide +kernel
theorem tc_d7_feed_74 : decode tc_i7_feed.2.1 74 = .ok (.aload_n 0, 1) := by decide +kernel
theorem tc_d7_feed_75 : decode tc_i7_feed.2.1 75 = .ok (.iload_n 3, 1) := by decide +kernel
theorem tc_d7_feed_76 : decode tc_i7_feed.2.1 76 = .ok (.invokevirtual 234, 3) := by decide +kernel
theorem tc_d7_feed_79 : decode tc_i7_feed.2.1 79 = .ok (.iload_n 1, 1) := by decide +kernel
theorem tc_d7_feed_80 : decode tc_i7_feed.2.1 80 = .ok (.iconst 2, 1) := by decide +kernel
theorem tc_d7_feed_81 : decode tc_i7_feed.2.1 81 = .ok (.if_icmp .le 9, 3) := by decide +kernel
theorem tc_d7_feed_84 : decode tc_i7_feed.2.1 84 = .ok (.aload_n 0, 1) := by decide +kernel
theorem tc_d7_feed_85 : decode tc_i7_feed.2.1 85 = .ok (.iload 4, 2) := by decide +kernel
theorem tc_d7_feed_87 : decode tc_i7_feed.2.1 87 = .ok (.invokevirtual 234, 3) := by decide +kernel
theorem tc_d7_feed_90 : decode tc_i7_feed.2.1 90 = .ok (.iload_n 1, 1) := by decide +kernel
theorem tc_d7_feed_91 : decode tc_i7_feed.2.1 91 = .ok (.iconst 3, 1) := by decide +kernel
theorem tc_d7_feed_92 : decode tc_i7_feed.2.1 92 = .ok (.if_icmp .le 9, 3) := by decide +kernel
theorem tc_d7_feed_95 : decode tc_i7_feed.2.1 95 = .ok (.aload_n 0, 1) := by decide +kernel
theorem tc_d7_feed_96 : decode tc_i7_feed.2.1 96 = .ok (.iload 5, 2) := by decide +kernel
theorem tc_d7_feed_98 : decode tc_i7_feed.2.1 98 = .ok (.invokevirtual 234, 3) := by decide +kernel
theorem tc_d7_feed_101 : decode tc_i7_feed.2.1 101 = .ok (.iload_n 1, 1) := by decide +kernel
theorem tc_d7_feed_102 : decode tc_i7_feed.2.1 102 = .ok (.iconst 4, 1) := by decide +kernel
theorem tc_d7_feed_103 : decode tc_i7_feed.2.1 103 = .ok (.if_icmp .le 9, 3) := by decide +kernel
theorem tc_d7_feed_106 : decode tc_i7_feed.2.1 106 = .ok (.aload_n 0, 1) := by decide +kernel
theorem tc_d7_feed_107 : decode tc_i7_feed.2.1 107 = .ok (.iload 6, 2) := by decide +kernel
theorem tc_d7_feed_109 : decode tc_i7_feed.2.1 109 = .ok (.invokevirtual 234, 3) := by decide +kernel
theorem tc_d7_feed_112 : decode tc_i7_feed.2.1 112 = .ok (.aload_n 0, 1) := by decide +kernel
theorem tc_d7_feed_113 : decode tc_i7_feed.2.1 113 = .ok (.getfield 228, 3) := by decide +kernel
theorem tc_d7_feed_116 : decode tc_i7_feed.2.1 116 = .ok (.ireturn, 1) := by decide +kernel
theorem tc_d7_film_0 : decode tc_i7_film.2.1 0 = .ok (.iload_n 1, 1) := by decide +kernel
theorem tc_d7_film_1 : decode tc_i7_film.2.1 1 = .ok (.invokestatic 222, 3) := by decide +kernel
theorem tc_d7_film_4 : decode tc_i7_film.2.1 4 = .ok (.ifCond .eq 21, 3) := by decide +kernel
theorem tc_d7_film_7 : decode tc_i7_film.2.1 7 = .ok (.aload_n 0, 1) := by decide +kernel
theorem tc_d7_film_8 : decode tc_i7_film.2.1 8 = .ok (.iload_n 2, 1) := by decide +kernel
theorem tc_d7_film_9 : decode tc_i7_film.2.1 9 = .ok (.invokevirtual 167, 3) := by decide +kernel
theorem tc_d7_film_12 : decode tc_i7_film.2.1 12 = .ok (.ifCond .eq 13, 3) := by decide +kernel
theorem tc_d7_film_15 : decode tc_i7_film.2.1 15 = .ok (.iload_n 3, 1) := by decide +kernel
theorem tc_d7_film_16 : decode tc_i7_film.2.1 16 = .ok (.iconst 0, 1) := by decide +kernel
theorem tc_d7_film_17 : decode tc_i7_film.2.1 17 = .ok (.bipush 10, 2) := by decide +kernel
theorem tc_d7_film_19 : decode tc_i7_film.2.1 19 = .ok (.invokestatic 96, 3) := by decide +kernel
theorem tc_d7_film_22 : decode tc_i7_film.2.1 22 = .ok (.ifCond .ne 6, 3) := by decide +kernel
theorem tc_d7_film_25 : decode tc_i7_film.2.1 25 = .ok (.bipush (-2), 2) := by decide +kernel
theorem tc_d7_film_27 : decode tc_i7_film.2.1 27 = .ok (.ireturn, 1) := by decide +kernel
theorem tc_d7_film_28 : decode tc_i7_film.2.1 28 = .ok (.aload_n 0, 1) := by decide +kernel
theorem tc_d7_film_29 : decode tc_i7_film.2.1 29 = .ok (.invokevirtual 187, 3) := by decide +kernel
theorem tc_d7_film_32 : decode tc_i7_film.2.1 32 = .ok (.iconst 1, 1) := by decide +kernel
theorem tc_d7_film_33 : decode tc_i7_film.2.1 33 = .ok (.istore 4, 2) := by decide +kernel
theorem tc_d7_film_35 : decode tc_i7_film.2.1 35 = .ok (.iconst 0, 1) := by decide +kernel
theorem tc_d7_film_36 : decode tc_i7_film.2.1 36 = .ok (.istore 5, 2) := by decide +kernel
theorem tc_d7_film_38 : decode tc_i7_film.2.1 38 = .ok (.iload 5, 2) := by decide +kernel
theorem tc_d7_film_40 : decode tc_i7_film.2.1 40 = .ok (.iload_n 3, 1) := by decide +kernel
theorem tc_d7_film_41 : decode tc_i7_film.2.1 41 = .ok (.if_icmp .ge 54, 3) := by decide +kernel
theorem tc_d7_film_44 : decode tc_i7_film.2.1 44 = .ok (.iload 4, 2) := by decide +kernel
theorem tc_d7_film_46 : decode tc_i7_film.2.1 46 = .ok (.ifCond .eq 49, 3) := by decide +kernel
theorem tc_d7_film_49 : decode tc_i7_film.2.1 49 = .ok (.aload_n 0, 1) := by decide +kernel
theorem tc_d7_film_50 : decode tc_i7_film.2.1 50 = .ok (.iconst 0, 1) := by decide +kernel
theorem tc_d7_film_51 : decode tc_i7_film.2.1 51 = .ok (.invokevirtual 180, 3) := by decide +kernel
theorem tc_d7_film_54 : decode tc_i7_film.2.1 54 = .ok (.ifCond .lt 7, 3) := by decide +kernel
theorem tc_d7_film_57 : decode tc_i7_film.2.1 57 = .ok (.iconst 1, 1) := by decide +kernel
theorem tc_d7_film_58 : decode tc_i7_film.2.1 58 = .ok (.goto 4, 3) := by decide +kernel
theorem tc_d7_film_61 : decode tc_i7_film.2.1 61 = .ok (.iconst 0, 1) := by decide +kernel
theorem tc_d7_film_62 : decode tc_i7_film.2.1 62 = .ok (.istore 4, 2) := by decide +kernel
theorem tc_d7_film_64 : decode tc_i7_film.2.1 64 = .ok (.aload_n 0, 1) := by decide +kernel
theorem tc_d7_film_65 : decode tc_i7_film.2.1 65 = .ok (.getfield 63, 3) := by decide +kernel
theorem tc_d7_film_68 : decode tc_i7_film.2.1 68 = .ok (.iload 5, 2) := by decide +kernel
theorem tc_d7_film_70 : decode tc_i7_film.2.1 70 = .ok (.aload_n 0, 1) := by decide +kernel
theorem tc_d7_film_71 : decode tc_i7_film.2.1 71 = .ok (.getfield 25, 3) := by decide +kernel
theorem tc_d7_film_74 : decode tc_i7_film.2.1 74 = .ok (.iload_n 2, 1) := by decide +kernel
theorem tc_d7_film_75 : decode tc_i7_film.2.1 75 = .ok (.baload, 1) := by decide +kernel
theorem tc_d7_film_76 : decode tc_i7_film.2.1 76 = .ok (.ifCond .eq 7, 3) := by decide +kernel
theorem tc_d7_film_79 : decode tc_i7_film.2.1 79 = .ok (.iconst 1, 1) := by decide +kernel
theorem tc_d7_film_80 : decode tc_i7_film.2.1 80 = .ok (.goto 4, 3) := by decide +kernel
theorem tc_d7_film_83 : decode tc_i7_film.2.1 83 = .ok (.iconst 0, 1) := by decide +kernel
theorem tc_d7_film_84 : decode tc_i7_film.2.1 84 = .ok (.iastore, 1) := by decide +kernel
theorem tc_d7_film_85 : decode tc_i7_film.2.1 85 = .ok (.aload_n 0, 1) := by decide +kernel
theorem tc_d7_film_86 : decode tc_i7_film.2.1 86 = .ok (.invokevirtual 170, 3) := by decide +kernel
theorem tc_d7_film_89 : decode tc_i7_film.2.1 89 = .ok (.iinc 5 1, 3) := by decide +kernel
theorem tc_d7_film_92 : decode tc_i7_film.2.1 92 = .ok (.goto (-54), 3) := by decide +kernel
theorem tc_d7_film_95 : decode tc_i7_film.2.1 95 = .ok (.aload_n 0, 1) := by decide +kernel
theorem tc_d7_film_96 : decode tc_i7_film.2.1 96 = .ok (.invokevirtual 195, 3) := by decide +kernel
theorem tc_d7_film_99 : decode tc_i7_film.2.1 99 = .ok (.iload 4, 2) := by decide +kernel
theorem tc_d7_film_101 : decode tc_i7_film.2.1 101 = .ok (.ifCond .ne 6, 3) := by decide +kernel
theorem tc_d7_film_104 : decode tc_i7_film.2.1 104 = .ok (.bipush (-3), 2) := by decide +kernel
theorem tc_d7_film_106 : decode tc_i7_film.2.1 106 = .ok (.ireturn, 1) := by decide +kernel
theorem tc_d7_film_107 : decode tc_i7_film.2.1 107 = .ok (.aload_n 0, 1) := by decide +kernel
theorem tc_d7_film_108 : decode tc_i7_film.2.1 108 = .ok (.getfield 54, 3) := by decide +kernel
theorem tc_d7_film_111 : decode tc_i7_film.2.1 111 = .ok (.iload_n 1, 1) := by decide +kernel
theorem tc_d7_film_112 : decode tc_i7_film.2.1 112 = .ok (.iconst 0, 1) := by decide +kernel
theorem tc_d7_film_113 : decode tc_i7_film.2.1 113 = .ok (.iastore, 1) := by decide +kernel
theorem tc_d7_film_114 : decode tc_i7_film.2.1 114 = .ok (.aload_n 0, 1) := by decide +kernel
theorem tc_d7_film_115 : decode tc_i7_film.2.1 115 = .ok (.getfield 57, 3) := by decide +kernel
theorem tc_d7_film_118 : decode tc_i7_film.2.1 118 = .ok (.iload_n 1, 1) := by decide +kernel
theorem tc_d7_film_119 : decode tc_i7_film.2.1 119 = .ok (.iload_n 3, 1) := by decide +kernel
theorem tc_d7_film_120 : decode tc_i7_film.2.1 120 = .ok (.iastore, 1) := by decide +kernel
theorem tc_d7_film_121 : decode tc_i7_film.2.1 121 = .ok (.iconst 0, 1) := by decide +kernel
theorem tc_d7_film_122 : decode tc_i7_film.2.1 122 = .ok (.istore 5, 2) := by decide +kernel
theorem tc_d7_film_124 : decode tc_i7_film.2.1 124 = .ok (.iload 5, 2) := by decide +kernel
theorem tc_d7_film_126 : decode tc_i7_film.2.1 126 = .ok (.iload_n 3, 1) := by decide +kernel
theorem tc_d7_film_127 : decode tc_i7_film.2.1 127 = .ok (.if_icmp .ge 28, 3) := by decide +kernel
theorem tc_d7_film_130 : decode tc_i7_film.2.1 130 = .ok (.aload_n 0, 1) := by decide +kernel
theorem tc_d7_film_131 : decode tc_i7_film.2.1 131 = .ok (.getfield 60, 3) := by decide +kernel
theorem tc_d7_film_134 : decode tc_i7_film.2.1 134 = .ok (.bipush 40, 2) := by decide +kernel
theorem tc_d7_film_136 : decode tc_i7_film.2.1 136 = .ok (.iload_n 1, 1) := by decide +kernel
theorem tc_d7_film_137 : decode tc_i7_film.2.1 137 = .ok (.imul, 1) := by decide +kernel
theorem tc_d7_film_138 : decode tc_i7_film.2.1 138 = .ok (.iload 5, 2) := by decide +kernel
theorem tc_d7_film_140 : decode tc_i7_film.2.1 140 = .ok (.iadd, 1) := by decide +kernel
theorem tc_d7_film_141 : decode tc_i7_film.2.1 141 = .ok (.aload_n 0, 1) := by decide +kernel
theorem tc_d7_film_142 : decode tc_i7_film.2.1 142 = .ok (.getfield 63, 3) := by decide +kernel
theorem tc_d7_film_145 : decode tc_i7_film.2.1 145 = .ok (.iload 5, 2) := by decide +kernel
theorem tc_d7_film_147 : decode tc_i7_film.2.1 147 = .ok (.iaload, 1) := by decide +kernel
theorem tc_d7_film_148 : decode tc_i7_film.2.1 148 = .ok (.iastore, 1) := by decide +kernel
theorem tc_d7_film_149 : decode tc_i7_film.2.1 149 = .ok (.iinc 5 1, 3) := by decide +kernel
theorem tc_d7_film_152 : decode tc_i7_film.2.1 152 = .ok (.goto (-28), 3) := by decide +kernel
theorem tc_d7_film_155 : decode tc_i7_film.2.1 155 = .ok (.iload_n 3, 1) := by decide +kernel
theorem tc_d7_film_156 : decode tc_i7_film.2.1 156 = .ok (.ireturn, 1) := by decide +kernel
theorem tc_d7_fix_0 : decode tc_i7_fix.2.1 0 = .ok (.aload_n 0, 1) := by decide +kernel
theorem tc_d7_fix_1 : decode tc_i7_fix.2.1 1 = .ok (.invokevirtual 214, 3) := by decide +kernel
theorem tc_d7_fix_4 : decode tc_i7_fix.2.1 4 = .ok (.istore_n 1, 1) := by decide +kernel
theorem tc_d7_fix_5 : decode tc_i7_fix.2.1 5 = .ok (.iconst (-1), 1) := by decide +kernel
theorem tc_d7_fix_6 : decode tc_i7_fix.2.1 6 = .ok (.istore_n 2, 1) := by decide +kernel
theorem tc_d7_fix_7 : decode tc_i7_fix.2.1 7 = .ok (.iconst 0, 1) := by decide +kernel
theorem tc_d7_fix_8 : decode tc_i7_fix.2.1 8 = .ok (.istore_n 3, 1) := by decide +kernel
theorem tc_d7_fix_9 : decode tc_i7_fix.2.1 9 = .ok (.iload_n 3, 1) := by decide +kernel
theorem tc_d7_fix_10 : decode tc_i7_fix.2.1 10 = .ok (.aload_n 0, 1) := by decide +kernel
theorem tc_d7_fix_11 : decode tc_i7_fix.2.1 11 = .ok (.getfield 100, 3) := by decide +kernel
theorem tc_d7_fix_14 : decode tc_i7_fix.2.1 14 = .ok (.if_icmp .ge 31, 3) := by decide +kernel
theorem tc_d7_fix_17 : decode tc_i7_fix.2.1 17 = .ok (.aload_n 0, 1) := by decide +kernel
theorem tc_d7_fix_18 : decode tc_i7_fix.2.1 18 = .ok (.iload_n 3, 1) := by decide +kernel
theorem tc_d7_fix_19 : decode tc_i7_fix.2.1 19 = .ok (.putfield 44, 3) := by decide +kernel
theorem tc_d7_fix_22 : decode tc_i7_fix.2.1 22 = .ok (.aload_n 0, 1) := by decide +kernel
theorem tc_d7_fix_23 : decode tc_i7_fix.2.1 23 = .ok (.invokevirtual 214, 3) := by decide +kernel
theorem tc_d7_fix_26 : decode tc_i7_fix.2.1 26 = .ok (.istore 4, 2) := by decide +kernel
theorem tc_d7_fix_28 : decode tc_i7_fix.2.1 28 = .ok (.iload 4, 2) := by decide +kernel
theorem tc_d7_fix_30 : decode tc_i7_fix.2.1 30 = .ok (.iload_n 1, 1) := by decide +kernel
theorem tc_d7_fix_31 : decode tc_i7_fix.2.1 31 = .ok (.if_icmp .ge 8, 3) := by decide +kernel
theorem tc_d7_fix_34 : decode tc_i7_fix.2.1 34 = .ok (.iload 4, 2) := by decide +kernel
theorem tc_d7_fix_36 : decode tc_i7_fix.2.1 36 = .ok (.istore_n 1, 1) := by decide +kernel
theorem tc_d7_fix_37 : decode tc_i7_fix.2.1 37 = .ok (.iload_n 3, 1) := by decide +kernel
theorem tc_d7_fix_38 : decode tc_i7_fix.2.1 38 = .ok (.istore_n 2, 1) := by decide +kernel
theorem tc_d7_fix_39 : decode tc_i7_fix.2.1 39 = .ok (.iinc 3 1, 3) := by decide +kernel
theorem tc_d7_fix_42 : decode tc_i7_fix.2.1 42 = .ok (.goto (-33), 3) := by decide +kernel
theorem tc_d7_fix_45 : decode tc_i7_fix.2.1 45 = .ok (.aload_n 0, 1) := by decide +kernel
theorem tc_d7_fix_46 : decode tc_i7_fix.2.1 46 = .ok (.iconst (-1), 1) := by decide +kernel
theorem tc_d7_fix_47 : decode tc_i7_fix.2.1 47 = .ok (.putfield 44, 3) := by decide +kernel
theorem tc_d7_fix_50 : decode tc_i7_fix.2.1 50 = .ok (.iload_n 2, 1) := by decide +kernel
theorem tc_d7_fix_51 : decode tc_i7_fix.2.1 51 = .ok (.ireturn, 1) := by decide +kernel
theorem tc_d7_force_0 : decode tc_i7_force.2.1 0 = .ok (.aload_n 0, 1) := by decide +kernel
theorem tc_d7_force_1 : decode tc_i7_force.2.1 1 = .ok (.iload_n 1, 1) := by decide +kernel
theorem tc_d7_force_2 : decode tc_i7_force.2.1 2 = .ok (.invokevirtual 167, 3) := by decide +kernel
theorem tc_d7_force_5 : decode tc_i7_force.2.1 5 = .ok (.ifCond .eq 12, 3) := by decide +kernel
theorem tc_d7_force_8 : decode tc_i7_force.2.1 8 = .ok (.iload_n 2, 1) := by decide +kernel
theorem tc_d7_force_9 : decode tc_i7_force.2.1 9 = .ok (.iconst 0, 1) := by decide +kernel
theorem tc_d7_force_10 : decode tc_i7_force.2.1 10 = .ok (.iconst 1, 1) := by decide +kernel
theorem tc_d7_force_11 : decode tc_i7_force.2.1 11 = .ok (.invokestatic 96, 3) := by decide +kernel
theorem tc_d7_force_14 : decode tc_i7_force.2.1 14 = .ok (.ifCond .ne 6, 3) := by decide +kernel
theorem tc_d7_force_17 : decode tc_i7_force.2.1 17 = .ok (.bipush (-2), 2) := by decide +kernel
theorem tc_d7_force_19 : decode tc_i7_force.2.1 19 = .ok (.ireturn, 1) := by decide +kernel
theorem tc_d7_force_20 : decode tc_i7_force.2.1 20 = .ok (.aload_n 0, 1) := by decide +kernel
theorem tc_d7_force_21 : decode tc_i7_force.2.1 21 = .ok (.getfield 25, 3) := by decide +kernel
theorem tc_d7_force_24 : decode tc_i7_force.2.1 24 = .ok (.iload_n 1, 1) := by decide +kernel
theorem tc_d7_force_25 : decode tc_i7_force.2.1 25 = .ok (.baload, 1) := by decide +kernel
theorem tc_d7_force_26 : decode tc_i7_force.2.1 26 = .ok (.ifCond .eq 7, 3) := by decide +kernel
theorem tc_d7_force_29 : decode tc_i7_force.2.1 29 = .ok (.iconst 1, 1) := by decide +kernel
theorem tc_d7_force_30 : decode tc_i7_force.2.1 30 = .ok (.goto 4, 3) := by decide +kernel
theorem tc_d7_force_33 : decode tc_i7_force.2.1 33 = .ok (.iconst 0, 1) := by decide +kernel
theorem tc_d7_force_34 : decode tc_i7_force.2.1 34 = .ok (.istore_n 3, 1) := by decide +kernel
theorem tc_d7_force_35 : decode tc_i7_force.2.1 35 = .ok (.aload_n 0, 1) := by decide +kernel
theorem tc_d7_force_36 : decode tc_i7_force.2.1 36 = .ok (.getfield 25, 3) := by decide +kernel
theorem tc_d7_force_39 : decode tc_i7_force.2.1 39 = .ok (.iload_n 1, 1) := by decide +kernel
theorem tc_d7_force_40 : decode tc_i7_force.2.1 40 = .ok (.iload_n 2, 1) := by decide +kernel
theorem tc_d7_force_41 : decode tc_i7_force.2.1 41 = .ok (.iconst 1, 1) := by decide +kernel
theorem tc_d7_force_42 : decode tc_i7_force.2.1 42 = .ok (.if_icmp .ne 7, 3) := by decide +kernel
theorem tc_d7_force_45 : decode tc_i7_force.2.1 45 = .ok (.iconst 1, 1) := by decide +kernel
theorem tc_d7_force_46 : decode tc_i7_force.2.1 46 = .ok (.goto 4, 3) := by decide +kernel
theorem tc_d7_force_49 : decode tc_i7_force.2.1 49 = .ok (.iconst 0, 1) := by decide +kernel
theorem tc_d7_force_50 : decode tc_i7_force.2.1 50 = .ok (.bastore, 1) := by decide +kernel
theorem tc_d7_force_51 : decode tc_i7_force.2.1 51 = .ok (.aload_n 0, 1) := by decide +kernel
theorem tc_d7_force_52 : decode tc_i7_force.2.1 52 = .ok (.getfield 22, 3) := by decide +kernel
theorem tc_d7_force_55 : decode tc_i7_force.2.1 55 = .ok (.iload_n 1, 1) := by decide +kernel
theorem tc_d7_force_56 : decode tc_i7_force.2.1 56 = .ok (.iconst 0, 1) := by decide +kernel
theorem tc_d7_force_57 : decode tc_i7_force.2.1 57 = .ok (.iastore, 1) := by decide +kernel
theorem tc_d7_force_58 : decode tc_i7_force.2.1 58 = .ok (.iload_n 3, 1) := by decide +kernel
theorem tc_d7_force_59 : decode tc_i7_force.2.1 59 = .ok (.ireturn, 1) := by decide +kernel
theorem tc_d7_image_0 : decode tc_i7_image.2.1 0 = .ok (.aload_n 0, 1) := by decide +kernel
theorem tc_d7_image_1 : decode tc_i7_image.2.1 1 = .ok (.iconst 1, 1) := by decide +kernel
theorem tc_d7_image_2 : decode tc_i7_image.2.1 2 = .ok (.putfield 313, 3) := by decide +kernel
theorem tc_d7_image_5 : decode tc_i7_image.2.1 5 = .ok (.iconst 0, 1) := by decide +kernel
theorem tc_d7_image_6 : decode tc_i7_image.2.1 6 = .ok (.istore_n 1, 1) := by decide +kernel
theorem tc_d7_image_7 : decode tc_i7_image.2.1 7 = .ok (.iload_n 1, 1) := by decide +kernel
theorem tc_d7_image_8 : decode tc_i7_image.2.1 8 = .ok (.bipush 8, 2) := by decide +kernel
theorem tc_d7_image_10 : decode tc_i7_image.2.1 10 = .ok (.if_icmp .ge 127, 3) := by decide +kernel
theorem tc_d7_image_13 : decode tc_i7_image.2.1 13 = .ok (.aload_n 0, 1) := by decide +kernel
theorem tc_d7_image_14 : decode tc_i7_image.2.1 14 = .ok (.getfield 90, 3) := by decide +kernel
theorem tc_d7_image_17 : decode tc_i7_image.2.1 17 = .ok (.iload_n 1, 1) := by decide +kernel
theorem tc_d7_image_18 : decode tc_i7_image.2.1 18 = .ok (.aload_n 0, 1) := by decide +kernel
theorem tc_d7_image_19 : decode tc_i7_image.2.1 19 = .ok (.getfield 7, 3) := by decide +kernel
theorem tc_d7_image_22 : decode tc_i7_image.2.1 22 = .ok (.iload_n 1, 1) := by decide +kernel
theorem tc_d7_image_23 : decode tc_i7_image.2.1 23 = .ok (.iaload, 1) := by decide +kernel
theorem tc_d7_image_24 : decode tc_i7_image.2.1 24 = .ok (.iastore, 1) := by decide +kernel
theorem tc_d7_image_25 : decode tc_i7_image.2.1 25 = .ok (.aload_n 0, 1) := by decide +kernel
theorem tc_d7_image_26 : decode tc_i7_image.2.1 26 = .ok (.getfield 90, 3) := by decide +kernel
theorem tc_d7_image_29 : decode tc_i7_image.2.1 29 = .ok (.bipush 8, 2) := by decide +kernel
theorem tc_d7_image_31 : decode tc_i7_image.2.1 31 = .ok (.iload_n 1, 1) := by decide +kernel
theorem tc_d7_image_32 : decode tc_i7_image.2.1 32 = .ok (.iadd, 1) := by decide +kernel
theorem tc_d7_image_33 : decode tc_i7_image.2.1 33 = .ok (.aload_n 0, 1) := by decide +kernel
theorem tc_d7_image_34 : decode tc_i7_image.2.1 34 = .ok (.getfield 13, 3) := by decide +kernel
theorem tc_d7_image_37 : decode tc_i7_image.2.1 37 = .ok (.iload_n 1, 1) := by decide +kernel
theorem tc_d7_image_38 : decode tc_i7_image.2.1 38 = .ok (.iaload, 1) := by decide +kernel
theorem tc_d7_image_39 : decode tc_i7_image.2.1 39 = .ok (.iastore, 1) := by decide +kernel
theorem tc_d7_image_40 : decode tc_i7_image.2.1 40 = .ok (.aload_n 0, 1) := by decide +kernel
theorem tc_d7_image_41 : decode tc_i7_image.2.1 41 = .ok (.getfield 90, 3) := by decide +kernel
theorem tc_d7_image_44 : decode tc_i7_image.2.1 44 = .ok (.bipush 16, 2) := by decide +kernel
theorem tc_d7_image_46 : decode tc_i7_image.2.1 46 = .ok (.iload_n 1, 1) := by decide +kernel
theorem tc_d7_image_47 : decode tc_i7_image.2.1 47 = .ok (.iadd, 1) := by decide +kernel
theorem tc_d7_image_48 : decode tc_i7_image.2.1 48 = .ok (.aload_n 0, 1) := by decide +kernel
theorem tc_d7_image_49 : decode tc_i7_image.2.1 49 = .ok (.getfield 16, 3) := by decide +kernel
theorem tc_d7_image_52 : decode tc_i7_image.2.1 52 = .ok (.iload_n 1, 1) := by decide +kernel
theorem tc_d7_image_53 : decode tc_i7_image.2.1 53 = .ok (.iaload, 1) := by decide +kernel
theorem tc_d7_image_54 : decode tc_i7_image.2.1 54 = .ok (.iastore, 1) := by decide +kernel
theorem tc_d7_image_55 : decode tc_i7_image.2.1 55 = .ok (.aload_n 0, 1) := by decide +kernel
theorem tc_d7_image_56 : decode tc_i7_image.2.1 56 = .ok (.getfield 90, 3) := by decide +kernel
theorem tc_d7_image_59 : decode tc_i7_image.2.1 59 = .ok (.bipush 24, 2) := by decide +kernel
theorem tc_d7_image_61 : decode tc_i7_image.2.1 61 = .ok (.iload_n 1, 1) := by decide +kernel
theorem tc_d7_image_62 : decode tc_i7_image.2.1 62 = .ok (.iadd, 1) := by decide +kernel
theorem tc_d7_image_63 : decode tc_i7_image.2.1 63 = .ok (.aload_n 0, 1) := by decide +kernel
theorem tc_d7_image_64 : decode tc_i7_image.2.1 64 = .ok (.getfield 19, 3) := by decide +kernel
theorem tc_d7_image_67 : decode tc_i7_image.2.1 67 = .ok (.iload_n 1, 1) := by decide +kernel
theorem tc_d7_image_68 : decode tc_i7_image.2.1 68 = .ok (.iaload, 1) := by decide +kernel
theorem tc_d7_image_69 : decode tc_i7_image.2.1 69 = .ok (.iastore, 1) := by decide +kernel
theorem tc_d7_image_70 : decode tc_i7_image.2.1 70 = .ok (.aload_n 0, 1) := by decide +kernel
theorem tc_d7_image_71 : decode tc_i7_image.2.1 71 = .ok (.getfield 90, 3) := by decide +kernel
theorem tc_d7_image_74 : decode tc_i7_image.2.1 74 = .ok (.bipush 32, 2) := by decide +kernel
theorem tc_d7_image_76 : decode tc_i7_image.2.1 76 = .ok (.iload_n 1, 1) := by decide +kernel
theorem tc_d7_image_77 : decode tc_i7_image.2.1 77 = .ok (.iadd, 1) := by decide +kernel
theorem tc_d7_image_78 : decode tc_i7_image.2.1 78 = .ok (.aload_n 0, 1) := by decide +kernel
theorem tc_d7_image_79 : decode tc_i7_image.2.1 79 = .ok (.getfield 22, 3) := by decide +kernel
theorem tc_d7_image_82 : decode tc_i7_image.2.1 82 = .ok (.iload_n 1, 1) := by decide +kernel
theorem tc_d7_image_83 : decode tc_i7_image.2.1 83 = .ok (.iaload, 1) := by decide +kernel
theorem tc_d7_image_84 : decode tc_i7_image.2.1 84 = .ok (.iastore, 1) := by decide +kernel
theorem tc_d7_image_85 : decode tc_i7_image.2.1 85 = .ok (.aload_n 0, 1) := by decide +kernel
theorem tc_d7_image_86 : decode tc_i7_image.2.1 86 = .ok (.getfield 90, 3) := by decide +kernel
theorem tc_d7_image_89 : decode tc_i7_image.2.1 89 = .ok (.bipush 40, 2) := by decide +kernel
theorem tc_d7_image_91 : decode tc_i7_image.2.1 91 = .ok (.iload_n 1, 1) := by decide +kernel
theorem tc_d7_image_92 : decode tc_i7_image.2.1 92 = .ok (.iadd, 1) := by decide +kernel
theorem tc_d7_image_93 : decode tc_i7_image.2.1 93 = .ok (.aload_n 0, 1) := by decide +kernel
theorem tc_d7_image_94 : decode tc_i7_image.2.1 94 = .ok (.getfield 25, 3) := by decide +kernel
theorem tc_d7_image_97 : decode tc_i7_image.2.1 97 = .ok (.iload_n 1, 1) := by decide +kernel
theorem tc_d7_image_98 : decode tc_i7_image.2.1 98 = .ok (.baload, 1) := by decide +kernel
theorem tc_d7_image_99 : decode tc_i7_image.2.1 99 = .ok (.ifCond .eq 7, 3) := by decide +kernel
theorem tc_d7_image_102 : decode tc_i7_image.2.1 102 = .ok (.iconst 1, 1) := by decide +kernel
theorem tc_d7_image_103 : decode tc_i7_image.2.1 103 = .ok (.goto 4, 3) := by decide +kernel
theorem tc_d7_image_106 : decode tc_i7_image.2.1 106 = .ok (.iconst 0, 1) := by decide +kernel
theorem tc_d7_image_107 : decode tc_i7_image.2.1 107 = .ok (.iastore, 1) := by decide +kernel
theorem tc_d7_image_108 : decode tc_i7_image.2.1 108 = .ok (.aload_n 0, 1) := by decide +kernel
theorem tc_d7_image_109 : decode tc_i7_image.2.1 109 = .ok (.getfield 90, 3) := by decide +kernel
theorem tc_d7_image_112 : decode tc_i7_image.2.1 112 = .ok (.bipush 48, 2) := by decide +kernel
theorem tc_d7_image_114 : decode tc_i7_image.2.1 114 = .ok (.iload_n 1, 1) := by decide +kernel
theorem tc_d7_image_115 : decode tc_i7_image.2.1 115 = .ok (.iadd, 1) := by decide +kernel
theorem tc_d7_image_116 : decode tc_i7_image.2.1 116 = .ok (.aload_n 0, 1) := by decide +kernel
theorem tc_d7_image_117 : decode tc_i7_image.2.1 117 = .ok (.getfield 29, 3) := by decide +kernel
theorem tc_d7_image_120 : decode tc_i7_image.2.1 120 = .ok (.iload_n 1, 1) := by decide +kernel
theorem tc_d7_image_121 : decode tc_i7_image.2.1 121 = .ok (.baload, 1) := by decide +kernel
theorem tc_d7_image_122 : decode tc_i7_image.2.1 122 = .ok (.ifCond .eq 7, 3) := by decide +kernel
theorem tc_d7_image_125 : decode tc_i7_image.2.1 125 = .ok (.iconst 1, 1) := by decide +kernel
theorem tc_d7_image_126 : decode tc_i7_image.2.1 126 = .ok (.goto 4, 3) := by decide +kernel
theorem tc_d7_image_129 : decode tc_i7_image.2.1 129 = .ok (.iconst 0, 1) := by decide +kernel
theorem tc_d7_image_130 : decode tc_i7_image.2.1 130 = .ok (.iastore, 1) := by decide +kernel
theorem tc_d7_image_131 : decode tc_i7_image.2.1 131 = .ok (.iinc 1 1, 3) := by decide +kernel
theorem tc_d7_image_134 : decode tc_i7_image.2.1 134 = .ok (.goto (-127), 3) := by decide +kernel
theorem tc_d7_image_137 : decode tc_i7_image.2.1 137 = .ok (.iconst 0, 1) := by decide +kernel
theorem tc_d7_image_138 : decode tc_i7_image.2.1 138 = .ok (.istore_n 1, 1) := by decide +kernel
theorem tc_d7_image_139 : decode tc_i7_image.2.1 139 = .ok (.iload_n 1, 1) := by decide +kernel
theorem tc_d7_image_140 : decode tc_i7_image.2.1 140 = .ok (.bipush 6, 2) := by decide +kernel
theorem tc_d7_image_142 : decode tc_i7_image.2.1 142 = .ok (.if_icmp .ge 54, 3) := by decide +kernel
theorem tc_d7_image_145 : decode tc_i7_image.2.1 145 = .ok (.aload_n 0, 1) := by decide +kernel
theorem tc_d7_image_146 : decode tc_i7_image.2.1 146 = .ok (.getfield 90, 3) := by decide +kernel
theorem tc_d7_image_149 : decode tc_i7_image.2.1 149 = .ok (.bipush 56, 2) := by decide +kernel
theorem tc_d7_image_151 : decode tc_i7_image.2.1 151 = .ok (.iload_n 1, 1) := by decide +kernel
theorem tc_d7_image_152 : decode tc_i7_image.2.1 152 = .ok (.iadd, 1) := by decide +kernel
theorem tc_d7_image_153 : decode tc_i7_image.2.1 153 = .ok (.aload_n 0, 1) := by decide +kernel
theorem tc_d7_image_154 : decode tc_i7_image.2.1 154 = .ok (.getfield 35, 3) := by decide +kernel
theorem tc_d7_image_157 : decode tc_i7_image.2.1 157 = .ok (.iload_n 1, 1) := by decide +kernel
theorem tc_d7_image_158 : decode tc_i7_image.2.1 158 = .ok (.iaload, 1) := by decide +kernel
theorem tc_d7_image_159 : decode tc_i7_image.2.1 159 = .ok (.iastore, 1) := by decide +kernel
theorem tc_d7_image_160 : decode tc_i7_image.2.1 160 = .ok (.aload_n 0, 1) := by decide +kernel
theorem tc_d7_image_161 : decode tc_i7_image.2.1 161 = .ok (.getfield 90, 3) := by decide +kernel
theorem tc_d7_image_164 : decode tc_i7_image.2.1 164 = .ok (.bipush 62, 2) := by decide +kernel
theorem tc_d7_image_166 : decode tc_i7_image.2.1 166 = .ok (.iload_n 1, 1) := by decide +kernel
theorem tc_d7_image_167 : decode tc_i7_image.2.1 167 = .ok (.iadd, 1) := by decide +kernel
theorem tc_d7_image_168 : decode tc_i7_image.2.1 168 = .ok (.aload_n 0, 1) := by decide +kernel
theorem tc_d7_image_169 : decode tc_i7_image.2.1 169 = .ok (.getfield 38, 3) := by decide +kernel
theorem tc_d7_image_172 : decode tc_i7_image.2.1 172 = .ok (.iload_n 1, 1) := by decide +kernel
theorem tc_d7_image_173 : decode tc_i7_image.2.1 173 = .ok (.iaload, 1) := by decide +kernel
theorem tc_d7_image_174 : decode tc_i7_image.2.1 174 = .ok (.iastore, 1) := by decide +kernel
theorem tc_d7_image_175 : decode tc_i7_image.2.1 175 = .ok (.aload_n 0, 1) := by decide +kernel
theorem tc_d7_image_176 : decode tc_i7_image.2.1 176 = .ok (.getfield 90, 3) := by decide +kernel
theorem tc_d7_image_179 : decode tc_i7_image.2.1 179 = .ok (.bipush 68, 2) := by decide +kernel
theorem tc_d7_image_181 : decode tc_i7_image.2.1 181 = .ok (.iload_n 1, 1) := by decide +kernel
theorem tc_d7_image_182 : decode tc_i7_image.2.1 182 = .ok (.iadd, 1) := by decide +kernel
theorem tc_d7_image_183 : decode tc_i7_image.2.1 183 = .ok (.aload_n 0, 1) := by decide +kernel
theorem tc_d7_image_184 : decode tc_i7_image.2.1 184 = .ok (.getfield 41, 3) := by decide +kernel
theorem tc_d7_image_187 : decode tc_i7_image.2.1 187 = .ok (.iload_n 1, 1) := by decide +kernel
theorem tc_d7_image_188 : decode tc_i7_image.2.1 188 = .ok (.iaload, 1) := by decide +kernel
theorem tc_d7_image_189 : decode tc_i7_image.2.1 189 = .ok (.iastore, 1) := by decide +kernel
theorem tc_d7_image_190 : decode tc_i7_image.2.1 190 = .ok (.iinc 1 1, 3) := by decide +kernel
theorem tc_d7_image_193 : decode tc_i7_image.2.1 193 = .ok (.goto (-54), 3) := by decide +kernel
theorem tc_d7_image_196 : decode tc_i7_image.2.1 196 = .ok (.iconst 0, 1) := by decide +kernel
theorem tc_d7_image_197 : decode tc_i7_image.2.1 197 = .ok (.istore_n 1, 1) := by decide +kernel
theorem tc_d7_image_198 : decode tc_i7_image.2.1 198 = .ok (.iload_n 1, 1) := by decide +kernel
theorem tc_d7_image_199 : decode tc_i7_image.2.1 199 = .ok (.iconst 3, 1) := by decide +kernel
theorem tc_d7_image_200 : decode tc_i7_image.2.1 200 = .ok (.if_icmp .ge 24, 3) := by decide +kernel
theorem tc_d7_image_203 : decode tc_i7_image.2.1 203 = .ok (.aload_n 0, 1) := by decide +kernel
theorem tc_d7_image_204 : decode tc_i7_image.2.1 204 = .ok (.getfield 90, 3) := by decide +kernel
theorem tc_d7_image_207 : decode tc_i7_image.2.1 207 = .ok (.bipush 74, 2) := by decide +kernel
theorem tc_d7_image_209 : decode tc_i7_image.2.1 209 = .ok (.iload_n 1, 1) := by decide +kernel
theorem tc_d7_image_210 : decode tc_i7_image.2.1 210 = .ok (.iadd, 1) := by decide +kernel
theorem tc_d7_image_211 : decode tc_i7_image.2.1 211 = .ok (.aload_n 0, 1) := by decide +kernel
theorem tc_d7_image_212 : decode tc_i7_image.2.1 212 = .ok (.getfield 32, 3) := by decide +kernel
theorem tc_d7_image_215 : decode tc_i7_image.2.1 215 = .ok (.iload_n 1, 1) := by decide +kernel
theorem tc_d7_image_216 : decode tc_i7_image.2.1 216 = .ok (.iaload, 1) := by decide +kernel
theorem tc_d7_image_217 : decode tc_i7_image.2.1 217 = .ok (.iastore, 1) := by decide +kernel
theorem tc_d7_image_218 : decode tc_i7_image.2.1 218 = .ok (.iinc 1 1, 3) := by decide +kernel
theorem tc_d7_image_221 : decode tc_i7_image.2.1 221 = .ok (.goto (-23), 3) := by decide +kernel
theorem tc_d7_image_224 : decode tc_i7_image.2.1 224 = .ok (.aload_n 0, 1) := by decide +kernel
theorem tc_d7_image_225 : decode tc_i7_image.2.1 225 = .ok (.getfield 90, 3) := by decide +kernel
theorem tc_d7_image_228 : decode tc_i7_image.2.1 228 = .ok (.bipush 77, 2) := by decide +kernel
theorem tc_d7_image_230 : decode tc_i7_image.2.1 230 = .ok (.aload_n 0, 1) := by decide +kernel
theorem tc_d7_image_231 : decode tc_i7_image.2.1 231 = .ok (.getfield 93, 3) := by decide +kernel
theorem tc_d7_image_234 : decode tc_i7_image.2.1 234 = .ok (.iastore, 1) := by decide +kernel
theorem tc_d7_image_235 : decode tc_i7_image.2.1 235 = .ok (.aload_n 0, 1) := by decide +kernel
theorem tc_d7_image_236 : decode tc_i7_image.2.1 236 = .ok (.getfield 90, 3) := by decide +kernel
theorem tc_d7_image_239 : decode tc_i7_image.2.1 239 = .ok (.bipush 78, 2) := by decide +kernel
theorem tc_d7_image_241 : decode tc_i7_image.2.1 241 = .ok (.aload_n 0, 1) := by decide +kernel
theorem tc_d7_image_242 : decode tc_i7_image.2.1 242 = .ok (.getfield 100, 3) := by decide +kernel
theorem tc_d7_image_245 : decode tc_i7_image.2.1 245 = .ok (.iastore, 1) := by decide +kernel
theorem tc_d7_image_246 : decode tc_i7_image.2.1 246 = .ok (.aload_n 0, 1) := by decide +kernel
theorem tc_d7_image_247 : decode tc_i7_image.2.1 247 = .ok (.getfield 93, 3) := by decide +kernel
theorem tc_d7_image_250 : decode tc_i7_image.2.1 250 = .ok (.ireturn, 1) := by decide +kernel
theorem tc_d7_isDigitHere_0 : decode tc_i7_isDigitHere.2.1 0 = .ok (.aload_n 0, 1) := by decide +kernel
theorem tc_d7_isDigitHere_1 : decode tc_i7_isDigitHere.2.1 1 = .ok (.getfield 252, 3) := by decide +kernel
theorem tc_d7_isDigitHere_4 : decode tc_i7_isDigitHere.2.1 4 = .ok (.aload_n 0, 1) := by decide +kernel
theorem tc_d7_isDigitHere_5 : decode tc_i7_isDigitHere.2.1 5 = .ok (.getfield 228, 3) := by decide +kernel
theorem tc_d7_isDigitHere_8 : decode tc_i7_isDigitHere.2.1 8 = .ok (.if_icmp .ge 26, 3) := by decide +kernel
theorem tc_d7_isDigitHere_11 : decode tc_i7_isDigitHere.2.1 11 = .ok (.aload_n 0, 1) := by decide +kernel
theorem tc_d7_isDigitHere_12 : decode tc_i7_isDigitHere.2.1 12 = .ok (.getfield 51, 3) := by decide +kernel
theorem tc_d7_isDigitHere_15 : decode tc_i7_isDigitHere.2.1 15 = .ok (.aload_n 0, 1) := by decide +kernel
theorem tc_d7_isDigitHere_16 : decode tc_i7_isDigitHere.2.1 16 = .ok (.getfield 252, 3) := by decide +kernel
theorem tc_d7_isDigitHere_19 : decode tc_i7_isDigitHere.2.1 19 = .ok (.iaload, 1) := by decide +kernel
theorem tc_d7_isDigitHere_20 : decode tc_i7_isDigitHere.2.1 20 = .ok (.bipush 48, 2) := by decide +kernel
theorem tc_d7_isDigitHere_22 : decode tc_i7_isDigitHere.2.1 22 = .ok (.bipush 57, 2) := by decide +kernel
theorem tc_d7_isDigitHere_24 : decode tc_i7_isDigitHere.2.1 24 = .ok (.invokestatic 96, 3) := by decide +kernel
theorem tc_d7_isDigitHere_27 : decode tc_i7_isDigitHere.2.1 27 = .ok (.ifCond .eq 7, 3) := by decide +kernel
theorem tc_d7_isDigitHere_30 : decode tc_i7_isDigitHere.2.1 30 = .ok (.iconst 1, 1) := by decide +kernel
theorem tc_d7_isDigitHere_31 : decode tc_i7_isDigitHere.2.1 31 = .ok (.goto 4, 3) := by decide +kernel
theorem tc_d7_isDigitHere_34 : decode tc_i7_isDigitHere.2.1 34 = .ok (.iconst 0, 1) := by decide +kernel
theorem tc_d7_isDigitHere_35 : decode tc_i7_isDigitHere.2.1 35 = .ok (.ireturn, 1) := by decide +kernel
theorem tc_d7_isLetterHere_0 : decode tc_i7_isLetterHere.2.1 0 = .ok (.aload_n 0, 1) := by decide +kernel
theorem tc_d7_isLetterHere_1 : decode tc_i7_isLetterHere.2.1 1 = .ok (.getfield 252, 3) := by decide +kernel
theorem tc_d7_isLetterHere_4 : decode tc_i7_isLetterHere.2.1 4 = .ok (.aload_n 0, 1) := by decide +kernel
theorem tc_d7_isLetterHere_5 : decode tc_i7_isLetterHere.2.1 5 = .ok (.getfield 228, 3) := by decide +kernel
theorem tc_d7_isLetterHere_8 : decode tc_i7_isLetterHere.2.1 8 = .ok (.if_icmp .ge 26, 3) := by decide +kernel
theorem tc_d7_isLetterHere_11 : decode tc_i7_isLetterHere.2.1 11 = .ok (.aload_n 0, 1) := by decide +kernel
theorem tc_d7_isLetterHere_12 : decode tc_i7_isLetterHere.2.1 12 = .ok (.getfield 51, 3) := by decide +kernel
theorem tc_d7_isLetterHere_15 : decode tc_i7_isLetterHere.2.1 15 = .ok (.aload_n 0, 1) := by decide +kernel
theorem tc_d7_isLetterHere_16 : decode tc_i7_isLetterHere.2.1 16 = .ok (.getfield 252, 3) := by decide +kernel
theorem tc_d7_isLetterHere_19 : decode tc_i7_isLetterHere.2.1 19 = .ok (.iaload, 1) := by decide +kernel
theorem tc_d7_isLetterHere_20 : decode tc_i7_isLetterHere.2.1 20 = .ok (.bipush 97, 2) := by decide +kernel
theorem tc_d7_isLetterHere_22 : decode tc_i7_isLetterHere.2.1 22 = .ok (.bipush 122, 2) := by decide +kernel
theorem tc_d7_isLetterHere_24 : decode tc_i7_isLetterHere.2.1 24 = .ok (.invokestatic 96, 3) := by decide +kernel
theorem tc_d7_isLetterHere_27 : decode tc_i7_isLetterHere.2.1 27 = .ok (.ifCond .eq 7, 3) := by decide +kernel
theorem tc_d7_isLetterHere_30 : decode tc_i7_isLetterHere.2.1 30 = .ok (.iconst 1, 1) := by decide +kernel
theorem tc_d7_isLetterHere_31 : decode tc_i7_isLetterHere.2.1 31 = .ok (.goto 4, 3) := by decide +kernel
theorem tc_d7_isLetterHere_34 : decode tc_i7_isLetterHere.2.1 34 = .ok (.iconst 0, 1) := by decide +kernel
theorem tc_d7_isLetterHere_35 : decode tc_i7_isLetterHere.2.1 35 = .ok (.ireturn, 1) := by decide +kernel
theorem tc_d7_load_0 : decode tc_i7_load.2.1 0 = .ok (.iload_n 1, 1) := by decide +kernel
theorem tc_d7_load_1 : decode tc_i7_load.2.1 1 = .ok (.invokestatic 222, 3) := by decide +kernel
theorem tc_d7_load_4 : decode tc_i7_load.2.1 4 = .ok (.ifCond .eq 23, 3) := by decide +kernel
theorem tc_d7_load_7 : decode tc_i7_load.2.1 7 = .ok (.iload_n 2, 1) := by decide +kernel
theorem tc_d7_load_8 : decode tc_i7_load.2.1 8 = .ok (.iconst 0, 1) := by decide +kernel
theorem tc_d7_load_9 : decode tc_i7_load.2.1 9 = .ok (.iconst 1, 1) := by decide +kernel
theorem tc_d7_load_10 : decode tc_i7_load.2.1 10 = .ok (.invokestatic 96, 3) := by decide +kernel
theorem tc_d7_load_13 : decode tc_i7_load.2.1 13 = .ok (.ifCond .eq 14, 3) := by decide +kernel
theorem tc_d7_load_16 : decode tc_i7_load.2.1 16 = .ok (.iload 4, 2) := by decide +kernel
theorem tc_d7_load_18 : decode tc_i7_load.2.1 18 = .ok (.iconst 0, 1) := by decide +kernel
theorem tc_d7_load_19 : decode tc_i7_load.2.1 19 = .ok (.bipush 8, 2) := by decide +kernel
theorem tc_d7_load_21 : decode tc_i7_load.2.1 21 = .ok (.invokestatic 96, 3) := by decide +kernel
theorem tc_d7_load_24 : decode tc_i7_load.2.1 24 = .ok (.ifCond .ne 6, 3) := by decide +kernel
theorem tc_d7_load_27 : decode tc_i7_load.2.1 27 = .ok (.bipush (-2), 2) := by decide +kernel
theorem tc_d7_load_29 : decode tc_i7_load.2.1 29 = .ok (.ireturn, 1) := by decide +kernel
theorem tc_d7_load_30 : decode tc_i7_load.2.1 30 = .ok (.aload_n 0, 1) := by decide +kernel
theorem tc_d7_load_31 : decode tc_i7_load.2.1 31 = .ok (.getfield 54, 3) := by decide +kernel
theorem tc_d7_load_34 : decode tc_i7_load.2.1 34 = .ok (.iload_n 1, 1) := by decide +kernel
theorem tc_d7_load_35 : decode tc_i7_load.2.1 35 = .ok (.iaload, 1) := by decide +kernel
theorem tc_d7_load_36 : decode tc_i7_load.2.1 36 = .ok (.ifCond .lt 16, 3) := by decide +kernel
theorem tc_d7_load_39 : decode tc_i7_load.2.1 39 = .ok (.aload_n 0, 1) := by decide +kernel
theorem tc_d7_load_40 : decode tc_i7_load.2.1 40 = .ok (.getfield 54, 3) := by decide +kernel
theorem tc_d7_load_43 : decode tc_i7_load.2.1 43 = .ok (.iload_n 1, 1) := by decide +kernel
theorem tc_d7_load_44 : decode tc_i7_load.2.1 44 = .ok (.iaload, 1) := by decide +kernel
theorem tc_d7_load_45 : decode tc_i7_load.2.1 45 = .ok (.iload_n 2, 1) := by decide +kernel
theorem tc_d7_load_46 : decode tc_i7_load.2.1 46 = .ok (.if_icmp .eq 6, 3) := by decide +kernel
theorem tc_d7_load_49 : decode tc_i7_load.2.1 49 = .ok (.bipush (-13), 2) := by decide +kernel
theorem tc_d7_load_51 : decode tc_i7_load.2.1 51 = .ok (.ireturn, 1) := by decide +kernel
theorem tc_d7_load_52 : decode tc_i7_load.2.1 52 = .ok (.aload_n 0, 1) := by decide +kernel
theorem tc_d7_load_53 : decode tc_i7_load.2.1 53 = .ok (.getfield 54, 3) := by decide +kernel
theorem tc_d7_load_56 : decode tc_i7_load.2.1 56 = .ok (.iload_n 1, 1) := by decide +kernel
theorem tc_d7_load_57 : decode tc_i7_load.2.1 57 = .ok (.iaload, 1) := by decide +kernel
theorem tc_d7_load_58 : decode tc_i7_load.2.1 58 = .ok (.ifCond .ge 6, 3) := by decide +kernel
theorem tc_d7_load_61 : decode tc_i7_load.2.1 61 = .ok (.bipush (-11), 2) := by decide +kernel
theorem tc_d7_load_63 : decode tc_i7_load.2.1 63 = .ok (.ireturn, 1) := by decide +kernel
theorem tc_d7_load_64 : decode tc_i7_load.2.1 64 = .ok (.iconst 0, 1) := by decide +kernel
theorem tc_d7_load_65 : decode tc_i7_load.2.1 65 = .ok (.istore 5, 2) := by decide +kernel
theorem tc_d7_load_67 : decode tc_i7_load.2.1 67 = .ok (.iconst 0, 1) := by decide +kernel
theorem tc_d7_load_68 : decode tc_i7_load.2.1 68 = .ok (.istore 6, 2) := by decide +kernel
theorem tc_d7_load_70 : decode tc_i7_load.2.1 70 = .ok (.iload 6, 2) := by decide +kernel
theorem tc_d7_load_72 : decode tc_i7_load.2.1 72 = .ok (.iload 4, 2) := by decide +kernel
theorem tc_d7_load_74 : decode tc_i7_load.2.1 74 = .ok (.if_icmp .ge 109, 3) := by decide +kernel
theorem tc_d7_load_77 : decode tc_i7_load.2.1 77 = .ok (.iload_n 3, 1) := by decide +kernel
theorem tc_d7_load_78 : decode tc_i7_load.2.1 78 = .ok (.i2l, 1) := by decide +kernel
theorem tc_d7_load_79 : decode tc_i7_load.2.1 79 = .ok (.ldc2_w 317, 3) := by decide +kernel
theorem tc_d7_load_82 : decode tc_i7_load.2.1 82 = .ok (.iload 6, 2) := by decide +kernel
theorem tc_d7_load_84 : decode tc_i7_load.2.1 84 = .ok (.i2l, 1) := by decide +kernel
theorem tc_d7_load_85 : decode tc_i7_load.2.1 85 = .ok (.lmul, 1) := by decide +kernel
theorem tc_d7_load_86 : decode tc_i7_load.2.1 86 = .ok (.ladd, 1) := by decide +kernel
theorem tc_d7_load_87 : decode tc_i7_load.2.1 87 = .ok (.lstore 7, 2) := by decide +kernel
theorem tc_d7_load_89 : decode tc_i7_load.2.1 89 = .ok (.lload 7, 2) := by decide +kernel
theorem tc_d7_load_91 : decode tc_i7_load.2.1 91 = .ok (.lconst 0, 1) := by decide +kernel
theorem tc_d7_load_92 : decode tc_i7_load.2.1 92 = .ok (.lcmp, 1) := by decide +kernel
theorem tc_d7_load_93 : decode tc_i7_load.2.1 93 = .ok (.ifCond .lt 20, 3) := by decide +kernel
theorem tc_d7_load_96 : decode tc_i7_load.2.1 96 = .ok (.lload 7, 2) := by decide +kernel
theorem tc_d7_load_98 : decode tc_i7_load.2.1 98 = .ok (.ldc2_w 319, 3) := by decide +kernel
theorem tc_d7_load_101 : decode tc_i7_load.2.1 101 = .ok (.ladd, 1) := by decide +kernel
theorem tc_d7_load_102 : decode tc_i7_load.2.1 102 = .ok (.aload_n 0, 1) := by decide +kernel
theorem tc_d7_load_103 : decode tc_i7_load.2.1 103 = .ok (.getfield 57, 3) := by decide +kernel
theorem tc_d7_load_106 : decode tc_i7_load.2.1 106 = .ok (.iload_n 1, 1) := by decide +kernel
theorem tc_d7_load_107 : decode tc_i7_load.2.1 107 = .ok (.iaload, 1) := by decide +kernel
theorem tc_d7_load_108 : decode tc_i7_load.2.1 108 = .ok (.i2l, 1) := by decide +kernel
theorem tc_d7_load_109 : decode tc_i7_load.2.1 109 = .ok (.lcmp, 1) := by decide +kernel
theorem tc_d7_load_110 : decode tc_i7_load.2.1 110 = .ok (.ifCond .lt 6, 3) := by decide +kernel
theorem tc_d7_load_113 : decode tc_i7_load.2.1 113 = .ok (.bipush (-12), 2) := by decide +kernel
theorem tc_d7_load_115 : decode tc_i7_load.2.1 115 = .ok (.ireturn, 1) := by decide +kernel
theorem tc_d7_load_116 : decode tc_i7_load.2.1 116 = .ok (.bipush 40, 2) := by decide +kernel
theorem tc_d7_load_118 : decode tc_i7_load.2.1 118 = .ok (.iload_n 1, 1) := by decide +kernel
theorem tc_d7_load_119 : decode tc_i7_load.2.1 119 = .ok (.imul, 1) := by decide +kernel
theorem tc_d7_load_120 : decode tc_i7_load.2.1 120 = .ok (.lload 7, 2) := by decide +kernel
theorem tc_d7_load_122 : decode tc_i7_load.2.1 122 = .ok (.l2i, 1) := by decide +kernel
theorem tc_d7_load_123 : decode tc_i7_load.2.1 123 = .ok (.iadd, 1) := by decide +kernel
theorem tc_d7_load_124 : decode tc_i7_load.2.1 124 = .ok (.istore 9, 2) := by decide +kernel
theorem tc_d7_load_126 : decode tc_i7_load.2.1 126 = .ok (.iload 5, 2) := by decide +kernel
theorem tc_d7_load_128 : decode tc_i7_load.2.1 128 = .ok (.aload_n 0, 1) := by decide +kernel
theorem tc_d7_load_129 : decode tc_i7_load.2.1 129 = .ok (.aload_n 0, 1) := by decide +kernel
theorem tc_d7_load_130 : decode tc_i7_load.2.1 130 = .ok (.getfield 60, 3) := by decide +kernel
theorem tc_d7_load_133 : decode tc_i7_load.2.1 133 = .ok (.iload 9, 2) := by decide +kernel
theorem tc_d7_load_135 : decode tc_i7_load.2.1 135 = .ok (.iaload, 1) := by decide +kernel
theorem tc_d7_load_136 : decode tc_i7_load.2.1 136 = .ok (.aload_n 0, 1) := by decide +kernel
theorem tc_d7_load_137 : decode tc_i7_load.2.1 137 = .ok (.getfield 60, 3) := by decide +kernel
theorem tc_d7_load_140 : decode tc_i7_load.2.1 140 = .ok (.iload 9, 2) := by decide +kernel
theorem tc_d7_load_142 : decode tc_i7_load.2.1 142 = .ok (.iconst 1, 1) := by decide +kernel
theorem tc_d7_load_143 : decode tc_i7_load.2.1 143 = .ok (.iadd, 1) := by decide +kernel
theorem tc_d7_load_144 : decode tc_i7_load.2.1 144 = .ok (.iaload, 1) := by decide +kernel
theorem tc_d7_load_145 : decode tc_i7_load.2.1 145 = .ok (.aload_n 0, 1) := by decide +kernel
theorem tc_d7_load_146 : decode tc_i7_load.2.1 146 = .ok (.getfield 60, 3) := by decide +kernel
theorem tc_d7_load_149 : decode tc_i7_load.2.1 149 = .ok (.iload 9, 2) := by decide +kernel
theorem tc_d7_load_151 : decode tc_i7_load.2.1 151 = .ok (.iconst 2, 1) := by decide +kernel
theorem tc_d7_load_152 : decode tc_i7_load.2.1 152 = .ok (.iadd, 1) := by decide +kernel
theorem tc_d7_load_153 : decode tc_i7_load.2.1 153 = .ok (.iaload, 1) := by decide +kernel
theorem tc_d7_load_154 : decode tc_i7_load.2.1 154 = .ok (.aload_n 0, 1) := by decide +kernel
theorem tc_d7_load_155 : decode tc_i7_load.2.1 155 = .ok (.getfield 60, 3) := by decide +kernel
theorem tc_d7_load_158 : decode tc_i7_load.2.1 158 = .ok (.iload 9, 2) := by decide +kernel
theorem tc_d7_load_160 : decode tc_i7_load.2.1 160 = .ok (.iconst 3, 1) := by decide +kernel
theorem tc_d7_load_161 : decode tc_i7_load.2.1 161 = .ok (.iadd, 1) := by decide +kernel
theorem tc_d7_load_162 : decode tc_i7_load.2.1 162 = .ok (.iaload, 1) := by decide +kernel
theorem tc_d7_load_163 : decode tc_i7_load.2.1 163 = .ok (.invokevirtual 286, 3) := by decide +kernel
theorem tc_d7_load_166 : decode tc_i7_load.2.1 166 = .ok (.ifCond .lt 7, 3) := by decide +kernel
theorem tc_d7_load_169 : decode tc_i7_load.2.1 169 = .ok (.iconst 1, 1) := by decide +kernel
theorem tc_d7_load_170 : decode tc_i7_load.2.1 170 = .ok (.goto 4, 3) := by decide +kernel
theorem tc_d7_load_173 : decode tc_i7_load.2.1 173 = .ok (.iconst 0, 1) := by decide +kernel
theorem tc_d7_load_174 : decode tc_i7_load.2.1 174 = .ok (.iadd, 1) := by decide +kernel
theorem tc_d7_load_175 : decode tc_i7_load.2.1 175 = .ok (.istore 5, 2) := by decide +kernel
theorem tc_d7_load_177 : decode tc_i7_load.2.1 177 = .ok (.iinc 6 1, 3) := by decide +kernel
theorem tc_d7_load_180 : decode tc_i7_load.2.1 180 = .ok (.goto (-110), 3) := by decide +kernel
theorem tc_d7_load_183 : decode tc_i7_load.2.1 183 = .ok (.iload 5, 2) := by decide +kernel
theorem tc_d7_load_185 : decode tc_i7_load.2.1 185 = .ok (.ireturn, 1) := by decide +kernel
theorem tc_d7_log_0 : decode tc_i7_log.2.1 0 = .ok (.iload_n 1, 1) := by decide +kernel
theorem tc_d7_log_1 : decode tc_i7_log.2.1 1 = .ok (.iconst (-1), 1) := by decide +kernel
theorem tc_d7_log_2 : decode tc_i7_log.2.1 2 = .ok (.if_icmp .ge 6, 3) := by decide +kernel
theorem tc_d7_log_5 : decode tc_i7_log.2.1 5 = .ok (.bipush (-2), 2) := by decide +kernel
theorem tc_d7_log_7 : decode tc_i7_log.2.1 7 = .ok (.ireturn, 1) := by decide +kernel
theorem tc_d7_log_8 : decode tc_i7_log.2.1 8 = .ok (.iload_n 1, 1) := by decide +kernel
theorem tc_d7_log_9 : decode tc_i7_log.2.1 9 = .ok (.iconst (-1), 1) := by decide +kernel
theorem tc_d7_log_10 : decode tc_i7_log.2.1 10 = .ok (.if_icmp .ne 10, 3) := by decide +kernel
theorem tc_d7_log_13 : decode tc_i7_log.2.1 13 = .ok (.aload_n 0, 1) := by decide +kernel
theorem tc_d7_log_14 : decode tc_i7_log.2.1 14 = .ok (.getfield 184, 3) := by decide +kernel
theorem tc_d7_log_17 : decode tc_i7_log.2.1 17 = .ok (.goto 21, 3) := by decide +kernel
theorem tc_d7_log_20 : decode tc_i7_log.2.1 20 = .ok (.iload_n 1, 1) := by decide +kernel
theorem tc_d7_log_21 : decode tc_i7_log.2.1 21 = .ok (.aload_n 0, 1) := by decide +kernel
theorem tc_d7_log_22 : decode tc_i7_log.2.1 22 = .ok (.getfield 184, 3) := by decide +kernel
theorem tc_d7_log_25 : decode tc_i7_log.2.1 25 = .ok (.if_icmp .ge 12, 3) := by decide +kernel
theorem tc_d7_log_28 : decode tc_i7_log.2.1 28 = .ok (.aload_n 0, 1) := by decide +kernel
theorem tc_d7_log_29 : decode tc_i7_log.2.1 29 = .ok (.getfield 48, 3) := by decide +kernel
theorem tc_d7_log_32 : decode tc_i7_log.2.1 32 = .ok (.iload_n 1, 1) := by decide +kernel
theorem tc_d7_log_33 : decode tc_i7_log.2.1 33 = .ok (.iaload, 1) := by decide +kernel
theorem tc_d7_log_34 : decode tc_i7_log.2.1 34 = .ok (.goto 4, 3) := by decide +kernel
theorem tc_d7_log_37 : decode tc_i7_log.2.1 37 = .ok (.iconst (-1), 1) := by decide +kernel
theorem tc_d7_log_38 : decode tc_i7_log.2.1 38 = .ok (.ireturn, 1) := by decide +kernel
theorem tc_d7_moves_0 : decode tc_i7_moves.2.1 0 = .ok (.aload_n 0, 1) := by decide +kernel
theorem tc_d7_moves_1 : decode tc_i7_moves.2.1 1 = .ok (.invokevirtual 170, 3) := by decide +kernel
theorem tc_d7_moves_4 : decode tc_i7_moves.2.1 4 = .ok (.aload_n 0, 1) := by decide +kernel
theorem tc_d7_moves_5 : decode tc_i7_moves.2.1 5 = .ok (.iconst 3, 1) := by decide +kernel
theorem tc_d7_moves_6 : decode tc_i7_moves.2.1 6 = .ok (.invokevirtual 173, 3) := by decide +kernel
theorem tc_d7_moves_9 : decode tc_i7_moves.2.1 9 = .ok (.ireturn, 1) := by decide +kernel
theorem tc_d7_numbersOf_0 : decode tc_i7_numbersOf.2.1 0 = .ok (.iload_n 0, 1) := by decide +kernel
theorem tc_d7_numbersOf_1 : decode tc_i7_numbersOf.2.1 1 = .ok (.tableswitch 53 0 7 #[47, 53, 53, 49, 53, 53, 51, 51], 47) := by decide +kernel
theorem tc_d7_numbersOf_48 : decode tc_i7_numbersOf.2.1 48 = .ok (.iconst 4, 1) := by decide +kernel
theorem tc_d7_numbersOf_49 : decode tc_i7_numbersOf.2.1 49 = .ok (.ireturn, 1) := by decide +kernel
theorem tc_d7_numbersOf_50 : decode tc_i7_numbersOf.2.1 50 = .ok (.iconst 2, 1) := by decide +kernel
theorem tc_d7_numbersOf_51 : decode tc_i7_numbersOf.2.1 51 = .ok (.ireturn, 1) := by decide +kernel
theorem tc_d7_numbersOf_52 : decode tc_i7_numbersOf.2.1 52 = .ok (.iconst 0, 1) := by decide +kernel
theorem tc_d7_numbersOf_53 : decode tc_i7_numbersOf.2.1 53 = .ok (.ireturn, 1) := by decide +kernel
theorem tc_d7_numbersOf_54 : decode tc_i7_numbersOf.2.1 54 = .ok (.iconst 1, 1) := by decide +kernel
theorem tc_d7_numbersOf_55 : decode tc_i7_numbersOf.2.1 55 = .ok (.ireturn, 1) := by decide +kernel
theorem tc_d7_of_0 : decode tc_i7_of.2.1 0 = .ok (.aload_n 0, 1) := by decide +kernel
theorem tc_d7_of_1 : decode tc_i7_of.2.1 1 = .ok (.iload_n 1, 1) := by decide +kernel
theorem tc_d7_of_2 : decode tc_i7_of.2.1 2 = .ok (.invokevirtual 167, 3) := by decide +kernel
theorem tc_d7_of_5 : decode tc_i7_of.2.1 5 = .ok (.ifCond .ne 6, 3) := by decide +kernel
theorem tc_d7_of_8 : decode tc_i7_of.2.1 8 = .ok (.bipush (-2), 2) := by decide +kernel
theorem tc_d7_of_10 : decode tc_i7_of.2.1 10 = .ok (.ireturn, 1) := by decide +kernel
theorem tc_d7_of_11 : decode tc_i7_of.2.1 11 = .ok (.iload_n 2, 1) := by decide +kernel
theorem tc_d7_of_12 : decode tc_i7_of.2.1 12 = .ok (.tableswitch 124 0 8 #[52, 59, 66, 73, 80, 86, 92, 107, 114], 52) := by decide +kernel
theorem tc_d7_of_64 : decode tc_i7_of.2.1 64 = .ok (.aload_n 0, 1) := by decide +kernel
theorem tc_d7_of_65 : decode tc_i7_of.2.1 65 = .ok (.getfield 13, 3) := by decide +kernel
theorem tc_d7_of_68 : decode tc_i7_of.2.1 68 = .ok (.iload_n 1, 1) := by decide +kernel
theorem tc_d7_of_69 : decode tc_i7_of.2.1 69 = .ok (.iaload, 1) := by decide +kernel
theorem tc_d7_of_70 : decode tc_i7_of.2.1 70 = .ok (.ireturn, 1) := by decide +kernel
theorem tc_d7_of_71 : decode tc_i7_of.2.1 71 = .ok (.aload_n 0, 1) := by decide +kernel
theorem tc_d7_of_72 : decode tc_i7_of.2.1 72 = .ok (.getfield 16, 3) := by decide +kernel
theorem tc_d7_of_75 : decode tc_i7_of.2.1 75 = .ok (.iload_n 1, 1) := by decide +kernel
theorem tc_d7_of_76 : decode tc_i7_of.2.1 76 = .ok (.iaload, 1) := by decide +kernel
theorem tc_d7_of_77 : decode tc_i7_of.2.1 77 = .ok (.ireturn, 1) := by decide +kernel
theorem tc_d7_of_78 : decode tc_i7_of.2.1 78 = .ok (.aload_n 0, 1) := by decide +kernel
theorem tc_d7_of_79 : decode tc_i7_of.2.1 79 = .ok (.getfield 19, 3) := by decide +kernel
theorem tc_d7_of_82 : decode tc_i7_of.2.1 82 = .ok (.iload_n 1, 1) := by decide +kernel
theorem tc_d7_of_83 : decode tc_i7_of.2.1 83 = .ok (.iaload, 1) := by decide +kernel
theorem tc_d7_of_84 : decode tc_i7_of.2.1 84 = .ok (.ireturn, 1) := by decide +kernel
theorem tc_d7_of_85 : decode tc_i7_of.2.1 85 = .ok (.aload_n 0, 1) := by decide +kernel
theorem tc_d7_of_86 : decode tc_i7_of.2.1 86 = .ok (.getfield 7, 3) := by decide +kernel
theorem tc_d7_of_89 : decode tc_i7_of.2.1 89 = .ok (.iload_n 1, 1) := by decide +kernel
theorem tc_d7_of_90 : decode tc_i7_of.2.1 90 = .ok (.iaload, 1) := by decide +kernel
theorem tc_d7_of_91 : decode tc_i7_of.2.1 91 = .ok (.ireturn, 1) := by decide +kernel
theorem tc_d7_of_92 : decode tc_i7_of.2.1 92 = .ok (.aload_n 0, 1) := by decide +kernel
theorem tc_d7_of_93 : decode tc_i7_of.2.1 93 = .ok (.iload_n 1, 1) := by decide +kernel
theorem tc_d7_of_94 : decode tc_i7_of.2.1 94 = .ok (.invokevirtual 103, 3) := by decide +kernel
theorem tc_d7_of_97 : decode tc_i7_of.2.1 97 = .ok (.ireturn, 1) := by decide +kernel
theorem tc_d7_of_98 : decode tc_i7_of.2.1 98 = .ok (.aload_n 0, 1) := by decide +kernel
theorem tc_d7_of_99 : decode tc_i7_of.2.1 99 = .ok (.iload_n 1, 1) := by decide +kernel
theorem tc_d7_of_100 : decode tc_i7_of.2.1 100 = .ok (.invokevirtual 126, 3) := by decide +kernel
theorem tc_d7_of_103 : decode tc_i7_of.2.1 103 = .ok (.ireturn, 1) := by decide +kernel
theorem tc_d7_of_104 : decode tc_i7_of.2.1 104 = .ok (.aload_n 0, 1) := by decide +kernel
theorem tc_d7_of_105 : decode tc_i7_of.2.1 105 = .ok (.getfield 25, 3) := by decide +kernel
theorem tc_d7_of_108 : decode tc_i7_of.2.1 108 = .ok (.iload_n 1, 1) := by decide +kernel
theorem tc_d7_of_109 : decode tc_i7_of.2.1 109 = .ok (.baload, 1) := by decide +kernel
theorem tc_d7_of_110 : decode tc_i7_of.2.1 110 = .ok (.ifCond .eq 7, 3) := by decide +kernel
theorem tc_d7_of_113 : decode tc_i7_of.2.1 113 = .ok (.iconst 1, 1) := by decide +kernel
theorem tc_d7_of_114 : decode tc_i7_of.2.1 114 = .ok (.goto 4, 3) := by decide +kernel
theorem tc_d7_of_117 : decode tc_i7_of.2.1 117 = .ok (.iconst 0, 1) := by decide +kernel
theorem tc_d7_of_118 : decode tc_i7_of.2.1 118 = .ok (.ireturn, 1) := by decide +kernel
theorem tc_d7_of_119 : decode tc_i7_of.2.1 119 = .ok (.aload_n 0, 1) := by decide +kernel
theorem tc_d7_of_120 : decode tc_i7_of.2.1 120 = .ok (.getfield 22, 3) := by decide +kernel
theorem tc_d7_of_123 : decode tc_i7_of.2.1 123 = .ok (.iload_n 1, 1) := by decide +kernel
theorem tc_d7_of_124 : decode tc_i7_of.2.1 124 = .ok (.iaload, 1) := by decide +kernel
theorem tc_d7_of_125 : decode tc_i7_of.2.1 125 = .ok (.ireturn, 1) := by decide +kernel
theorem tc_d7_of_126 : decode tc_i7_of.2.1 126 = .ok (.aload_n 0, 1) := by decide +kernel
theorem tc_d7_of_127 : decode tc_i7_of.2.1 127 = .ok (.getfield 7, 3) := by decide +kernel
theorem tc_d7_of_130 : decode tc_i7_of.2.1 130 = .ok (.iload_n 1, 1) := by decide +kernel
theorem tc_d7_of_131 : decode tc_i7_of.2.1 131 = .ok (.iaload, 1) := by decide +kernel
theorem tc_d7_of_132 : decode tc_i7_of.2.1 132 = .ok (.invokestatic 155, 3) := by decide +kernel
theorem tc_d7_of_135 : decode tc_i7_of.2.1 135 = .ok (.ireturn, 1) := by decide +kernel
theorem tc_d7_of_136 : decode tc_i7_of.2.1 136 = .ok (.bipush (-2), 2) := by decide +kernel
theorem tc_d7_of_138 : decode tc_i7_of.2.1 138 = .ok (.ireturn, 1) := by decide +kernel
theorem tc_d7_order_0 : decode tc_i7_order.2.1 0 = .ok (.iload_n 1, 1) := by decide +kernel
theorem tc_d7_order_1 : decode tc_i7_order.2.1 1 = .ok (.iconst 0, 1) := by decide +kernel
theorem tc_d7_order_2 : decode tc_i7_order.2.1 2 = .ok (.iconst 1, 1) := by decide +kernel
theorem tc_d7_order_3 : decode tc_i7_order.2.1 3 = .ok (.invokestatic 96, 3) := by decide +kernel
theorem tc_d7_order_6 : decode tc_i7_order.2.1 6 = .ok (.ifCond .ne 6, 3) := by decide +kernel
theorem tc_d7_order_9 : decode tc_i7_order.2.1 9 = .ok (.bipush (-2), 2) := by decide +kernel
theorem tc_d7_order_11 : decode tc_i7_order.2.1 11 = .ok (.ireturn, 1) := by decide +kernel
theorem tc_d7_order_12 : decode tc_i7_order.2.1 12 = .ok (.aload_n 0, 1) := by decide +kernel
theorem tc_d7_order_13 : decode tc_i7_order.2.1 13 = .ok (.invokevirtual 187, 3) := by decide +kernel
theorem tc_d7_order_16 : decode tc_i7_order.2.1 16 = .ok (.aload_n 0, 1) := by decide +kernel
theorem tc_d7_order_17 : decode tc_i7_order.2.1 17 = .ok (.iconst 0, 1) := by decide +kernel
theorem tc_d7_order_18 : decode tc_i7_order.2.1 18 = .ok (.invokevirtual 180, 3) := by decide +kernel
theorem tc_d7_order_21 : decode tc_i7_order.2.1 21 = .ok (.istore_n 2, 1) := by decide +kernel
theorem tc_d7_order_22 : decode tc_i7_order.2.1 22 = .ok (.aload_n 0, 1) := by decide +kernel
theorem tc_d7_order_23 : decode tc_i7_order.2.1 23 = .ok (.iconst 0, 1) := by decide +kernel
theorem tc_d7_order_24 : decode tc_i7_order.2.1 24 = .ok (.invokevirtual 173, 3) := by decide +kernel
theorem tc_d7_order_27 : decode tc_i7_order.2.1 27 = .ok (.istore_n 3, 1) := by decide +kernel
theorem tc_d7_order_28 : decode tc_i7_order.2.1 28 = .ok (.aload_n 0, 1) := by decide +kernel
theorem tc_d7_order_29 : decode tc_i7_order.2.1 29 = .ok (.invokevirtual 195, 3) := by decide +kernel
theorem tc_d7_order_32 : decode tc_i7_order.2.1 32 = .ok (.aload_n 0, 1) := by decide +kernel
theorem tc_d7_order_33 : decode tc_i7_order.2.1 33 = .ok (.iconst 1, 1) := by decide +kernel
theorem tc_d7_order_34 : decode tc_i7_order.2.1 34 = .ok (.invokevirtual 180, 3) := by decide +kernel
theorem tc_d7_order_37 : decode tc_i7_order.2.1 37 = .ok (.istore 4, 2) := by decide +kernel
theorem tc_d7_order_39 : decode tc_i7_order.2.1 39 = .ok (.aload_n 0, 1) := by decide +kernel
theorem tc_d7_order_40 : decode tc_i7_order.2.1 40 = .ok (.iconst 0, 1) := by decide +kernel
theorem tc_d7_order_41 : decode tc_i7_order.2.1 41 = .ok (.invokevirtual 173, 3) := by decide +kernel
theorem tc_d7_order_44 : decode tc_i7_order.2.1 44 = .ok (.iload_n 3, 1) := by decide +kernel
theorem tc_d7_order_45 : decode tc_i7_order.2.1 45 = .ok (.if_icmp .ne 7, 3) := by decide +kernel
theorem tc_d7_order_48 : decode tc_i7_order.2.1 48 = .ok (.iconst 1, 1) := by decide +kernel
theorem tc_d7_order_49 : decode tc_i7_order.2.1 49 = .ok (.goto 4, 3) := by decide +kernel
theorem tc_d7_order_52 : decode tc_i7_order.2.1 52 = .ok (.iconst 0, 1) := by decide +kernel
theorem tc_d7_order_53 : decode tc_i7_order.2.1 53 = .ok (.istore 5, 2) := by decide +kernel
theorem tc_d7_order_55 : decode tc_i7_order.2.1 55 = .ok (.aload_n 0, 1) := by decide +kernel
theorem tc_d7_order_56 : decode tc_i7_order.2.1 56 = .ok (.invokevirtual 195, 3) := by decide +kernel
theorem tc_d7_order_59 : decode tc_i7_order.2.1 59 = .ok (.iload_n 2, 1) := by decide +kernel
theorem tc_d7_order_60 : decode tc_i7_order.2.1 60 = .ok (.ifCond .lt 8, 3) := by decide +kernel
theorem tc_d7_order_63 : decode tc_i7_order.2.1 63 = .ok (.iload 4, 2) := by decide +kernel
theorem tc_d7_order_65 : decode tc_i7_order.2.1 65 = .ok (.ifCond .ge 6, 3) := by decide +kernel
theorem tc_d7_order_68 : decode tc_i7_order.2.1 68 = .ok (.bipush (-3), 2) := by decide +kernel
theorem tc_d7_order_70 : decode tc_i7_order.2.1 70 = .ok (.ireturn, 1) := by decide +kernel
theorem tc_d7_order_71 : decode tc_i7_order.2.1 71 = .ok (.iload_n 1, 1) := by decide +kernel
theorem tc_d7_order_72 : decode tc_i7_order.2.1 72 = .ok (.iconst 1, 1) := by decide +kernel
theorem tc_d7_order_73 : decode tc_i7_order.2.1 73 = .ok (.if_icmp .ne 8, 3) := by decide +kernel
theorem tc_d7_order_76 : decode tc_i7_order.2.1 76 = .ok (.iload 4, 2) := by decide +kernel
theorem tc_d7_order_78 : decode tc_i7_order.2.1 78 = .ok (.goto 13, 3) := by decide +kernel
theorem tc_d7_order_81 : decode tc_i7_order.2.1 81 = .ok (.iload 5, 2) := by decide +kernel
theorem tc_d7_order_83 : decode tc_i7_order.2.1 83 = .ok (.ifCond .eq 7, 3) := by decide +kernel
theorem tc_d7_order_86 : decode tc_i7_order.2.1 86 = .ok (.iconst 1, 1) := by decide +kernel
theorem tc_d7_order_87 : decode tc_i7_order.2.1 87 = .ok (.goto 4, 3) := by decide +kernel
theorem tc_d7_order_90 : decode tc_i7_order.2.1 90 = .ok (.iconst 0, 1) := by decide +kernel
theorem tc_d7_order_91 : decode tc_i7_order.2.1 91 = .ok (.ireturn, 1) := by decide +kernel
theorem tc_d7_otherBy_0 : decode tc_i7_otherBy.2.1 0 = .ok (.aload_n 0, 1) := by decide +kernel
theorem tc_d7_otherBy_1 : decode tc_i7_otherBy.2.1 1 = .ok (.invokevirtual 187, 3) := by decide +kernel
theorem tc_d7_otherBy_4 : decode tc_i7_otherBy.2.1 4 = .ok (.iconst (-1), 1) := by decide +kernel
theorem tc_d7_otherBy_5 : decode tc_i7_otherBy.2.1 5 = .ok (.istore_n 3, 1) := by decide +kernel
theorem tc_d7_otherBy_6 : decode tc_i7_otherBy.2.1 6 = .ok (.iconst 0, 1) := by decide +kernel
theorem tc_d7_otherBy_7 : decode tc_i7_otherBy.2.1 7 = .ok (.istore 4, 2) := by decide +kernel
theorem tc_d7_otherBy_9 : decode tc_i7_otherBy.2.1 9 = .ok (.iload 4, 2) := by decide +kernel
theorem tc_d7_otherBy_11 : decode tc_i7_otherBy.2.1 11 = .ok (.aload_n 0, 1) := by decide +kernel
theorem tc_d7_otherBy_12 : decode tc_i7_otherBy.2.1 12 = .ok (.getfield 57, 3) := by decide +kernel
theorem tc_d7_otherBy_15 : decode tc_i7_otherBy.2.1 15 = .ok (.iload_n 1, 1) := by decide +kernel
theorem tc_d7_otherBy_16 : decode tc_i7_otherBy.2.1 16 = .ok (.iaload, 1) := by decide +kernel
theorem tc_d7_otherBy_17 : decode tc_i7_otherBy.2.1 17 = .ok (.if_icmp .ge 60, 3) := by decide +kernel
theorem tc_d7_otherBy_20 : decode tc_i7_otherBy.2.1 20 = .ok (.iload_n 3, 1) := by decide +kernel
theorem tc_d7_otherBy_21 : decode tc_i7_otherBy.2.1 21 = .ok (.ifCond .ge 56, 3) := by decide +kernel
theorem tc_d7_otherBy_24 : decode tc_i7_otherBy.2.1 24 = .ok (.aload_n 0, 1) := by decide +kernel
theorem tc_d7_otherBy_25 : decode tc_i7_otherBy.2.1 25 = .ok (.iconst 0, 1) := by decide +kernel
theorem tc_d7_otherBy_26 : decode tc_i7_otherBy.2.1 26 = .ok (.invokevirtual 180, 3) := by decide +kernel
theorem tc_d7_otherBy_29 : decode tc_i7_otherBy.2.1 29 = .ok (.ifCond .lt 32, 3) := by decide +kernel
theorem tc_d7_otherBy_32 : decode tc_i7_otherBy.2.1 32 = .ok (.aload_n 0, 1) := by decide +kernel
theorem tc_d7_otherBy_33 : decode tc_i7_otherBy.2.1 33 = .ok (.getfield 60, 3) := by decide +kernel
theorem tc_d7_otherBy_36 : decode tc_i7_otherBy.2.1 36 = .ok (.bipush 40, 2) := by decide +kernel
theorem tc_d7_otherBy_38 : decode tc_i7_otherBy.2.1 38 = .ok (.iload_n 1, 1) := by decide +kernel
theorem tc_d7_otherBy_39 : decode tc_i7_otherBy.2.1 39 = .ok (.imul, 1) := by decide +kernel
theorem tc_d7_otherBy_40 : decode tc_i7_otherBy.2.1 40 = .ok (.iload 4, 2) := by decide +kernel
theorem tc_d7_otherBy_42 : decode tc_i7_otherBy.2.1 42 = .ok (.iadd, 1) := by decide +kernel
theorem tc_d7_otherBy_43 : decode tc_i7_otherBy.2.1 43 = .ok (.iaload, 1) := by decide +kernel
theorem tc_d7_otherBy_44 : decode tc_i7_otherBy.2.1 44 = .ok (.aload_n 0, 1) := by decide +kernel
theorem tc_d7_otherBy_45 : decode tc_i7_otherBy.2.1 45 = .ok (.getfield 25, 3) := by decide +kernel
theorem tc_d7_otherBy_48 : decode tc_i7_otherBy.2.1 48 = .ok (.iload_n 2, 1) := by decide +kernel
theorem tc_d7_otherBy_49 : decode tc_i7_otherBy.2.1 49 = .ok (.baload, 1) := by decide +kernel
theorem tc_d7_otherBy_50 : decode tc_i7_otherBy.2.1 50 = .ok (.ifCond .eq 7, 3) := by decide +kernel
theorem tc_d7_otherBy_53 : decode tc_i7_otherBy.2.1 53 = .ok (.iconst 1, 1) := by decide +kernel
theorem tc_d7_otherBy_54 : decode tc_i7_otherBy.2.1 54 = .ok (.goto 4, 3) := by decide +kernel
theorem tc_d7_otherBy_57 : decode tc_i7_otherBy.2.1 57 = .ok (.iconst 0, 1) := by decide +kernel
theorem tc_d7_otherBy_58 : decode tc_i7_otherBy.2.1 58 = .ok (.if_icmp .eq 9, 3) := by decide +kernel
theorem tc_d7_otherBy_61 : decode tc_i7_otherBy.2.1 61 = .ok (.iload 4, 2) := by decide +kernel
theorem tc_d7_otherBy_63 : decode tc_i7_otherBy.2.1 63 = .ok (.istore_n 3, 1) := by decide +kernel
theorem tc_d7_otherBy_64 : decode tc_i7_otherBy.2.1 64 = .ok (.goto 7, 3) := by decide +kernel
theorem tc_d7_otherBy_67 : decode tc_i7_otherBy.2.1 67 = .ok (.aload_n 0, 1) := by decide +kernel
theorem tc_d7_otherBy_68 : decode tc_i7_otherBy.2.1 68 = .ok (.invokevirtual 170, 3) := by decide +kernel
theorem tc_d7_otherBy_71 : decode tc_i7_otherBy.2.1 71 = .ok (.iinc 4 1, 3) := by decide +kernel
theorem tc_d7_otherBy_74 : decode tc_i7_otherBy.2.1 74 = .ok (.goto (-65), 3) := by decide +kernel
theorem tc_d7_otherBy_77 : decode tc_i7_otherBy.2.1 77 = .ok (.aload_n 0, 1) := by decide +kernel
theorem tc_d7_otherBy_78 : decode tc_i7_otherBy.2.1 78 = .ok (.invokevirtual 195, 3) := by decide +kernel
theorem tc_d7_otherBy_81 : decode tc_i7_otherBy.2.1 81 = .ok (.iload_n 3, 1) := by decide +kernel
theorem tc_d7_otherBy_82 : decode tc_i7_otherBy.2.1 82 = .ok (.ireturn, 1) := by decide +kernel
theorem tc_d7_pick_0 : decode tc_i7_pick.2.1 0 = .ok (.iload_n 1, 1) := by decide +kernel
theorem tc_d7_pick_1 : decode tc_i7_pick.2.1 1 = .ok (.iconst 0, 1) := by decide +kernel
theorem tc_d7_pick_2 : decode tc_i7_pick.2.1 2 = .ok (.iconst 1, 1) := by decide +kernel
theorem tc_d7_pick_3 : decode tc_i7_pick.2.1 3 = .ok (.invokestatic 96, 3) := by decide +kernel
theorem tc_d7_pick_6 : decode tc_i7_pick.2.1 6 = .ok (.ifCond .ne 6, 3) := by decide +kernel
theorem tc_d7_pick_9 : decode tc_i7_pick.2.1 9 = .ok (.bipush (-2), 2) := by decide +kernel
theorem tc_d7_pick_11 : decode tc_i7_pick.2.1 11 = .ok (.ireturn, 1) := by decide +kernel
theorem tc_d7_pick_12 : decode tc_i7_pick.2.1 12 = .ok (.aload_n 0, 1) := by decide +kernel
theorem tc_d7_pick_13 : decode tc_i7_pick.2.1 13 = .ok (.getfield 32, 3) := by decide +kernel
theorem tc_d7_pick_16 : decode tc_i7_pick.2.1 16 = .ok (.iconst 0, 1) := by decide +kernel
theorem tc_d7_pick_17 : decode tc_i7_pick.2.1 17 = .ok (.iaload, 1) := by decide +kernel
theorem tc_d7_pick_18 : decode tc_i7_pick.2.1 18 = .ok (.istore_n 2, 1) := by decide +kernel
theorem tc_d7_pick_19 : decode tc_i7_pick.2.1 19 = .ok (.iconst (-1), 1) := by decide +kernel
theorem tc_d7_pick_20 : decode tc_i7_pick.2.1 20 = .ok (.istore_n 3, 1) := by decide +kernel
theorem tc_d7_pick_21 : decode tc_i7_pick.2.1 21 = .ok (.iconst 0, 1) := by decide +kernel
theorem tc_d7_pick_22 : decode tc_i7_pick.2.1 22 = .ok (.istore 4, 2) := by decide +kernel
theorem tc_d7_pick_24 : decode tc_i7_pick.2.1 24 = .ok (.iload 4, 2) := by decide +kernel
theorem tc_d7_pick_26 : decode tc_i7_pick.2.1 26 = .ok (.bipush 100, 2) := by decide +kernel
theorem tc_d7_pick_28 : decode tc_i7_pick.2.1 28 = .ok (.if_icmp .ge 62, 3) := by decide +kernel
theorem tc_d7_pick_31 : decode tc_i7_pick.2.1 31 = .ok (.iload_n 3, 1) := by decide +kernel
theorem tc_d7_pick_32 : decode tc_i7_pick.2.1 32 = .ok (.ifCond .ge 58, 3) := by decide +kernel
theorem tc_d7_pick_35 : decode tc_i7_pick.2.1 35 = .ok (.aload_n 0, 1) := by decide +kernel
theorem tc_d7_pick_36 : decode tc_i7_pick.2.1 36 = .ok (.getfield 32, 3) := by decide +kernel
theorem tc_d7_pick_39 : decode tc_i7_pick.2.1 39 = .ok (.iconst 0, 1) := by decide +kernel
theorem tc_d7_pick_40 : decode tc_i7_pick.2.1 40 = .ok (.iload_n 1, 1) := by decide +kernel
theorem tc_d7_pick_41 : decode tc_i7_pick.2.1 41 = .ok (.ifCond .ne 8, 3) := by decide +kernel
theorem tc_d7_pick_44 : decode tc_i7_pick.2.1 44 = .ok (.iload 4, 2) := by decide +kernel
theorem tc_d7_pick_46 : decode tc_i7_pick.2.1 46 = .ok (.goto 8, 3) := by decide +kernel
theorem tc_d7_pick_49 : decode tc_i7_pick.2.1 49 = .ok (.bipush 99, 2) := by decide +kernel
theorem tc_d7_pick_51 : decode tc_i7_pick.2.1 51 = .ok (.iload 4, 2) := by decide +kernel
theorem tc_d7_pick_53 : decode tc_i7_pick.2.1 53 = .ok (.isub, 1) := by decide +kernel
theorem tc_d7_pick_54 : decode tc_i7_pick.2.1 54 = .ok (.iastore, 1) := by decide +kernel
theorem tc_d7_pick_55 : decode tc_i7_pick.2.1 55 = .ok (.iload_n 1, 1) := by decide +kernel
theorem tc_d7_pick_56 : decode tc_i7_pick.2.1 56 = .ok (.ifCond .ne 14, 3) := by decide +kernel
theorem tc_d7_pick_59 : decode tc_i7_pick.2.1 59 = .ok (.aload_n 0, 1) := by decide +kernel
theorem tc_d7_pick_60 : decode tc_i7_pick.2.1 60 = .ok (.iconst 0, 1) := by decide +kernel
theorem tc_d7_pick_61 : decode tc_i7_pick.2.1 61 = .ok (.invokevirtual 211, 3) := by decide +kernel
theorem tc_d7_pick_64 : decode tc_i7_pick.2.1 64 = .ok (.ifCond .ge 20, 3) := by decide +kernel
theorem tc_d7_pick_67 : decode tc_i7_pick.2.1 67 = .ok (.goto 10, 3) := by decide +kernel
theorem tc_d7_pick_70 : decode tc_i7_pick.2.1 70 = .ok (.aload_n 0, 1) := by decide +kernel
theorem tc_d7_pick_71 : decode tc_i7_pick.2.1 71 = .ok (.invokevirtual 201, 3) := by decide +kernel
theorem tc_d7_pick_74 : decode tc_i7_pick.2.1 74 = .ok (.ifCond .eq 10, 3) := by decide +kernel
theorem tc_d7_pick_77 : decode tc_i7_pick.2.1 77 = .ok (.aload_n 0, 1) := by decide +kernel
theorem tc_d7_pick_78 : decode tc_i7_pick.2.1 78 = .ok (.getfield 32, 3) := by decide +kernel
theorem tc_d7_pick_81 : decode tc_i7_pick.2.1 81 = .ok (.iconst 0, 1) := by decide +kernel
theorem tc_d7_pick_82 : decode tc_i7_pick.2.1 82 = .ok (.iaload, 1) := by decide +kernel
theorem tc_d7_pick_83 : decode tc_i7_pick.2.1 83 = .ok (.istore_n 3, 1) := by decide +kernel
theorem tc_d7_pick_84 : decode tc_i7_pick.2.1 84 = .ok (.iinc 4 1, 3) := by decide +kernel
theorem tc_d7_pick_87 : decode tc_i7_pick.2.1 87 = .ok (.goto (-63), 3) := by decide +kernel
theorem tc_d7_pick_90 : decode tc_i7_pick.2.1 90 = .ok (.aload_n 0, 1) := by decide +kernel
theorem tc_d7_pick_91 : decode tc_i7_pick.2.1 91 = .ok (.getfield 32, 3) := by decide +kernel
theorem tc_d7_pick_94 : decode tc_i7_pick.2.1 94 = .ok (.iconst 0, 1) := by decide +kernel
theorem tc_d7_pick_95 : decode tc_i7_pick.2.1 95 = .ok (.iload_n 2, 1) := by decide +kernel
theorem tc_d7_pick_96 : decode tc_i7_pick.2.1 96 = .ok (.iastore, 1) := by decide +kernel
theorem tc_d7_pick_97 : decode tc_i7_pick.2.1 97 = .ok (.iload_n 3, 1) := by decide +kernel
theorem tc_d7_pick_98 : decode tc_i7_pick.2.1 98 = .ok (.ireturn, 1) := by decide +kernel
theorem tc_d7_proof_0 : decode tc_i7_proof.2.1 0 = .ok (.iload_n 1, 1) := by decide +kernel
theorem tc_d7_proof_1 : decode tc_i7_proof.2.1 1 = .ok (.iconst 0, 1) := by decide +kernel
theorem tc_d7_proof_2 : decode tc_i7_proof.2.1 2 = .ok (.iconst 1, 1) := by decide +kernel
theorem tc_d7_proof_3 : decode tc_i7_proof.2.1 3 = .ok (.invokestatic 96, 3) := by decide +kernel
theorem tc_d7_proof_6 : decode tc_i7_proof.2.1 6 = .ok (.ifCond .ne 6, 3) := by decide +kernel
theorem tc_d7_proof_9 : decode tc_i7_proof.2.1 9 = .ok (.bipush (-2), 2) := by decide +kernel
theorem tc_d7_proof_11 : decode tc_i7_proof.2.1 11 = .ok (.ireturn, 1) := by decide +kernel
theorem tc_d7_proof_12 : decode tc_i7_proof.2.1 12 = .ok (.aload_n 0, 1) := by decide +kernel
theorem tc_d7_proof_13 : decode tc_i7_proof.2.1 13 = .ok (.iconst 0, 1) := by decide +kernel
theorem tc_d7_proof_14 : decode tc_i7_proof.2.1 14 = .ok (.invokevirtual 211, 3) := by decide +kernel
theorem tc_d7_proof_17 : decode tc_i7_proof.2.1 17 = .ok (.istore_n 2, 1) := by decide +kernel
theorem tc_d7_proof_18 : decode tc_i7_proof.2.1 18 = .ok (.iload_n 1, 1) := by decide +kernel
theorem tc_d7_proof_19 : decode tc_i7_proof.2.1 19 = .ok (.iconst 1, 1) := by decide +kernel
theorem tc_d7_proof_20 : decode tc_i7_proof.2.1 20 = .ok (.if_icmp .ne 32, 3) := by decide +kernel
theorem tc_d7_proof_23 : decode tc_i7_proof.2.1 23 = .ok (.iload_n 2, 1) := by decide +kernel
theorem tc_d7_proof_24 : decode tc_i7_proof.2.1 24 = .ok (.ifCond .ge 7, 3) := by decide +kernel
theorem tc_d7_proof_27 : decode tc_i7_proof.2.1 27 = .ok (.iconst (-1), 1) := by decide +kernel
theorem tc_d7_proof_28 : decode tc_i7_proof.2.1 28 = .ok (.goto 23, 3) := by decide +kernel
theorem tc_d7_proof_31 : decode tc_i7_proof.2.1 31 = .ok (.bipush 100, 2) := by decide +kernel
theorem tc_d7_proof_33 : decode tc_i7_proof.2.1 33 = .ok (.iload_n 2, 1) := by decide +kernel
theorem tc_d7_proof_34 : decode tc_i7_proof.2.1 34 = .ok (.aload_n 0, 1) := by decide +kernel
theorem tc_d7_proof_35 : decode tc_i7_proof.2.1 35 = .ok (.getfield 93, 3) := by decide +kernel
theorem tc_d7_proof_38 : decode tc_i7_proof.2.1 38 = .ok (.iconst 1, 1) := by decide +kernel
theorem tc_d7_proof_39 : decode tc_i7_proof.2.1 39 = .ok (.iadd, 1) := by decide +kernel
theorem tc_d7_proof_40 : decode tc_i7_proof.2.1 40 = .ok (.idiv, 1) := by decide +kernel
theorem tc_d7_proof_41 : decode tc_i7_proof.2.1 41 = .ok (.imul, 1) := by decide +kernel
theorem tc_d7_proof_42 : decode tc_i7_proof.2.1 42 = .ok (.iload_n 2, 1) := by decide +kernel
theorem tc_d7_proof_43 : decode tc_i7_proof.2.1 43 = .ok (.aload_n 0, 1) := by decide +kernel
theorem tc_d7_proof_44 : decode tc_i7_proof.2.1 44 = .ok (.getfield 93, 3) := by decide +kernel
theorem tc_d7_proof_47 : decode tc_i7_proof.2.1 47 = .ok (.iconst 1, 1) := by decide +kernel
theorem tc_d7_proof_48 : decode tc_i7_proof.2.1 48 = .ok (.iadd, 1) := by decide +kernel
theorem tc_d7_proof_49 : decode tc_i7_proof.2.1 49 = .ok (.irem, 1) := by decide +kernel
theorem tc_d7_proof_50 : decode tc_i7_proof.2.1 50 = .ok (.iadd, 1) := by decide +kernel
theorem tc_d7_proof_51 : decode tc_i7_proof.2.1 51 = .ok (.ireturn, 1) := by decide +kernel
theorem tc_d7_proof_52 : decode tc_i7_proof.2.1 52 = .ok (.iconst 0, 1) := by decide +kernel
theorem tc_d7_proof_53 : decode tc_i7_proof.2.1 53 = .ok (.istore_n 3, 1) := by decide +kernel
theorem tc_d7_proof_54 : decode tc_i7_proof.2.1 54 = .ok (.iload_n 2, 1) := by decide +kernel
theorem tc_d7_proof_55 : decode tc_i7_proof.2.1 55 = .ok (.ifCond .lt 17, 3) := by decide +kernel
theorem tc_d7_proof_58 : decode tc_i7_proof.2.1 58 = .ok (.iinc 3 1, 3) := by decide +kernel
theorem tc_d7_proof_61 : decode tc_i7_proof.2.1 61 = .ok (.aload_n 0, 1) := by decide +kernel
theorem tc_d7_proof_62 : decode tc_i7_proof.2.1 62 = .ok (.iload_n 2, 1) := by decide +kernel
theorem tc_d7_proof_63 : decode tc_i7_proof.2.1 63 = .ok (.iconst 1, 1) := by decide +kernel
theorem tc_d7_proof_64 : decode tc_i7_proof.2.1 64 = .ok (.iadd, 1) := by decide +kernel
theorem tc_d7_proof_65 : decode tc_i7_proof.2.1 65 = .ok (.invokevirtual 211, 3) := by decide +kernel
theorem tc_d7_proof_68 : decode tc_i7_proof.2.1 68 = .ok (.istore_n 2, 1) := by decide +kernel
theorem tc_d7_proof_69 : decode tc_i7_proof.2.1 69 = .ok (.goto (-15), 3) := by decide +kernel
theorem tc_d7_proof_72 : decode tc_i7_proof.2.1 72 = .ok (.iload_n 3, 1) := by decide +kernel
theorem tc_d7_proof_73 : decode tc_i7_proof.2.1 73 = .ok (.ireturn, 1) := by decide +kernel
theorem tc_d7_put_0 : decode tc_i7_put.2.1 0 = .ok (.iload_n 1, 1) := by decide +kernel
theorem tc_d7_put_1 : decode tc_i7_put.2.1 1 = .ok (.invokestatic 222, 3) := by decide +kernel
theorem tc_d7_put_4 : decode tc_i7_put.2.1 4 = .ok (.ifCond .ne 6, 3) := by decide +kernel
theorem tc_d7_put_7 : decode tc_i7_put.2.1 7 = .ok (.bipush (-2), 2) := by decide +kernel
theorem tc_d7_put_9 : decode tc_i7_put.2.1 9 = .ok (.ireturn, 1) := by decide +kernel
theorem tc_d7_put_10 : decode tc_i7_put.2.1 10 = .ok (.aload_n 0, 1) := by decide +kernel
theorem tc_d7_put_11 : decode tc_i7_put.2.1 11 = .ok (.getfield 54, 3) := by decide +kernel
theorem tc_d7_put_14 : decode tc_i7_put.2.1 14 = .ok (.iload_n 1, 1) := by decide +kernel
theorem tc_d7_put_15 : decode tc_i7_put.2.1 15 = .ok (.iaload, 1) := by decide +kernel
theorem tc_d7_put_16 : decode tc_i7_put.2.1 16 = .ok (.ifCond .ge 6, 3) := by decide +kernel
theorem tc_d7_put_19 : decode tc_i7_put.2.1 19 = .ok (.bipush (-11), 2) := by decide +kernel
theorem tc_d7_put_21 : decode tc_i7_put.2.1 21 = .ok (.ireturn, 1) := by decide +kernel
theorem tc_d7_put_22 : decode tc_i7_put.2.1 22 = .ok (.iload_n 2, 1) := by decide +kernel
theorem tc_d7_put_23 : decode tc_i7_put.2.1 23 = .ok (.iconst 0, 1) := by decide +kernel
theorem tc_d7_put_24 : decode tc_i7_put.2.1 24 = .ok (.aload_n 0, 1) := by decide +kernel
theorem tc_d7_put_25 : decode tc_i7_put.2.1 25 = .ok (.getfield 57, 3) := by decide +kernel
theorem tc_d7_put_28 : decode tc_i7_put.2.1 28 = .ok (.iload_n 1, 1) := by decide +kernel
theorem tc_d7_put_29 : decode tc_i7_put.2.1 29 = .ok (.iaload, 1) := by decide +kernel
theorem tc_d7_put_30 : decode tc_i7_put.2.1 30 = .ok (.iconst 1, 1) := by decide +kernel
theorem tc_d7_put_31 : decode tc_i7_put.2.1 31 = .ok (.isub, 1) := by decide +kernel
theorem tc_d7_put_32 : decode tc_i7_put.2.1 32 = .ok (.invokestatic 96, 3) := by decide +kernel
theorem tc_d7_put_35 : decode tc_i7_put.2.1 35 = .ok (.ifCond .ne 6, 3) := by decide +kernel
theorem tc_d7_put_38 : decode tc_i7_put.2.1 38 = .ok (.bipush (-12), 2) := by decide +kernel
theorem tc_d7_put_40 : decode tc_i7_put.2.1 40 = .ok (.ireturn, 1) := by decide +kernel
theorem tc_d7_put_41 : decode tc_i7_put.2.1 41 = .ok (.aload_n 0, 1) := by decide +kernel
theorem tc_d7_put_42 : decode tc_i7_put.2.1 42 = .ok (.getfield 60, 3) := by decide +kernel
theorem tc_d7_put_45 : decode tc_i7_put.2.1 45 = .ok (.bipush 40, 2) := by decide +kernel
theorem tc_d7_put_47 : decode tc_i7_put.2.1 47 = .ok (.iload_n 1, 1) := by decide +kernel
theorem tc_d7_put_48 : decode tc_i7_put.2.1 48 = .ok (.imul, 1) := by decide +kernel
theorem tc_d7_put_49 : decode tc_i7_put.2.1 49 = .ok (.iload_n 2, 1) := by decide +kernel
theorem tc_d7_put_50 : decode tc_i7_put.2.1 50 = .ok (.iadd, 1) := by decide +kernel
theorem tc_d7_put_51 : decode tc_i7_put.2.1 51 = .ok (.aload_n 0, 1) := by decide +kernel
theorem tc_d7_put_52 : decode tc_i7_put.2.1 52 = .ok (.getfield 54, 3) := by decide +kernel
theorem tc_d7_put_55 : decode tc_i7_put.2.1 55 = .ok (.iload_n 1, 1) := by decide +kernel
theorem tc_d7_put_56 : decode tc_i7_put.2.1 56 = .ok (.iaload, 1) := by decide +kernel
theorem tc_d7_put_57 : decode tc_i7_put.2.1 57 = .ok (.ifCond .ne 8, 3) := by decide +kernel
theorem tc_d7_put_60 : decode tc_i7_put.2.1 60 = .ok (.iload_n 3, 1) := by decide +kernel
theorem tc_d7_put_61 : decode tc_i7_put.2.1 61 = .ok (.i2s, 1) := by decide +kernel
theorem tc_d7_put_62 : decode tc_i7_put.2.1 62 = .ok (.goto 4, 3) := by decide +kernel
theorem tc_d7_put_65 : decode tc_i7_put.2.1 65 = .ok (.iload_n 3, 1) := by decide +kernel
theorem tc_d7_put_66 : decode tc_i7_put.2.1 66 = .ok (.iastore, 1) := by decide +kernel
theorem tc_d7_put_67 : decode tc_i7_put.2.1 67 = .ok (.iconst 1, 1) := by decide +kernel
theorem tc_d7_put_68 : decode tc_i7_put.2.1 68 = .ok (.ireturn, 1) := by decide +kernel
theorem tc_d7_run_0 : decode tc_i7_run.2.1 0 = .ok (.iload_n 1, 1) := by decide +kernel
theorem tc_d7_run_1 : decode tc_i7_run.2.1 1 = .ok (.iconst 0, 1) := by decide +kernel
theorem tc_d7_run_2 : decode tc_i7_run.2.1 2 = .ok (.bipush 20, 2) := by decide +kernel
theorem tc_d7_run_4 : decode tc_i7_run.2.1 4 = .ok (.invokestatic 96, 3) := by decide +kernel
theorem tc_d7_run_7 : decode tc_i7_run.2.1 7 = .ok (.ifCond .eq 12, 3) := by decide +kernel
theorem tc_d7_run_10 : decode tc_i7_run.2.1 10 = .ok (.iload_n 2, 1) := by decide +kernel
theorem tc_d7_run_11 : decode tc_i7_run.2.1 11 = .ok (.iconst 0, 1) := by decide +kernel
theorem tc_d7_run_12 : decode tc_i7_run.2.1 12 = .ok (.iconst 3, 1) := by decide +kernel
theorem tc_d7_run_13 : decode tc_i7_run.2.1 13 = .ok (.invokestatic 96, 3) := by decide +kernel
theorem tc_d7_run_16 : decode tc_i7_run.2.1 16 = .ok (.ifCond .ne 6, 3) := by decide +kernel
theorem tc_d7_run_19 : decode tc_i7_run.2.1 19 = .ok (.bipush (-2), 2) := by decide +kernel
theorem tc_d7_run_21 : decode tc_i7_run.2.1 21 = .ok (.ireturn, 1) := by decide +kernel
theorem tc_d7_run_22 : decode tc_i7_run.2.1 22 = .ok (.aload_n 0, 1) := by decide +kernel
theorem tc_d7_run_23 : decode tc_i7_run.2.1 23 = .ok (.invokevirtual 187, 3) := by decide +kernel
theorem tc_d7_run_26 : decode tc_i7_run.2.1 26 = .ok (.iconst 0, 1) := by decide +kernel
theorem tc_d7_run_27 : decode tc_i7_run.2.1 27 = .ok (.istore_n 3, 1) := by decide +kernel
theorem tc_d7_run_28 : decode tc_i7_run.2.1 28 = .ok (.iconst 0, 1) := by decide +kernel
theorem tc_d7_run_29 : decode tc_i7_run.2.1 29 = .ok (.istore 4, 2) := by decide +kernel
theorem tc_d7_run_31 : decode tc_i7_run.2.1 31 = .ok (.iconst 1, 1) := by decide +kernel
theorem tc_d7_run_32 : decode tc_i7_run.2.1 32 = .ok (.istore 5, 2) := by decide +kernel
theorem tc_d7_run_34 : decode tc_i7_run.2.1 34 = .ok (.iconst 0, 1) := by decide +kernel
theorem tc_d7_run_35 : decode tc_i7_run.2.1 35 = .ok (.istore 6, 2) := by decide +kernel
theorem tc_d7_run_37 : decode tc_i7_run.2.1 37 = .ok (.iload 6, 2) := by decide +kernel
theorem tc_d7_run_39 : decode tc_i7_run.2.1 39 = .ok (.iload_n 1, 1) := by decide +kernel
theorem tc_d7_run_40 : decode tc_i7_run.2.1 40 = .ok (.if_icmp .ge 60, 3) := by decide +kernel
theorem tc_d7_run_43 : decode tc_i7_run.2.1 43 = .ok (.iload 5, 2) := by decide +kernel
theorem tc_d7_run_45 : decode tc_i7_run.2.1 45 = .ok (.ifCond .eq 55, 3) := by decide +kernel
theorem tc_d7_run_48 : decode tc_i7_run.2.1 48 = .ok (.aload_n 0, 1) := by decide +kernel
theorem tc_d7_run_49 : decode tc_i7_run.2.1 49 = .ok (.iconst 0, 1) := by decide +kernel
theorem tc_d7_run_50 : decode tc_i7_run.2.1 50 = .ok (.invokevirtual 180, 3) := by decide +kernel
theorem tc_d7_run_53 : decode tc_i7_run.2.1 53 = .ok (.istore 7, 2) := by decide +kernel
theorem tc_d7_run_55 : decode tc_i7_run.2.1 55 = .ok (.iload 7, 2) := by decide +kernel
theorem tc_d7_run_57 : decode tc_i7_run.2.1 57 = .ok (.ifCond .lt 7, 3) := by decide +kernel
theorem tc_d7_run_60 : decode tc_i7_run.2.1 60 = .ok (.iconst 1, 1) := by decide +kernel
theorem tc_d7_run_61 : decode tc_i7_run.2.1 61 = .ok (.goto 4, 3) := by decide +kernel
theorem tc_d7_run_64 : decode tc_i7_run.2.1 64 = .ok (.iconst 0, 1) := by decide +kernel
theorem tc_d7_run_65 : decode tc_i7_run.2.1 65 = .ok (.istore 5, 2) := by decide +kernel
theorem tc_d7_run_67 : decode tc_i7_run.2.1 67 = .ok (.iload 5, 2) := by decide +kernel
theorem tc_d7_run_69 : decode tc_i7_run.2.1 69 = .ok (.ifCond .eq 25, 3) := by decide +kernel
theorem tc_d7_run_72 : decode tc_i7_run.2.1 72 = .ok (.iload 4, 2) := by decide +kernel
theorem tc_d7_run_74 : decode tc_i7_run.2.1 74 = .ok (.iload 7, 2) := by decide +kernel
theorem tc_d7_run_76 : decode tc_i7_run.2.1 76 = .ok (.iadd, 1) := by decide +kernel
theorem tc_d7_run_77 : decode tc_i7_run.2.1 77 = .ok (.istore 4, 2) := by decide +kernel
theorem tc_d7_run_79 : decode tc_i7_run.2.1 79 = .ok (.iload_n 3, 1) := by decide +kernel
theorem tc_d7_run_80 : decode tc_i7_run.2.1 80 = .ok (.aload_n 0, 1) := by decide +kernel
theorem tc_d7_run_81 : decode tc_i7_run.2.1 81 = .ok (.iconst 1, 1) := by decide +kernel
theorem tc_d7_run_82 : decode tc_i7_run.2.1 82 = .ok (.invokevirtual 173, 3) := by decide +kernel
theorem tc_d7_run_85 : decode tc_i7_run.2.1 85 = .ok (.invokestatic 190, 3) := by decide +kernel
theorem tc_d7_run_88 : decode tc_i7_run.2.1 88 = .ok (.iadd, 1) := by decide +kernel
theorem tc_d7_run_89 : decode tc_i7_run.2.1 89 = .ok (.istore_n 3, 1) := by decide +kernel
theorem tc_d7_run_90 : decode tc_i7_run.2.1 90 = .ok (.aload_n 0, 1) := by decide +kernel
theorem tc_d7_run_91 : decode tc_i7_run.2.1 91 = .ok (.invokevirtual 170, 3) := by decide +kernel
theorem tc_d7_run_94 : decode tc_i7_run.2.1 94 = .ok (.iinc 6 1, 3) := by decide +kernel
theorem tc_d7_run_97 : decode tc_i7_run.2.1 97 = .ok (.goto (-60), 3) := by decide +kernel
theorem tc_d7_run_100 : decode tc_i7_run.2.1 100 = .ok (.iload 5, 2) := by decide +kernel
theorem tc_d7_run_102 : decode tc_i7_run.2.1 102 = .ok (.ifCond .ne 8, 3) := by decide +kernel
theorem tc_d7_run_105 : decode tc_i7_run.2.1 105 = .ok (.bipush (-3), 2) := by decide +kernel
theorem tc_d7_run_107 : decode tc_i7_run.2.1 107 = .ok (.goto 39, 3) := by decide +kernel
theorem tc_d7_run_110 : decode tc_i7_run.2.1 110 = .ok (.iload_n 2, 1) := by decide +kernel
theorem tc_d7_run_111 : decode tc_i7_run.2.1 111 = .ok (.ifCond .ne 11, 3) := by decide +kernel
theorem tc_d7_run_114 : decode tc_i7_run.2.1 114 = .ok (.aload_n 0, 1) := by decide +kernel
theorem tc_d7_run_115 : decode tc_i7_run.2.1 115 = .ok (.iconst 0, 1) := by decide +kernel
theorem tc_d7_run_116 : decode tc_i7_run.2.1 116 = .ok (.invokevirtual 173, 3) := by decide +kernel
theorem tc_d7_run_119 : decode tc_i7_run.2.1 119 = .ok (.goto 27, 3) := by decide +kernel
theorem tc_d7_run_122 : decode tc_i7_run.2.1 122 = .ok (.iload_n 2, 1) := by decide +kernel
theorem tc_d7_run_123 : decode tc_i7_run.2.1 123 = .ok (.iconst 1, 1) := by decide +kernel
theorem tc_d7_run_124 : decode tc_i7_run.2.1 124 = .ok (.if_icmp .ne 7, 3) := by decide +kernel
theorem tc_d7_run_127 : decode tc_i7_run.2.1 127 = .ok (.iload_n 3, 1) := by decide +kernel
theorem tc_d7_run_128 : decode tc_i7_run.2.1 128 = .ok (.goto 18, 3) := by decide +kernel
theorem tc_d7_run_131 : decode tc_i7_run.2.1 131 = .ok (.iload_n 2, 1) := by decide +kernel
theorem tc_d7_run_132 : decode tc_i7_run.2.1 132 = .ok (.iconst 2, 1) := by decide +kernel
theorem tc_d7_run_133 : decode tc_i7_run.2.1 133 = .ok (.if_icmp .ne 8, 3) := by decide +kernel
theorem tc_d7_run_136 : decode tc_i7_run.2.1 136 = .ok (.iload 4, 2) := by decide +kernel
theorem tc_d7_run_138 : decode tc_i7_run.2.1 138 = .ok (.goto 8, 3) := by decide +kernel
theorem tc_d7_run_141 : decode tc_i7_run.2.1 141 = .ok (.aload_n 0, 1) := by decide +kernel
theorem tc_d7_run_142 : decode tc_i7_run.2.1 142 = .ok (.iconst 3, 1) := by decide +kernel
theorem tc_d7_run_143 : decode tc_i7_run.2.1 143 = .ok (.invokevirtual 173, 3) := by decide +kernel
theorem tc_d7_run_146 : decode tc_i7_run.2.1 146 = .ok (.istore 6, 2) := by decide +kernel
theorem tc_d7_run_148 : decode tc_i7_run.2.1 148 = .ok (.aload_n 0, 1) := by decide +kernel
theorem tc_d7_run_149 : decode tc_i7_run.2.1 149 = .ok (.invokevirtual 195, 3) := by decide +kernel
theorem tc_d7_run_152 : decode tc_i7_run.2.1 152 = .ok (.iload 6, 2) := by decide +kernel
theorem tc_d7_run_154 : decode tc_i7_run.2.1 154 = .ok (.ireturn, 1) := by decide +kernel
theorem tc_d7_seen_0 : decode tc_i7_seen.2.1 0 = .ok (.aload_n 0, 1) := by decide +kernel
theorem tc_d7_seen_1 : decode tc_i7_seen.2.1 1 = .ok (.iload_n 1, 1) := by decide +kernel
theorem tc_d7_seen_2 : decode tc_i7_seen.2.1 2 = .ok (.invokevirtual 167, 3) := by decide +kernel
theorem tc_d7_seen_5 : decode tc_i7_seen.2.1 5 = .ok (.ifCond .ne 8, 3) := by decide +kernel
theorem tc_d7_seen_8 : decode tc_i7_seen.2.1 8 = .ok (.bipush (-2), 2) := by decide +kernel
theorem tc_d7_seen_10 : decode tc_i7_seen.2.1 10 = .ok (.goto 16, 3) := by decide +kernel
theorem tc_d7_seen_13 : decode tc_i7_seen.2.1 13 = .ok (.aload_n 0, 1) := by decide +kernel
theorem tc_d7_seen_14 : decode tc_i7_seen.2.1 14 = .ok (.iload_n 1, 1) := by decide +kernel
theorem tc_d7_seen_15 : decode tc_i7_seen.2.1 15 = .ok (.invokevirtual 198, 3) := by decide +kernel
theorem tc_d7_seen_18 : decode tc_i7_seen.2.1 18 = .ok (.ifCond .ne 7, 3) := by decide +kernel
theorem tc_d7_seen_21 : decode tc_i7_seen.2.1 21 = .ok (.iconst 1, 1) := by decide +kernel
theorem tc_d7_seen_22 : decode tc_i7_seen.2.1 22 = .ok (.goto 4, 3) := by decide +kernel
theorem tc_d7_seen_25 : decode tc_i7_seen.2.1 25 = .ok (.iconst 0, 1) := by decide +kernel
theorem tc_d7_seen_26 : decode tc_i7_seen.2.1 26 = .ok (.ireturn, 1) := by decide +kernel
theorem tc_d7_set_0 : decode tc_i7_set.2.1 0 = .ok (.aload_n 0, 1) := by decide +kernel
theorem tc_d7_set_1 : decode tc_i7_set.2.1 1 = .ok (.iload_n 1, 1) := by decide +kernel
theorem tc_d7_set_2 : decode tc_i7_set.2.1 2 = .ok (.invokevirtual 167, 3) := by decide +kernel
theorem tc_d7_set_5 : decode tc_i7_set.2.1 5 = .ok (.ifCond .eq 12, 3) := by decide +kernel
theorem tc_d7_set_8 : decode tc_i7_set.2.1 8 = .ok (.iload_n 2, 1) := by decide +kernel
theorem tc_d7_set_9 : decode tc_i7_set.2.1 9 = .ok (.iconst 0, 1) := by decide +kernel
theorem tc_d7_set_10 : decode tc_i7_set.2.1 10 = .ok (.iconst 3, 1) := by decide +kernel
theorem tc_d7_set_11 : decode tc_i7_set.2.1 11 = .ok (.invokestatic 96, 3) := by decide +kernel
theorem tc_d7_set_14 : decode tc_i7_set.2.1 14 = .ok (.ifCond .ne 6, 3) := by decide +kernel
theorem tc_d7_set_17 : decode tc_i7_set.2.1 17 = .ok (.bipush (-2), 2) := by decide +kernel
theorem tc_d7_set_19 : decode tc_i7_set.2.1 19 = .ok (.ireturn, 1) := by decide +kernel
theorem tc_d7_set_20 : decode tc_i7_set.2.1 20 = .ok (.iload_n 2, 1) := by decide +kernel
theorem tc_d7_set_21 : decode tc_i7_set.2.1 21 = .ok (.tableswitch 120 0 2 #[27, 58, 89], 27) := by decide +kernel
theorem tc_d7_set_48 : decode tc_i7_set.2.1 48 = .ok (.iload_n 3, 1) := by decide +kernel
theorem tc_d7_set_49 : decode tc_i7_set.2.1 49 = .ok (.iconst 1, 1) := by decide +kernel
theorem tc_d7_set_50 : decode tc_i7_set.2.1 50 = .ok (.bipush 99, 2) := by decide +kernel
theorem tc_d7_set_52 : decode tc_i7_set.2.1 52 = .ok (.invokestatic 96, 3) := by decide +kernel
theorem tc_d7_set_55 : decode tc_i7_set.2.1 55 = .ok (.ifCond .ne 6, 3) := by decide +kernel
theorem tc_d7_set_58 : decode tc_i7_set.2.1 58 = .ok (.bipush (-2), 2) := by decide +kernel
theorem tc_d7_set_60 : decode tc_i7_set.2.1 60 = .ok (.ireturn, 1) := by decide +kernel
theorem tc_d7_set_61 : decode tc_i7_set.2.1 61 = .ok (.aload_n 0, 1) := by decide +kernel
theorem tc_d7_set_62 : decode tc_i7_set.2.1 62 = .ok (.getfield 13, 3) := by decide +kernel
theorem tc_d7_set_65 : decode tc_i7_set.2.1 65 = .ok (.iload_n 1, 1) := by decide +kernel
theorem tc_d7_set_66 : decode tc_i7_set.2.1 66 = .ok (.iaload, 1) := by decide +kernel
theorem tc_d7_set_67 : decode tc_i7_set.2.1 67 = .ok (.istore 4, 2) := by decide +kernel
theorem tc_d7_set_69 : decode tc_i7_set.2.1 69 = .ok (.aload_n 0, 1) := by decide +kernel
theorem tc_d7_set_70 : decode tc_i7_set.2.1 70 = .ok (.getfield 13, 3) := by decide +kernel
theorem tc_d7_set_73 : decode tc_i7_set.2.1 73 = .ok (.iload_n 1, 1) := by decide +kernel
theorem tc_d7_set_74 : decode tc_i7_set.2.1 74 = .ok (.iload_n 3, 1) := by decide +kernel
theorem tc_d7_set_75 : decode tc_i7_set.2.1 75 = .ok (.iastore, 1) := by decide +kernel
theorem tc_d7_set_76 : decode tc_i7_set.2.1 76 = .ok (.iload 4, 2) := by decide +kernel
theorem tc_d7_set_78 : decode tc_i7_set.2.1 78 = .ok (.ireturn, 1) := by decide +kernel
theorem tc_d7_set_79 : decode tc_i7_set.2.1 79 = .ok (.iload_n 3, 1) := by decide +kernel
theorem tc_d7_set_80 : decode tc_i7_set.2.1 80 = .ok (.iconst 0, 1) := by decide +kernel
theorem tc_d7_set_81 : decode tc_i7_set.2.1 81 = .ok (.bipush 9, 2) := by decide +kernel
theorem tc_d7_set_83 : decode tc_i7_set.2.1 83 = .ok (.invokestatic 96, 3) := by decide +kernel
theorem tc_d7_set_86 : decode tc_i7_set.2.1 86 = .ok (.ifCond .ne 6, 3) := by decide +kernel
theorem tc_d7_set_89 : decode tc_i7_set.2.1 89 = .ok (.bipush (-2), 2) := by decide +kernel
theorem tc_d7_set_91 : decode tc_i7_set.2.1 91 = .ok (.ireturn, 1) := by decide +kernel
theorem tc_d7_set_92 : decode tc_i7_set.2.1 92 = .ok (.aload_n 0, 1) := by decide +kernel
theorem tc_d7_set_93 : decode tc_i7_set.2.1 93 = .ok (.getfield 16, 3) := by decide +kernel
theorem tc_d7_set_96 : decode tc_i7_set.2.1 96 = .ok (.iload_n 1, 1) := by decide +kernel
theorem tc_d7_set_97 : decode tc_i7_set.2.1 97 = .ok (.iaload, 1) := by decide +kernel
theorem tc_d7_set_98 : decode tc_i7_set.2.1 98 = .ok (.istore 4, 2) := by decide +kernel
theorem tc_d7_set_100 : decode tc_i7_set.2.1 100 = .ok (.aload_n 0, 1) := by decide +kernel
theorem tc_d7_set_101 : decode tc_i7_set.2.1 101 = .ok (.getfield 16, 3) := by decide +kernel
theorem tc_d7_set_104 : decode tc_i7_set.2.1 104 = .ok (.iload_n 1, 1) := by decide +kernel
theorem tc_d7_set_105 : decode tc_i7_set.2.1 105 = .ok (.iload_n 3, 1) := by decide +kernel
theorem tc_d7_set_106 : decode tc_i7_set.2.1 106 = .ok (.iastore, 1) := by decide +kernel
theorem tc_d7_set_107 : decode tc_i7_set.2.1 107 = .ok (.iload 4, 2) := by decide +kernel
theorem tc_d7_set_109 : decode tc_i7_set.2.1 109 = .ok (.ireturn, 1) := by decide +kernel
theorem tc_d7_set_110 : decode tc_i7_set.2.1 110 = .ok (.iload_n 3, 1) := by decide +kernel
theorem tc_d7_set_111 : decode tc_i7_set.2.1 111 = .ok (.iconst 1, 1) := by decide +kernel
theorem tc_d7_set_112 : decode tc_i7_set.2.1 112 = .ok (.bipush 9, 2) := by decide +kernel
theorem tc_d7_set_114 : decode tc_i7_set.2.1 114 = .ok (.invokestatic 96, 3) := by decide +kernel
theorem tc_d7_set_117 : decode tc_i7_set.2.1 117 = .ok (.ifCond .ne 6, 3) := by decide +kernel
theorem tc_d7_set_120 : decode tc_i7_set.2.1 120 = .ok (.bipush (-2), 2) := by decide +kernel
theorem tc_d7_set_122 : decode tc_i7_set.2.1 122 = .ok (.ireturn, 1) := by decide +kernel
theorem tc_d7_set_123 : decode tc_i7_set.2.1 123 = .ok (.aload_n 0, 1) := by decide +kernel
theorem tc_d7_set_124 : decode tc_i7_set.2.1 124 = .ok (.getfield 19, 3) := by decide +kernel
theorem tc_d7_set_127 : decode tc_i7_set.2.1 127 = .ok (.iload_n 1, 1) := by decide +kernel
theorem tc_d7_set_128 : decode tc_i7_set.2.1 128 = .ok (.iaload, 1) := by decide +kernel
theorem tc_d7_set_129 : decode tc_i7_set.2.1 129 = .ok (.istore 4, 2) := by decide +kernel
theorem tc_d7_set_131 : decode tc_i7_set.2.1 131 = .ok (.aload_n 0, 1) := by decide +kernel
theorem tc_d7_set_132 : decode tc_i7_set.2.1 132 = .ok (.getfield 19, 3) := by decide +kernel
theorem tc_d7_set_135 : decode tc_i7_set.2.1 135 = .ok (.iload_n 1, 1) := by decide +kernel
theorem tc_d7_set_136 : decode tc_i7_set.2.1 136 = .ok (.iload_n 3, 1) := by decide +kernel
theorem tc_d7_set_137 : decode tc_i7_set.2.1 137 = .ok (.iastore, 1) := by decide +kernel
theorem tc_d7_set_138 : decode tc_i7_set.2.1 138 = .ok (.iload 4, 2) := by decide +kernel
theorem tc_d7_set_140 : decode tc_i7_set.2.1 140 = .ok (.ireturn, 1) := by decide +kernel
theorem tc_d7_set_141 : decode tc_i7_set.2.1 141 = .ok (.iload_n 3, 1) := by decide +kernel
theorem tc_d7_set_142 : decode tc_i7_set.2.1 142 = .ok (.iconst 0, 1) := by decide +kernel
theorem tc_d7_set_143 : decode tc_i7_set.2.1 143 = .ok (.iconst 5, 1) := by decide +kernel
theorem tc_d7_set_144 : decode tc_i7_set.2.1 144 = .ok (.invokestatic 96, 3) := by decide +kernel
theorem tc_d7_set_147 : decode tc_i7_set.2.1 147 = .ok (.ifCond .ne 6, 3) := by decide +kernel
theorem tc_d7_set_150 : decode tc_i7_set.2.1 150 = .ok (.bipush (-2), 2) := by decide +kernel
theorem tc_d7_set_152 : decode tc_i7_set.2.1 152 = .ok (.ireturn, 1) := by decide +kernel
theorem tc_d7_set_153 : decode tc_i7_set.2.1 153 = .ok (.aload_n 0, 1) := by decide +kernel
theorem tc_d7_set_154 : decode tc_i7_set.2.1 154 = .ok (.getfield 7, 3) := by decide +kernel
theorem tc_d7_set_157 : decode tc_i7_set.2.1 157 = .ok (.iload_n 1, 1) := by decide +kernel
theorem tc_d7_set_158 : decode tc_i7_set.2.1 158 = .ok (.iaload, 1) := by decide +kernel
theorem tc_d7_set_159 : decode tc_i7_set.2.1 159 = .ok (.istore 4, 2) := by decide +kernel
theorem tc_d7_set_161 : decode tc_i7_set.2.1 161 = .ok (.aload_n 0, 1) := by decide +kernel
theorem tc_d7_set_162 : decode tc_i7_set.2.1 162 = .ok (.getfield 7, 3) := by decide +kernel
theorem tc_d7_set_165 : decode tc_i7_set.2.1 165 = .ok (.iload_n 1, 1) := by decide +kernel
theorem tc_d7_set_166 : decode tc_i7_set.2.1 166 = .ok (.iload_n 3, 1) := by decide +kernel
theorem tc_d7_set_167 : decode tc_i7_set.2.1 167 = .ok (.iastore, 1) := by decide +kernel
theorem tc_d7_set_168 : decode tc_i7_set.2.1 168 = .ok (.iload 4, 2) := by decide +kernel
theorem tc_d7_set_170 : decode tc_i7_set.2.1 170 = .ok (.ireturn, 1) := by decide +kernel
theorem tc_d7_sheet_0 : decode tc_i7_sheet.2.1 0 = .ok (.iload_n 1, 1) := by decide +kernel
theorem tc_d7_sheet_1 : decode tc_i7_sheet.2.1 1 = .ok (.invokestatic 222, 3) := by decide +kernel
theorem tc_d7_sheet_4 : decode tc_i7_sheet.2.1 4 = .ok (.ifCond .eq 12, 3) := by decide +kernel
theorem tc_d7_sheet_7 : decode tc_i7_sheet.2.1 7 = .ok (.iload_n 2, 1) := by decide +kernel
theorem tc_d7_sheet_8 : decode tc_i7_sheet.2.1 8 = .ok (.iconst (-1), 1) := by decide +kernel
theorem tc_d7_sheet_9 : decode tc_i7_sheet.2.1 9 = .ok (.iconst 1, 1) := by decide +kernel
theorem tc_d7_sheet_10 : decode tc_i7_sheet.2.1 10 = .ok (.invokestatic 96, 3) := by decide +kernel
theorem tc_d7_sheet_13 : decode tc_i7_sheet.2.1 13 = .ok (.ifCond .ne 6, 3) := by decide +kernel
theorem tc_d7_sheet_16 : decode tc_i7_sheet.2.1 16 = .ok (.bipush (-2), 2) := by decide +kernel
theorem tc_d7_sheet_18 : decode tc_i7_sheet.2.1 18 = .ok (.ireturn, 1) := by decide +kernel
theorem tc_d7_sheet_19 : decode tc_i7_sheet.2.1 19 = .ok (.iload_n 2, 1) := by decide +kernel
theorem tc_d7_sheet_20 : decode tc_i7_sheet.2.1 20 = .ok (.iconst (-1), 1) := by decide +kernel
theorem tc_d7_sheet_21 : decode tc_i7_sheet.2.1 21 = .ok (.if_icmp .ne 12, 3) := by decide +kernel
theorem tc_d7_sheet_24 : decode tc_i7_sheet.2.1 24 = .ok (.aload_n 0, 1) := by decide +kernel
theorem tc_d7_sheet_25 : decode tc_i7_sheet.2.1 25 = .ok (.getfield 54, 3) := by decide +kernel
theorem tc_d7_sheet_28 : decode tc_i7_sheet.2.1 28 = .ok (.iload_n 1, 1) := by decide +kernel
theorem tc_d7_sheet_29 : decode tc_i7_sheet.2.1 29 = .ok (.iconst (-1), 1) := by decide +kernel
theorem tc_d7_sheet_30 : decode tc_i7_sheet.2.1 30 = .ok (.iastore, 1) := by decide +kernel
theorem tc_d7_sheet_31 : decode tc_i7_sheet.2.1 31 = .ok (.iconst 1, 1) := by decide +kernel
theorem tc_d7_sheet_32 : decode tc_i7_sheet.2.1 32 = .ok (.ireturn, 1) := by decide +kernel
theorem tc_d7_sheet_33 : decode tc_i7_sheet.2.1 33 = .ok (.iload_n 3, 1) := by decide +kernel
theorem tc_d7_sheet_34 : decode tc_i7_sheet.2.1 34 = .ok (.bipush 40, 2) := by decide +kernel
theorem tc_d7_sheet_36 : decode tc_i7_sheet.2.1 36 = .ok (.if_icmp .le 6, 3) := by decide +kernel
theorem tc_d7_sheet_39 : decode tc_i7_sheet.2.1 39 = .ok (.bipush (-2), 2) := by decide +kernel
theorem tc_d7_sheet_41 : decode tc_i7_sheet.2.1 41 = .ok (.ireturn, 1) := by decide +kernel
theorem tc_d7_sheet_42 : decode tc_i7_sheet.2.1 42 = .ok (.iload_n 3, 1) := by decide +kernel
theorem tc_d7_sheet_43 : decode tc_i7_sheet.2.1 43 = .ok (.ifCond .ge 6, 3) := by decide +kernel
theorem tc_d7_sheet_46 : decode tc_i7_sheet.2.1 46 = .ok (.bipush (-14), 2) := by decide +kernel
theorem tc_d7_sheet_48 : decode tc_i7_sheet.2.1 48 = .ok (.ireturn, 1) := by decide +kernel
theorem tc_d7_sheet_49 : decode tc_i7_sheet.2.1 49 = .ok (.aload_n 0, 1) := by decide +kernel
theorem tc_d7_sheet_50 : decode tc_i7_sheet.2.1 50 = .ok (.getfield 54, 3) := by decide +kernel
theorem tc_d7_sheet_53 : decode tc_i7_sheet.2.1 53 = .ok (.iload_n 1, 1) := by decide +kernel
theorem tc_d7_sheet_54 : decode tc_i7_sheet.2.1 54 = .ok (.iload_n 2, 1) := by decide +kernel
theorem tc_d7_sheet_55 : decode tc_i7_sheet.2.1 55 = .ok (.iastore, 1) := by decide +kernel
theorem tc_d7_sheet_56 : decode tc_i7_sheet.2.1 56 = .ok (.aload_n 0, 1) := by decide +kernel
theorem tc_d7_sheet_57 : decode tc_i7_sheet.2.1 57 = .ok (.getfield 57, 3) := by decide +kernel
theorem tc_d7_sheet_60 : decode tc_i7_sheet.2.1 60 = .ok (.iload_n 1, 1) := by decide +kernel
theorem tc_d7_sheet_61 : decode tc_i7_sheet.2.1 61 = .ok (.iload_n 3, 1) := by decide +kernel
theorem tc_d7_sheet_62 : decode tc_i7_sheet.2.1 62 = .ok (.iastore, 1) := by decide +kernel
theorem tc_d7_sheet_63 : decode tc_i7_sheet.2.1 63 = .ok (.iconst 0, 1) := by decide +kernel
theorem tc_d7_sheet_64 : decode tc_i7_sheet.2.1 64 = .ok (.istore 4, 2) := by decide +kernel
theorem tc_d7_sheet_66 : decode tc_i7_sheet.2.1 66 = .ok (.iload 4, 2) := by decide +kernel
theorem tc_d7_sheet_68 : decode tc_i7_sheet.2.1 68 = .ok (.iload_n 3, 1) := by decide +kernel
theorem tc_d7_sheet_69 : decode tc_i7_sheet.2.1 69 = .ok (.if_icmp .ge 22, 3) := by decide +kernel
theorem tc_d7_sheet_72 : decode tc_i7_sheet.2.1 72 = .ok (.aload_n 0, 1) := by decide +kernel
theorem tc_d7_sheet_73 : decode tc_i7_sheet.2.1 73 = .ok (.getfield 60, 3) := by decide +kernel
theorem tc_d7_sheet_76 : decode tc_i7_sheet.2.1 76 = .ok (.bipush 40, 2) := by decide +kernel
theorem tc_d7_sheet_78 : decode tc_i7_sheet.2.1 78 = .ok (.iload_n 1, 1) := by decide +kernel
theorem tc_d7_sheet_79 : decode tc_i7_sheet.2.1 79 = .ok (.imul, 1) := by decide +kernel
theorem tc_d7_sheet_80 : decode tc_i7_sheet.2.1 80 = .ok (.iload 4, 2) := by decide +kernel
theorem tc_d7_sheet_82 : decode tc_i7_sheet.2.1 82 = .ok (.iadd, 1) := by decide +kernel
theorem tc_d7_sheet_83 : decode tc_i7_sheet.2.1 83 = .ok (.iconst 0, 1) := by decide +kernel
theorem tc_d7_sheet_84 : decode tc_i7_sheet.2.1 84 = .ok (.iastore, 1) := by decide +kernel
theorem tc_d7_sheet_85 : decode tc_i7_sheet.2.1 85 = .ok (.iinc 4 1, 3) := by decide +kernel
theorem tc_d7_sheet_88 : decode tc_i7_sheet.2.1 88 = .ok (.goto (-22), 3) := by decide +kernel
theorem tc_d7_sheet_91 : decode tc_i7_sheet.2.1 91 = .ok (.iconst 1, 1) := by decide +kernel
theorem tc_d7_sheet_92 : decode tc_i7_sheet.2.1 92 = .ok (.ireturn, 1) := by decide +kernel
theorem tc_d7_taken_0 : decode tc_i7_taken.2.1 0 = .ok (.aload_n 0, 1) := by decide +kernel
theorem tc_d7_taken_1 : decode tc_i7_taken.2.1 1 = .ok (.iload_n 1, 1) := by decide +kernel
theorem tc_d7_taken_2 : decode tc_i7_taken.2.1 2 = .ok (.invokevirtual 167, 3) := by decide +kernel
theorem tc_d7_taken_5 : decode tc_i7_taken.2.1 5 = .ok (.ifCond .eq 12, 3) := by decide +kernel
theorem tc_d7_taken_8 : decode tc_i7_taken.2.1 8 = .ok (.iload_n 2, 1) := by decide +kernel
theorem tc_d7_taken_9 : decode tc_i7_taken.2.1 9 = .ok (.iconst 0, 1) := by decide +kernel
theorem tc_d7_taken_10 : decode tc_i7_taken.2.1 10 = .ok (.iconst 5, 1) := by decide +kernel
theorem tc_d7_taken_11 : decode tc_i7_taken.2.1 11 = .ok (.invokestatic 96, 3) := by decide +kernel
theorem tc_d7_taken_14 : decode tc_i7_taken.2.1 14 = .ok (.ifCond .ne 6, 3) := by decide +kernel
theorem tc_d7_taken_17 : decode tc_i7_taken.2.1 17 = .ok (.bipush (-2), 2) := by decide +kernel
theorem tc_d7_taken_19 : decode tc_i7_taken.2.1 19 = .ok (.ireturn, 1) := by decide +kernel
theorem tc_d7_taken_20 : decode tc_i7_taken.2.1 20 = .ok (.iload_n 2, 1) := by decide +kernel
theorem tc_d7_taken_21 : decode tc_i7_taken.2.1 21 = .ok (.ifCond .eq 43, 3) := by decide +kernel
theorem tc_d7_taken_24 : decode tc_i7_taken.2.1 24 = .ok (.aload_n 0, 1) := by decide +kernel
theorem tc_d7_taken_25 : decode tc_i7_taken.2.1 25 = .ok (.getfield 7, 3) := by decide +kernel
theorem tc_d7_taken_28 : decode tc_i7_taken.2.1 28 = .ok (.iload_n 1, 1) := by decide +kernel
theorem tc_d7_taken_29 : decode tc_i7_taken.2.1 29 = .ok (.iaload, 1) := by decide +kernel
theorem tc_d7_taken_30 : decode tc_i7_taken.2.1 30 = .ok (.iload_n 2, 1) := by decide +kernel
theorem tc_d7_taken_31 : decode tc_i7_taken.2.1 31 = .ok (.if_icmp .eq 33, 3) := by decide +kernel
theorem tc_d7_taken_34 : decode tc_i7_taken.2.1 34 = .ok (.iload_n 2, 1) := by decide +kernel
theorem tc_d7_taken_35 : decode tc_i7_taken.2.1 35 = .ok (.iconst 1, 1) := by decide +kernel
theorem tc_d7_taken_36 : decode tc_i7_taken.2.1 36 = .ok (.if_icmp .ne 13, 3) := by decide +kernel
theorem tc_d7_taken_39 : decode tc_i7_taken.2.1 39 = .ok (.aload_n 0, 1) := by decide +kernel
theorem tc_d7_taken_40 : decode tc_i7_taken.2.1 40 = .ok (.getfield 7, 3) := by decide +kernel
theorem tc_d7_taken_43 : decode tc_i7_taken.2.1 43 = .ok (.iload_n 1, 1) := by decide +kernel
theorem tc_d7_taken_44 : decode tc_i7_taken.2.1 44 = .ok (.iaload, 1) := by decide +kernel
theorem tc_d7_taken_45 : decode tc_i7_taken.2.1 45 = .ok (.iconst 3, 1) := by decide +kernel
theorem tc_d7_taken_46 : decode tc_i7_taken.2.1 46 = .ok (.if_icmp .eq 18, 3) := by decide +kernel
theorem tc_d7_taken_49 : decode tc_i7_taken.2.1 49 = .ok (.iload_n 2, 1) := by decide +kernel
theorem tc_d7_taken_50 : decode tc_i7_taken.2.1 50 = .ok (.iconst 2, 1) := by decide +kernel
theorem tc_d7_taken_51 : decode tc_i7_taken.2.1 51 = .ok (.if_icmp .ne 17, 3) := by decide +kernel
theorem tc_d7_taken_54 : decode tc_i7_taken.2.1 54 = .ok (.aload_n 0, 1) := by decide +kernel
theorem tc_d7_taken_55 : decode tc_i7_taken.2.1 55 = .ok (.getfield 7, 3) := by decide +kernel
theorem tc_d7_taken_58 : decode tc_i7_taken.2.1 58 = .ok (.iload_n 1, 1) := by decide +kernel
theorem tc_d7_taken_59 : decode tc_i7_taken.2.1 59 = .ok (.iaload, 1) := by decide +kernel
theorem tc_d7_taken_60 : decode tc_i7_taken.2.1 60 = .ok (.iconst 5, 1) := by decide +kernel
theorem tc_d7_taken_61 : decode tc_i7_taken.2.1 61 = .ok (.if_icmp .ne 7, 3) := by decide +kernel
theorem tc_d7_taken_64 : decode tc_i7_taken.2.1 64 = .ok (.iconst 1, 1) := by decide +kernel
theorem tc_d7_taken_65 : decode tc_i7_taken.2.1 65 = .ok (.goto 4, 3) := by decide +kernel
theorem tc_d7_taken_68 : decode tc_i7_taken.2.1 68 = .ok (.iconst 0, 1) := by decide +kernel
theorem tc_d7_taken_69 : decode tc_i7_taken.2.1 69 = .ok (.istore_n 3, 1) := by decide +kernel
theorem tc_d7_taken_70 : decode tc_i7_taken.2.1 70 = .ok (.iload_n 3, 1) := by decide +kernel
theorem tc_d7_taken_71 : decode tc_i7_taken.2.1 71 = .ok (.ifCond .eq 12, 3) := by decide +kernel
theorem tc_d7_taken_74 : decode tc_i7_taken.2.1 74 = .ok (.aload_n 0, 1) := by decide +kernel
theorem tc_d7_taken_75 : decode tc_i7_taken.2.1 75 = .ok (.getfield 13, 3) := by decide +kernel
theorem tc_d7_taken_78 : decode tc_i7_taken.2.1 78 = .ok (.iload_n 1, 1) := by decide +kernel
theorem tc_d7_taken_79 : decode tc_i7_taken.2.1 79 = .ok (.iaload, 1) := by decide +kernel
theorem tc_d7_taken_80 : decode tc_i7_taken.2.1 80 = .ok (.goto 5, 3) := by decide +kernel
theorem tc_d7_taken_83 : decode tc_i7_taken.2.1 83 = .ok (.bipush (-13), 2) := by decide +kernel
theorem tc_d7_taken_85 : decode tc_i7_taken.2.1 85 = .ok (.ireturn, 1) := by decide +kernel
theorem tc_d7_tells_0 : decode tc_i7_tells.2.1 0 = .ok (.iload_n 1, 1) := by decide +kernel
theorem tc_d7_tells_1 : decode tc_i7_tells.2.1 1 = .ok (.invokestatic 222, 3) := by decide +kernel
theorem tc_d7_tells_4 : decode tc_i7_tells.2.1 4 = .ok (.ifCond .eq 20, 3) := by decide +kernel
theorem tc_d7_tells_7 : decode tc_i7_tells.2.1 7 = .ok (.aload_n 0, 1) := by decide +kernel
theorem tc_d7_tells_8 : decode tc_i7_tells.2.1 8 = .ok (.iload_n 2, 1) := by decide +kernel
theorem tc_d7_tells_9 : decode tc_i7_tells.2.1 9 = .ok (.invokevirtual 167, 3) := by decide +kernel
theorem tc_d7_tells_12 : decode tc_i7_tells.2.1 12 = .ok (.ifCond .eq 12, 3) := by decide +kernel
theorem tc_d7_tells_15 : decode tc_i7_tells.2.1 15 = .ok (.iload_n 3, 1) := by decide +kernel
theorem tc_d7_tells_16 : decode tc_i7_tells.2.1 16 = .ok (.iconst 0, 1) := by decide +kernel
theorem tc_d7_tells_17 : decode tc_i7_tells.2.1 17 = .ok (.iconst 1, 1) := by decide +kernel
theorem tc_d7_tells_18 : decode tc_i7_tells.2.1 18 = .ok (.invokestatic 96, 3) := by decide +kernel
theorem tc_d7_tells_21 : decode tc_i7_tells.2.1 21 = .ok (.ifCond .ne 6, 3) := by decide +kernel
theorem tc_d7_tells_24 : decode tc_i7_tells.2.1 24 = .ok (.bipush (-2), 2) := by decide +kernel
theorem tc_d7_tells_26 : decode tc_i7_tells.2.1 26 = .ok (.ireturn, 1) := by decide +kernel
theorem tc_d7_tells_27 : decode tc_i7_tells.2.1 27 = .ok (.aload_n 0, 1) := by decide +kernel
theorem tc_d7_tells_28 : decode tc_i7_tells.2.1 28 = .ok (.getfield 54, 3) := by decide +kernel
theorem tc_d7_tells_31 : decode tc_i7_tells.2.1 31 = .ok (.iload_n 1, 1) := by decide +kernel
theorem tc_d7_tells_32 : decode tc_i7_tells.2.1 32 = .ok (.iaload, 1) := by decide +kernel
theorem tc_d7_tells_33 : decode tc_i7_tells.2.1 33 = .ok (.ifCond .ge 6, 3) := by decide +kernel
theorem tc_d7_tells_36 : decode tc_i7_tells.2.1 36 = .ok (.bipush (-11), 2) := by decide +kernel
theorem tc_d7_tells_38 : decode tc_i7_tells.2.1 38 = .ok (.ireturn, 1) := by decide +kernel
theorem tc_d7_tells_39 : decode tc_i7_tells.2.1 39 = .ok (.aload_n 0, 1) := by decide +kernel
theorem tc_d7_tells_40 : decode tc_i7_tells.2.1 40 = .ok (.getfield 57, 3) := by decide +kernel
theorem tc_d7_tells_43 : decode tc_i7_tells.2.1 43 = .ok (.iload_n 1, 1) := by decide +kernel
theorem tc_d7_tells_44 : decode tc_i7_tells.2.1 44 = .ok (.iaload, 1) := by decide +kernel
theorem tc_d7_tells_45 : decode tc_i7_tells.2.1 45 = .ok (.bipush 10, 2) := by decide +kernel
theorem tc_d7_tells_47 : decode tc_i7_tells.2.1 47 = .ok (.if_icmp .le 6, 3) := by decide +kernel
theorem tc_d7_tells_50 : decode tc_i7_tells.2.1 50 = .ok (.bipush (-2), 2) := by decide +kernel
theorem tc_d7_tells_52 : decode tc_i7_tells.2.1 52 = .ok (.ireturn, 1) := by decide +kernel
theorem tc_d7_tells_53 : decode tc_i7_tells.2.1 53 = .ok (.iload_n 3, 1) := by decide +kernel
theorem tc_d7_tells_54 : decode tc_i7_tells.2.1 54 = .ok (.ifCond .ne 10, 3) := by decide +kernel
theorem tc_d7_tells_57 : decode tc_i7_tells.2.1 57 = .ok (.aload_n 0, 1) := by decide +kernel
theorem tc_d7_tells_58 : decode tc_i7_tells.2.1 58 = .ok (.iload_n 1, 1) := by decide +kernel
theorem tc_d7_tells_59 : decode tc_i7_tells.2.1 59 = .ok (.iload_n 2, 1) := by decide +kernel
theorem tc_d7_tells_60 : decode tc_i7_tells.2.1 60 = .ok (.invokevirtual 225, 3) := by decide +kernel
theorem tc_d7_tells_63 : decode tc_i7_tells.2.1 63 = .ok (.ireturn, 1) := by decide +kernel
theorem tc_d7_tells_64 : decode tc_i7_tells.2.1 64 = .ok (.aload_n 0, 1) := by decide +kernel
theorem tc_d7_tells_65 : decode tc_i7_tells.2.1 65 = .ok (.getfield 7, 3) := by decide +kernel
theorem tc_d7_tells_68 : decode tc_i7_tells.2.1 68 = .ok (.iload_n 2, 1) := by decide +kernel
theorem tc_d7_tells_69 : decode tc_i7_tells.2.1 69 = .ok (.iaload, 1) := by decide +kernel
theorem tc_d7_tells_70 : decode tc_i7_tells.2.1 70 = .ok (.istore 4, 2) := by decide +kernel
theorem tc_d7_tells_72 : decode tc_i7_tells.2.1 72 = .ok (.iconst 0, 1) := by decide +kernel
theorem tc_d7_tells_73 : decode tc_i7_tells.2.1 73 = .ok (.istore 5, 2) := by decide +kernel
theorem tc_d7_tells_75 : decode tc_i7_tells.2.1 75 = .ok (.iconst 0, 1) := by decide +kernel
theorem tc_d7_tells_76 : decode tc_i7_tells.2.1 76 = .ok (.istore 6, 2) := by decide +kernel
theorem tc_d7_tells_78 : decode tc_i7_tells.2.1 78 = .ok (.iload 6, 2) := by decide +kernel
theorem tc_d7_tells_80 : decode tc_i7_tells.2.1 80 = .ok (.bipush 6, 2) := by decide +kernel
theorem tc_d7_tells_82 : decode tc_i7_tells.2.1 82 = .ok (.if_icmp .ge 39, 3) := by decide +kernel
theorem tc_d7_tells_85 : decode tc_i7_tells.2.1 85 = .ok (.aload_n 0, 1) := by decide +kernel
theorem tc_d7_tells_86 : decode tc_i7_tells.2.1 86 = .ok (.getfield 7, 3) := by decide +kernel
theorem tc_d7_tells_89 : decode tc_i7_tells.2.1 89 = .ok (.iload_n 2, 1) := by decide +kernel
theorem tc_d7_tells_90 : decode tc_i7_tells.2.1 90 = .ok (.iload 6, 2) := by decide +kernel
theorem tc_d7_tells_92 : decode tc_i7_tells.2.1 92 = .ok (.iastore, 1) := by decide +kernel
theorem tc_d7_tells_93 : decode tc_i7_tells.2.1 93 = .ok (.iload 5, 2) := by decide +kernel
theorem tc_d7_tells_95 : decode tc_i7_tells.2.1 95 = .ok (.aload_n 0, 1) := by decide +kernel
theorem tc_d7_tells_96 : decode tc_i7_tells.2.1 96 = .ok (.iload_n 1, 1) := by decide +kernel
theorem tc_d7_tells_97 : decode tc_i7_tells.2.1 97 = .ok (.iload_n 2, 1) := by decide +kernel
theorem tc_d7_tells_98 : decode tc_i7_tells.2.1 98 = .ok (.invokevirtual 225, 3) := by decide +kernel
theorem tc_d7_tells_101 : decode tc_i7_tells.2.1 101 = .ok (.ifCond .ge 10, 3) := by decide +kernel
theorem tc_d7_tells_104 : decode tc_i7_tells.2.1 104 = .ok (.iconst 1, 1) := by decide +kernel
theorem tc_d7_tells_105 : decode tc_i7_tells.2.1 105 = .ok (.iload 6, 2) := by decide +kernel
theorem tc_d7_tells_107 : decode tc_i7_tells.2.1 107 = .ok (.ishl, 1) := by decide +kernel
theorem tc_d7_tells_108 : decode tc_i7_tells.2.1 108 = .ok (.goto 4, 3) := by decide +kernel
theorem tc_d7_tells_111 : decode tc_i7_tells.2.1 111 = .ok (.iconst 0, 1) := by decide +kernel
theorem tc_d7_tells_112 : decode tc_i7_tells.2.1 112 = .ok (.ior, 1) := by decide +kernel
theorem tc_d7_tells_113 : decode tc_i7_tells.2.1 113 = .ok (.istore 5, 2) := by decide +kernel
theorem tc_d7_tells_115 : decode tc_i7_tells.2.1 115 = .ok (.iinc 6 1, 3) := by decide +kernel
theorem tc_d7_tells_118 : decode tc_i7_tells.2.1 118 = .ok (.goto (-40), 3) := by decide +kernel
theorem tc_d7_tells_121 : decode tc_i7_tells.2.1 121 = .ok (.aload_n 0, 1) := by decide +kernel
theorem tc_d7_tells_122 : decode tc_i7_tells.2.1 122 = .ok (.getfield 7, 3) := by decide +kernel
theorem tc_d7_tells_125 : decode tc_i7_tells.2.1 125 = .ok (.iload_n 2, 1) := by decide +kernel
theorem tc_d7_tells_126 : decode tc_i7_tells.2.1 126 = .ok (.iload 4, 2) := by decide +kernel
theorem tc_d7_tells_128 : decode tc_i7_tells.2.1 128 = .ok (.iastore, 1) := by decide +kernel
theorem tc_d7_tells_129 : decode tc_i7_tells.2.1 129 = .ok (.iload 5, 2) := by decide +kernel
theorem tc_d7_tells_131 : decode tc_i7_tells.2.1 131 = .ok (.ireturn, 1) := by decide +kernel
theorem tc_d7_who_0 : decode tc_i7_who.2.1 0 = .ok (.iload_n 1, 1) := by decide +kernel
theorem tc_d7_who_1 : decode tc_i7_who.2.1 1 = .ok (.iconst 0, 1) := by decide +kernel
theorem tc_d7_who_2 : decode tc_i7_who.2.1 2 = .ok (.iconst 4, 1) := by decide +kernel
theorem tc_d7_who_3 : decode tc_i7_who.2.1 3 = .ok (.invokestatic 96, 3) := by decide +kernel
theorem tc_d7_who_6 : decode tc_i7_who.2.1 6 = .ok (.ifCond .eq 11, 3) := by decide +kernel
theorem tc_d7_who_9 : decode tc_i7_who.2.1 9 = .ok (.aload_n 0, 1) := by decide +kernel
theorem tc_d7_who_10 : decode tc_i7_who.2.1 10 = .ok (.iload_n 1, 1) := by decide +kernel
theorem tc_d7_who_11 : decode tc_i7_who.2.1 11 = .ok (.invokevirtual 173, 3) := by decide +kernel
theorem tc_d7_who_14 : decode tc_i7_who.2.1 14 = .ok (.goto 5, 3) := by decide +kernel
theorem tc_d7_who_17 : decode tc_i7_who.2.1 17 = .ok (.bipush (-2), 2) := by decide +kernel
theorem tc_d7_who_19 : decode tc_i7_who.2.1 19 = .ok (.ireturn, 1) := by decide +kernel
theorem tc_d7_isWord_0 : decode tc_i7_isWord.2.1 0 = .ok (.aload_n 0, 1) := by decide +kernel
theorem tc_d7_isWord_1 : decode tc_i7_isWord.2.1 1 = .ok (.getfield 252, 3) := by decide +kernel
theorem tc_d7_isWord_4 : decode tc_i7_isWord.2.1 4 = .ok (.aload_n 0, 1) := by decide +kernel
theorem tc_d7_isWord_5 : decode tc_i7_isWord.2.1 5 = .ok (.getfield 255, 3) := by decide +kernel
theorem tc_d7_isWord_8 : decode tc_i7_isWord.2.1 8 = .ok (.isub, 1) := by decide +kernel
theorem tc_d7_isWord_9 : decode tc_i7_isWord.2.1 9 = .ok (.aload_n 1, 1) := by decide +kernel
theorem tc_d7_isWord_10 : decode tc_i7_isWord.2.1 10 = .ok (.invokevirtual 258, 3) := by decide +kernel
theorem tc_d7_isWord_13 : decode tc_i7_isWord.2.1 13 = .ok (.if_icmp .eq 5, 3) := by decide +kernel
theorem tc_d7_isWord_16 : decode tc_i7_isWord.2.1 16 = .ok (.iconst 0, 1) := by decide +kernel
theorem tc_d7_isWord_17 : decode tc_i7_isWord.2.1 17 = .ok (.ireturn, 1) := by decide +kernel
theorem tc_d7_isWord_18 : decode tc_i7_isWord.2.1 18 = .ok (.iconst 0, 1) := by decide +kernel
theorem tc_d7_isWord_19 : decode tc_i7_isWord.2.1 19 = .ok (.istore_n 2, 1) := by decide +kernel
theorem tc_d7_isWord_20 : decode tc_i7_isWord.2.1 20 = .ok (.iload_n 2, 1) := by decide +kernel
theorem tc_d7_isWord_21 : decode tc_i7_isWord.2.1 21 = .ok (.aload_n 1, 1) := by decide +kernel
theorem tc_d7_isWord_22 : decode tc_i7_isWord.2.1 22 = .ok (.invokevirtual 258, 3) := by decide +kernel
theorem tc_d7_isWord_25 : decode tc_i7_isWord.2.1 25 = .ok (.if_icmp .ge 30, 3) := by decide +kernel
theorem tc_d7_isWord_28 : decode tc_i7_isWord.2.1 28 = .ok (.aload_n 0, 1) := by decide +kernel
theorem tc_d7_isWord_29 : decode tc_i7_isWord.2.1 29 = .ok (.getfield 51, 3) := by decide +kernel
theorem tc_d7_isWord_32 : decode tc_i7_isWord.2.1 32 = .ok (.aload_n 0, 1) := by decide +kernel
theorem tc_d7_isWord_33 : decode tc_i7_isWord.2.1 33 = .ok (.getfield 255, 3) := by decide +kernel
theorem tc_d7_isWord_36 : decode tc_i7_isWord.2.1 36 = .ok (.iload_n 2, 1) := by decide +kernel
theorem tc_d7_isWord_37 : decode tc_i7_isWord.2.1 37 = .ok (.iadd, 1) := by decide +kernel
theorem tc_d7_isWord_38 : decode tc_i7_isWord.2.1 38 = .ok (.iaload, 1) := by decide +kernel
theorem tc_d7_isWord_39 : decode tc_i7_isWord.2.1 39 = .ok (.aload_n 1, 1) := by decide +kernel
theorem tc_d7_isWord_40 : decode tc_i7_isWord.2.1 40 = .ok (.iload_n 2, 1) := by decide +kernel
theorem tc_d7_isWord_41 : decode tc_i7_isWord.2.1 41 = .ok (.invokevirtual 262, 3) := by decide +kernel
theorem tc_d7_isWord_44 : decode tc_i7_isWord.2.1 44 = .ok (.if_icmp .eq 5, 3) := by decide +kernel
theorem tc_d7_isWord_47 : decode tc_i7_isWord.2.1 47 = .ok (.iconst 0, 1) := by decide +kernel
theorem tc_d7_isWord_48 : decode tc_i7_isWord.2.1 48 = .ok (.ireturn, 1) := by decide +kernel
theorem tc_d7_isWord_49 : decode tc_i7_isWord.2.1 49 = .ok (.iinc 2 1, 3) := by decide +kernel
theorem tc_d7_isWord_52 : decode tc_i7_isWord.2.1 52 = .ok (.goto (-32), 3) := by decide +kernel
theorem tc_d7_isWord_55 : decode tc_i7_isWord.2.1 55 = .ok (.iconst 1, 1) := by decide +kernel
theorem tc_d7_isWord_56 : decode tc_i7_isWord.2.1 56 = .ok (.ireturn, 1) := by decide +kernel
theorem tc_d7_word_0 : decode tc_i7_word.2.1 0 = .ok (.iload_n 0, 1) := by decide +kernel
theorem tc_d7_word_1 : decode tc_i7_word.2.1 1 = .ok (.tableswitch 64 0 6 #[43, 46, 49, 52, 55, 58, 61], 43) := by decide +kernel
theorem tc_d7_word_44 : decode tc_i7_word.2.1 44 = .ok (.ldc 237, 2) := by decide +kernel
theorem tc_d7_word_46 : decode tc_i7_word.2.1 46 = .ok (.areturn, 1) := by decide +kernel
theorem tc_d7_word_47 : decode tc_i7_word.2.1 47 = .ok (.ldc 239, 2) := by decide +kernel
theorem tc_d7_word_49 : decode tc_i7_word.2.1 49 = .ok (.areturn, 1) := by decide +kernel
theorem tc_d7_word_50 : decode tc_i7_word.2.1 50 = .ok (.ldc 240, 2) := by decide +kernel
theorem tc_d7_word_52 : decode tc_i7_word.2.1 52 = .ok (.areturn, 1) := by decide +kernel
theorem tc_d7_word_53 : decode tc_i7_word.2.1 53 = .ok (.ldc 242, 2) := by decide +kernel
theorem tc_d7_word_55 : decode tc_i7_word.2.1 55 = .ok (.areturn, 1) := by decide +kernel
theorem tc_d7_word_56 : decode tc_i7_word.2.1 56 = .ok (.ldc 244, 2) := by decide +kernel
theorem tc_d7_word_58 : decode tc_i7_word.2.1 58 = .ok (.areturn, 1) := by decide +kernel
theorem tc_d7_word_59 : decode tc_i7_word.2.1 59 = .ok (.ldc 246, 2) := by decide +kernel
theorem tc_d7_word_61 : decode tc_i7_word.2.1 61 = .ok (.areturn, 1) := by decide +kernel
theorem tc_d7_word_62 : decode tc_i7_word.2.1 62 = .ok (.ldc 248, 2) := by decide +kernel
theorem tc_d7_word_64 : decode tc_i7_word.2.1 64 = .ok (.areturn, 1) := by decide +kernel
theorem tc_d7_word_65 : decode tc_i7_word.2.1 65 = .ok (.ldc 250, 2) := by decide +kernel
theorem tc_d7_word_67 : decode tc_i7_word.2.1 67 = .ok (.areturn, 1) := by decide +kernel
theorem tc_d7_next_0 : decode tc_i7_next.2.1 0 = .ok (.aload_n 0, 1) := by decide +kernel
theorem tc_d7_next_1 : decode tc_i7_next.2.1 1 = .ok (.getfield 252, 3) := by decide +kernel
theorem tc_d7_next_4 : decode tc_i7_next.2.1 4 = .ok (.aload_n 0, 1) := by decide +kernel
theorem tc_d7_next_5 : decode tc_i7_next.2.1 5 = .ok (.getfield 228, 3) := by decide +kernel
theorem tc_d7_next_8 : decode tc_i7_next.2.1 8 = .ok (.if_icmp .ge 44, 3) := by decide +kernel
theorem tc_d7_next_11 : decode tc_i7_next.2.1 11 = .ok (.aload_n 0, 1) := by decide +kernel
theorem tc_d7_next_12 : decode tc_i7_next.2.1 12 = .ok (.getfield 51, 3) := by decide +kernel
theorem tc_d7_next_15 : decode tc_i7_next.2.1 15 = .ok (.aload_n 0, 1) := by decide +kernel
theorem tc_d7_next_16 : decode tc_i7_next.2.1 16 = .ok (.getfield 252, 3) := by decide +kernel
theorem tc_d7_next_19 : decode tc_i7_next.2.1 19 = .ok (.iaload, 1) := by decide +kernel
theorem tc_d7_next_20 : decode tc_i7_next.2.1 20 = .ok (.bipush 32, 2) := by decide +kernel
theorem tc_d7_next_22 : decode tc_i7_next.2.1 22 = .ok (.if_icmp .eq 17, 3) := by decide +kernel
theorem tc_d7_next_25 : decode tc_i7_next.2.1 25 = .ok (.aload_n 0, 1) := by decide +kernel
theorem tc_d7_next_26 : decode tc_i7_next.2.1 26 = .ok (.getfield 51, 3) := by decide +kernel
theorem tc_d7_next_29 : decode tc_i7_next.2.1 29 = .ok (.aload_n 0, 1) := by decide +kernel
theorem tc_d7_next_30 : decode tc_i7_next.2.1 30 = .ok (.getfield 252, 3) := by decide +kernel
theorem tc_d7_next_33 : decode tc_i7_next.2.1 33 = .ok (.iaload, 1) := by decide +kernel
theorem tc_d7_next_34 : decode tc_i7_next.2.1 34 = .ok (.bipush 10, 2) := by decide +kernel
theorem tc_d7_next_36 : decode tc_i7_next.2.1 36 = .ok (.if_icmp .ne 16, 3) := by decide +kernel
theorem tc_d7_next_39 : decode tc_i7_next.2.1 39 = .ok (.aload_n 0, 1) := by decide +kernel
theorem tc_d7_next_40 : decode tc_i7_next.2.1 40 = .ok (.dup, 1) := by decide +kernel
theorem tc_d7_next_41 : decode tc_i7_next.2.1 41 = .ok (.getfield 252, 3) := by decide +kernel
theorem tc_d7_next_44 : decode tc_i7_next.2.1 44 = .ok (.iconst 1, 1) := by decide +kernel
theorem tc_d7_next_45 : decode tc_i7_next.2.1 45 = .ok (.iadd, 1) := by decide +kernel
theorem tc_d7_next_46 : decode tc_i7_next.2.1 46 = .ok (.putfield 252, 3) := by decide +kernel
theorem tc_d7_next_49 : decode tc_i7_next.2.1 49 = .ok (.goto (-49), 3) := by decide +kernel
theorem tc_d7_next_52 : decode tc_i7_next.2.1 52 = .ok (.aload_n 0, 1) := by decide +kernel
theorem tc_d7_next_53 : decode tc_i7_next.2.1 53 = .ok (.aload_n 0, 1) := by decide +kernel
theorem tc_d7_next_54 : decode tc_i7_next.2.1 54 = .ok (.getfield 252, 3) := by decide +kernel
theorem tc_d7_next_57 : decode tc_i7_next.2.1 57 = .ok (.putfield 255, 3) := by decide +kernel
theorem tc_d7_next_60 : decode tc_i7_next.2.1 60 = .ok (.aload_n 0, 1) := by decide +kernel
theorem tc_d7_next_61 : decode tc_i7_next.2.1 61 = .ok (.getfield 252, 3) := by decide +kernel
theorem tc_d7_next_64 : decode tc_i7_next.2.1 64 = .ok (.aload_n 0, 1) := by decide +kernel
theorem tc_d7_next_65 : decode tc_i7_next.2.1 65 = .ok (.getfield 228, 3) := by decide +kernel
theorem tc_d7_next_68 : decode tc_i7_next.2.1 68 = .ok (.if_icmp .ne 11, 3) := by decide +kernel
theorem tc_d7_next_71 : decode tc_i7_next.2.1 71 = .ok (.aload_n 0, 1) := by decide +kernel
theorem tc_d7_next_72 : decode tc_i7_next.2.1 72 = .ok (.iconst 0, 1) := by decide +kernel
theorem tc_d7_next_73 : decode tc_i7_next.2.1 73 = .ok (.putfield 266, 3) := by decide +kernel
theorem tc_d7_next_76 : decode tc_i7_next.2.1 76 = .ok (.goto 207, 3) := by decide +kernel
theorem tc_d7_next_79 : decode tc_i7_next.2.1 79 = .ok (.aload_n 0, 1) := by decide +kernel
theorem tc_d7_next_80 : decode tc_i7_next.2.1 80 = .ok (.invokevirtual 269, 3) := by decide +kernel
theorem tc_d7_next_83 : decode tc_i7_next.2.1 83 = .ok (.ifCond .eq 66, 3) := by decide +kernel
theorem tc_d7_next_86 : decode tc_i7_next.2.1 86 = .ok (.aload_n 0, 1) := by decide +kernel
theorem tc_d7_next_87 : decode tc_i7_next.2.1 87 = .ok (.invokevirtual 269, 3) := by decide +kernel
theorem tc_d7_next_90 : decode tc_i7_next.2.1 90 = .ok (.ifCond .eq 16, 3) := by decide +kernel
theorem tc_d7_next_93 : decode tc_i7_next.2.1 93 = .ok (.aload_n 0, 1) := by decide +kernel
theorem tc_d7_next_94 : decode tc_i7_next.2.1 94 = .ok (.dup, 1) := by decide +kernel
theorem tc_d7_next_95 : decode tc_i7_next.2.1 95 = .ok (.getfield 252, 3) := by decide +kernel
theorem tc_d7_next_98 : decode tc_i7_next.2.1 98 = .ok (.iconst 1, 1) := by decide +kernel
theorem tc_d7_next_99 : decode tc_i7_next.2.1 99 = .ok (.iadd, 1) := by decide +kernel
theorem tc_d7_next_100 : decode tc_i7_next.2.1 100 = .ok (.putfield 252, 3) := by decide +kernel
theorem tc_d7_next_103 : decode tc_i7_next.2.1 103 = .ok (.goto (-17), 3) := by decide +kernel
theorem tc_d7_next_106 : decode tc_i7_next.2.1 106 = .ok (.aload_n 0, 1) := by decide +kernel
theorem tc_d7_next_107 : decode tc_i7_next.2.1 107 = .ok (.iconst 4, 1) := by decide +kernel
theorem tc_d7_next_108 : decode tc_i7_next.2.1 108 = .ok (.putfield 266, 3) := by decide +kernel
theorem tc_d7_next_111 : decode tc_i7_next.2.1 111 = .ok (.iconst 0, 1) := by decide +kernel
theorem tc_d7_next_112 : decode tc_i7_next.2.1 112 = .ok (.istore_n 1, 1) := by decide +kernel
theorem tc_d7_next_113 : decode tc_i7_next.2.1 113 = .ok (.iload_n 1, 1) := by decide +kernel
theorem tc_d7_next_114 : decode tc_i7_next.2.1 114 = .ok (.bipush 8, 2) := by decide +kernel
theorem tc_d7_next_116 : decode tc_i7_next.2.1 116 = .ok (.if_icmp .ge 30, 3) := by decide +kernel
theorem tc_d7_next_119 : decode tc_i7_next.2.1 119 = .ok (.aload_n 0, 1) := by decide +kernel
theorem tc_d7_next_120 : decode tc_i7_next.2.1 120 = .ok (.iload_n 1, 1) := by decide +kernel
theorem tc_d7_next_121 : decode tc_i7_next.2.1 121 = .ok (.invokestatic 272, 3) := by decide +kernel
theorem tc_d7_next_124 : decode tc_i7_next.2.1 124 = .ok (.invokevirtual 276, 3) := by decide +kernel
theorem tc_d7_next_127 : decode tc_i7_next.2.1 127 = .ok (.ifCond .eq 13, 3) := by decide +kernel
theorem tc_d7_next_130 : decode tc_i7_next.2.1 130 = .ok (.aload_n 0, 1) := by decide +kernel
theorem tc_d7_next_131 : decode tc_i7_next.2.1 131 = .ok (.iconst 1, 1) := by decide +kernel
theorem tc_d7_next_132 : decode tc_i7_next.2.1 132 = .ok (.putfield 266, 3) := by decide +kernel
theorem tc_d7_next_135 : decode tc_i7_next.2.1 135 = .ok (.aload_n 0, 1) := by decide +kernel
theorem tc_d7_next_136 : decode tc_i7_next.2.1 136 = .ok (.iload_n 1, 1) := by decide +kernel
theorem tc_d7_next_137 : decode tc_i7_next.2.1 137 = .ok (.putfield 280, 3) := by decide +kernel
theorem tc_d7_next_140 : decode tc_i7_next.2.1 140 = .ok (.iinc 1 1, 3) := by decide +kernel
theorem tc_d7_next_143 : decode tc_i7_next.2.1 143 = .ok (.goto (-30), 3) := by decide +kernel
theorem tc_d7_next_146 : decode tc_i7_next.2.1 146 = .ok (.goto 137, 3) := by decide +kernel
theorem tc_d7_next_149 : decode tc_i7_next.2.1 149 = .ok (.aload_n 0, 1) := by decide +kernel
theorem tc_d7_next_150 : decode tc_i7_next.2.1 150 = .ok (.invokevirtual 283, 3) := by decide +kernel
theorem tc_d7_next_153 : decode tc_i7_next.2.1 153 = .ok (.ifCond .eq 97, 3) := by decide +kernel
theorem tc_d7_next_156 : decode tc_i7_next.2.1 156 = .ok (.aload_n 0, 1) := by decide +kernel
theorem tc_d7_next_157 : decode tc_i7_next.2.1 157 = .ok (.iconst 0, 1) := by decide +kernel
theorem tc_d7_next_158 : decode tc_i7_next.2.1 158 = .ok (.putfield 280, 3) := by decide +kernel
theorem tc_d7_next_161 : decode tc_i7_next.2.1 161 = .ok (.aload_n 0, 1) := by decide +kernel
theorem tc_d7_next_162 : decode tc_i7_next.2.1 162 = .ok (.invokevirtual 283, 3) := by decide +kernel
theorem tc_d7_next_165 : decode tc_i7_next.2.1 165 = .ok (.ifCond .eq 60, 3) := by decide +kernel
theorem tc_d7_next_168 : decode tc_i7_next.2.1 168 = .ok (.aload_n 0, 1) := by decide +kernel
theorem tc_d7_next_169 : decode tc_i7_next.2.1 169 = .ok (.aload_n 0, 1) := by decide +kernel
theorem tc_d7_next_170 : decode tc_i7_next.2.1 170 = .ok (.getfield 252, 3) := by decide +kernel
theorem tc_d7_next_173 : decode tc_i7_next.2.1 173 = .ok (.aload_n 0, 1) := by decide +kernel
theorem tc_d7_next_174 : decode tc_i7_next.2.1 174 = .ok (.getfield 255, 3) := by decide +kernel
theorem tc_d7_next_177 : decode tc_i7_next.2.1 177 = .ok (.isub, 1) := by decide +kernel
theorem tc_d7_next_178 : decode tc_i7_next.2.1 178 = .ok (.iconst 2, 1) := by decide +kernel
theorem tc_d7_next_179 : decode tc_i7_next.2.1 179 = .ok (.if_icmp .ge 26, 3) := by decide +kernel
theorem tc_d7_next_182 : decode tc_i7_next.2.1 182 = .ok (.bipush 10, 2) := by decide +kernel
theorem tc_d7_next_184 : decode tc_i7_next.2.1 184 = .ok (.aload_n 0, 1) := by decide +kernel
theorem tc_d7_next_185 : decode tc_i7_next.2.1 185 = .ok (.getfield 280, 3) := by decide +kernel
theorem tc_d7_next_188 : decode tc_i7_next.2.1 188 = .ok (.imul, 1) := by decide +kernel
theorem tc_d7_next_189 : decode tc_i7_next.2.1 189 = .ok (.aload_n 0, 1) := by decide +kernel
theorem tc_d7_next_190 : decode tc_i7_next.2.1 190 = .ok (.getfield 51, 3) := by decide +kernel
theorem tc_d7_next_193 : decode tc_i7_next.2.1 193 = .ok (.aload_n 0, 1) := by decide +kernel
theorem tc_d7_next_194 : decode tc_i7_next.2.1 194 = .ok (.getfield 252, 3) := by decide +kernel
theorem tc_d7_next_197 : decode tc_i7_next.2.1 197 = .ok (.iaload, 1) := by decide +kernel
theorem tc_d7_next_198 : decode tc_i7_next.2.1 198 = .ok (.iadd, 1) := by decide +kernel
theorem tc_d7_next_199 : decode tc_i7_next.2.1 199 = .ok (.bipush 48, 2) := by decide +kernel
theorem tc_d7_next_201 : decode tc_i7_next.2.1 201 = .ok (.isub, 1) := by decide +kernel
theorem tc_d7_next_202 : decode tc_i7_next.2.1 202 = .ok (.goto 7, 3) := by decide +kernel
theorem tc_d7_next_205 : decode tc_i7_next.2.1 205 = .ok (.aload_n 0, 1) := by decide +kernel
theorem tc_d7_next_206 : decode tc_i7_next.2.1 206 = .ok (.getfield 280, 3) := by decide +kernel
theorem tc_d7_next_209 : decode tc_i7_next.2.1 209 = .ok (.putfield 280, 3) := by decide +kernel
theorem tc_d7_next_212 : decode tc_i7_next.2.1 212 = .ok (.aload_n 0, 1) := by decide +kernel
theorem tc_d7_next_213 : decode tc_i7_next.2.1 213 = .ok (.dup, 1) := by decide +kernel
theorem tc_d7_next_214 : decode tc_i7_next.2.1 214 = .ok (.getfield 252, 3) := by decide +kernel
theorem tc_d7_next_217 : decode tc_i7_next.2.1 217 = .ok (.iconst 1, 1) := by decide +kernel
theorem tc_d7_next_218 : decode tc_i7_next.2.1 218 = .ok (.iadd, 1) := by decide +kernel
theorem tc_d7_next_219 : decode tc_i7_next.2.1 219 = .ok (.putfield 252, 3) := by decide +kernel
theorem tc_d7_next_222 : decode tc_i7_next.2.1 222 = .ok (.goto (-61), 3) := by decide +kernel
theorem tc_d7_next_225 : decode tc_i7_next.2.1 225 = .ok (.aload_n 0, 1) := by decide +kernel
theorem tc_d7_next_226 : decode tc_i7_next.2.1 226 = .ok (.aload_n 0, 1) := by decide +kernel
theorem tc_d7_next_227 : decode tc_i7_next.2.1 227 = .ok (.getfield 252, 3) := by decide +kernel
theorem tc_d7_next_230 : decode tc_i7_next.2.1 230 = .ok (.aload_n 0, 1) := by decide +kernel
theorem tc_d7_next_231 : decode tc_i7_next.2.1 231 = .ok (.getfield 255, 3) := by decide +kernel
theorem tc_d7_next_234 : decode tc_i7_next.2.1 234 = .ok (.isub, 1) := by decide +kernel
theorem tc_d7_next_235 : decode tc_i7_next.2.1 235 = .ok (.iconst 2, 1) := by decide +kernel
theorem tc_d7_next_236 : decode tc_i7_next.2.1 236 = .ok (.if_icmp .le 7, 3) := by decide +kernel
theorem tc_d7_next_239 : decode tc_i7_next.2.1 239 = .ok (.iconst 4, 1) := by decide +kernel
theorem tc_d7_next_240 : decode tc_i7_next.2.1 240 = .ok (.goto 4, 3) := by decide +kernel
theorem tc_d7_next_243 : decode tc_i7_next.2.1 243 = .ok (.iconst 2, 1) := by decide +kernel
theorem tc_d7_next_244 : decode tc_i7_next.2.1 244 = .ok (.putfield 266, 3) := by decide +kernel
theorem tc_d7_next_247 : decode tc_i7_next.2.1 247 = .ok (.goto 36, 3) := by decide +kernel
theorem tc_d7_next_250 : decode tc_i7_next.2.1 250 = .ok (.aload_n 0, 1) := by decide +kernel
theorem tc_d7_next_251 : decode tc_i7_next.2.1 251 = .ok (.aload_n 0, 1) := by decide +kernel
theorem tc_d7_next_252 : decode tc_i7_next.2.1 252 = .ok (.getfield 51, 3) := by decide +kernel
theorem tc_d7_next_255 : decode tc_i7_next.2.1 255 = .ok (.aload_n 0, 1) := by decide +kernel
theorem tc_d7_next_256 : decode tc_i7_next.2.1 256 = .ok (.getfield 252, 3) := by decide +kernel
theorem tc_d7_next_259 : decode tc_i7_next.2.1 259 = .ok (.iaload, 1) := by decide +kernel
theorem tc_d7_next_260 : decode tc_i7_next.2.1 260 = .ok (.bipush 59, 2) := by decide +kernel
theorem tc_d7_next_262 : decode tc_i7_next.2.1 262 = .ok (.if_icmp .ne 7, 3) := by decide +kernel
theorem tc_d7_next_265 : decode tc_i7_next.2.1 265 = .ok (.iconst 3, 1) := by decide +kernel
theorem tc_d7_next_266 : decode tc_i7_next.2.1 266 = .ok (.goto 4, 3) := by decide +kernel
theorem tc_d7_next_269 : decode tc_i7_next.2.1 269 = .ok (.iconst 4, 1) := by decide +kernel
theorem tc_d7_next_270 : decode tc_i7_next.2.1 270 = .ok (.putfield 266, 3) := by decide +kernel
theorem tc_d7_next_273 : decode tc_i7_next.2.1 273 = .ok (.aload_n 0, 1) := by decide +kernel
theorem tc_d7_next_274 : decode tc_i7_next.2.1 274 = .ok (.dup, 1) := by decide +kernel
theorem tc_d7_next_275 : decode tc_i7_next.2.1 275 = .ok (.getfield 252, 3) := by decide +kernel
theorem tc_d7_next_278 : decode tc_i7_next.2.1 278 = .ok (.iconst 1, 1) := by decide +kernel
theorem tc_d7_next_279 : decode tc_i7_next.2.1 279 = .ok (.iadd, 1) := by decide +kernel
theorem tc_d7_next_280 : decode tc_i7_next.2.1 280 = .ok (.putfield 252, 3) := by decide +kernel
theorem tc_d7_next_283 : decode tc_i7_next.2.1 283 = .ok (.return_, 1) := by decide +kernel
theorem tc_d7_reads_0 : decode tc_i7_reads.2.1 0 = .ok (.aload_n 0, 1) := by decide +kernel
theorem tc_d7_reads_1 : decode tc_i7_reads.2.1 1 = .ok (.iconst 0, 1) := by decide +kernel
theorem tc_d7_reads_2 : decode tc_i7_reads.2.1 2 = .ok (.putfield 252, 3) := by decide +kernel
theorem tc_d7_reads_5 : decode tc_i7_reads.2.1 5 = .ok (.iconst 0, 1) := by decide +kernel
theorem tc_d7_reads_6 : decode tc_i7_reads.2.1 6 = .ok (.istore_n 2, 1) := by decide +kernel
theorem tc_d7_reads_7 : decode tc_i7_reads.2.1 7 = .ok (.aload_n 0, 1) := by decide +kernel
theorem tc_d7_reads_8 : decode tc_i7_reads.2.1 8 = .ok (.invokevirtual 301, 3) := by decide +kernel
theorem tc_d7_reads_11 : decode tc_i7_reads.2.1 11 = .ok (.aload_n 0, 1) := by decide +kernel
theorem tc_d7_reads_12 : decode tc_i7_reads.2.1 12 = .ok (.getfield 266, 3) := by decide +kernel
theorem tc_d7_reads_15 : decode tc_i7_reads.2.1 15 = .ok (.iconst 1, 1) := by decide +kernel
theorem tc_d7_reads_16 : decode tc_i7_reads.2.1 16 = .ok (.if_icmp .eq 11, 3) := by decide +kernel
theorem tc_d7_reads_19 : decode tc_i7_reads.2.1 19 = .ok (.bipush (-100), 2) := by decide +kernel
theorem tc_d7_reads_21 : decode tc_i7_reads.2.1 21 = .ok (.aload_n 0, 1) := by decide +kernel
theorem tc_d7_reads_22 : decode tc_i7_reads.2.1 22 = .ok (.getfield 255, 3) := by decide +kernel
theorem tc_d7_reads_25 : decode tc_i7_reads.2.1 25 = .ok (.isub, 1) := by decide +kernel
theorem tc_d7_reads_26 : decode tc_i7_reads.2.1 26 = .ok (.ireturn, 1) := by decide +kernel
theorem tc_d7_reads_27 : decode tc_i7_reads.2.1 27 = .ok (.aload_n 0, 1) := by decide +kernel
theorem tc_d7_reads_28 : decode tc_i7_reads.2.1 28 = .ok (.getfield 280, 3) := by decide +kernel
theorem tc_d7_reads_31 : decode tc_i7_reads.2.1 31 = .ok (.istore_n 3, 1) := by decide +kernel
theorem tc_d7_reads_32 : decode tc_i7_reads.2.1 32 = .ok (.iconst 0, 1) := by decide +kernel
theorem tc_d7_reads_33 : decode tc_i7_reads.2.1 33 = .ok (.istore 4, 2) := by decide +kernel
theorem tc_d7_reads_35 : decode tc_i7_reads.2.1 35 = .ok (.iload 4, 2) := by decide +kernel
theorem tc_d7_reads_37 : decode tc_i7_reads.2.1 37 = .ok (.iload_n 3, 1) := by decide +kernel
theorem tc_d7_reads_38 : decode tc_i7_reads.2.1 38 = .ok (.invokestatic 304, 3) := by decide +kernel
theorem tc_d7_reads_41 : decode tc_i7_reads.2.1 41 = .ok (.if_icmp .ge 40, 3) := by decide +kernel
theorem tc_d7_reads_44 : decode tc_i7_reads.2.1 44 = .ok (.aload_n 0, 1) := by decide +kernel
theorem tc_d7_reads_45 : decode tc_i7_reads.2.1 45 = .ok (.invokevirtual 301, 3) := by decide +kernel
theorem tc_d7_reads_48 : decode tc_i7_reads.2.1 48 = .ok (.aload_n 0, 1) := by decide +kernel
theorem tc_d7_reads_49 : decode tc_i7_reads.2.1 49 = .ok (.getfield 266, 3) := by decide +kernel
theorem tc_d7_reads_52 : decode tc_i7_reads.2.1 52 = .ok (.iconst 2, 1) := by decide +kernel
theorem tc_d7_reads_53 : decode tc_i7_reads.2.1 53 = .ok (.if_icmp .eq 11, 3) := by decide +kernel
theorem tc_d7_reads_56 : decode tc_i7_reads.2.1 56 = .ok (.bipush (-100), 2) := by decide +kernel
theorem tc_d7_reads_58 : decode tc_i7_reads.2.1 58 = .ok (.aload_n 0, 1) := by decide +kernel
theorem tc_d7_reads_59 : decode tc_i7_reads.2.1 59 = .ok (.getfield 255, 3) := by decide +kernel
theorem tc_d7_reads_62 : decode tc_i7_reads.2.1 62 = .ok (.isub, 1) := by decide +kernel
theorem tc_d7_reads_63 : decode tc_i7_reads.2.1 63 = .ok (.ireturn, 1) := by decide +kernel
theorem tc_d7_reads_64 : decode tc_i7_reads.2.1 64 = .ok (.aload_n 0, 1) := by decide +kernel
theorem tc_d7_reads_65 : decode tc_i7_reads.2.1 65 = .ok (.getfield 87, 3) := by decide +kernel
theorem tc_d7_reads_68 : decode tc_i7_reads.2.1 68 = .ok (.iload 4, 2) := by decide +kernel
theorem tc_d7_reads_70 : decode tc_i7_reads.2.1 70 = .ok (.aload_n 0, 1) := by decide +kernel
theorem tc_d7_reads_71 : decode tc_i7_reads.2.1 71 = .ok (.getfield 280, 3) := by decide +kernel
theorem tc_d7_reads_74 : decode tc_i7_reads.2.1 74 = .ok (.iastore, 1) := by decide +kernel
theorem tc_d7_reads_75 : decode tc_i7_reads.2.1 75 = .ok (.iinc 4 1, 3) := by decide +kernel
theorem tc_d7_reads_78 : decode tc_i7_reads.2.1 78 = .ok (.goto (-43), 3) := by decide +kernel
theorem tc_d7_reads_81 : decode tc_i7_reads.2.1 81 = .ok (.iload_n 2, 1) := by decide +kernel
theorem tc_d7_reads_82 : decode tc_i7_reads.2.1 82 = .ok (.iload_n 1, 1) := by decide +kernel
theorem tc_d7_reads_83 : decode tc_i7_reads.2.1 83 = .ok (.ifCond .eq 15, 3) := by decide +kernel
theorem tc_d7_reads_86 : decode tc_i7_reads.2.1 86 = .ok (.aload_n 0, 1) := by decide +kernel
theorem tc_d7_reads_87 : decode tc_i7_reads.2.1 87 = .ok (.iload_n 3, 1) := by decide +kernel
theorem tc_d7_reads_88 : decode tc_i7_reads.2.1 88 = .ok (.invokevirtual 307, 3) := by decide +kernel
theorem tc_d7_reads_91 : decode tc_i7_reads.2.1 91 = .ok (.ifCond .eq 7, 3) := by decide +kernel
theorem tc_d7_reads_94 : decode tc_i7_reads.2.1 94 = .ok (.iconst 1, 1) := by decide +kernel
theorem tc_d7_reads_95 : decode tc_i7_reads.2.1 95 = .ok (.goto 4, 3) := by decide +kernel
theorem tc_d7_reads_98 : decode tc_i7_reads.2.1 98 = .ok (.iconst 0, 1) := by decide +kernel
theorem tc_d7_reads_99 : decode tc_i7_reads.2.1 99 = .ok (.iadd, 1) := by decide +kernel
theorem tc_d7_reads_100 : decode tc_i7_reads.2.1 100 = .ok (.istore_n 2, 1) := by decide +kernel
theorem tc_d7_reads_101 : decode tc_i7_reads.2.1 101 = .ok (.aload_n 0, 1) := by decide +kernel
theorem tc_d7_reads_102 : decode tc_i7_reads.2.1 102 = .ok (.invokevirtual 301, 3) := by decide +kernel
theorem tc_d7_reads_105 : decode tc_i7_reads.2.1 105 = .ok (.aload_n 0, 1) := by decide +kernel
theorem tc_d7_reads_106 : decode tc_i7_reads.2.1 106 = .ok (.getfield 266, 3) := by decide +kernel
theorem tc_d7_reads_109 : decode tc_i7_reads.2.1 109 = .ok (.ifCond .ne 5, 3) := by decide +kernel
theorem tc_d7_reads_112 : decode tc_i7_reads.2.1 112 = .ok (.iload_n 2, 1) := by decide +kernel
theorem tc_d7_reads_113 : decode tc_i7_reads.2.1 113 = .ok (.ireturn, 1) := by decide +kernel
theorem tc_d7_reads_114 : decode tc_i7_reads.2.1 114 = .ok (.aload_n 0, 1) := by decide +kernel
theorem tc_d7_reads_115 : decode tc_i7_reads.2.1 115 = .ok (.getfield 266, 3) := by decide +kernel
theorem tc_d7_reads_118 : decode tc_i7_reads.2.1 118 = .ok (.iconst 3, 1) := by decide +kernel
theorem tc_d7_reads_119 : decode tc_i7_reads.2.1 119 = .ok (.if_icmp .eq 11, 3) := by decide +kernel
theorem tc_d7_reads_122 : decode tc_i7_reads.2.1 122 = .ok (.bipush (-100), 2) := by decide +kernel
theorem tc_d7_reads_124 : decode tc_i7_reads.2.1 124 = .ok (.aload_n 0, 1) := by decide +kernel
theorem tc_d7_reads_125 : decode tc_i7_reads.2.1 125 = .ok (.getfield 255, 3) := by decide +kernel
theorem tc_d7_reads_128 : decode tc_i7_reads.2.1 128 = .ok (.isub, 1) := by decide +kernel
theorem tc_d7_reads_129 : decode tc_i7_reads.2.1 129 = .ok (.ireturn, 1) := by decide +kernel
theorem tc_d7_reads_130 : decode tc_i7_reads.2.1 130 = .ok (.goto (-123), 3) := by decide +kernel
theorem tc_d7_text_0 : decode tc_i7_text.2.1 0 = .ok (.aload_n 0, 1) := by decide +kernel
theorem tc_d7_text_1 : decode tc_i7_text.2.1 1 = .ok (.iconst 0, 1) := by decide +kernel
theorem tc_d7_text_2 : decode tc_i7_text.2.1 2 = .ok (.invokevirtual 310, 3) := by decide +kernel
theorem tc_d7_text_5 : decode tc_i7_text.2.1 5 = .ok (.istore_n 1, 1) := by decide +kernel
theorem tc_d7_text_6 : decode tc_i7_text.2.1 6 = .ok (.iload_n 1, 1) := by decide +kernel
theorem tc_d7_text_7 : decode tc_i7_text.2.1 7 = .ok (.ifCond .lt 9, 3) := by decide +kernel
theorem tc_d7_text_10 : decode tc_i7_text.2.1 10 = .ok (.aload_n 0, 1) := by decide +kernel
theorem tc_d7_text_11 : decode tc_i7_text.2.1 11 = .ok (.iconst 1, 1) := by decide +kernel
theorem tc_d7_text_12 : decode tc_i7_text.2.1 12 = .ok (.invokevirtual 310, 3) := by decide +kernel
theorem tc_d7_text_15 : decode tc_i7_text.2.1 15 = .ok (.istore_n 1, 1) := by decide +kernel
theorem tc_d7_text_16 : decode tc_i7_text.2.1 16 = .ok (.aload_n 0, 1) := by decide +kernel
theorem tc_d7_text_17 : decode tc_i7_text.2.1 17 = .ok (.iconst 0, 1) := by decide +kernel
theorem tc_d7_text_18 : decode tc_i7_text.2.1 18 = .ok (.putfield 228, 3) := by decide +kernel
theorem tc_d7_text_21 : decode tc_i7_text.2.1 21 = .ok (.iload_n 1, 1) := by decide +kernel
theorem tc_d7_text_22 : decode tc_i7_text.2.1 22 = .ok (.ireturn, 1) := by decide +kernel
