theorem dJx29ce0_ordinal_8abf5_0 : decode cJx29ce0_ordinal_8abf5 0 = .ok (.aload_n 0, 1) := by decide +kernel
theorem dJx29ce0_ordinal_8abf5_1 : decode cJx29ce0_ordinal_8abf5 1 = .ok (.getfield 7, 3) := by decide +kernel
theorem dJx29ce0_ordinal_8abf5_4 : decode cJx29ce0_ordinal_8abf5 4 = .ok (.ireturn, 1) := by decide +kernel
theorem dJ6_bitCount_0f7a4_0 : decode cJ6_bitCount_0f7a4 0 = .ok (.iload_n 0, 1) := by decide +kernel
theorem dJ6_bitCount_0f7a4_1 : decode cJ6_bitCount_0f7a4 1 = .ok (.iload_n 0, 1) := by decide +kernel
theorem dJ6_bitCount_0f7a4_2 : decode cJ6_bitCount_0f7a4 2 = .ok (.iconst 1, 1) := by decide +kernel
theorem dJ6_bitCount_0f7a4_3 : decode cJ6_bitCount_0f7a4 3 = .ok (.iushr, 1) := by decide +kernel
theorem dJ6_bitCount_0f7a4_4 : decode cJ6_bitCount_0f7a4 4 = .ok (.ldc_w 265, 3) := by decide +kernel
theorem dJ6_bitCount_0f7a4_7 : decode cJ6_bitCount_0f7a4 7 = .ok (.iand, 1) := by decide +kernel
theorem dJ6_bitCount_0f7a4_8 : decode cJ6_bitCount_0f7a4 8 = .ok (.isub, 1) := by decide +kernel
theorem dJ6_bitCount_0f7a4_9 : decode cJ6_bitCount_0f7a4 9 = .ok (.istore_n 0, 1) := by decide +kernel
theorem dJ6_bitCount_0f7a4_10 : decode cJ6_bitCount_0f7a4 10 = .ok (.iload_n 0, 1) := by decide +kernel
theorem dJ6_bitCount_0f7a4_11 : decode cJ6_bitCount_0f7a4 11 = .ok (.ldc_w 266, 3) := by decide +kernel
theorem dJ6_bitCount_0f7a4_14 : decode cJ6_bitCount_0f7a4 14 = .ok (.iand, 1) := by decide +kernel
theorem dJ6_bitCount_0f7a4_15 : decode cJ6_bitCount_0f7a4 15 = .ok (.iload_n 0, 1) := by decide +kernel
theorem dJ6_bitCount_0f7a4_16 : decode cJ6_bitCount_0f7a4 16 = .ok (.iconst 2, 1) := by decide +kernel
theorem dJ6_bitCount_0f7a4_17 : decode cJ6_bitCount_0f7a4 17 = .ok (.iushr, 1) := by decide +kernel
theorem dJ6_bitCount_0f7a4_18 : decode cJ6_bitCount_0f7a4 18 = .ok (.ldc_w 266, 3) := by decide +kernel
theorem dJ6_bitCount_0f7a4_21 : decode cJ6_bitCount_0f7a4 21 = .ok (.iand, 1) := by decide +kernel
theorem dJ6_bitCount_0f7a4_22 : decode cJ6_bitCount_0f7a4 22 = .ok (.iadd, 1) := by decide +kernel
theorem dJ6_bitCount_0f7a4_23 : decode cJ6_bitCount_0f7a4 23 = .ok (.istore_n 0, 1) := by decide +kernel
theorem dJ6_bitCount_0f7a4_24 : decode cJ6_bitCount_0f7a4 24 = .ok (.iload_n 0, 1) := by decide +kernel
theorem dJ6_bitCount_0f7a4_25 : decode cJ6_bitCount_0f7a4 25 = .ok (.iload_n 0, 1) := by decide +kernel
theorem dJ6_bitCount_0f7a4_26 : decode cJ6_bitCount_0f7a4 26 = .ok (.iconst 4, 1) := by decide +kernel
theorem dJ6_bitCount_0f7a4_27 : decode cJ6_bitCount_0f7a4 27 = .ok (.iushr, 1) := by decide +kernel
theorem dJ6_bitCount_0f7a4_28 : decode cJ6_bitCount_0f7a4 28 = .ok (.iadd, 1) := by decide +kernel
theorem dJ6_bitCount_0f7a4_29 : decode cJ6_bitCount_0f7a4 29 = .ok (.ldc_w 267, 3) := by decide +kernel
theorem dJ6_bitCount_0f7a4_32 : decode cJ6_bitCount_0f7a4 32 = .ok (.iand, 1) := by decide +kernel
theorem dJ6_bitCount_0f7a4_33 : decode cJ6_bitCount_0f7a4 33 = .ok (.istore_n 0, 1) := by decide +kernel
theorem dJ6_bitCount_0f7a4_34 : decode cJ6_bitCount_0f7a4 34 = .ok (.iload_n 0, 1) := by decide +kernel
theorem dJ6_bitCount_0f7a4_35 : decode cJ6_bitCount_0f7a4 35 = .ok (.iload_n 0, 1) := by decide +kernel
theorem dJ6_bitCount_0f7a4_36 : decode cJ6_bitCount_0f7a4 36 = .ok (.bipush 8, 2) := by decide +kernel
theorem dJ6_bitCount_0f7a4_38 : decode cJ6_bitCount_0f7a4 38 = .ok (.iushr, 1) := by decide +kernel
theorem dJ6_bitCount_0f7a4_39 : decode cJ6_bitCount_0f7a4 39 = .ok (.iadd, 1) := by decide +kernel
theorem dJ6_bitCount_0f7a4_40 : decode cJ6_bitCount_0f7a4 40 = .ok (.istore_n 0, 1) := by decide +kernel
theorem dJ6_bitCount_0f7a4_41 : decode cJ6_bitCount_0f7a4 41 = .ok (.iload_n 0, 1) := by decide +kernel
theorem dJ6_bitCount_0f7a4_42 : decode cJ6_bitCount_0f7a4 42 = .ok (.iload_n 0, 1) := by decide +kernel
theorem dJ6_bitCount_0f7a4_43 : decode cJ6_bitCount_0f7a4 43 = .ok (.bipush 16, 2) := by decide +kernel
theorem dJ6_bitCount_0f7a4_45 : decode cJ6_bitCount_0f7a4 45 = .ok (.iushr, 1) := by decide +kernel
theorem dJ6_bitCount_0f7a4_46 : decode cJ6_bitCount_0f7a4 46 = .ok (.iadd, 1) := by decide +kernel
theorem dJ6_bitCount_0f7a4_47 : decode cJ6_bitCount_0f7a4 47 = .ok (.istore_n 0, 1) := by decide +kernel
theorem dJ6_bitCount_0f7a4_48 : decode cJ6_bitCount_0f7a4 48 = .ok (.iload_n 0, 1) := by decide +kernel
theorem dJ6_bitCount_0f7a4_49 : decode cJ6_bitCount_0f7a4 49 = .ok (.bipush 63, 2) := by decide +kernel
theorem dJ6_bitCount_0f7a4_51 : decode cJ6_bitCount_0f7a4 51 = .ok (.iand, 1) := by decide +kernel
theorem dJ6_bitCount_0f7a4_52 : decode cJ6_bitCount_0f7a4 52 = .ok (.ireturn, 1) := by decide +kernel
theorem dJ9_floorMod_7cf53_0 : decode cJ9_floorMod_7cf53 0 = .ok (.iload_n 0, 1) := by decide +kernel
theorem dJ9_floorMod_7cf53_1 : decode cJ9_floorMod_7cf53 1 = .ok (.iload_n 1, 1) := by decide +kernel
theorem dJ9_floorMod_7cf53_2 : decode cJ9_floorMod_7cf53 2 = .ok (.irem, 1) := by decide +kernel
theorem dJ9_floorMod_7cf53_3 : decode cJ9_floorMod_7cf53 3 = .ok (.istore_n 2, 1) := by decide +kernel
theorem dJ9_floorMod_7cf53_4 : decode cJ9_floorMod_7cf53 4 = .ok (.iload_n 0, 1) := by decide +kernel
theorem dJ9_floorMod_7cf53_5 : decode cJ9_floorMod_7cf53 5 = .ok (.iload_n 1, 1) := by decide +kernel
theorem dJ9_floorMod_7cf53_6 : decode cJ9_floorMod_7cf53 6 = .ok (.ixor, 1) := by decide +kernel
theorem dJ9_floorMod_7cf53_7 : decode cJ9_floorMod_7cf53 7 = .ok (.ifCond .ge 11, 3) := by decide +kernel
theorem dJ9_floorMod_7cf53_10 : decode cJ9_floorMod_7cf53 10 = .ok (.iload_n 2, 1) := by decide +kernel
theorem dJ9_floorMod_7cf53_11 : decode cJ9_floorMod_7cf53 11 = .ok (.ifCond .eq 7, 3) := by decide +kernel
theorem dJ9_floorMod_7cf53_14 : decode cJ9_floorMod_7cf53 14 = .ok (.iload_n 2, 1) := by decide +kernel
theorem dJ9_floorMod_7cf53_15 : decode cJ9_floorMod_7cf53 15 = .ok (.iload_n 1, 1) := by decide +kernel
theorem dJ9_floorMod_7cf53_16 : decode cJ9_floorMod_7cf53 16 = .ok (.iadd, 1) := by decide +kernel
theorem dJ9_floorMod_7cf53_17 : decode cJ9_floorMod_7cf53 17 = .ok (.ireturn, 1) := by decide +kernel
theorem dJ9_floorMod_7cf53_18 : decode cJ9_floorMod_7cf53 18 = .ok (.iload_n 2, 1) := by decide +kernel
theorem dJ9_floorMod_7cf53_19 : decode cJ9_floorMod_7cf53 19 = .ok (.ireturn, 1) := by decide +kernel
theorem dJ9_abs_0f7a4_0 : decode cJ9_abs_0f7a4 0 = .ok (.iload_n 0, 1) := by decide +kernel
theorem dJ9_abs_0f7a4_1 : decode cJ9_abs_0f7a4 1 = .ok (.ifCond .ge 8, 3) := by decide +kernel
theorem dJ9_abs_0f7a4_4 : decode cJ9_abs_0f7a4 4 = .ok (.iload_n 0, 1) := by decide +kernel
theorem dJ9_abs_0f7a4_5 : decode cJ9_abs_0f7a4 5 = .ok (.ineg, 1) := by decide +kernel
theorem dJ9_abs_0f7a4_6 : decode cJ9_abs_0f7a4 6 = .ok (.goto 4, 3) := by decide +kernel
theorem dJ9_abs_0f7a4_9 : decode cJ9_abs_0f7a4 9 = .ok (.iload_n 0, 1) := by decide +kernel
theorem dJ9_abs_0f7a4_10 : decode cJ9_abs_0f7a4 10 = .ok (.ireturn, 1) := by decide +kernel
theorem dJ9_max_7cf53_0 : decode cJ9_max_7cf53 0 = .ok (.iload_n 0, 1) := by decide +kernel
theorem dJ9_max_7cf53_1 : decode cJ9_max_7cf53 1 = .ok (.iload_n 1, 1) := by decide +kernel
theorem dJ9_max_7cf53_2 : decode cJ9_max_7cf53 2 = .ok (.if_icmp .lt 7, 3) := by decide +kernel
theorem dJ9_max_7cf53_5 : decode cJ9_max_7cf53 5 = .ok (.iload_n 0, 1) := by decide +kernel
theorem dJ9_max_7cf53_6 : decode cJ9_max_7cf53 6 = .ok (.goto 4, 3) := by decide +kernel
theorem dJ9_max_7cf53_9 : decode cJ9_max_7cf53 9 = .ok (.iload_n 1, 1) := by decide +kernel
theorem dJ9_max_7cf53_10 : decode cJ9_max_7cf53 10 = .ok (.ireturn, 1) := by decide +kernel
theorem dJ9_min_7cf53_0 : decode cJ9_min_7cf53 0 = .ok (.iload_n 0, 1) := by decide +kernel
theorem dJ9_min_7cf53_1 : decode cJ9_min_7cf53 1 = .ok (.iload_n 1, 1) := by decide +kernel
theorem dJ9_min_7cf53_2 : decode cJ9_min_7cf53 2 = .ok (.if_icmp .gt 7, 3) := by decide +kernel
theorem dJ9_min_7cf53_5 : decode cJ9_min_7cf53 5 = .ok (.iload_n 0, 1) := by decide +kernel
theorem dJ9_min_7cf53_6 : decode cJ9_min_7cf53 6 = .ok (.goto 4, 3) := by decide +kernel
theorem dJ9_min_7cf53_9 : decode cJ9_min_7cf53 9 = .ok (.iload_n 1, 1) := by decide +kernel
theorem dJ9_min_7cf53_10 : decode cJ9_min_7cf53 10 = .ok (.ireturn, 1) := by decide +kernel
theorem dX2_init_0 : decode cX2_init 0 = .ok (.aload_n 0, 1) := by decide +kernel
theorem dX2_init_1 : decode cX2_init 1 = .ok (.invokespecial 3, 3) := by decide +kernel
theorem dX2_init_4 : decode cX2_init 4 = .ok (.aload_n 0, 1) := by decide +kernel
theorem dX2_init_5 : decode cX2_init 5 = .ok (.bipush 6, 2) := by decide +kernel
theorem dX2_init_7 : decode cX2_init 7 = .ok (.anewarray 9, 3) := by decide +kernel
theorem dX2_init_10 : decode cX2_init 10 = .ok (.putfield 11, 3) := by decide +kernel
theorem dX2_init_13 : decode cX2_init 13 = .ok (.iconst 0, 1) := by decide +kernel
theorem dX2_init_14 : decode cX2_init 14 = .ok (.istore_n 1, 1) := by decide +kernel
theorem dX2_init_15 : decode cX2_init 15 = .ok (.iload_n 1, 1) := by decide +kernel
theorem dX2_init_16 : decode cX2_init 16 = .ok (.bipush 6, 2) := by decide +kernel
theorem dX2_init_18 : decode cX2_init 18 = .ok (.if_icmp .ge 22, 3) := by decide +kernel
theorem dX2_init_21 : decode cX2_init 21 = .ok (.aload_n 0, 1) := by decide +kernel
theorem dX2_init_22 : decode cX2_init 22 = .ok (.getfield 11, 3) := by decide +kernel
theorem dX2_init_25 : decode cX2_init 25 = .ok (.iload_n 1, 1) := by decide +kernel
theorem dX2_init_26 : decode cX2_init 26 = .ok (.new 9, 3) := by decide +kernel
theorem dX2_init_29 : decode cX2_init 29 = .ok (.dup, 1) := by decide +kernel
theorem dX2_init_30 : decode cX2_init 30 = .ok (.invokespecial 17, 3) := by decide +kernel
theorem dX2_init_33 : decode cX2_init 33 = .ok (.aastore, 1) := by decide +kernel
theorem dX2_init_34 : decode cX2_init 34 = .ok (.iinc 1 1, 3) := by decide +kernel
theorem dX2_init_37 : decode cX2_init 37 = .ok (.goto (-22), 3) := by decide +kernel
theorem dX2_init_40 : decode cX2_init 40 = .ok (.return_, 1) := by decide +kernel
theorem dX2_isEmpty_0 : decode cX2_isEmpty 0 = .ok (.aload_n 0, 1) := by decide +kernel
theorem dX2_isEmpty_1 : decode cX2_isEmpty 1 = .ok (.getfield 18, 3) := by decide +kernel
theorem dX2_isEmpty_4 : decode cX2_isEmpty 4 = .ok (.ifCond .gt 7, 3) := by decide +kernel
theorem dX2_isEmpty_7 : decode cX2_isEmpty 7 = .ok (.iconst 1, 1) := by decide +kernel
theorem dX2_isEmpty_8 : decode cX2_isEmpty 8 = .ok (.goto 4, 3) := by decide +kernel
theorem dX2_isEmpty_11 : decode cX2_isEmpty 11 = .ok (.iconst 0, 1) := by decide +kernel
theorem dX2_isEmpty_12 : decode cX2_isEmpty 12 = .ok (.ireturn, 1) := by decide +kernel
theorem dX2_save_0 : decode cX2_save 0 = .ok (.aload_n 0, 1) := by decide +kernel
theorem dX2_save_1 : decode cX2_save 1 = .ok (.getfield 18, 3) := by decide +kernel
theorem dX2_save_4 : decode cX2_save 4 = .ok (.bipush 6, 2) := by decide +kernel
theorem dX2_save_6 : decode cX2_save 6 = .ok (.if_icmp .lt 7, 3) := by decide +kernel
theorem dX2_save_9 : decode cX2_save 9 = .ok (.aload_n 0, 1) := by decide +kernel
theorem dX2_save_10 : decode cX2_save 10 = .ok (.invokevirtual 22, 3) := by decide +kernel
theorem dX2_save_13 : decode cX2_save 13 = .ok (.aload_n 0, 1) := by decide +kernel
theorem dX2_save_14 : decode cX2_save 14 = .ok (.getfield 11, 3) := by decide +kernel
theorem dX2_save_17 : decode cX2_save 17 = .ok (.aload_n 0, 1) := by decide +kernel
theorem dX2_save_18 : decode cX2_save 18 = .ok (.getfield 18, 3) := by decide +kernel
theorem dX2_save_21 : decode cX2_save 21 = .ok (.aaload, 1) := by decide +kernel
theorem dX2_save_22 : decode cX2_save 22 = .ok (.aload_n 1, 1) := by decide +kernel
theorem dX2_save_23 : decode cX2_save 23 = .ok (.invokevirtual 25, 3) := by decide +kernel
theorem dX2_save_26 : decode cX2_save 26 = .ok (.aload_n 0, 1) := by decide +kernel
theorem dX2_save_27 : decode cX2_save 27 = .ok (.dup, 1) := by decide +kernel
theorem dX2_save_28 : decode cX2_save 28 = .ok (.getfield 18, 3) := by decide +kernel
theorem dX2_save_31 : decode cX2_save 31 = .ok (.iconst 1, 1) := by decide +kernel
theorem dX2_save_32 : decode cX2_save 32 = .ok (.iadd, 1) := by decide +kernel
theorem dX2_save_33 : decode cX2_save 33 = .ok (.putfield 18, 3) := by decide +kernel
theorem dX2_save_36 : decode cX2_save 36 = .ok (.return_, 1) := by decide +kernel
theorem dX2_dropOldest_0 : decode cX2_dropOldest 0 = .ok (.aload_n 0, 1) := by decide +kernel
theorem dX2_dropOldest_1 : decode cX2_dropOldest 1 = .ok (.getfield 11, 3) := by decide +kernel
theorem dX2_dropOldest_4 : decode cX2_dropOldest 4 = .ok (.iconst 0, 1) := by decide +kernel
theorem dX2_dropOldest_5 : decode cX2_dropOldest 5 = .ok (.aaload, 1) := by decide +kernel
theorem dX2_dropOldest_6 : decode cX2_dropOldest 6 = .ok (.astore_n 1, 1) := by decide +kernel
theorem dX2_dropOldest_7 : decode cX2_dropOldest 7 = .ok (.iconst 1, 1) := by decide +kernel
theorem dX2_dropOldest_8 : decode cX2_dropOldest 8 = .ok (.istore_n 2, 1) := by decide +kernel
theorem dX2_dropOldest_9 : decode cX2_dropOldest 9 = .ok (.iload_n 2, 1) := by decide +kernel
theorem dX2_dropOldest_10 : decode cX2_dropOldest 10 = .ok (.bipush 6, 2) := by decide +kernel
theorem dX2_dropOldest_12 : decode cX2_dropOldest 12 = .ok (.if_icmp .ge 23, 3) := by decide +kernel
theorem dX2_dropOldest_15 : decode cX2_dropOldest 15 = .ok (.aload_n 0, 1) := by decide +kernel
theorem dX2_dropOldest_16 : decode cX2_dropOldest 16 = .ok (.getfield 11, 3) := by decide +kernel
theorem dX2_dropOldest_19 : decode cX2_dropOldest 19 = .ok (.iload_n 2, 1) := by decide +kernel
theorem dX2_dropOldest_20 : decode cX2_dropOldest 20 = .ok (.iconst 1, 1) := by decide +kernel
theorem dX2_dropOldest_21 : decode cX2_dropOldest 21 = .ok (.isub, 1) := by decide +kernel
theorem dX2_dropOldest_22 : decode cX2_dropOldest 22 = .ok (.aload_n 0, 1) := by decide +kernel
theorem dX2_dropOldest_23 : decode cX2_dropOldest 23 = .ok (.getfield 11, 3) := by decide +kernel
theorem dX2_dropOldest_26 : decode cX2_dropOldest 26 = .ok (.iload_n 2, 1) := by decide +kernel
theorem dX2_dropOldest_27 : decode cX2_dropOldest 27 = .ok (.aaload, 1) := by decide +kernel
theorem dX2_dropOldest_28 : decode cX2_dropOldest 28 = .ok (.aastore, 1) := by decide +kernel
theorem dX2_dropOldest_29 : decode cX2_dropOldest 29 = .ok (.iinc 2 1, 3) := by decide +kernel
theorem dX2_dropOldest_32 : decode cX2_dropOldest 32 = .ok (.goto (-23), 3) := by decide +kernel
theorem dX2_dropOldest_35 : decode cX2_dropOldest 35 = .ok (.aload_n 0, 1) := by decide +kernel
theorem dX2_dropOldest_36 : decode cX2_dropOldest 36 = .ok (.getfield 11, 3) := by decide +kernel
theorem dX2_dropOldest_39 : decode cX2_dropOldest 39 = .ok (.iconst 5, 1) := by decide +kernel
theorem dX2_dropOldest_40 : decode cX2_dropOldest 40 = .ok (.aload_n 1, 1) := by decide +kernel
theorem dX2_dropOldest_41 : decode cX2_dropOldest 41 = .ok (.aastore, 1) := by decide +kernel
theorem dX2_dropOldest_42 : decode cX2_dropOldest 42 = .ok (.aload_n 0, 1) := by decide +kernel
theorem dX2_dropOldest_43 : decode cX2_dropOldest 43 = .ok (.iconst 5, 1) := by decide +kernel
theorem dX2_dropOldest_44 : decode cX2_dropOldest 44 = .ok (.putfield 18, 3) := by decide +kernel
theorem dX2_dropOldest_47 : decode cX2_dropOldest 47 = .ok (.return_, 1) := by decide +kernel
theorem dX2_restoreLatest_0 : decode cX2_restoreLatest 0 = .ok (.aload_n 0, 1) := by decide +kernel
theorem dX2_restoreLatest_1 : decode cX2_restoreLatest 1 = .ok (.invokevirtual 29, 3) := by decide +kernel
theorem dX2_restoreLatest_4 : decode cX2_restoreLatest 4 = .ok (.ifCond .eq 4, 3) := by decide +kernel
theorem dX2_restoreLatest_7 : decode cX2_restoreLatest 7 = .ok (.return_, 1) := by decide +kernel
theorem dX2_restoreLatest_8 : decode cX2_restoreLatest 8 = .ok (.aload_n 0, 1) := by decide +kernel
theorem dX2_restoreLatest_9 : decode cX2_restoreLatest 9 = .ok (.dup, 1) := by decide +kernel
theorem dX2_restoreLatest_10 : decode cX2_restoreLatest 10 = .ok (.getfield 18, 3) := by decide +kernel
theorem dX2_restoreLatest_13 : decode cX2_restoreLatest 13 = .ok (.iconst 1, 1) := by decide +kernel
theorem dX2_restoreLatest_14 : decode cX2_restoreLatest 14 = .ok (.isub, 1) := by decide +kernel
theorem dX2_restoreLatest_15 : decode cX2_restoreLatest 15 = .ok (.putfield 18, 3) := by decide +kernel
theorem dX2_restoreLatest_18 : decode cX2_restoreLatest 18 = .ok (.aload_n 1, 1) := by decide +kernel
theorem dX2_restoreLatest_19 : decode cX2_restoreLatest 19 = .ok (.aload_n 0, 1) := by decide +kernel
theorem dX2_restoreLatest_20 : decode cX2_restoreLatest 20 = .ok (.getfield 11, 3) := by decide +kernel
theorem dX2_restoreLatest_23 : decode cX2_restoreLatest 23 = .ok (.aload_n 0, 1) := by decide +kernel
theorem dX2_restoreLatest_24 : decode cX2_restoreLatest 24 = .ok (.getfield 18, 3) := by decide +kernel
theorem dX2_restoreLatest_27 : decode cX2_restoreLatest 27 = .ok (.aaload, 1) := by decide +kernel
theorem dX2_restoreLatest_28 : decode cX2_restoreLatest 28 = .ok (.invokevirtual 25, 3) := by decide +kernel
theorem dX2_restoreLatest_31 : decode cX2_restoreLatest 31 = .ok (.return_, 1) := by decide +kernel
theorem dX3_init_0 : decode cX3_init 0 = .ok (.aload_n 0, 1) := by decide +kernel
theorem dX3_init_1 : decode cX3_init 1 = .ok (.invokespecial 3, 3) := by decide +kernel
theorem dX3_init_4 : decode cX3_init 4 = .ok (.aload_n 0, 1) := by decide +kernel
theorem dX3_init_5 : decode cX3_init 5 = .ok (.bipush 60, 2) := by decide +kernel
theorem dX3_init_7 : decode cX3_init 7 = .ok (.newarray .int, 2) := by decide +kernel
theorem dX3_init_9 : decode cX3_init 9 = .ok (.putfield 9, 3) := by decide +kernel
theorem dX3_init_12 : decode cX3_init 12 = .ok (.aload_n 0, 1) := by decide +kernel
theorem dX3_init_13 : decode cX3_init 13 = .ok (.getstatic 15, 3) := by decide +kernel
theorem dX3_init_16 : decode cX3_init 16 = .ok (.putfield 21, 3) := by decide +kernel
theorem dX3_init_19 : decode cX3_init 19 = .ok (.return_, 1) := by decide +kernel
theorem dX3_isFull_0 : decode cX3_isFull 0 = .ok (.aload_n 0, 1) := by decide +kernel
theorem dX3_isFull_1 : decode cX3_isFull 1 = .ok (.getfield 24, 3) := by decide +kernel
theorem dX3_isFull_4 : decode cX3_isFull 4 = .ok (.bipush 60, 2) := by decide +kernel
theorem dX3_isFull_6 : decode cX3_isFull 6 = .ok (.if_icmp .lt 7, 3) := by decide +kernel
theorem dX3_isFull_9 : decode cX3_isFull 9 = .ok (.iconst 1, 1) := by decide +kernel
theorem dX3_isFull_10 : decode cX3_isFull 10 = .ok (.goto 4, 3) := by decide +kernel
theorem dX3_isFull_13 : decode cX3_isFull 13 = .ok (.iconst 0, 1) := by decide +kernel
theorem dX3_isFull_14 : decode cX3_isFull 14 = .ok (.ireturn, 1) := by decide +kernel
theorem dX3_add_0 : decode cX3_add 0 = .ok (.aload_n 0, 1) := by decide +kernel
theorem dX3_add_1 : decode cX3_add 1 = .ok (.invokevirtual 28, 3) := by decide +kernel
theorem dX3_add_4 : decode cX3_add 4 = .ok (.ifCond .eq 4, 3) := by decide +kernel
theorem dX3_add_7 : decode cX3_add 7 = .ok (.return_, 1) := by decide +kernel
theorem dX3_add_8 : decode cX3_add 8 = .ok (.aload_n 0, 1) := by decide +kernel
theorem dX3_add_9 : decode cX3_add 9 = .ok (.getfield 9, 3) := by decide +kernel
theorem dX3_add_12 : decode cX3_add 12 = .ok (.aload_n 0, 1) := by decide +kernel
theorem dX3_add_13 : decode cX3_add 13 = .ok (.getfield 24, 3) := by decide +kernel
theorem dX3_add_16 : decode cX3_add 16 = .ok (.iload_n 1, 1) := by decide +kernel
theorem dX3_add_17 : decode cX3_add 17 = .ok (.iastore, 1) := by decide +kernel
theorem dX3_add_18 : decode cX3_add 18 = .ok (.aload_n 0, 1) := by decide +kernel
theorem dX3_add_19 : decode cX3_add 19 = .ok (.dup, 1) := by decide +kernel
theorem dX3_add_20 : decode cX3_add 20 = .ok (.getfield 24, 3) := by decide +kernel
theorem dX3_add_23 : decode cX3_add 23 = .ok (.iconst 1, 1) := by decide +kernel
theorem dX3_add_24 : decode cX3_add 24 = .ok (.iadd, 1) := by decide +kernel
theorem dX3_add_25 : decode cX3_add 25 = .ok (.putfield 24, 3) := by decide +kernel
theorem dX3_add_28 : decode cX3_add 28 = .ok (.return_, 1) := by decide +kernel
theorem dX3_empty_0 : decode cX3_empty 0 = .ok (.aload_n 0, 1) := by decide +kernel
theorem dX3_empty_1 : decode cX3_empty 1 = .ok (.iconst 0, 1) := by decide +kernel
theorem dX3_empty_2 : decode cX3_empty 2 = .ok (.putfield 24, 3) := by decide +kernel
theorem dX3_empty_5 : decode cX3_empty 5 = .ok (.return_, 1) := by decide +kernel
theorem dX3_codeAt_0 : decode cX3_codeAt 0 = .ok (.iload_n 1, 1) := by decide +kernel
theorem dX3_codeAt_1 : decode cX3_codeAt 1 = .ok (.ifCond .lt 20, 3) := by decide +kernel
theorem dX3_codeAt_4 : decode cX3_codeAt 4 = .ok (.iload_n 1, 1) := by decide +kernel
theorem dX3_codeAt_5 : decode cX3_codeAt 5 = .ok (.aload_n 0, 1) := by decide +kernel
theorem dX3_codeAt_6 : decode cX3_codeAt 6 = .ok (.getfield 24, 3) := by decide +kernel
theorem dX3_codeAt_9 : decode cX3_codeAt 9 = .ok (.if_icmp .ge 12, 3) := by decide +kernel
theorem dX3_codeAt_12 : decode cX3_codeAt 12 = .ok (.aload_n 0, 1) := by decide +kernel
theorem dX3_codeAt_13 : decode cX3_codeAt 13 = .ok (.getfield 9, 3) := by decide +kernel
theorem dX3_codeAt_16 : decode cX3_codeAt 16 = .ok (.iload_n 1, 1) := by decide +kernel
theorem dX3_codeAt_17 : decode cX3_codeAt 17 = .ok (.iaload, 1) := by decide +kernel
theorem dX3_codeAt_18 : decode cX3_codeAt 18 = .ok (.goto 4, 3) := by decide +kernel
theorem dX3_codeAt_21 : decode cX3_codeAt 21 = .ok (.iconst 0, 1) := by decide +kernel
theorem dX3_codeAt_22 : decode cX3_codeAt 22 = .ok (.ireturn, 1) := by decide +kernel
theorem dX3_indexOfError_0 : decode cX3_indexOfError 0 = .ok (.aload_n 0, 1) := by decide +kernel
theorem dX3_indexOfError_1 : decode cX3_indexOfError 1 = .ok (.invokevirtual 32, 3) := by decide +kernel
theorem dX3_indexOfError_4 : decode cX3_indexOfError 4 = .ok (.iconst 0, 1) := by decide +kernel
theorem dX3_indexOfError_5 : decode cX3_indexOfError 5 = .ok (.istore_n 1, 1) := by decide +kernel
theorem dX3_indexOfError_6 : decode cX3_indexOfError 6 = .ok (.iload_n 1, 1) := by decide +kernel
theorem dX3_indexOfError_7 : decode cX3_indexOfError 7 = .ok (.aload_n 0, 1) := by decide +kernel
theorem dX3_indexOfError_8 : decode cX3_indexOfError 8 = .ok (.getfield 24, 3) := by decide +kernel
theorem dX3_indexOfError_11 : decode cX3_indexOfError 11 = .ok (.if_icmp .ge 23, 3) := by decide +kernel
theorem dX3_indexOfError_14 : decode cX3_indexOfError 14 = .ok (.aload_n 0, 1) := by decide +kernel
theorem dX3_indexOfError_15 : decode cX3_indexOfError 15 = .ok (.aload_n 0, 1) := by decide +kernel
theorem dX3_indexOfError_16 : decode cX3_indexOfError 16 = .ok (.iload_n 1, 1) := by decide +kernel
theorem dX3_indexOfError_17 : decode cX3_indexOfError 17 = .ok (.invokevirtual 35, 3) := by decide +kernel
theorem dX3_indexOfError_20 : decode cX3_indexOfError 20 = .ok (.invokevirtual 39, 3) := by decide +kernel
theorem dX3_indexOfError_23 : decode cX3_indexOfError 23 = .ok (.ifCond .ne 5, 3) := by decide +kernel
theorem dX3_indexOfError_26 : decode cX3_indexOfError 26 = .ok (.iload_n 1, 1) := by decide +kernel
theorem dX3_indexOfError_27 : decode cX3_indexOfError 27 = .ok (.ireturn, 1) := by decide +kernel
theorem dX3_indexOfError_28 : decode cX3_indexOfError 28 = .ok (.iinc 1 1, 3) := by decide +kernel
theorem dX3_indexOfError_31 : decode cX3_indexOfError 31 = .ok (.goto (-25), 3) := by decide +kernel
theorem dX3_indexOfError_34 : decode cX3_indexOfError 34 = .ok (.aload_n 0, 1) := by decide +kernel
theorem dX3_indexOfError_35 : decode cX3_indexOfError 35 = .ok (.getfield 24, 3) := by decide +kernel
theorem dX3_indexOfError_38 : decode cX3_indexOfError 38 = .ok (.ireturn, 1) := by decide +kernel
theorem dX3_isComplete_0 : decode cX3_isComplete 0 = .ok (.aload_n 0, 1) := by decide +kernel
theorem dX3_isComplete_1 : decode cX3_isComplete 1 = .ok (.invokevirtual 43, 3) := by decide +kernel
theorem dX3_isComplete_4 : decode cX3_isComplete 4 = .ok (.aload_n 0, 1) := by decide +kernel
theorem dX3_isComplete_5 : decode cX3_isComplete 5 = .ok (.getfield 24, 3) := by decide +kernel
theorem dX3_isComplete_8 : decode cX3_isComplete 8 = .ok (.if_icmp .ne 27, 3) := by decide +kernel
theorem dX3_isComplete_11 : decode cX3_isComplete 11 = .ok (.aload_n 0, 1) := by decide +kernel
theorem dX3_isComplete_12 : decode cX3_isComplete 12 = .ok (.getfield 21, 3) := by decide +kernel
theorem dX3_isComplete_15 : decode cX3_isComplete 15 = .ok (.getstatic 47, 3) := by decide +kernel
theorem dX3_isComplete_18 : decode cX3_isComplete 18 = .ok (.if_acmp .eq 13, 3) := by decide +kernel
theorem dX3_isComplete_21 : decode cX3_isComplete 21 = .ok (.aload_n 0, 1) := by decide +kernel
theorem dX3_isComplete_22 : decode cX3_isComplete 22 = .ok (.getfield 21, 3) := by decide +kernel
theorem dX3_isComplete_25 : decode cX3_isComplete 25 = .ok (.getstatic 50, 3) := by decide +kernel
theorem dX3_isComplete_28 : decode cX3_isComplete 28 = .ok (.if_acmp .ne 7, 3) := by decide +kernel
theorem dX3_isComplete_31 : decode cX3_isComplete 31 = .ok (.iconst 1, 1) := by decide +kernel
theorem dX3_isComplete_32 : decode cX3_isComplete 32 = .ok (.goto 4, 3) := by decide +kernel
theorem dX3_isComplete_35 : decode cX3_isComplete 35 = .ok (.iconst 0, 1) := by decide +kernel
theorem dX3_isComplete_36 : decode cX3_isComplete 36 = .ok (.ireturn, 1) := by decide +kernel
theorem dX3_endsOrderBehind_0 : decode cX3_endsOrderBehind 0 = .ok (.iload_n 1, 1) := by decide +kernel
theorem dX3_endsOrderBehind_1 : decode cX3_endsOrderBehind 1 = .ok (.iconst 1, 1) := by decide +kernel
theorem dX3_endsOrderBehind_2 : decode cX3_endsOrderBehind 2 = .ok (.iadd, 1) := by decide +kernel
theorem dX3_endsOrderBehind_3 : decode cX3_endsOrderBehind 3 = .ok (.aload_n 0, 1) := by decide +kernel
theorem dX3_endsOrderBehind_4 : decode cX3_endsOrderBehind 4 = .ok (.getfield 24, 3) := by decide +kernel
theorem dX3_endsOrderBehind_7 : decode cX3_endsOrderBehind 7 = .ok (.if_icmp .ge 15, 3) := by decide +kernel
theorem dX3_endsOrderBehind_10 : decode cX3_endsOrderBehind 10 = .ok (.aload_n 0, 1) := by decide +kernel
theorem dX3_endsOrderBehind_11 : decode cX3_endsOrderBehind 11 = .ok (.iload_n 1, 1) := by decide +kernel
theorem dX3_endsOrderBehind_12 : decode cX3_endsOrderBehind 12 = .ok (.iconst 1, 1) := by decide +kernel
theorem dX3_endsOrderBehind_13 : decode cX3_endsOrderBehind 13 = .ok (.iadd, 1) := by decide +kernel
theorem dX3_endsOrderBehind_14 : decode cX3_endsOrderBehind 14 = .ok (.invokevirtual 35, 3) := by decide +kernel
theorem dX3_endsOrderBehind_17 : decode cX3_endsOrderBehind 17 = .ok (.bipush 59, 2) := by decide +kernel
theorem dX3_endsOrderBehind_19 : decode cX3_endsOrderBehind 19 = .ok (.if_icmp .ne 7, 3) := by decide +kernel
theorem dX3_endsOrderBehind_22 : decode cX3_endsOrderBehind 22 = .ok (.iconst 1, 1) := by decide +kernel
theorem dX3_endsOrderBehind_23 : decode cX3_endsOrderBehind 23 = .ok (.goto 4, 3) := by decide +kernel
theorem dX3_endsOrderBehind_26 : decode cX3_endsOrderBehind 26 = .ok (.iconst 0, 1) := by decide +kernel
theorem dX3_endsOrderBehind_27 : decode cX3_endsOrderBehind 27 = .ok (.ireturn, 1) := by decide +kernel
theorem dX3_startReading_0 : decode cX3_startReading 0 = .ok (.aload_n 0, 1) := by decide +kernel
theorem dX3_startReading_1 : decode cX3_startReading 1 = .ok (.getstatic 15, 3) := by decide +kernel
theorem dX3_startReading_4 : decode cX3_startReading 4 = .ok (.putfield 21, 3) := by decide +kernel
theorem dX3_startReading_7 : decode cX3_startReading 7 = .ok (.return_, 1) := by decide +kernel
theorem dX3_takes_0 : decode cX3_takes 0 = .ok (.getstatic 53, 3) := by decide +kernel
theorem dX3_takes_3 : decode cX3_takes 3 = .ok (.aload_n 0, 1) := by decide +kernel
theorem dX3_takes_4 : decode cX3_takes 4 = .ok (.getfield 21, 3) := by decide +kernel
theorem dX3_takes_7 : decode cX3_takes 7 = .ok (.invokevirtual 58, 3) := by decide +kernel
theorem dX3_takes_10 : decode cX3_takes 10 = .ok (.iaload, 1) := by decide +kernel
theorem dX3_takes_11 : decode cX3_takes 11 = .ok (.tableswitch 87 1 6 #[37, 43, 49, 55, 61, 67], 37) := by decide +kernel
theorem dX3_takes_48 : decode cX3_takes 48 = .ok (.aload_n 0, 1) := by decide +kernel
theorem dX3_takes_49 : decode cX3_takes 49 = .ok (.iload_n 1, 1) := by decide +kernel
theorem dX3_takes_50 : decode cX3_takes 50 = .ok (.invokevirtual 61, 3) := by decide +kernel
theorem dX3_takes_53 : decode cX3_takes 53 = .ok (.ireturn, 1) := by decide +kernel
theorem dX3_takes_54 : decode cX3_takes 54 = .ok (.aload_n 0, 1) := by decide +kernel
theorem dX3_takes_55 : decode cX3_takes 55 = .ok (.iload_n 1, 1) := by decide +kernel
theorem dX3_takes_56 : decode cX3_takes 56 = .ok (.invokevirtual 64, 3) := by decide +kernel
theorem dX3_takes_59 : decode cX3_takes 59 = .ok (.ireturn, 1) := by decide +kernel
theorem dX3_takes_60 : decode cX3_takes 60 = .ok (.aload_n 0, 1) := by decide +kernel
theorem dX3_takes_61 : decode cX3_takes 61 = .ok (.iload_n 1, 1) := by decide +kernel
theorem dX3_takes_62 : decode cX3_takes 62 = .ok (.invokevirtual 67, 3) := by decide +kernel
theorem dX3_takes_65 : decode cX3_takes 65 = .ok (.ireturn, 1) := by decide +kernel
theorem dX3_takes_66 : decode cX3_takes 66 = .ok (.aload_n 0, 1) := by decide +kernel
theorem dX3_takes_67 : decode cX3_takes 67 = .ok (.iload_n 1, 1) := by decide +kernel
theorem dX3_takes_68 : decode cX3_takes 68 = .ok (.invokevirtual 70, 3) := by decide +kernel
theorem dX3_takes_71 : decode cX3_takes 71 = .ok (.ireturn, 1) := by decide +kernel
theorem dX3_takes_72 : decode cX3_takes 72 = .ok (.aload_n 0, 1) := by decide +kernel
theorem dX3_takes_73 : decode cX3_takes 73 = .ok (.iload_n 1, 1) := by decide +kernel
theorem dX3_takes_74 : decode cX3_takes 74 = .ok (.invokevirtual 73, 3) := by decide +kernel
theorem dX3_takes_77 : decode cX3_takes 77 = .ok (.ireturn, 1) := by decide +kernel
theorem dX3_takes_78 : decode cX3_takes 78 = .ok (.iload_n 1, 1) := by decide +kernel
theorem dX3_takes_79 : decode cX3_takes 79 = .ok (.bipush 59, 2) := by decide +kernel
theorem dX3_takes_81 : decode cX3_takes 81 = .ok (.if_icmp .ne 11, 3) := by decide +kernel
theorem dX3_takes_84 : decode cX3_takes 84 = .ok (.aload_n 0, 1) := by decide +kernel
theorem dX3_takes_85 : decode cX3_takes 85 = .ok (.iload_n 1, 1) := by decide +kernel
theorem dX3_takes_86 : decode cX3_takes 86 = .ok (.invokevirtual 76, 3) := by decide +kernel
theorem dX3_takes_89 : decode cX3_takes 89 = .ok (.goto 8, 3) := by decide +kernel
theorem dX3_takes_92 : decode cX3_takes 92 = .ok (.aload_n 0, 1) := by decide +kernel
theorem dX3_takes_93 : decode cX3_takes 93 = .ok (.iload_n 1, 1) := by decide +kernel
theorem dX3_takes_94 : decode cX3_takes 94 = .ok (.invokevirtual 79, 3) := by decide +kernel
theorem dX3_takes_97 : decode cX3_takes 97 = .ok (.ireturn, 1) := by decide +kernel
theorem dX3_takes_98 : decode cX3_takes 98 = .ok (.aload_n 0, 1) := by decide +kernel
theorem dX3_takes_99 : decode cX3_takes 99 = .ok (.iload_n 1, 1) := by decide +kernel
theorem dX3_takes_100 : decode cX3_takes 100 = .ok (.invokevirtual 76, 3) := by decide +kernel
theorem dX3_takes_103 : decode cX3_takes 103 = .ok (.ireturn, 1) := by decide +kernel
theorem dX3_takesLetter_0 : decode cX3_takesLetter 0 = .ok (.iload_n 1, 1) := by decide +kernel
theorem dX3_takesLetter_1 : decode cX3_takesLetter 1 = .ok (.bipush 107, 2) := by decide +kernel
theorem dX3_takesLetter_3 : decode cX3_takesLetter 3 = .ok (.if_icmp .eq 23, 3) := by decide +kernel
theorem dX3_takesLetter_6 : decode cX3_takesLetter 6 = .ok (.iload_n 1, 1) := by decide +kernel
theorem dX3_takesLetter_7 : decode cX3_takesLetter 7 = .ok (.bipush 98, 2) := by decide +kernel
theorem dX3_takesLetter_9 : decode cX3_takesLetter 9 = .ok (.if_icmp .eq 17, 3) := by decide +kernel
theorem dX3_takesLetter_12 : decode cX3_takesLetter 12 = .ok (.iload_n 1, 1) := by decide +kernel
theorem dX3_takesLetter_13 : decode cX3_takesLetter 13 = .ok (.bipush 119, 2) := by decide +kernel
theorem dX3_takesLetter_15 : decode cX3_takesLetter 15 = .ok (.if_icmp .eq 11, 3) := by decide +kernel
theorem dX3_takesLetter_18 : decode cX3_takesLetter 18 = .ok (.iload_n 1, 1) := by decide +kernel
theorem dX3_takesLetter_19 : decode cX3_takesLetter 19 = .ok (.bipush 116, 2) := by decide +kernel
theorem dX3_takesLetter_21 : decode cX3_takesLetter 21 = .ok (.if_icmp .eq 5, 3) := by decide +kernel
theorem dX3_takesLetter_24 : decode cX3_takesLetter 24 = .ok (.iconst 0, 1) := by decide +kernel
theorem dX3_takesLetter_25 : decode cX3_takesLetter 25 = .ok (.ireturn, 1) := by decide +kernel
theorem dX3_takesLetter_26 : decode cX3_takesLetter 26 = .ok (.aload_n 0, 1) := by decide +kernel
theorem dX3_takesLetter_27 : decode cX3_takesLetter 27 = .ok (.iload_n 1, 1) := by decide +kernel
theorem dX3_takesLetter_28 : decode cX3_takesLetter 28 = .ok (.putfield 82, 3) := by decide +kernel
theorem dX3_takesLetter_31 : decode cX3_takesLetter 31 = .ok (.aload_n 0, 1) := by decide +kernel
theorem dX3_takesLetter_32 : decode cX3_takesLetter 32 = .ok (.iload_n 1, 1) := by decide +kernel
theorem dX3_takesLetter_33 : decode cX3_takesLetter 33 = .ok (.bipush 116, 2) := by decide +kernel
theorem dX3_takesLetter_35 : decode cX3_takesLetter 35 = .ok (.if_icmp .ne 9, 3) := by decide +kernel
theorem dX3_takesLetter_38 : decode cX3_takesLetter 38 = .ok (.getstatic 85, 3) := by decide +kernel
theorem dX3_takesLetter_41 : decode cX3_takesLetter 41 = .ok (.goto 6, 3) := by decide +kernel
theorem dX3_takesLetter_44 : decode cX3_takesLetter 44 = .ok (.getstatic 88, 3) := by decide +kernel
theorem dX3_takesLetter_47 : decode cX3_takesLetter 47 = .ok (.putfield 21, 3) := by decide +kernel
theorem dX3_takesLetter_50 : decode cX3_takesLetter 50 = .ok (.iconst 1, 1) := by decide +kernel
theorem dX3_takesLetter_51 : decode cX3_takesLetter 51 = .ok (.ireturn, 1) := by decide +kernel
theorem dX3_takesClock_0 : decode cX3_takesClock 0 = .ok (.iload_n 1, 1) := by decide +kernel
theorem dX3_takesClock_1 : decode cX3_takesClock 1 = .ok (.bipush 48, 2) := by decide +kernel
theorem dX3_takesClock_3 : decode cX3_takesClock 3 = .ok (.isub, 1) := by decide +kernel
theorem dX3_takesClock_4 : decode cX3_takesClock 4 = .ok (.invokestatic 91, 3) := by decide +kernel
theorem dX3_takesClock_7 : decode cX3_takesClock 7 = .ok (.ifCond .ne 5, 3) := by decide +kernel
theorem dX3_takesClock_10 : decode cX3_takesClock 10 = .ok (.iconst 0, 1) := by decide +kernel
theorem dX3_takesClock_11 : decode cX3_takesClock 11 = .ok (.ireturn, 1) := by decide +kernel
theorem dX3_takesClock_12 : decode cX3_takesClock 12 = .ok (.aload_n 0, 1) := by decide +kernel
theorem dX3_takesClock_13 : decode cX3_takesClock 13 = .ok (.iload_n 1, 1) := by decide +kernel
theorem dX3_takesClock_14 : decode cX3_takesClock 14 = .ok (.bipush 48, 2) := by decide +kernel
theorem dX3_takesClock_16 : decode cX3_takesClock 16 = .ok (.isub, 1) := by decide +kernel
theorem dX3_takesClock_17 : decode cX3_takesClock 17 = .ok (.putfield 94, 3) := by decide +kernel
theorem dX3_takesClock_20 : decode cX3_takesClock 20 = .ok (.aload_n 0, 1) := by decide +kernel
theorem dX3_takesClock_21 : decode cX3_takesClock 21 = .ok (.getfield 82, 3) := by decide +kernel
theorem dX3_takesClock_24 : decode cX3_takesClock 24 = .ok (.bipush 107, 2) := by decide +kernel
theorem dX3_takesClock_26 : decode cX3_takesClock 26 = .ok (.if_icmp .ne 13, 3) := by decide +kernel
theorem dX3_takesClock_29 : decode cX3_takesClock 29 = .ok (.aload_n 0, 1) := by decide +kernel
theorem dX3_takesClock_30 : decode cX3_takesClock 30 = .ok (.getstatic 97, 3) := by decide +kernel
theorem dX3_takesClock_33 : decode cX3_takesClock 33 = .ok (.putfield 21, 3) := by decide +kernel
theorem dX3_takesClock_36 : decode cX3_takesClock 36 = .ok (.goto 25, 3) := by decide +kernel
theorem dX3_takesClock_39 : decode cX3_takesClock 39 = .ok (.aload_n 0, 1) := by decide +kernel
theorem dX3_takesClock_40 : decode cX3_takesClock 40 = .ok (.aload_n 0, 1) := by decide +kernel
theorem dX3_takesClock_41 : decode cX3_takesClock 41 = .ok (.getfield 82, 3) := by decide +kernel
theorem dX3_takesClock_44 : decode cX3_takesClock 44 = .ok (.bipush 98, 2) := by decide +kernel
theorem dX3_takesClock_46 : decode cX3_takesClock 46 = .ok (.if_icmp .ne 9, 3) := by decide +kernel
theorem dX3_takesClock_49 : decode cX3_takesClock 49 = .ok (.getstatic 100, 3) := by decide +kernel
theorem dX3_takesClock_52 : decode cX3_takesClock 52 = .ok (.goto 6, 3) := by decide +kernel
theorem dX3_takesClock_55 : decode cX3_takesClock 55 = .ok (.getstatic 47, 3) := by decide +kernel
theorem dX3_takesClock_58 : decode cX3_takesClock 58 = .ok (.putfield 21, 3) := by decide +kernel
theorem dX3_takesClock_61 : decode cX3_takesClock 61 = .ok (.iconst 1, 1) := by decide +kernel
theorem dX3_takesClock_62 : decode cX3_takesClock 62 = .ok (.ireturn, 1) := by decide +kernel
theorem dX3_takesSign_0 : decode cX3_takesSign 0 = .ok (.iload_n 1, 1) := by decide +kernel
theorem dX3_takesSign_1 : decode cX3_takesSign 1 = .ok (.bipush 43, 2) := by decide +kernel
theorem dX3_takesSign_3 : decode cX3_takesSign 3 = .ok (.if_icmp .eq 11, 3) := by decide +kernel
theorem dX3_takesSign_6 : decode cX3_takesSign 6 = .ok (.iload_n 1, 1) := by decide +kernel
theorem dX3_takesSign_7 : decode cX3_takesSign 7 = .ok (.bipush 45, 2) := by decide +kernel
theorem dX3_takesSign_9 : decode cX3_takesSign 9 = .ok (.if_icmp .eq 5, 3) := by decide +kernel
theorem dX3_takesSign_12 : decode cX3_takesSign 12 = .ok (.iconst 0, 1) := by decide +kernel
theorem dX3_takesSign_13 : decode cX3_takesSign 13 = .ok (.ireturn, 1) := by decide +kernel
theorem dX3_takesSign_14 : decode cX3_takesSign 14 = .ok (.aload_n 0, 1) := by decide +kernel
theorem dX3_takesSign_15 : decode cX3_takesSign 15 = .ok (.iload_n 1, 1) := by decide +kernel
theorem dX3_takesSign_16 : decode cX3_takesSign 16 = .ok (.bipush 45, 2) := by decide +kernel
theorem dX3_takesSign_18 : decode cX3_takesSign 18 = .ok (.if_icmp .ne 7, 3) := by decide +kernel
theorem dX3_takesSign_21 : decode cX3_takesSign 21 = .ok (.iconst 1, 1) := by decide +kernel
theorem dX3_takesSign_22 : decode cX3_takesSign 22 = .ok (.goto 4, 3) := by decide +kernel
theorem dX3_takesSign_25 : decode cX3_takesSign 25 = .ok (.iconst 0, 1) := by decide +kernel
theorem dX3_takesSign_26 : decode cX3_takesSign 26 = .ok (.putfield 103, 3) := by decide +kernel
theorem dX3_takesSign_29 : decode cX3_takesSign 29 = .ok (.aload_n 0, 1) := by decide +kernel
theorem dX3_takesSign_30 : decode cX3_takesSign 30 = .ok (.getstatic 85, 3) := by decide +kernel
theorem dX3_takesSign_33 : decode cX3_takesSign 33 = .ok (.putfield 21, 3) := by decide +kernel
theorem dX3_takesSign_36 : decode cX3_takesSign 36 = .ok (.iconst 1, 1) := by decide +kernel
theorem dX3_takesSign_37 : decode cX3_takesSign 37 = .ok (.ireturn, 1) := by decide +kernel
theorem dX3_takesBeam_0 : decode cX3_takesBeam 0 = .ok (.iload_n 1, 1) := by decide +kernel
theorem dX3_takesBeam_1 : decode cX3_takesBeam 1 = .ok (.bipush 48, 2) := by decide +kernel
theorem dX3_takesBeam_3 : decode cX3_takesBeam 3 = .ok (.isub, 1) := by decide +kernel
theorem dX3_takesBeam_4 : decode cX3_takesBeam 4 = .ok (.invokestatic 107, 3) := by decide +kernel
theorem dX3_takesBeam_7 : decode cX3_takesBeam 7 = .ok (.ifCond .ne 5, 3) := by decide +kernel
theorem dX3_takesBeam_10 : decode cX3_takesBeam 10 = .ok (.iconst 0, 1) := by decide +kernel
theorem dX3_takesBeam_11 : decode cX3_takesBeam 11 = .ok (.ireturn, 1) := by decide +kernel
theorem dX3_takesBeam_12 : decode cX3_takesBeam 12 = .ok (.aload_n 0, 1) := by decide +kernel
theorem dX3_takesBeam_13 : decode cX3_takesBeam 13 = .ok (.iload_n 1, 1) := by decide +kernel
theorem dX3_takesBeam_14 : decode cX3_takesBeam 14 = .ok (.bipush 48, 2) := by decide +kernel
theorem dX3_takesBeam_16 : decode cX3_takesBeam 16 = .ok (.isub, 1) := by decide +kernel
theorem dX3_takesBeam_17 : decode cX3_takesBeam 17 = .ok (.putfield 110, 3) := by decide +kernel
theorem dX3_takesBeam_20 : decode cX3_takesBeam 20 = .ok (.aload_n 0, 1) := by decide +kernel
theorem dX3_takesBeam_21 : decode cX3_takesBeam 21 = .ok (.getstatic 47, 3) := by decide +kernel
theorem dX3_takesBeam_24 : decode cX3_takesBeam 24 = .ok (.putfield 21, 3) := by decide +kernel
theorem dX3_takesBeam_27 : decode cX3_takesBeam 27 = .ok (.iconst 1, 1) := by decide +kernel
theorem dX3_takesBeam_28 : decode cX3_takesBeam 28 = .ok (.ireturn, 1) := by decide +kernel
theorem dX3_takesFirstDigit_0 : decode cX3_takesFirstDigit 0 = .ok (.iload_n 1, 1) := by decide +kernel
theorem dX3_takesFirstDigit_1 : decode cX3_takesFirstDigit 1 = .ok (.bipush 49, 2) := by decide +kernel
theorem dX3_takesFirstDigit_3 : decode cX3_takesFirstDigit 3 = .ok (.if_icmp .lt 9, 3) := by decide +kernel
theorem dX3_takesFirstDigit_6 : decode cX3_takesFirstDigit 6 = .ok (.iload_n 1, 1) := by decide +kernel
theorem dX3_takesFirstDigit_7 : decode cX3_takesFirstDigit 7 = .ok (.bipush 57, 2) := by decide +kernel
theorem dX3_takesFirstDigit_9 : decode cX3_takesFirstDigit 9 = .ok (.if_icmp .le 5, 3) := by decide +kernel
theorem dX3_takesFirstDigit_12 : decode cX3_takesFirstDigit 12 = .ok (.iconst 0, 1) := by decide +kernel
theorem dX3_takesFirstDigit_13 : decode cX3_takesFirstDigit 13 = .ok (.ireturn, 1) := by decide +kernel
theorem dX3_takesFirstDigit_14 : decode cX3_takesFirstDigit 14 = .ok (.aload_n 0, 1) := by decide +kernel
theorem dX3_takesFirstDigit_15 : decode cX3_takesFirstDigit 15 = .ok (.iload_n 1, 1) := by decide +kernel
theorem dX3_takesFirstDigit_16 : decode cX3_takesFirstDigit 16 = .ok (.bipush 48, 2) := by decide +kernel
theorem dX3_takesFirstDigit_18 : decode cX3_takesFirstDigit 18 = .ok (.isub, 1) := by decide +kernel
theorem dX3_takesFirstDigit_19 : decode cX3_takesFirstDigit 19 = .ok (.putfield 110, 3) := by decide +kernel
theorem dX3_takesFirstDigit_22 : decode cX3_takesFirstDigit 22 = .ok (.aload_n 0, 1) := by decide +kernel
theorem dX3_takesFirstDigit_23 : decode cX3_takesFirstDigit 23 = .ok (.getstatic 50, 3) := by decide +kernel
theorem dX3_takesFirstDigit_26 : decode cX3_takesFirstDigit 26 = .ok (.putfield 21, 3) := by decide +kernel
theorem dX3_takesFirstDigit_29 : decode cX3_takesFirstDigit 29 = .ok (.iconst 1, 1) := by decide +kernel
theorem dX3_takesFirstDigit_30 : decode cX3_takesFirstDigit 30 = .ok (.ireturn, 1) := by decide +kernel
theorem dX3_takesNextDigit_0 : decode cX3_takesNextDigit 0 = .ok (.iload_n 1, 1) := by decide +kernel
theorem dX3_takesNextDigit_1 : decode cX3_takesNextDigit 1 = .ok (.bipush 48, 2) := by decide +kernel
theorem dX3_takesNextDigit_3 : decode cX3_takesNextDigit 3 = .ok (.if_icmp .lt 9, 3) := by decide +kernel
theorem dX3_takesNextDigit_6 : decode cX3_takesNextDigit 6 = .ok (.iload_n 1, 1) := by decide +kernel
theorem dX3_takesNextDigit_7 : decode cX3_takesNextDigit 7 = .ok (.bipush 57, 2) := by decide +kernel
theorem dX3_takesNextDigit_9 : decode cX3_takesNextDigit 9 = .ok (.if_icmp .le 5, 3) := by decide +kernel
theorem dX3_takesNextDigit_12 : decode cX3_takesNextDigit 12 = .ok (.iconst 0, 1) := by decide +kernel
theorem dX3_takesNextDigit_13 : decode cX3_takesNextDigit 13 = .ok (.ireturn, 1) := by decide +kernel
theorem dX3_takesNextDigit_14 : decode cX3_takesNextDigit 14 = .ok (.aload_n 0, 1) := by decide +kernel
theorem dX3_takesNextDigit_15 : decode cX3_takesNextDigit 15 = .ok (.getfield 110, 3) := by decide +kernel
theorem dX3_takesNextDigit_18 : decode cX3_takesNextDigit 18 = .ok (.bipush 10, 2) := by decide +kernel
theorem dX3_takesNextDigit_20 : decode cX3_takesNextDigit 20 = .ok (.imul, 1) := by decide +kernel
theorem dX3_takesNextDigit_21 : decode cX3_takesNextDigit 21 = .ok (.iload_n 1, 1) := by decide +kernel
theorem dX3_takesNextDigit_22 : decode cX3_takesNextDigit 22 = .ok (.iadd, 1) := by decide +kernel
theorem dX3_takesNextDigit_23 : decode cX3_takesNextDigit 23 = .ok (.bipush 48, 2) := by decide +kernel
theorem dX3_takesNextDigit_25 : decode cX3_takesNextDigit 25 = .ok (.isub, 1) := by decide +kernel
theorem dX3_takesNextDigit_26 : decode cX3_takesNextDigit 26 = .ok (.istore_n 2, 1) := by decide +kernel
theorem dX3_takesNextDigit_27 : decode cX3_takesNextDigit 27 = .ok (.iload_n 2, 1) := by decide +kernel
theorem dX3_takesNextDigit_28 : decode cX3_takesNextDigit 28 = .ok (.aload_n 0, 1) := by decide +kernel
theorem dX3_takesNextDigit_29 : decode cX3_takesNextDigit 29 = .ok (.getfield 82, 3) := by decide +kernel
theorem dX3_takesNextDigit_32 : decode cX3_takesNextDigit 32 = .ok (.bipush 107, 2) := by decide +kernel
theorem dX3_takesNextDigit_34 : decode cX3_takesNextDigit 34 = .ok (.if_icmp .ne 9, 3) := by decide +kernel
theorem dX3_takesNextDigit_37 : decode cX3_takesNextDigit 37 = .ok (.sipush 500, 3) := by decide +kernel
theorem dX3_takesNextDigit_40 : decode cX3_takesNextDigit 40 = .ok (.goto 5, 3) := by decide +kernel
theorem dX3_takesNextDigit_43 : decode cX3_takesNextDigit 43 = .ok (.bipush 99, 2) := by decide +kernel
theorem dX3_takesNextDigit_45 : decode cX3_takesNextDigit 45 = .ok (.if_icmp .le 5, 3) := by decide +kernel
theorem dX3_takesNextDigit_48 : decode cX3_takesNextDigit 48 = .ok (.iconst 0, 1) := by decide +kernel
theorem dX3_takesNextDigit_49 : decode cX3_takesNextDigit 49 = .ok (.ireturn, 1) := by decide +kernel
theorem dX3_takesNextDigit_50 : decode cX3_takesNextDigit 50 = .ok (.aload_n 0, 1) := by decide +kernel
theorem dX3_takesNextDigit_51 : decode cX3_takesNextDigit 51 = .ok (.iload_n 2, 1) := by decide +kernel
theorem dX3_takesNextDigit_52 : decode cX3_takesNextDigit 52 = .ok (.putfield 110, 3) := by decide +kernel
theorem dX3_takesNextDigit_55 : decode cX3_takesNextDigit 55 = .ok (.iconst 1, 1) := by decide +kernel
theorem dX3_takesNextDigit_56 : decode cX3_takesNextDigit 56 = .ok (.ireturn, 1) := by decide +kernel
theorem dX3_takesEnd_0 : decode cX3_takesEnd 0 = .ok (.iload_n 1, 1) := by decide +kernel
theorem dX3_takesEnd_1 : decode cX3_takesEnd 1 = .ok (.bipush 59, 2) := by decide +kernel
theorem dX3_takesEnd_3 : decode cX3_takesEnd 3 = .ok (.if_icmp .eq 5, 3) := by decide +kernel
theorem dX3_takesEnd_6 : decode cX3_takesEnd 6 = .ok (.iconst 0, 1) := by decide +kernel
theorem dX3_takesEnd_7 : decode cX3_takesEnd 7 = .ok (.ireturn, 1) := by decide +kernel
theorem dX3_takesEnd_8 : decode cX3_takesEnd 8 = .ok (.aload_n 0, 1) := by decide +kernel
theorem dX3_takesEnd_9 : decode cX3_takesEnd 9 = .ok (.getstatic 15, 3) := by decide +kernel
theorem dX3_takesEnd_12 : decode cX3_takesEnd 12 = .ok (.putfield 21, 3) := by decide +kernel
theorem dX3_takesEnd_15 : decode cX3_takesEnd 15 = .ok (.iconst 1, 1) := by decide +kernel
theorem dX3_takesEnd_16 : decode cX3_takesEnd 16 = .ok (.ireturn, 1) := by decide +kernel
theorem dX4_init_0 : decode cX4_init 0 = .ok (.aload_n 0, 1) := by decide +kernel
theorem dX4_init_1 : decode cX4_init 1 = .ok (.invokespecial 3, 3) := by decide +kernel
theorem dX4_init_4 : decode cX4_init 4 = .ok (.aload_n 0, 1) := by decide +kernel
theorem dX4_init_5 : decode cX4_init 5 = .ok (.bipush 8, 2) := by decide +kernel
theorem dX4_init_7 : decode cX4_init 7 = .ok (.newarray .int, 2) := by decide +kernel
theorem dX4_init_9 : decode cX4_init 9 = .ok (.putfield 9, 3) := by decide +kernel
theorem dX4_init_12 : decode cX4_init 12 = .ok (.aload_n 0, 1) := by decide +kernel
theorem dX4_init_13 : decode cX4_init 13 = .ok (.bipush 8, 2) := by decide +kernel
theorem dX4_init_15 : decode cX4_init 15 = .ok (.newarray .int, 2) := by decide +kernel
theorem dX4_init_17 : decode cX4_init 17 = .ok (.putfield 15, 3) := by decide +kernel
theorem dX4_init_20 : decode cX4_init 20 = .ok (.aload_n 0, 1) := by decide +kernel
theorem dX4_init_21 : decode cX4_init 21 = .ok (.bipush 8, 2) := by decide +kernel
theorem dX4_init_23 : decode cX4_init 23 = .ok (.newarray .int, 2) := by decide +kernel
theorem dX4_init_25 : decode cX4_init 25 = .ok (.putfield 18, 3) := by decide +kernel
theorem dX4_init_28 : decode cX4_init 28 = .ok (.aload_n 0, 1) := by decide +kernel
theorem dX4_init_29 : decode cX4_init 29 = .ok (.bipush 8, 2) := by decide +kernel
theorem dX4_init_31 : decode cX4_init 31 = .ok (.newarray .int, 2) := by decide +kernel
theorem dX4_init_33 : decode cX4_init 33 = .ok (.putfield 21, 3) := by decide +kernel
theorem dX4_init_36 : decode cX4_init 36 = .ok (.aload_n 0, 1) := by decide +kernel
theorem dX4_init_37 : decode cX4_init 37 = .ok (.bipush 8, 2) := by decide +kernel
theorem dX4_init_39 : decode cX4_init 39 = .ok (.newarray .int, 2) := by decide +kernel
theorem dX4_init_41 : decode cX4_init 41 = .ok (.putfield 24, 3) := by decide +kernel
theorem dX4_init_44 : decode cX4_init 44 = .ok (.aload_n 0, 1) := by decide +kernel
theorem dX4_init_45 : decode cX4_init 45 = .ok (.bipush 8, 2) := by decide +kernel
theorem dX4_init_47 : decode cX4_init 47 = .ok (.newarray .int, 2) := by decide +kernel
theorem dX4_init_49 : decode cX4_init 49 = .ok (.putfield 27, 3) := by decide +kernel
theorem dX4_init_52 : decode cX4_init 52 = .ok (.aload_n 0, 1) := by decide +kernel
theorem dX4_init_53 : decode cX4_init 53 = .ok (.bipush 8, 2) := by decide +kernel
theorem dX4_init_55 : decode cX4_init 55 = .ok (.newarray .int, 2) := by decide +kernel
theorem dX4_init_57 : decode cX4_init 57 = .ok (.putfield 30, 3) := by decide +kernel
theorem dX4_init_60 : decode cX4_init 60 = .ok (.aload_n 0, 1) := by decide +kernel
theorem dX4_init_61 : decode cX4_init 61 = .ok (.bipush 64, 2) := by decide +kernel
theorem dX4_init_63 : decode cX4_init 63 = .ok (.newarray .int, 2) := by decide +kernel
theorem dX4_init_65 : decode cX4_init 65 = .ok (.putfield 33, 3) := by decide +kernel
theorem dX4_init_68 : decode cX4_init 68 = .ok (.aload_n 0, 1) := by decide +kernel
theorem dX4_init_69 : decode cX4_init 69 = .ok (.iconst 3, 1) := by decide +kernel
theorem dX4_init_70 : decode cX4_init 70 = .ok (.newarray .int, 2) := by decide +kernel
theorem dX4_init_72 : decode cX4_init 72 = .ok (.putfield 36, 3) := by decide +kernel
theorem dX4_init_75 : decode cX4_init 75 = .ok (.aload_n 0, 1) := by decide +kernel
theorem dX4_init_76 : decode cX4_init 76 = .ok (.iconst 3, 1) := by decide +kernel
theorem dX4_init_77 : decode cX4_init 77 = .ok (.newarray .int, 2) := by decide +kernel
theorem dX4_init_79 : decode cX4_init 79 = .ok (.putfield 39, 3) := by decide +kernel
theorem dX4_init_82 : decode cX4_init 82 = .ok (.aload_n 0, 1) := by decide +kernel
theorem dX4_init_83 : decode cX4_init 83 = .ok (.bipush 8, 2) := by decide +kernel
theorem dX4_init_85 : decode cX4_init 85 = .ok (.newarray .int, 2) := by decide +kernel
theorem dX4_init_87 : decode cX4_init 87 = .ok (.putfield 42, 3) := by decide +kernel
theorem dX4_init_90 : decode cX4_init 90 = .ok (.aload_n 0, 1) := by decide +kernel
theorem dX4_init_91 : decode cX4_init 91 = .ok (.bipush 8, 2) := by decide +kernel
theorem dX4_init_93 : decode cX4_init 93 = .ok (.newarray .int, 2) := by decide +kernel
theorem dX4_init_95 : decode cX4_init 95 = .ok (.putfield 45, 3) := by decide +kernel
theorem dX4_init_98 : decode cX4_init 98 = .ok (.iconst 0, 1) := by decide +kernel
theorem dX4_init_99 : decode cX4_init 99 = .ok (.istore_n 1, 1) := by decide +kernel
theorem dX4_init_100 : decode cX4_init 100 = .ok (.iload_n 1, 1) := by decide +kernel
theorem dX4_init_101 : decode cX4_init 101 = .ok (.bipush 8, 2) := by decide +kernel
theorem dX4_init_103 : decode cX4_init 103 = .ok (.if_icmp .ge 46, 3) := by decide +kernel
theorem dX4_init_106 : decode cX4_init 106 = .ok (.aload_n 0, 1) := by decide +kernel
theorem dX4_init_107 : decode cX4_init 107 = .ok (.getfield 9, 3) := by decide +kernel
theorem dX4_init_110 : decode cX4_init 110 = .ok (.iload_n 1, 1) := by decide +kernel
theorem dX4_init_111 : decode cX4_init 111 = .ok (.iload_n 1, 1) := by decide +kernel
theorem dX4_init_112 : decode cX4_init 112 = .ok (.iconst 3, 1) := by decide +kernel
theorem dX4_init_113 : decode cX4_init 113 = .ok (.irem, 1) := by decide +kernel
theorem dX4_init_114 : decode cX4_init 114 = .ok (.iastore, 1) := by decide +kernel
theorem dX4_init_115 : decode cX4_init 115 = .ok (.aload_n 0, 1) := by decide +kernel
theorem dX4_init_116 : decode cX4_init 116 = .ok (.getfield 15, 3) := by decide +kernel
theorem dX4_init_119 : decode cX4_init 119 = .ok (.iload_n 1, 1) := by decide +kernel
theorem dX4_init_120 : decode cX4_init 120 = .ok (.bipush 30, 2) := by decide +kernel
theorem dX4_init_122 : decode cX4_init 122 = .ok (.iload_n 1, 1) := by decide +kernel
theorem dX4_init_123 : decode cX4_init 123 = .ok (.iadd, 1) := by decide +kernel
theorem dX4_init_124 : decode cX4_init 124 = .ok (.iastore, 1) := by decide +kernel
theorem dX4_init_125 : decode cX4_init 125 = .ok (.aload_n 0, 1) := by decide +kernel
theorem dX4_init_126 : decode cX4_init 126 = .ok (.getfield 18, 3) := by decide +kernel
theorem dX4_init_129 : decode cX4_init 129 = .ok (.iload_n 1, 1) := by decide +kernel
theorem dX4_init_130 : decode cX4_init 130 = .ok (.bipush 100, 2) := by decide +kernel
theorem dX4_init_132 : decode cX4_init 132 = .ok (.iload_n 1, 1) := by decide +kernel
theorem dX4_init_133 : decode cX4_init 133 = .ok (.imul, 1) := by decide +kernel
theorem dX4_init_134 : decode cX4_init 134 = .ok (.iastore, 1) := by decide +kernel
theorem dX4_init_135 : decode cX4_init 135 = .ok (.aload_n 0, 1) := by decide +kernel
theorem dX4_init_136 : decode cX4_init 136 = .ok (.getfield 21, 3) := by decide +kernel
theorem dX4_init_139 : decode cX4_init 139 = .ok (.iload_n 1, 1) := by decide +kernel
theorem dX4_init_140 : decode cX4_init 140 = .ok (.bipush 50, 2) := by decide +kernel
theorem dX4_init_142 : decode cX4_init 142 = .ok (.iastore, 1) := by decide +kernel
theorem dX4_init_143 : decode cX4_init 143 = .ok (.iinc 1 1, 3) := by decide +kernel
theorem dX4_init_146 : decode cX4_init 146 = .ok (.goto (-46), 3) := by decide +kernel
theorem dX4_init_149 : decode cX4_init 149 = .ok (.iconst 0, 1) := by decide +kernel
theorem dX4_init_150 : decode cX4_init 150 = .ok (.istore_n 1, 1) := by decide +kernel
theorem dX4_init_151 : decode cX4_init 151 = .ok (.iload_n 1, 1) := by decide +kernel
theorem dX4_init_152 : decode cX4_init 152 = .ok (.iconst 3, 1) := by decide +kernel
theorem dX4_init_153 : decode cX4_init 153 = .ok (.if_icmp .ge 16, 3) := by decide +kernel
theorem dX4_init_156 : decode cX4_init 156 = .ok (.aload_n 0, 1) := by decide +kernel
theorem dX4_init_157 : decode cX4_init 157 = .ok (.getfield 36, 3) := by decide +kernel
theorem dX4_init_160 : decode cX4_init 160 = .ok (.iload_n 1, 1) := by decide +kernel
theorem dX4_init_161 : decode cX4_init 161 = .ok (.iconst 4, 1) := by decide +kernel
theorem dX4_init_162 : decode cX4_init 162 = .ok (.iastore, 1) := by decide +kernel
theorem dX4_init_163 : decode cX4_init 163 = .ok (.iinc 1 1, 3) := by decide +kernel
theorem dX4_init_166 : decode cX4_init 166 = .ok (.goto (-15), 3) := by decide +kernel
theorem dX4_init_169 : decode cX4_init 169 = .ok (.aload_n 0, 1) := by decide +kernel
theorem dX4_init_170 : decode cX4_init 170 = .ok (.getfield 39, 3) := by decide +kernel
theorem dX4_init_173 : decode cX4_init 173 = .ok (.iconst 0, 1) := by decide +kernel
theorem dX4_init_174 : decode cX4_init 174 = .ok (.bipush 9, 2) := by decide +kernel
theorem dX4_init_176 : decode cX4_init 176 = .ok (.iastore, 1) := by decide +kernel
theorem dX4_init_177 : decode cX4_init 177 = .ok (.aload_n 0, 1) := by decide +kernel
theorem dX4_init_178 : decode cX4_init 178 = .ok (.getfield 39, 3) := by decide +kernel
theorem dX4_init_181 : decode cX4_init 181 = .ok (.iconst 1, 1) := by decide +kernel
theorem dX4_init_182 : decode cX4_init 182 = .ok (.bipush 40, 2) := by decide +kernel
theorem dX4_init_184 : decode cX4_init 184 = .ok (.iastore, 1) := by decide +kernel
theorem dX4_init_185 : decode cX4_init 185 = .ok (.aload_n 0, 1) := by decide +kernel
theorem dX4_init_186 : decode cX4_init 186 = .ok (.getfield 39, 3) := by decide +kernel
theorem dX4_init_189 : decode cX4_init 189 = .ok (.iconst 2, 1) := by decide +kernel
theorem dX4_init_190 : decode cX4_init 190 = .ok (.bipush 8, 2) := by decide +kernel
theorem dX4_init_192 : decode cX4_init 192 = .ok (.iastore, 1) := by decide +kernel
theorem dX4_init_193 : decode cX4_init 193 = .ok (.return_, 1) := by decide +kernel
theorem dX4_copyFrom_0 : decode cX4_copyFrom 0 = .ok (.aload_n 1, 1) := by decide +kernel
theorem dX4_copyFrom_1 : decode cX4_copyFrom 1 = .ok (.getfield 9, 3) := by decide +kernel
theorem dX4_copyFrom_4 : decode cX4_copyFrom 4 = .ok (.iconst 0, 1) := by decide +kernel
theorem dX4_copyFrom_5 : decode cX4_copyFrom 5 = .ok (.aload_n 0, 1) := by decide +kernel
theorem dX4_copyFrom_6 : decode cX4_copyFrom 6 = .ok (.getfield 9, 3) := by decide +kernel
theorem dX4_copyFrom_9 : decode cX4_copyFrom 9 = .ok (.iconst 0, 1) := by decide +kernel
theorem dX4_copyFrom_10 : decode cX4_copyFrom 10 = .ok (.bipush 8, 2) := by decide +kernel
theorem dX4_copyFrom_12 : decode cX4_copyFrom 12 = .ok (.invokestatic 48, 3) := by decide +kernel
theorem dX4_copyFrom_15 : decode cX4_copyFrom 15 = .ok (.aload_n 1, 1) := by decide +kernel
theorem dX4_copyFrom_16 : decode cX4_copyFrom 16 = .ok (.getfield 15, 3) := by decide +kernel
theorem dX4_copyFrom_19 : decode cX4_copyFrom 19 = .ok (.iconst 0, 1) := by decide +kernel
theorem dX4_copyFrom_20 : decode cX4_copyFrom 20 = .ok (.aload_n 0, 1) := by decide +kernel
theorem dX4_copyFrom_21 : decode cX4_copyFrom 21 = .ok (.getfield 15, 3) := by decide +kernel
theorem dX4_copyFrom_24 : decode cX4_copyFrom 24 = .ok (.iconst 0, 1) := by decide +kernel
theorem dX4_copyFrom_25 : decode cX4_copyFrom 25 = .ok (.bipush 8, 2) := by decide +kernel
theorem dX4_copyFrom_27 : decode cX4_copyFrom 27 = .ok (.invokestatic 48, 3) := by decide +kernel
theorem dX4_copyFrom_30 : decode cX4_copyFrom 30 = .ok (.aload_n 1, 1) := by decide +kernel
theorem dX4_copyFrom_31 : decode cX4_copyFrom 31 = .ok (.getfield 18, 3) := by decide +kernel
theorem dX4_copyFrom_34 : decode cX4_copyFrom 34 = .ok (.iconst 0, 1) := by decide +kernel
theorem dX4_copyFrom_35 : decode cX4_copyFrom 35 = .ok (.aload_n 0, 1) := by decide +kernel
theorem dX4_copyFrom_36 : decode cX4_copyFrom 36 = .ok (.getfield 18, 3) := by decide +kernel
theorem dX4_copyFrom_39 : decode cX4_copyFrom 39 = .ok (.iconst 0, 1) := by decide +kernel
theorem dX4_copyFrom_40 : decode cX4_copyFrom 40 = .ok (.bipush 8, 2) := by decide +kernel
theorem dX4_copyFrom_42 : decode cX4_copyFrom 42 = .ok (.invokestatic 48, 3) := by decide +kernel
theorem dX4_copyFrom_45 : decode cX4_copyFrom 45 = .ok (.aload_n 1, 1) := by decide +kernel
theorem dX4_copyFrom_46 : decode cX4_copyFrom 46 = .ok (.getfield 21, 3) := by decide +kernel
theorem dX4_copyFrom_49 : decode cX4_copyFrom 49 = .ok (.iconst 0, 1) := by decide +kernel
theorem dX4_copyFrom_50 : decode cX4_copyFrom 50 = .ok (.aload_n 0, 1) := by decide +kernel
theorem dX4_copyFrom_51 : decode cX4_copyFrom 51 = .ok (.getfield 21, 3) := by decide +kernel
theorem dX4_copyFrom_54 : decode cX4_copyFrom 54 = .ok (.iconst 0, 1) := by decide +kernel
theorem dX4_copyFrom_55 : decode cX4_copyFrom 55 = .ok (.bipush 8, 2) := by decide +kernel
theorem dX4_copyFrom_57 : decode cX4_copyFrom 57 = .ok (.invokestatic 48, 3) := by decide +kernel
theorem dX4_copyFrom_60 : decode cX4_copyFrom 60 = .ok (.aload_n 1, 1) := by decide +kernel
theorem dX4_copyFrom_61 : decode cX4_copyFrom 61 = .ok (.getfield 24, 3) := by decide +kernel
theorem dX4_copyFrom_64 : decode cX4_copyFrom 64 = .ok (.iconst 0, 1) := by decide +kernel
theorem dX4_copyFrom_65 : decode cX4_copyFrom 65 = .ok (.aload_n 0, 1) := by decide +kernel
theorem dX4_copyFrom_66 : decode cX4_copyFrom 66 = .ok (.getfield 24, 3) := by decide +kernel
theorem dX4_copyFrom_69 : decode cX4_copyFrom 69 = .ok (.iconst 0, 1) := by decide +kernel
theorem dX4_copyFrom_70 : decode cX4_copyFrom 70 = .ok (.bipush 8, 2) := by decide +kernel
theorem dX4_copyFrom_72 : decode cX4_copyFrom 72 = .ok (.invokestatic 48, 3) := by decide +kernel
theorem dX4_copyFrom_75 : decode cX4_copyFrom 75 = .ok (.aload_n 1, 1) := by decide +kernel
theorem dX4_copyFrom_76 : decode cX4_copyFrom 76 = .ok (.getfield 27, 3) := by decide +kernel
theorem dX4_copyFrom_79 : decode cX4_copyFrom 79 = .ok (.iconst 0, 1) := by decide +kernel
theorem dX4_copyFrom_80 : decode cX4_copyFrom 80 = .ok (.aload_n 0, 1) := by decide +kernel
theorem dX4_copyFrom_81 : decode cX4_copyFrom 81 = .ok (.getfield 27, 3) := by decide +kernel
theorem dX4_copyFrom_84 : decode cX4_copyFrom 84 = .ok (.iconst 0, 1) := by decide +kernel
theorem dX4_copyFrom_85 : decode cX4_copyFrom 85 = .ok (.bipush 8, 2) := by decide +kernel
theorem dX4_copyFrom_87 : decode cX4_copyFrom 87 = .ok (.invokestatic 48, 3) := by decide +kernel
theorem dX4_copyFrom_90 : decode cX4_copyFrom 90 = .ok (.aload_n 1, 1) := by decide +kernel
theorem dX4_copyFrom_91 : decode cX4_copyFrom 91 = .ok (.getfield 30, 3) := by decide +kernel
theorem dX4_copyFrom_94 : decode cX4_copyFrom 94 = .ok (.iconst 0, 1) := by decide +kernel
theorem dX4_copyFrom_95 : decode cX4_copyFrom 95 = .ok (.aload_n 0, 1) := by decide +kernel
theorem dX4_copyFrom_96 : decode cX4_copyFrom 96 = .ok (.getfield 30, 3) := by decide +kernel
theorem dX4_copyFrom_99 : decode cX4_copyFrom 99 = .ok (.iconst 0, 1) := by decide +kernel
theorem dX4_copyFrom_100 : decode cX4_copyFrom 100 = .ok (.bipush 8, 2) := by decide +kernel
theorem dX4_copyFrom_102 : decode cX4_copyFrom 102 = .ok (.invokestatic 48, 3) := by decide +kernel
theorem dX4_copyFrom_105 : decode cX4_copyFrom 105 = .ok (.aload_n 1, 1) := by decide +kernel
theorem dX4_copyFrom_106 : decode cX4_copyFrom 106 = .ok (.getfield 33, 3) := by decide +kernel
theorem dX4_copyFrom_109 : decode cX4_copyFrom 109 = .ok (.iconst 0, 1) := by decide +kernel
theorem dX4_copyFrom_110 : decode cX4_copyFrom 110 = .ok (.aload_n 0, 1) := by decide +kernel
theorem dX4_copyFrom_111 : decode cX4_copyFrom 111 = .ok (.getfield 33, 3) := by decide +kernel
theorem dX4_copyFrom_114 : decode cX4_copyFrom 114 = .ok (.iconst 0, 1) := by decide +kernel
theorem dX4_copyFrom_115 : decode cX4_copyFrom 115 = .ok (.bipush 64, 2) := by decide +kernel
theorem dX4_copyFrom_117 : decode cX4_copyFrom 117 = .ok (.invokestatic 48, 3) := by decide +kernel
theorem dX4_copyFrom_120 : decode cX4_copyFrom 120 = .ok (.aload_n 1, 1) := by decide +kernel
theorem dX4_copyFrom_121 : decode cX4_copyFrom 121 = .ok (.getfield 36, 3) := by decide +kernel
theorem dX4_copyFrom_124 : decode cX4_copyFrom 124 = .ok (.iconst 0, 1) := by decide +kernel
theorem dX4_copyFrom_125 : decode cX4_copyFrom 125 = .ok (.aload_n 0, 1) := by decide +kernel
theorem dX4_copyFrom_126 : decode cX4_copyFrom 126 = .ok (.getfield 36, 3) := by decide +kernel
theorem dX4_copyFrom_129 : decode cX4_copyFrom 129 = .ok (.iconst 0, 1) := by decide +kernel
theorem dX4_copyFrom_130 : decode cX4_copyFrom 130 = .ok (.iconst 3, 1) := by decide +kernel
theorem dX4_copyFrom_131 : decode cX4_copyFrom 131 = .ok (.invokestatic 48, 3) := by decide +kernel
theorem dX4_copyFrom_134 : decode cX4_copyFrom 134 = .ok (.aload_n 1, 1) := by decide +kernel
theorem dX4_copyFrom_135 : decode cX4_copyFrom 135 = .ok (.getfield 39, 3) := by decide +kernel
theorem dX4_copyFrom_138 : decode cX4_copyFrom 138 = .ok (.iconst 0, 1) := by decide +kernel
theorem dX4_copyFrom_139 : decode cX4_copyFrom 139 = .ok (.aload_n 0, 1) := by decide +kernel
theorem dX4_copyFrom_140 : decode cX4_copyFrom 140 = .ok (.getfield 39, 3) := by decide +kernel
theorem dX4_copyFrom_143 : decode cX4_copyFrom 143 = .ok (.iconst 0, 1) := by decide +kernel
theorem dX4_copyFrom_144 : decode cX4_copyFrom 144 = .ok (.iconst 3, 1) := by decide +kernel
theorem dX4_copyFrom_145 : decode cX4_copyFrom 145 = .ok (.invokestatic 48, 3) := by decide +kernel
theorem dX4_copyFrom_148 : decode cX4_copyFrom 148 = .ok (.aload_n 0, 1) := by decide +kernel
theorem dX4_copyFrom_149 : decode cX4_copyFrom 149 = .ok (.aload_n 1, 1) := by decide +kernel
theorem dX4_copyFrom_150 : decode cX4_copyFrom 150 = .ok (.getfield 54, 3) := by decide +kernel
theorem dX4_copyFrom_153 : decode cX4_copyFrom 153 = .ok (.putfield 54, 3) := by decide +kernel
theorem dX4_copyFrom_156 : decode cX4_copyFrom 156 = .ok (.aload_n 0, 1) := by decide +kernel
theorem dX4_copyFrom_157 : decode cX4_copyFrom 157 = .ok (.aload_n 1, 1) := by decide +kernel
theorem dX4_copyFrom_158 : decode cX4_copyFrom 158 = .ok (.getfield 58, 3) := by decide +kernel
theorem dX4_copyFrom_161 : decode cX4_copyFrom 161 = .ok (.putfield 58, 3) := by decide +kernel
theorem dX4_copyFrom_164 : decode cX4_copyFrom 164 = .ok (.aload_n 0, 1) := by decide +kernel
theorem dX4_copyFrom_165 : decode cX4_copyFrom 165 = .ok (.aload_n 1, 1) := by decide +kernel
theorem dX4_copyFrom_166 : decode cX4_copyFrom 166 = .ok (.getfield 61, 3) := by decide +kernel
theorem dX4_copyFrom_169 : decode cX4_copyFrom 169 = .ok (.putfield 61, 3) := by decide +kernel
theorem dX4_copyFrom_172 : decode cX4_copyFrom 172 = .ok (.return_, 1) := by decide +kernel
theorem dX4_letPass_0 : decode cX4_letPass 0 = .ok (.iconst 0, 1) := by decide +kernel
theorem dX4_letPass_1 : decode cX4_letPass 1 = .ok (.istore_n 2, 1) := by decide +kernel
theorem dX4_letPass_2 : decode cX4_letPass 2 = .ok (.iconst 0, 1) := by decide +kernel
theorem dX4_letPass_3 : decode cX4_letPass 3 = .ok (.istore_n 3, 1) := by decide +kernel
theorem dX4_letPass_4 : decode cX4_letPass 4 = .ok (.iload_n 3, 1) := by decide +kernel
theorem dX4_letPass_5 : decode cX4_letPass 5 = .ok (.iload_n 1, 1) := by decide +kernel
theorem dX4_letPass_6 : decode cX4_letPass 6 = .ok (.if_icmp .ge 16, 3) := by decide +kernel
theorem dX4_letPass_9 : decode cX4_letPass 9 = .ok (.iload_n 2, 1) := by decide +kernel
theorem dX4_letPass_10 : decode cX4_letPass 10 = .ok (.aload_n 0, 1) := by decide +kernel
theorem dX4_letPass_11 : decode cX4_letPass 11 = .ok (.invokevirtual 64, 3) := by decide +kernel
theorem dX4_letPass_14 : decode cX4_letPass 14 = .ok (.iadd, 1) := by decide +kernel
theorem dX4_letPass_15 : decode cX4_letPass 15 = .ok (.istore_n 2, 1) := by decide +kernel
theorem dX4_letPass_16 : decode cX4_letPass 16 = .ok (.iinc 3 1, 3) := by decide +kernel
theorem dX4_letPass_19 : decode cX4_letPass 19 = .ok (.goto (-15), 3) := by decide +kernel
theorem dX4_letPass_22 : decode cX4_letPass 22 = .ok (.iload_n 2, 1) := by decide +kernel
theorem dX4_letPass_23 : decode cX4_letPass 23 = .ok (.ireturn, 1) := by decide +kernel
theorem dX4_tick_0 : decode cX4_tick 0 = .ok (.iconst 0, 1) := by decide +kernel
theorem dX4_tick_1 : decode cX4_tick 1 = .ok (.istore_n 1, 1) := by decide +kernel
theorem dX4_tick_2 : decode cX4_tick 2 = .ok (.iload_n 1, 1) := by decide +kernel
theorem dX4_tick_3 : decode cX4_tick 3 = .ok (.bipush 8, 2) := by decide +kernel
theorem dX4_tick_5 : decode cX4_tick 5 = .ok (.if_icmp .ge 20, 3) := by decide +kernel
theorem dX4_tick_8 : decode cX4_tick 8 = .ok (.aload_n 0, 1) := by decide +kernel
theorem dX4_tick_9 : decode cX4_tick 9 = .ok (.getfield 42, 3) := by decide +kernel
theorem dX4_tick_12 : decode cX4_tick 12 = .ok (.iload_n 1, 1) := by decide +kernel
theorem dX4_tick_13 : decode cX4_tick 13 = .ok (.aload_n 0, 1) := by decide +kernel
theorem dX4_tick_14 : decode cX4_tick 14 = .ok (.iload_n 1, 1) := by decide +kernel
theorem dX4_tick_15 : decode cX4_tick 15 = .ok (.invokevirtual 68, 3) := by decide +kernel
theorem dX4_tick_18 : decode cX4_tick 18 = .ok (.iastore, 1) := by decide +kernel
theorem dX4_tick_19 : decode cX4_tick 19 = .ok (.iinc 1 1, 3) := by decide +kernel
theorem dX4_tick_22 : decode cX4_tick 22 = .ok (.goto (-20), 3) := by decide +kernel
theorem dX4_tick_25 : decode cX4_tick 25 = .ok (.aload_n 0, 1) := by decide +kernel
theorem dX4_tick_26 : decode cX4_tick 26 = .ok (.invokevirtual 72, 3) := by decide +kernel
theorem dX4_tick_29 : decode cX4_tick 29 = .ok (.istore_n 1, 1) := by decide +kernel
theorem dX4_tick_30 : decode cX4_tick 30 = .ok (.aload_n 0, 1) := by decide +kernel
theorem dX4_tick_31 : decode cX4_tick 31 = .ok (.invokevirtual 75, 3) := by decide +kernel
theorem dX4_tick_34 : decode cX4_tick 34 = .ok (.aload_n 0, 1) := by decide +kernel
theorem dX4_tick_35 : decode cX4_tick 35 = .ok (.dup, 1) := by decide +kernel
theorem dX4_tick_36 : decode cX4_tick 36 = .ok (.getfield 54, 3) := by decide +kernel
theorem dX4_tick_39 : decode cX4_tick 39 = .ok (.iconst 1, 1) := by decide +kernel
theorem dX4_tick_40 : decode cX4_tick 40 = .ok (.iadd, 1) := by decide +kernel
theorem dX4_tick_41 : decode cX4_tick 41 = .ok (.putfield 54, 3) := by decide +kernel
theorem dX4_tick_44 : decode cX4_tick 44 = .ok (.iload_n 1, 1) := by decide +kernel
theorem dX4_tick_45 : decode cX4_tick 45 = .ok (.ifCond .le 13, 3) := by decide +kernel
theorem dX4_tick_48 : decode cX4_tick 48 = .ok (.aload_n 0, 1) := by decide +kernel
theorem dX4_tick_49 : decode cX4_tick 49 = .ok (.dup, 1) := by decide +kernel
theorem dX4_tick_50 : decode cX4_tick 50 = .ok (.getfield 61, 3) := by decide +kernel
theorem dX4_tick_53 : decode cX4_tick 53 = .ok (.iconst 1, 1) := by decide +kernel
theorem dX4_tick_54 : decode cX4_tick 54 = .ok (.iadd, 1) := by decide +kernel
theorem dX4_tick_55 : decode cX4_tick 55 = .ok (.putfield 61, 3) := by decide +kernel
theorem dX4_tick_58 : decode cX4_tick 58 = .ok (.iload_n 1, 1) := by decide +kernel
theorem dX4_tick_59 : decode cX4_tick 59 = .ok (.ireturn, 1) := by decide +kernel
theorem dX4_goOn_0 : decode cX4_goOn 0 = .ok (.iconst 0, 1) := by decide +kernel
theorem dX4_goOn_1 : decode cX4_goOn 1 = .ok (.istore_n 1, 1) := by decide +kernel
theorem dX4_goOn_2 : decode cX4_goOn 2 = .ok (.iconst 0, 1) := by decide +kernel
theorem dX4_goOn_3 : decode cX4_goOn 3 = .ok (.istore_n 2, 1) := by decide +kernel
theorem dX4_goOn_4 : decode cX4_goOn 4 = .ok (.iload_n 2, 1) := by decide +kernel
theorem dX4_goOn_5 : decode cX4_goOn 5 = .ok (.bipush 8, 2) := by decide +kernel
theorem dX4_goOn_7 : decode cX4_goOn 7 = .ok (.if_icmp .ge 45, 3) := by decide +kernel
theorem dX4_goOn_10 : decode cX4_goOn 10 = .ok (.aload_n 0, 1) := by decide +kernel
theorem dX4_goOn_11 : decode cX4_goOn 11 = .ok (.iload_n 2, 1) := by decide +kernel
theorem dX4_goOn_12 : decode cX4_goOn 12 = .ok (.invokevirtual 78, 3) := by decide +kernel
theorem dX4_goOn_15 : decode cX4_goOn 15 = .ok (.ifCond .eq 31, 3) := by decide +kernel
theorem dX4_goOn_18 : decode cX4_goOn 18 = .ok (.aload_n 0, 1) := by decide +kernel
theorem dX4_goOn_19 : decode cX4_goOn 19 = .ok (.iload_n 2, 1) := by decide +kernel
theorem dX4_goOn_20 : decode cX4_goOn 20 = .ok (.iconst 0, 1) := by decide +kernel
theorem dX4_goOn_21 : decode cX4_goOn 21 = .ok (.aload_n 0, 1) := by decide +kernel
theorem dX4_goOn_22 : decode cX4_goOn 22 = .ok (.getfield 15, 3) := by decide +kernel
theorem dX4_goOn_25 : decode cX4_goOn 25 = .ok (.iload_n 2, 1) := by decide +kernel
theorem dX4_goOn_26 : decode cX4_goOn 26 = .ok (.iaload, 1) := by decide +kernel
theorem dX4_goOn_27 : decode cX4_goOn 27 = .ok (.aload_n 0, 1) := by decide +kernel
theorem dX4_goOn_28 : decode cX4_goOn 28 = .ok (.getfield 42, 3) := by decide +kernel
theorem dX4_goOn_31 : decode cX4_goOn 31 = .ok (.iload_n 2, 1) := by decide +kernel
theorem dX4_goOn_32 : decode cX4_goOn 32 = .ok (.iaload, 1) := by decide +kernel
theorem dX4_goOn_33 : decode cX4_goOn 33 = .ok (.iadd, 1) := by decide +kernel
theorem dX4_goOn_34 : decode cX4_goOn 34 = .ok (.invokestatic 82, 3) := by decide +kernel
theorem dX4_goOn_37 : decode cX4_goOn 37 = .ok (.invokevirtual 88, 3) := by decide +kernel
theorem dX4_goOn_40 : decode cX4_goOn 40 = .ok (.ifCond .eq 6, 3) := by decide +kernel
theorem dX4_goOn_43 : decode cX4_goOn 43 = .ok (.iinc 1 1, 3) := by decide +kernel
theorem dX4_goOn_46 : decode cX4_goOn 46 = .ok (.iinc 2 1, 3) := by decide +kernel
theorem dX4_goOn_49 : decode cX4_goOn 49 = .ok (.goto (-45), 3) := by decide +kernel
theorem dX4_goOn_52 : decode cX4_goOn 52 = .ok (.iload_n 1, 1) := by decide +kernel
theorem dX4_goOn_53 : decode cX4_goOn 53 = .ok (.ireturn, 1) := by decide +kernel
theorem dX4_strikesBy_0 : decode cX4_strikesBy 0 = .ok (.aload_n 0, 1) := by decide +kernel
theorem dX4_strikesBy_1 : decode cX4_strikesBy 1 = .ok (.getfield 27, 3) := by decide +kernel
theorem dX4_strikesBy_4 : decode cX4_strikesBy 4 = .ok (.iload_n 1, 1) := by decide +kernel
theorem dX4_strikesBy_5 : decode cX4_strikesBy 5 = .ok (.dup2, 1) := by decide +kernel
theorem dX4_strikesBy_6 : decode cX4_strikesBy 6 = .ok (.iaload, 1) := by decide +kernel
theorem dX4_strikesBy_7 : decode cX4_strikesBy 7 = .ok (.iload_n 2, 1) := by decide +kernel
theorem dX4_strikesBy_8 : decode cX4_strikesBy 8 = .ok (.iadd, 1) := by decide +kernel
theorem dX4_strikesBy_9 : decode cX4_strikesBy 9 = .ok (.iastore, 1) := by decide +kernel
theorem dX4_strikesBy_10 : decode cX4_strikesBy 10 = .ok (.aload_n 0, 1) := by decide +kernel
theorem dX4_strikesBy_11 : decode cX4_strikesBy 11 = .ok (.getfield 18, 3) := by decide +kernel
theorem dX4_strikesBy_14 : decode cX4_strikesBy 14 = .ok (.iload_n 1, 1) := by decide +kernel
theorem dX4_strikesBy_15 : decode cX4_strikesBy 15 = .ok (.dup2, 1) := by decide +kernel
theorem dX4_strikesBy_16 : decode cX4_strikesBy 16 = .ok (.iaload, 1) := by decide +kernel
theorem dX4_strikesBy_17 : decode cX4_strikesBy 17 = .ok (.iload_n 2, 1) := by decide +kernel
theorem dX4_strikesBy_18 : decode cX4_strikesBy 18 = .ok (.iadd, 1) := by decide +kernel
theorem dX4_strikesBy_19 : decode cX4_strikesBy 19 = .ok (.iastore, 1) := by decide +kernel
theorem dX4_strikesBy_20 : decode cX4_strikesBy 20 = .ok (.aload_n 0, 1) := by decide +kernel
theorem dX4_strikesBy_21 : decode cX4_strikesBy 21 = .ok (.getfield 18, 3) := by decide +kernel
theorem dX4_strikesBy_24 : decode cX4_strikesBy 24 = .ok (.iload_n 1, 1) := by decide +kernel
theorem dX4_strikesBy_25 : decode cX4_strikesBy 25 = .ok (.iaload, 1) := by decide +kernel
theorem dX4_strikesBy_26 : decode cX4_strikesBy 26 = .ok (.sipush 1000, 3) := by decide +kernel
theorem dX4_strikesBy_29 : decode cX4_strikesBy 29 = .ok (.if_icmp .ge 5, 3) := by decide +kernel
theorem dX4_strikesBy_32 : decode cX4_strikesBy 32 = .ok (.iconst 0, 1) := by decide +kernel
theorem dX4_strikesBy_33 : decode cX4_strikesBy 33 = .ok (.ireturn, 1) := by decide +kernel
theorem dX4_strikesBy_34 : decode cX4_strikesBy 34 = .ok (.aload_n 0, 1) := by decide +kernel
theorem dX4_strikesBy_35 : decode cX4_strikesBy 35 = .ok (.getfield 18, 3) := by decide +kernel
theorem dX4_strikesBy_38 : decode cX4_strikesBy 38 = .ok (.iload_n 1, 1) := by decide +kernel
theorem dX4_strikesBy_39 : decode cX4_strikesBy 39 = .ok (.dup2, 1) := by decide +kernel
theorem dX4_strikesBy_40 : decode cX4_strikesBy 40 = .ok (.iaload, 1) := by decide +kernel
theorem dX4_strikesBy_41 : decode cX4_strikesBy 41 = .ok (.sipush 1000, 3) := by decide +kernel
theorem dX4_strikesBy_44 : decode cX4_strikesBy 44 = .ok (.isub, 1) := by decide +kernel
theorem dX4_strikesBy_45 : decode cX4_strikesBy 45 = .ok (.iastore, 1) := by decide +kernel
theorem dX4_strikesBy_46 : decode cX4_strikesBy 46 = .ok (.aload_n 0, 1) := by decide +kernel
theorem dX4_strikesBy_47 : decode cX4_strikesBy 47 = .ok (.getfield 21, 3) := by decide +kernel
theorem dX4_strikesBy_50 : decode cX4_strikesBy 50 = .ok (.iload_n 1, 1) := by decide +kernel
theorem dX4_strikesBy_51 : decode cX4_strikesBy 51 = .ok (.dup2, 1) := by decide +kernel
theorem dX4_strikesBy_52 : decode cX4_strikesBy 52 = .ok (.iaload, 1) := by decide +kernel
theorem dX4_strikesBy_53 : decode cX4_strikesBy 53 = .ok (.iconst 1, 1) := by decide +kernel
theorem dX4_strikesBy_54 : decode cX4_strikesBy 54 = .ok (.isub, 1) := by decide +kernel
theorem dX4_strikesBy_55 : decode cX4_strikesBy 55 = .ok (.iastore, 1) := by decide +kernel
theorem dX4_strikesBy_56 : decode cX4_strikesBy 56 = .ok (.aload_n 0, 1) := by decide +kernel
theorem dX4_strikesBy_57 : decode cX4_strikesBy 57 = .ok (.getfield 24, 3) := by decide +kernel
theorem dX4_strikesBy_60 : decode cX4_strikesBy 60 = .ok (.iload_n 1, 1) := by decide +kernel
theorem dX4_strikesBy_61 : decode cX4_strikesBy 61 = .ok (.dup2, 1) := by decide +kernel
theorem dX4_strikesBy_62 : decode cX4_strikesBy 62 = .ok (.iaload, 1) := by decide +kernel
theorem dX4_strikesBy_63 : decode cX4_strikesBy 63 = .ok (.iconst 1, 1) := by decide +kernel
theorem dX4_strikesBy_64 : decode cX4_strikesBy 64 = .ok (.iadd, 1) := by decide +kernel
theorem dX4_strikesBy_65 : decode cX4_strikesBy 65 = .ok (.iastore, 1) := by decide +kernel
theorem dX4_strikesBy_66 : decode cX4_strikesBy 66 = .ok (.iconst 1, 1) := by decide +kernel
theorem dX4_strikesBy_67 : decode cX4_strikesBy 67 = .ok (.ireturn, 1) := by decide +kernel
theorem dX4_lookAtPairs_0 : decode cX4_lookAtPairs 0 = .ok (.iconst 0, 1) := by decide +kernel
theorem dX4_lookAtPairs_1 : decode cX4_lookAtPairs 1 = .ok (.istore_n 1, 1) := by decide +kernel
theorem dX4_lookAtPairs_2 : decode cX4_lookAtPairs 2 = .ok (.iload_n 1, 1) := by decide +kernel
theorem dX4_lookAtPairs_3 : decode cX4_lookAtPairs 3 = .ok (.bipush 8, 2) := by decide +kernel
theorem dX4_lookAtPairs_5 : decode cX4_lookAtPairs 5 = .ok (.if_icmp .ge 92, 3) := by decide +kernel
theorem dX4_lookAtPairs_8 : decode cX4_lookAtPairs 8 = .ok (.iload_n 1, 1) := by decide +kernel
theorem dX4_lookAtPairs_9 : decode cX4_lookAtPairs 9 = .ok (.iconst 1, 1) := by decide +kernel
theorem dX4_lookAtPairs_10 : decode cX4_lookAtPairs 10 = .ok (.iadd, 1) := by decide +kernel
theorem dX4_lookAtPairs_11 : decode cX4_lookAtPairs 11 = .ok (.istore_n 2, 1) := by decide +kernel
theorem dX4_lookAtPairs_12 : decode cX4_lookAtPairs 12 = .ok (.iload_n 2, 1) := by decide +kernel
theorem dX4_lookAtPairs_13 : decode cX4_lookAtPairs 13 = .ok (.bipush 8, 2) := by decide +kernel
theorem dX4_lookAtPairs_15 : decode cX4_lookAtPairs 15 = .ok (.if_icmp .ge 76, 3) := by decide +kernel
theorem dX4_lookAtPairs_18 : decode cX4_lookAtPairs 18 = .ok (.aload_n 0, 1) := by decide +kernel
theorem dX4_lookAtPairs_19 : decode cX4_lookAtPairs 19 = .ok (.iload_n 1, 1) := by decide +kernel
theorem dX4_lookAtPairs_20 : decode cX4_lookAtPairs 20 = .ok (.invokevirtual 78, 3) := by decide +kernel
theorem dX4_lookAtPairs_23 : decode cX4_lookAtPairs 23 = .ok (.ifCond .eq 33, 3) := by decide +kernel
theorem dX4_lookAtPairs_26 : decode cX4_lookAtPairs 26 = .ok (.aload_n 0, 1) := by decide +kernel
theorem dX4_lookAtPairs_27 : decode cX4_lookAtPairs 27 = .ok (.iload_n 2, 1) := by decide +kernel
theorem dX4_lookAtPairs_28 : decode cX4_lookAtPairs 28 = .ok (.invokevirtual 78, 3) := by decide +kernel
theorem dX4_lookAtPairs_31 : decode cX4_lookAtPairs 31 = .ok (.ifCond .eq 25, 3) := by decide +kernel
theorem dX4_lookAtPairs_34 : decode cX4_lookAtPairs 34 = .ok (.aload_n 0, 1) := by decide +kernel
theorem dX4_lookAtPairs_35 : decode cX4_lookAtPairs 35 = .ok (.iload_n 1, 1) := by decide +kernel
theorem dX4_lookAtPairs_36 : decode cX4_lookAtPairs 36 = .ok (.iload_n 2, 1) := by decide +kernel
theorem dX4_lookAtPairs_37 : decode cX4_lookAtPairs 37 = .ok (.invokevirtual 92, 3) := by decide +kernel
theorem dX4_lookAtPairs_40 : decode cX4_lookAtPairs 40 = .ok (.ifCond .eq 16, 3) := by decide +kernel
theorem dX4_lookAtPairs_43 : decode cX4_lookAtPairs 43 = .ok (.aload_n 0, 1) := by decide +kernel
theorem dX4_lookAtPairs_44 : decode cX4_lookAtPairs 44 = .ok (.iload_n 1, 1) := by decide +kernel
theorem dX4_lookAtPairs_45 : decode cX4_lookAtPairs 45 = .ok (.iload_n 2, 1) := by decide +kernel
theorem dX4_lookAtPairs_46 : decode cX4_lookAtPairs 46 = .ok (.invokevirtual 95, 3) := by decide +kernel
theorem dX4_lookAtPairs_49 : decode cX4_lookAtPairs 49 = .ok (.ifCond .eq 7, 3) := by decide +kernel
theorem dX4_lookAtPairs_52 : decode cX4_lookAtPairs 52 = .ok (.iconst 1, 1) := by decide +kernel
theorem dX4_lookAtPairs_53 : decode cX4_lookAtPairs 53 = .ok (.goto 4, 3) := by decide +kernel
theorem dX4_lookAtPairs_56 : decode cX4_lookAtPairs 56 = .ok (.iconst 0, 1) := by decide +kernel
theorem dX4_lookAtPairs_57 : decode cX4_lookAtPairs 57 = .ok (.istore_n 3, 1) := by decide +kernel
theorem dX4_lookAtPairs_58 : decode cX4_lookAtPairs 58 = .ok (.aload_n 0, 1) := by decide +kernel
theorem dX4_lookAtPairs_59 : decode cX4_lookAtPairs 59 = .ok (.iload_n 1, 1) := by decide +kernel
theorem dX4_lookAtPairs_60 : decode cX4_lookAtPairs 60 = .ok (.iload_n 2, 1) := by decide +kernel
theorem dX4_lookAtPairs_61 : decode cX4_lookAtPairs 61 = .ok (.iload_n 3, 1) := by decide +kernel
theorem dX4_lookAtPairs_62 : decode cX4_lookAtPairs 62 = .ok (.ifCond .eq 19, 3) := by decide +kernel
theorem dX4_lookAtPairs_65 : decode cX4_lookAtPairs 65 = .ok (.aload_n 0, 1) := by decide +kernel
theorem dX4_lookAtPairs_66 : decode cX4_lookAtPairs 66 = .ok (.getfield 33, 3) := by decide +kernel
theorem dX4_lookAtPairs_69 : decode cX4_lookAtPairs 69 = .ok (.iload_n 1, 1) := by decide +kernel
theorem dX4_lookAtPairs_70 : decode cX4_lookAtPairs 70 = .ok (.bipush 8, 2) := by decide +kernel
theorem dX4_lookAtPairs_72 : decode cX4_lookAtPairs 72 = .ok (.imul, 1) := by decide +kernel
theorem dX4_lookAtPairs_73 : decode cX4_lookAtPairs 73 = .ok (.iload_n 2, 1) := by decide +kernel
theorem dX4_lookAtPairs_74 : decode cX4_lookAtPairs 74 = .ok (.iadd, 1) := by decide +kernel
theorem dX4_lookAtPairs_75 : decode cX4_lookAtPairs 75 = .ok (.iaload, 1) := by decide +kernel
theorem dX4_lookAtPairs_76 : decode cX4_lookAtPairs 76 = .ok (.iconst 1, 1) := by decide +kernel
theorem dX4_lookAtPairs_77 : decode cX4_lookAtPairs 77 = .ok (.iadd, 1) := by decide +kernel
theorem dX4_lookAtPairs_78 : decode cX4_lookAtPairs 78 = .ok (.goto 4, 3) := by decide +kernel
theorem dX4_lookAtPairs_81 : decode cX4_lookAtPairs 81 = .ok (.iconst 0, 1) := by decide +kernel
theorem dX4_lookAtPairs_82 : decode cX4_lookAtPairs 82 = .ok (.invokevirtual 98, 3) := by decide +kernel
theorem dX4_lookAtPairs_85 : decode cX4_lookAtPairs 85 = .ok (.iinc 2 1, 3) := by decide +kernel
theorem dX4_lookAtPairs_88 : decode cX4_lookAtPairs 88 = .ok (.goto (-76), 3) := by decide +kernel
theorem dX4_lookAtPairs_91 : decode cX4_lookAtPairs 91 = .ok (.iinc 1 1, 3) := by decide +kernel
theorem dX4_lookAtPairs_94 : decode cX4_lookAtPairs 94 = .ok (.goto (-92), 3) := by decide +kernel
theorem dX4_lookAtPairs_97 : decode cX4_lookAtPairs 97 = .ok (.return_, 1) := by decide +kernel
theorem dX4_setTicksNear_0 : decode cX4_setTicksNear 0 = .ok (.aload_n 0, 1) := by decide +kernel
theorem dX4_setTicksNear_1 : decode cX4_setTicksNear 1 = .ok (.getfield 33, 3) := by decide +kernel
theorem dX4_setTicksNear_4 : decode cX4_setTicksNear 4 = .ok (.iload_n 1, 1) := by decide +kernel
theorem dX4_setTicksNear_5 : decode cX4_setTicksNear 5 = .ok (.bipush 8, 2) := by decide +kernel
theorem dX4_setTicksNear_7 : decode cX4_setTicksNear 7 = .ok (.imul, 1) := by decide +kernel
theorem dX4_setTicksNear_8 : decode cX4_setTicksNear 8 = .ok (.iload_n 2, 1) := by decide +kernel
theorem dX4_setTicksNear_9 : decode cX4_setTicksNear 9 = .ok (.iadd, 1) := by decide +kernel
theorem dX4_setTicksNear_10 : decode cX4_setTicksNear 10 = .ok (.iload_n 3, 1) := by decide +kernel
theorem dX4_setTicksNear_11 : decode cX4_setTicksNear 11 = .ok (.iastore, 1) := by decide +kernel
theorem dX4_setTicksNear_12 : decode cX4_setTicksNear 12 = .ok (.aload_n 0, 1) := by decide +kernel
theorem dX4_setTicksNear_13 : decode cX4_setTicksNear 13 = .ok (.getfield 33, 3) := by decide +kernel
theorem dX4_setTicksNear_16 : decode cX4_setTicksNear 16 = .ok (.iload_n 2, 1) := by decide +kernel
theorem dX4_setTicksNear_17 : decode cX4_setTicksNear 17 = .ok (.bipush 8, 2) := by decide +kernel
theorem dX4_setTicksNear_19 : decode cX4_setTicksNear 19 = .ok (.imul, 1) := by decide +kernel
theorem dX4_setTicksNear_20 : decode cX4_setTicksNear 20 = .ok (.iload_n 1, 1) := by decide +kernel
theorem dX4_setTicksNear_21 : decode cX4_setTicksNear 21 = .ok (.iadd, 1) := by decide +kernel
theorem dX4_setTicksNear_22 : decode cX4_setTicksNear 22 = .ok (.iload_n 3, 1) := by decide +kernel
theorem dX4_setTicksNear_23 : decode cX4_setTicksNear 23 = .ok (.iastore, 1) := by decide +kernel
theorem dX4_setTicksNear_24 : decode cX4_setTicksNear 24 = .ok (.return_, 1) := by decide +kernel
theorem dX4_kickBy_0 : decode cX4_kickBy 0 = .ok (.aload_n 0, 1) := by decide +kernel
theorem dX4_kickBy_1 : decode cX4_kickBy 1 = .ok (.getfield 18, 3) := by decide +kernel
theorem dX4_kickBy_4 : decode cX4_kickBy 4 = .ok (.iload_n 1, 1) := by decide +kernel
theorem dX4_kickBy_5 : decode cX4_kickBy 5 = .ok (.aload_n 0, 1) := by decide +kernel
theorem dX4_kickBy_6 : decode cX4_kickBy 6 = .ok (.getfield 18, 3) := by decide +kernel
theorem dX4_kickBy_9 : decode cX4_kickBy 9 = .ok (.iload_n 1, 1) := by decide +kernel
theorem dX4_kickBy_10 : decode cX4_kickBy 10 = .ok (.iaload, 1) := by decide +kernel
theorem dX4_kickBy_11 : decode cX4_kickBy 11 = .ok (.iload_n 2, 1) := by decide +kernel
theorem dX4_kickBy_12 : decode cX4_kickBy 12 = .ok (.iadd, 1) := by decide +kernel
theorem dX4_kickBy_13 : decode cX4_kickBy 13 = .ok (.sipush 1000, 3) := by decide +kernel
theorem dX4_kickBy_16 : decode cX4_kickBy 16 = .ok (.invokestatic 102, 3) := by decide +kernel
theorem dX4_kickBy_19 : decode cX4_kickBy 19 = .ok (.iastore, 1) := by decide +kernel
theorem dX4_kickBy_20 : decode cX4_kickBy 20 = .ok (.aload_n 0, 1) := by decide +kernel
theorem dX4_kickBy_21 : decode cX4_kickBy 21 = .ok (.getfield 30, 3) := by decide +kernel
theorem dX4_kickBy_24 : decode cX4_kickBy 24 = .ok (.iload_n 1, 1) := by decide +kernel
theorem dX4_kickBy_25 : decode cX4_kickBy 25 = .ok (.dup2, 1) := by decide +kernel
theorem dX4_kickBy_26 : decode cX4_kickBy 26 = .ok (.iaload, 1) := by decide +kernel
theorem dX4_kickBy_27 : decode cX4_kickBy 27 = .ok (.iload_n 2, 1) := by decide +kernel
theorem dX4_kickBy_28 : decode cX4_kickBy 28 = .ok (.iadd, 1) := by decide +kernel
theorem dX4_kickBy_29 : decode cX4_kickBy 29 = .ok (.iastore, 1) := by decide +kernel
theorem dX4_kickBy_30 : decode cX4_kickBy 30 = .ok (.aload_n 0, 1) := by decide +kernel
theorem dX4_kickBy_31 : decode cX4_kickBy 31 = .ok (.dup, 1) := by decide +kernel
theorem dX4_kickBy_32 : decode cX4_kickBy 32 = .ok (.getfield 58, 3) := by decide +kernel
theorem dX4_kickBy_35 : decode cX4_kickBy 35 = .ok (.iconst 1, 1) := by decide +kernel
theorem dX4_kickBy_36 : decode cX4_kickBy 36 = .ok (.iadd, 1) := by decide +kernel
theorem dX4_kickBy_37 : decode cX4_kickBy 37 = .ok (.putfield 58, 3) := by decide +kernel
theorem dX4_kickBy_40 : decode cX4_kickBy 40 = .ok (.return_, 1) := by decide +kernel
theorem dX4_hangOn_0 : decode cX4_hangOn 0 = .ok (.aload_n 0, 1) := by decide +kernel
theorem dX4_hangOn_1 : decode cX4_hangOn 1 = .ok (.getfield 9, 3) := by decide +kernel
theorem dX4_hangOn_4 : decode cX4_hangOn 4 = .ok (.iload_n 1, 1) := by decide +kernel
theorem dX4_hangOn_5 : decode cX4_hangOn 5 = .ok (.iload_n 2, 1) := by decide +kernel
theorem dX4_hangOn_6 : decode cX4_hangOn 6 = .ok (.iastore, 1) := by decide +kernel
theorem dX4_hangOn_7 : decode cX4_hangOn 7 = .ok (.iconst 0, 1) := by decide +kernel
theorem dX4_hangOn_8 : decode cX4_hangOn 8 = .ok (.istore_n 3, 1) := by decide +kernel
theorem dX4_hangOn_9 : decode cX4_hangOn 9 = .ok (.iload_n 3, 1) := by decide +kernel
theorem dX4_hangOn_10 : decode cX4_hangOn 10 = .ok (.bipush 8, 2) := by decide +kernel
theorem dX4_hangOn_12 : decode cX4_hangOn 12 = .ok (.if_icmp .ge 16, 3) := by decide +kernel
theorem dX4_hangOn_15 : decode cX4_hangOn 15 = .ok (.aload_n 0, 1) := by decide +kernel
theorem dX4_hangOn_16 : decode cX4_hangOn 16 = .ok (.iload_n 1, 1) := by decide +kernel
theorem dX4_hangOn_17 : decode cX4_hangOn 17 = .ok (.iload_n 3, 1) := by decide +kernel
theorem dX4_hangOn_18 : decode cX4_hangOn 18 = .ok (.iconst 0, 1) := by decide +kernel
theorem dX4_hangOn_19 : decode cX4_hangOn 19 = .ok (.invokevirtual 98, 3) := by decide +kernel
theorem dX4_hangOn_22 : decode cX4_hangOn 22 = .ok (.iinc 3 1, 3) := by decide +kernel
theorem dX4_hangOn_25 : decode cX4_hangOn 25 = .ok (.goto (-16), 3) := by decide +kernel
theorem dX4_hangOn_28 : decode cX4_hangOn 28 = .ok (.return_, 1) := by decide +kernel
theorem dX4_windUp_0 : decode cX4_windUp 0 = .ok (.aload_n 0, 1) := by decide +kernel
theorem dX4_windUp_1 : decode cX4_windUp 1 = .ok (.getfield 21, 3) := by decide +kernel
theorem dX4_windUp_4 : decode cX4_windUp 4 = .ok (.iload_n 1, 1) := by decide +kernel
theorem dX4_windUp_5 : decode cX4_windUp 5 = .ok (.bipush 99, 2) := by decide +kernel
theorem dX4_windUp_7 : decode cX4_windUp 7 = .ok (.iastore, 1) := by decide +kernel
theorem dX4_windUp_8 : decode cX4_windUp 8 = .ok (.return_, 1) := by decide +kernel
theorem dX4_goes_0 : decode cX4_goes 0 = .ok (.aload_n 0, 1) := by decide +kernel
theorem dX4_goes_1 : decode cX4_goes 1 = .ok (.getfield 21, 3) := by decide +kernel
theorem dX4_goes_4 : decode cX4_goes 4 = .ok (.iload_n 1, 1) := by decide +kernel
theorem dX4_goes_5 : decode cX4_goes 5 = .ok (.iaload, 1) := by decide +kernel
theorem dX4_goes_6 : decode cX4_goes 6 = .ok (.ifCond .le 7, 3) := by decide +kernel
theorem dX4_goes_9 : decode cX4_goes 9 = .ok (.iconst 1, 1) := by decide +kernel
theorem dX4_goes_10 : decode cX4_goes 10 = .ok (.goto 4, 3) := by decide +kernel
theorem dX4_goes_13 : decode cX4_goes 13 = .ok (.iconst 0, 1) := by decide +kernel
theorem dX4_goes_14 : decode cX4_goes 14 = .ok (.ireturn, 1) := by decide +kernel
theorem dX4_hangsOn_0 : decode cX4_hangsOn 0 = .ok (.aload_n 0, 1) := by decide +kernel
theorem dX4_hangsOn_1 : decode cX4_hangsOn 1 = .ok (.getfield 9, 3) := by decide +kernel
theorem dX4_hangsOn_4 : decode cX4_hangsOn 4 = .ok (.iload_n 1, 1) := by decide +kernel
theorem dX4_hangsOn_5 : decode cX4_hangsOn 5 = .ok (.iaload, 1) := by decide +kernel
theorem dX4_hangsOn_6 : decode cX4_hangsOn 6 = .ok (.iload_n 2, 1) := by decide +kernel
theorem dX4_hangsOn_7 : decode cX4_hangsOn 7 = .ok (.if_icmp .ne 7, 3) := by decide +kernel
theorem dX4_hangsOn_10 : decode cX4_hangsOn 10 = .ok (.iconst 1, 1) := by decide +kernel
theorem dX4_hangsOn_11 : decode cX4_hangsOn 11 = .ok (.goto 4, 3) := by decide +kernel
theorem dX4_hangsOn_14 : decode cX4_hangsOn 14 = .ok (.iconst 0, 1) := by decide +kernel
theorem dX4_hangsOn_15 : decode cX4_hangsOn 15 = .ok (.ireturn, 1) := by decide +kernel
theorem dX4_hangTogether_0 : decode cX4_hangTogether 0 = .ok (.aload_n 0, 1) := by decide +kernel
theorem dX4_hangTogether_1 : decode cX4_hangTogether 1 = .ok (.getfield 9, 3) := by decide +kernel
theorem dX4_hangTogether_4 : decode cX4_hangTogether 4 = .ok (.iload_n 1, 1) := by decide +kernel
theorem dX4_hangTogether_5 : decode cX4_hangTogether 5 = .ok (.iaload, 1) := by decide +kernel
theorem dX4_hangTogether_6 : decode cX4_hangTogether 6 = .ok (.aload_n 0, 1) := by decide +kernel
theorem dX4_hangTogether_7 : decode cX4_hangTogether 7 = .ok (.getfield 9, 3) := by decide +kernel
theorem dX4_hangTogether_10 : decode cX4_hangTogether 10 = .ok (.iload_n 2, 1) := by decide +kernel
theorem dX4_hangTogether_11 : decode cX4_hangTogether 11 = .ok (.iaload, 1) := by decide +kernel
theorem dX4_hangTogether_12 : decode cX4_hangTogether 12 = .ok (.if_icmp .ne 7, 3) := by decide +kernel
theorem dX4_hangTogether_15 : decode cX4_hangTogether 15 = .ok (.iconst 1, 1) := by decide +kernel
theorem dX4_hangTogether_16 : decode cX4_hangTogether 16 = .ok (.goto 4, 3) := by decide +kernel
theorem dX4_hangTogether_19 : decode cX4_hangTogether 19 = .ok (.iconst 0, 1) := by decide +kernel
theorem dX4_hangTogether_20 : decode cX4_hangTogether 20 = .ok (.ireturn, 1) := by decide +kernel
theorem dX4_pullOf_0 : decode cX4_pullOf 0 = .ok (.aload_n 0, 1) := by decide +kernel
theorem dX4_pullOf_1 : decode cX4_pullOf 1 = .ok (.getfield 9, 3) := by decide +kernel
theorem dX4_pullOf_4 : decode cX4_pullOf 4 = .ok (.iload_n 1, 1) := by decide +kernel
theorem dX4_pullOf_5 : decode cX4_pullOf 5 = .ok (.iaload, 1) := by decide +kernel
theorem dX4_pullOf_6 : decode cX4_pullOf 6 = .ok (.istore_n 2, 1) := by decide +kernel
theorem dX4_pullOf_7 : decode cX4_pullOf 7 = .ok (.aload_n 0, 1) := by decide +kernel
theorem dX4_pullOf_8 : decode cX4_pullOf 8 = .ok (.iload_n 1, 1) := by decide +kernel
theorem dX4_pullOf_9 : decode cX4_pullOf 9 = .ok (.invokevirtual 78, 3) := by decide +kernel
theorem dX4_pullOf_12 : decode cX4_pullOf 12 = .ok (.ifCond .eq 10, 3) := by decide +kernel
theorem dX4_pullOf_15 : decode cX4_pullOf 15 = .ok (.iload_n 2, 1) := by decide +kernel
theorem dX4_pullOf_16 : decode cX4_pullOf 16 = .ok (.invokestatic 105, 3) := by decide +kernel
theorem dX4_pullOf_19 : decode cX4_pullOf 19 = .ok (.ifCond .ne 5, 3) := by decide +kernel
theorem dX4_pullOf_22 : decode cX4_pullOf 22 = .ok (.iconst 0, 1) := by decide +kernel
theorem dX4_pullOf_23 : decode cX4_pullOf 23 = .ok (.ireturn, 1) := by decide +kernel
theorem dX4_pullOf_24 : decode cX4_pullOf 24 = .ok (.iconst 0, 1) := by decide +kernel
theorem dX4_pullOf_25 : decode cX4_pullOf 25 = .ok (.istore_n 3, 1) := by decide +kernel
theorem dX4_pullOf_26 : decode cX4_pullOf 26 = .ok (.iconst 0, 1) := by decide +kernel
theorem dX4_pullOf_27 : decode cX4_pullOf 27 = .ok (.istore 4, 2) := by decide +kernel
theorem dX4_pullOf_29 : decode cX4_pullOf 29 = .ok (.iload 4, 2) := by decide +kernel
theorem dX4_pullOf_31 : decode cX4_pullOf 31 = .ok (.bipush 8, 2) := by decide +kernel
theorem dX4_pullOf_33 : decode cX4_pullOf 33 = .ok (.if_icmp .ge 55, 3) := by decide +kernel
theorem dX4_pullOf_36 : decode cX4_pullOf 36 = .ok (.iload 4, 2) := by decide +kernel
theorem dX4_pullOf_38 : decode cX4_pullOf 38 = .ok (.iload_n 1, 1) := by decide +kernel
theorem dX4_pullOf_39 : decode cX4_pullOf 39 = .ok (.if_icmp .eq 43, 3) := by decide +kernel
theorem dX4_pullOf_42 : decode cX4_pullOf 42 = .ok (.aload_n 0, 1) := by decide +kernel
theorem dX4_pullOf_43 : decode cX4_pullOf 43 = .ok (.iload 4, 2) := by decide +kernel
theorem dX4_pullOf_45 : decode cX4_pullOf 45 = .ok (.invokevirtual 78, 3) := by decide +kernel
theorem dX4_pullOf_48 : decode cX4_pullOf 48 = .ok (.ifCond .eq 34, 3) := by decide +kernel
theorem dX4_pullOf_51 : decode cX4_pullOf 51 = .ok (.aload_n 0, 1) := by decide +kernel
theorem dX4_pullOf_52 : decode cX4_pullOf 52 = .ok (.iload 4, 2) := by decide +kernel
theorem dX4_pullOf_54 : decode cX4_pullOf 54 = .ok (.iload_n 2, 1) := by decide +kernel
theorem dX4_pullOf_55 : decode cX4_pullOf 55 = .ok (.invokevirtual 108, 3) := by decide +kernel
theorem dX4_pullOf_58 : decode cX4_pullOf 58 = .ok (.ifCond .eq 24, 3) := by decide +kernel
theorem dX4_pullOf_61 : decode cX4_pullOf 61 = .ok (.iload_n 3, 1) := by decide +kernel
theorem dX4_pullOf_62 : decode cX4_pullOf 62 = .ok (.aload_n 0, 1) := by decide +kernel
theorem dX4_pullOf_63 : decode cX4_pullOf 63 = .ok (.iload_n 1, 1) := by decide +kernel
theorem dX4_pullOf_64 : decode cX4_pullOf 64 = .ok (.iload 4, 2) := by decide +kernel
theorem dX4_pullOf_66 : decode cX4_pullOf 66 = .ok (.invokevirtual 111, 3) := by decide +kernel
theorem dX4_pullOf_69 : decode cX4_pullOf 69 = .ok (.aload_n 0, 1) := by decide +kernel
theorem dX4_pullOf_70 : decode cX4_pullOf 70 = .ok (.getfield 36, 3) := by decide +kernel
theorem dX4_pullOf_73 : decode cX4_pullOf 73 = .ok (.iload_n 2, 1) := by decide +kernel
theorem dX4_pullOf_74 : decode cX4_pullOf 74 = .ok (.iaload, 1) := by decide +kernel
theorem dX4_pullOf_75 : decode cX4_pullOf 75 = .ok (.imul, 1) := by decide +kernel
theorem dX4_pullOf_76 : decode cX4_pullOf 76 = .ok (.sipush 200, 3) := by decide +kernel
theorem dX4_pullOf_79 : decode cX4_pullOf 79 = .ok (.idiv, 1) := by decide +kernel
theorem dX4_pullOf_80 : decode cX4_pullOf 80 = .ok (.iadd, 1) := by decide +kernel
theorem dX4_pullOf_81 : decode cX4_pullOf 81 = .ok (.istore_n 3, 1) := by decide +kernel
theorem dX4_pullOf_82 : decode cX4_pullOf 82 = .ok (.iinc 4 1, 3) := by decide +kernel
theorem dX4_pullOf_85 : decode cX4_pullOf 85 = .ok (.goto (-56), 3) := by decide +kernel
theorem dX4_pullOf_88 : decode cX4_pullOf 88 = .ok (.aload_n 0, 1) := by decide +kernel
theorem dX4_pullOf_89 : decode cX4_pullOf 89 = .ok (.getfield 39, 3) := by decide +kernel
theorem dX4_pullOf_92 : decode cX4_pullOf 92 = .ok (.iconst 0, 1) := by decide +kernel
theorem dX4_pullOf_93 : decode cX4_pullOf 93 = .ok (.iaload, 1) := by decide +kernel
theorem dX4_pullOf_94 : decode cX4_pullOf 94 = .ok (.istore 4, 2) := by decide +kernel
theorem dX4_pullOf_96 : decode cX4_pullOf 96 = .ok (.iload 4, 2) := by decide +kernel
theorem dX4_pullOf_98 : decode cX4_pullOf 98 = .ok (.ineg, 1) := by decide +kernel
theorem dX4_pullOf_99 : decode cX4_pullOf 99 = .ok (.iload 4, 2) := by decide +kernel
theorem dX4_pullOf_101 : decode cX4_pullOf 101 = .ok (.iload_n 3, 1) := by decide +kernel
theorem dX4_pullOf_102 : decode cX4_pullOf 102 = .ok (.invokestatic 114, 3) := by decide +kernel
theorem dX4_pullOf_105 : decode cX4_pullOf 105 = .ok (.invokestatic 82, 3) := by decide +kernel
theorem dX4_pullOf_108 : decode cX4_pullOf 108 = .ok (.ireturn, 1) := by decide +kernel
theorem dX4_gapFrom_0 : decode cX4_gapFrom 0 = .ok (.aload_n 0, 1) := by decide +kernel
theorem dX4_gapFrom_1 : decode cX4_gapFrom 1 = .ok (.getfield 18, 3) := by decide +kernel
theorem dX4_gapFrom_4 : decode cX4_gapFrom 4 = .ok (.iload_n 2, 1) := by decide +kernel
theorem dX4_gapFrom_5 : decode cX4_gapFrom 5 = .ok (.iaload, 1) := by decide +kernel
theorem dX4_gapFrom_6 : decode cX4_gapFrom 6 = .ok (.aload_n 0, 1) := by decide +kernel
theorem dX4_gapFrom_7 : decode cX4_gapFrom 7 = .ok (.getfield 18, 3) := by decide +kernel
theorem dX4_gapFrom_10 : decode cX4_gapFrom 10 = .ok (.iload_n 1, 1) := by decide +kernel
theorem dX4_gapFrom_11 : decode cX4_gapFrom 11 = .ok (.iaload, 1) := by decide +kernel
theorem dX4_gapFrom_12 : decode cX4_gapFrom 12 = .ok (.isub, 1) := by decide +kernel
theorem dX4_gapFrom_13 : decode cX4_gapFrom 13 = .ok (.istore_n 3, 1) := by decide +kernel
theorem dX4_gapFrom_14 : decode cX4_gapFrom 14 = .ok (.iload_n 3, 1) := by decide +kernel
theorem dX4_gapFrom_15 : decode cX4_gapFrom 15 = .ok (.sipush 500, 3) := by decide +kernel
theorem dX4_gapFrom_18 : decode cX4_gapFrom 18 = .ok (.if_icmp .lt 9, 3) := by decide +kernel
theorem dX4_gapFrom_21 : decode cX4_gapFrom 21 = .ok (.iload_n 3, 1) := by decide +kernel
theorem dX4_gapFrom_22 : decode cX4_gapFrom 22 = .ok (.sipush 1000, 3) := by decide +kernel
theorem dX4_gapFrom_25 : decode cX4_gapFrom 25 = .ok (.isub, 1) := by decide +kernel
theorem dX4_gapFrom_26 : decode cX4_gapFrom 26 = .ok (.ireturn, 1) := by decide +kernel
theorem dX4_gapFrom_27 : decode cX4_gapFrom 27 = .ok (.iload_n 3, 1) := by decide +kernel
theorem dX4_gapFrom_28 : decode cX4_gapFrom 28 = .ok (.sipush (-500), 3) := by decide +kernel
theorem dX4_gapFrom_31 : decode cX4_gapFrom 31 = .ok (.if_icmp .ge 11, 3) := by decide +kernel
theorem dX4_gapFrom_34 : decode cX4_gapFrom 34 = .ok (.iload_n 3, 1) := by decide +kernel
theorem dX4_gapFrom_35 : decode cX4_gapFrom 35 = .ok (.sipush 1000, 3) := by decide +kernel
theorem dX4_gapFrom_38 : decode cX4_gapFrom 38 = .ok (.iadd, 1) := by decide +kernel
theorem dX4_gapFrom_39 : decode cX4_gapFrom 39 = .ok (.goto 4, 3) := by decide +kernel
theorem dX4_gapFrom_42 : decode cX4_gapFrom 42 = .ok (.iload_n 3, 1) := by decide +kernel
theorem dX4_gapFrom_43 : decode cX4_gapFrom 43 = .ok (.ireturn, 1) := by decide +kernel
theorem dX4_areNear_0 : decode cX4_areNear 0 = .ok (.aload_n 0, 1) := by decide +kernel
theorem dX4_areNear_1 : decode cX4_areNear 1 = .ok (.iload_n 1, 1) := by decide +kernel
theorem dX4_areNear_2 : decode cX4_areNear 2 = .ok (.iload_n 2, 1) := by decide +kernel
theorem dX4_areNear_3 : decode cX4_areNear 3 = .ok (.invokevirtual 111, 3) := by decide +kernel
theorem dX4_areNear_6 : decode cX4_areNear 6 = .ok (.invokestatic 117, 3) := by decide +kernel
theorem dX4_areNear_9 : decode cX4_areNear 9 = .ok (.aload_n 0, 1) := by decide +kernel
theorem dX4_areNear_10 : decode cX4_areNear 10 = .ok (.getfield 39, 3) := by decide +kernel
theorem dX4_areNear_13 : decode cX4_areNear 13 = .ok (.iconst 1, 1) := by decide +kernel
theorem dX4_areNear_14 : decode cX4_areNear 14 = .ok (.iaload, 1) := by decide +kernel
theorem dX4_areNear_15 : decode cX4_areNear 15 = .ok (.if_icmp .gt 7, 3) := by decide +kernel
theorem dX4_areNear_18 : decode cX4_areNear 18 = .ok (.iconst 1, 1) := by decide +kernel
theorem dX4_areNear_19 : decode cX4_areNear 19 = .ok (.goto 4, 3) := by decide +kernel
theorem dX4_areNear_22 : decode cX4_areNear 22 = .ok (.iconst 0, 1) := by decide +kernel
theorem dX4_areNear_23 : decode cX4_areNear 23 = .ok (.ireturn, 1) := by decide +kernel
theorem dX4_areLocked_0 : decode cX4_areLocked 0 = .ok (.aload_n 0, 1) := by decide +kernel
theorem dX4_areLocked_1 : decode cX4_areLocked 1 = .ok (.getfield 33, 3) := by decide +kernel
theorem dX4_areLocked_4 : decode cX4_areLocked 4 = .ok (.iload_n 1, 1) := by decide +kernel
theorem dX4_areLocked_5 : decode cX4_areLocked 5 = .ok (.bipush 8, 2) := by decide +kernel
theorem dX4_areLocked_7 : decode cX4_areLocked 7 = .ok (.imul, 1) := by decide +kernel
theorem dX4_areLocked_8 : decode cX4_areLocked 8 = .ok (.iload_n 2, 1) := by decide +kernel
theorem dX4_areLocked_9 : decode cX4_areLocked 9 = .ok (.iadd, 1) := by decide +kernel
theorem dX4_areLocked_10 : decode cX4_areLocked 10 = .ok (.iaload, 1) := by decide +kernel
theorem dX4_areLocked_11 : decode cX4_areLocked 11 = .ok (.aload_n 0, 1) := by decide +kernel
theorem dX4_areLocked_12 : decode cX4_areLocked 12 = .ok (.getfield 39, 3) := by decide +kernel
theorem dX4_areLocked_15 : decode cX4_areLocked 15 = .ok (.iconst 2, 1) := by decide +kernel
theorem dX4_areLocked_16 : decode cX4_areLocked 16 = .ok (.iaload, 1) := by decide +kernel
theorem dX4_areLocked_17 : decode cX4_areLocked 17 = .ok (.if_icmp .lt 7, 3) := by decide +kernel
theorem dX4_areLocked_20 : decode cX4_areLocked 20 = .ok (.iconst 1, 1) := by decide +kernel
theorem dX4_areLocked_21 : decode cX4_areLocked 21 = .ok (.goto 4, 3) := by decide +kernel
theorem dX4_areLocked_24 : decode cX4_areLocked 24 = .ok (.iconst 0, 1) := by decide +kernel
theorem dX4_areLocked_25 : decode cX4_areLocked 25 = .ok (.ireturn, 1) := by decide +kernel
theorem dX4_whyNotLocked_0 : decode cX4_whyNotLocked 0 = .ok (.aload_n 0, 1) := by decide +kernel
theorem dX4_whyNotLocked_1 : decode cX4_whyNotLocked 1 = .ok (.iload_n 1, 1) := by decide +kernel
theorem dX4_whyNotLocked_2 : decode cX4_whyNotLocked 2 = .ok (.iload_n 2, 1) := by decide +kernel
theorem dX4_whyNotLocked_3 : decode cX4_whyNotLocked 3 = .ok (.invokevirtual 120, 3) := by decide +kernel
theorem dX4_whyNotLocked_6 : decode cX4_whyNotLocked 6 = .ok (.ifCond .eq 5, 3) := by decide +kernel
theorem dX4_whyNotLocked_9 : decode cX4_whyNotLocked 9 = .ok (.iconst 0, 1) := by decide +kernel
theorem dX4_whyNotLocked_10 : decode cX4_whyNotLocked 10 = .ok (.ireturn, 1) := by decide +kernel
theorem dX4_whyNotLocked_11 : decode cX4_whyNotLocked 11 = .ok (.aload_n 0, 1) := by decide +kernel
theorem dX4_whyNotLocked_12 : decode cX4_whyNotLocked 12 = .ok (.iload_n 1, 1) := by decide +kernel
theorem dX4_whyNotLocked_13 : decode cX4_whyNotLocked 13 = .ok (.invokevirtual 78, 3) := by decide +kernel
theorem dX4_whyNotLocked_16 : decode cX4_whyNotLocked 16 = .ok (.ifCond .eq 11, 3) := by decide +kernel
theorem dX4_whyNotLocked_19 : decode cX4_whyNotLocked 19 = .ok (.aload_n 0, 1) := by decide +kernel
theorem dX4_whyNotLocked_20 : decode cX4_whyNotLocked 20 = .ok (.iload_n 2, 1) := by decide +kernel
theorem dX4_whyNotLocked_21 : decode cX4_whyNotLocked 21 = .ok (.invokevirtual 78, 3) := by decide +kernel
theorem dX4_whyNotLocked_24 : decode cX4_whyNotLocked 24 = .ok (.ifCond .ne 5, 3) := by decide +kernel
theorem dX4_whyNotLocked_27 : decode cX4_whyNotLocked 27 = .ok (.iconst 1, 1) := by decide +kernel
theorem dX4_whyNotLocked_28 : decode cX4_whyNotLocked 28 = .ok (.ireturn, 1) := by decide +kernel
theorem dX4_whyNotLocked_29 : decode cX4_whyNotLocked 29 = .ok (.aload_n 0, 1) := by decide +kernel
theorem dX4_whyNotLocked_30 : decode cX4_whyNotLocked 30 = .ok (.iload_n 1, 1) := by decide +kernel
theorem dX4_whyNotLocked_31 : decode cX4_whyNotLocked 31 = .ok (.iload_n 2, 1) := by decide +kernel
theorem dX4_whyNotLocked_32 : decode cX4_whyNotLocked 32 = .ok (.invokevirtual 92, 3) := by decide +kernel
theorem dX4_whyNotLocked_35 : decode cX4_whyNotLocked 35 = .ok (.ifCond .ne 5, 3) := by decide +kernel
theorem dX4_whyNotLocked_38 : decode cX4_whyNotLocked 38 = .ok (.iconst 2, 1) := by decide +kernel
theorem dX4_whyNotLocked_39 : decode cX4_whyNotLocked 39 = .ok (.ireturn, 1) := by decide +kernel
theorem dX4_whyNotLocked_40 : decode cX4_whyNotLocked 40 = .ok (.aload_n 0, 1) := by decide +kernel
theorem dX4_whyNotLocked_41 : decode cX4_whyNotLocked 41 = .ok (.iload_n 1, 1) := by decide +kernel
theorem dX4_whyNotLocked_42 : decode cX4_whyNotLocked 42 = .ok (.iload_n 2, 1) := by decide +kernel
theorem dX4_whyNotLocked_43 : decode cX4_whyNotLocked 43 = .ok (.invokevirtual 95, 3) := by decide +kernel
theorem dX4_whyNotLocked_46 : decode cX4_whyNotLocked 46 = .ok (.ifCond .eq 7, 3) := by decide +kernel
theorem dX4_whyNotLocked_49 : decode cX4_whyNotLocked 49 = .ok (.iconst 4, 1) := by decide +kernel
theorem dX4_whyNotLocked_50 : decode cX4_whyNotLocked 50 = .ok (.goto 4, 3) := by decide +kernel
theorem dX4_whyNotLocked_53 : decode cX4_whyNotLocked 53 = .ok (.iconst 3, 1) := by decide +kernel
theorem dX4_whyNotLocked_54 : decode cX4_whyNotLocked 54 = .ok (.ireturn, 1) := by decide +kernel
theorem dX4_lockedMask_0 : decode cX4_lockedMask 0 = .ok (.iconst 0, 1) := by decide +kernel
theorem dX4_lockedMask_1 : decode cX4_lockedMask 1 = .ok (.istore_n 2, 1) := by decide +kernel
theorem dX4_lockedMask_2 : decode cX4_lockedMask 2 = .ok (.iconst 0, 1) := by decide +kernel
theorem dX4_lockedMask_3 : decode cX4_lockedMask 3 = .ok (.istore_n 3, 1) := by decide +kernel
theorem dX4_lockedMask_4 : decode cX4_lockedMask 4 = .ok (.iload_n 3, 1) := by decide +kernel
theorem dX4_lockedMask_5 : decode cX4_lockedMask 5 = .ok (.bipush 8, 2) := by decide +kernel
theorem dX4_lockedMask_7 : decode cX4_lockedMask 7 = .ok (.if_icmp .ge 29, 3) := by decide +kernel
theorem dX4_lockedMask_10 : decode cX4_lockedMask 10 = .ok (.iload_n 3, 1) := by decide +kernel
theorem dX4_lockedMask_11 : decode cX4_lockedMask 11 = .ok (.iload_n 1, 1) := by decide +kernel
theorem dX4_lockedMask_12 : decode cX4_lockedMask 12 = .ok (.if_icmp .eq 18, 3) := by decide +kernel
theorem dX4_lockedMask_15 : decode cX4_lockedMask 15 = .ok (.aload_n 0, 1) := by decide +kernel
theorem dX4_lockedMask_16 : decode cX4_lockedMask 16 = .ok (.iload_n 1, 1) := by decide +kernel
theorem dX4_lockedMask_17 : decode cX4_lockedMask 17 = .ok (.iload_n 3, 1) := by decide +kernel
theorem dX4_lockedMask_18 : decode cX4_lockedMask 18 = .ok (.invokevirtual 120, 3) := by decide +kernel
theorem dX4_lockedMask_21 : decode cX4_lockedMask 21 = .ok (.ifCond .eq 9, 3) := by decide +kernel
theorem dX4_lockedMask_24 : decode cX4_lockedMask 24 = .ok (.iload_n 2, 1) := by decide +kernel
theorem dX4_lockedMask_25 : decode cX4_lockedMask 25 = .ok (.iconst 1, 1) := by decide +kernel
theorem dX4_lockedMask_26 : decode cX4_lockedMask 26 = .ok (.iload_n 3, 1) := by decide +kernel
theorem dX4_lockedMask_27 : decode cX4_lockedMask 27 = .ok (.ishl, 1) := by decide +kernel
theorem dX4_lockedMask_28 : decode cX4_lockedMask 28 = .ok (.ior, 1) := by decide +kernel
theorem dX4_lockedMask_29 : decode cX4_lockedMask 29 = .ok (.istore_n 2, 1) := by decide +kernel
theorem dX4_lockedMask_30 : decode cX4_lockedMask 30 = .ok (.iinc 3 1, 3) := by decide +kernel
theorem dX4_lockedMask_33 : decode cX4_lockedMask 33 = .ok (.goto (-29), 3) := by decide +kernel
theorem dX4_lockedMask_36 : decode cX4_lockedMask 36 = .ok (.iload_n 2, 1) := by decide +kernel
theorem dX4_lockedMask_37 : decode cX4_lockedMask 37 = .ok (.ireturn, 1) := by decide +kernel
theorem dX4_groupMask_0 : decode cX4_groupMask 0 = .ok (.iconst 1, 1) := by decide +kernel
theorem dX4_groupMask_1 : decode cX4_groupMask 1 = .ok (.iload_n 1, 1) := by decide +kernel
theorem dX4_groupMask_2 : decode cX4_groupMask 2 = .ok (.ishl, 1) := by decide +kernel
theorem dX4_groupMask_3 : decode cX4_groupMask 3 = .ok (.istore_n 2, 1) := by decide +kernel
theorem dX4_groupMask_4 : decode cX4_groupMask 4 = .ok (.iconst 1, 1) := by decide +kernel
theorem dX4_groupMask_5 : decode cX4_groupMask 5 = .ok (.istore_n 3, 1) := by decide +kernel
theorem dX4_groupMask_6 : decode cX4_groupMask 6 = .ok (.iload_n 3, 1) := by decide +kernel
theorem dX4_groupMask_7 : decode cX4_groupMask 7 = .ok (.bipush 8, 2) := by decide +kernel
theorem dX4_groupMask_9 : decode cX4_groupMask 9 = .ok (.if_icmp .ge 43, 3) := by decide +kernel
theorem dX4_groupMask_12 : decode cX4_groupMask 12 = .ok (.iconst 0, 1) := by decide +kernel
theorem dX4_groupMask_13 : decode cX4_groupMask 13 = .ok (.istore 4, 2) := by decide +kernel
theorem dX4_groupMask_15 : decode cX4_groupMask 15 = .ok (.iload 4, 2) := by decide +kernel
theorem dX4_groupMask_17 : decode cX4_groupMask 17 = .ok (.bipush 8, 2) := by decide +kernel
theorem dX4_groupMask_19 : decode cX4_groupMask 19 = .ok (.if_icmp .ge 27, 3) := by decide +kernel
theorem dX4_groupMask_22 : decode cX4_groupMask 22 = .ok (.iload_n 2, 1) := by decide +kernel
theorem dX4_groupMask_23 : decode cX4_groupMask 23 = .ok (.iload 4, 2) := by decide +kernel
theorem dX4_groupMask_25 : decode cX4_groupMask 25 = .ok (.invokestatic 123, 3) := by decide +kernel
theorem dX4_groupMask_28 : decode cX4_groupMask 28 = .ok (.ifCond .eq 12, 3) := by decide +kernel
theorem dX4_groupMask_31 : decode cX4_groupMask 31 = .ok (.iload_n 2, 1) := by decide +kernel
theorem dX4_groupMask_32 : decode cX4_groupMask 32 = .ok (.aload_n 0, 1) := by decide +kernel
theorem dX4_groupMask_33 : decode cX4_groupMask 33 = .ok (.iload 4, 2) := by decide +kernel
theorem dX4_groupMask_35 : decode cX4_groupMask 35 = .ok (.invokevirtual 126, 3) := by decide +kernel
theorem dX4_groupMask_38 : decode cX4_groupMask 38 = .ok (.ior, 1) := by decide +kernel
theorem dX4_groupMask_39 : decode cX4_groupMask 39 = .ok (.istore_n 2, 1) := by decide +kernel
theorem dX4_groupMask_40 : decode cX4_groupMask 40 = .ok (.iinc 4 1, 3) := by decide +kernel
theorem dX4_groupMask_43 : decode cX4_groupMask 43 = .ok (.goto (-28), 3) := by decide +kernel
theorem dX4_groupMask_46 : decode cX4_groupMask 46 = .ok (.iinc 3 1, 3) := by decide +kernel
theorem dX4_groupMask_49 : decode cX4_groupMask 49 = .ok (.goto (-43), 3) := by decide +kernel
theorem dX4_groupMask_52 : decode cX4_groupMask 52 = .ok (.iload_n 2, 1) := by decide +kernel
theorem dX4_groupMask_53 : decode cX4_groupMask 53 = .ok (.ireturn, 1) := by decide +kernel
theorem dX4_isIn_0 : decode cX4_isIn 0 = .ok (.iload_n 0, 1) := by decide +kernel
theorem dX4_isIn_1 : decode cX4_isIn 1 = .ok (.iconst 1, 1) := by decide +kernel
theorem dX4_isIn_2 : decode cX4_isIn 2 = .ok (.iload_n 1, 1) := by decide +kernel
theorem dX4_isIn_3 : decode cX4_isIn 3 = .ok (.ishl, 1) := by decide +kernel
theorem dX4_isIn_4 : decode cX4_isIn 4 = .ok (.iand, 1) := by decide +kernel
theorem dX4_isIn_5 : decode cX4_isIn 5 = .ok (.ifCond .eq 7, 3) := by decide +kernel
theorem dX4_isIn_8 : decode cX4_isIn 8 = .ok (.iconst 1, 1) := by decide +kernel
theorem dX4_isIn_9 : decode cX4_isIn 9 = .ok (.goto 4, 3) := by decide +kernel
theorem dX4_isIn_12 : decode cX4_isIn 12 = .ok (.iconst 0, 1) := by decide +kernel
theorem dX4_isIn_13 : decode cX4_isIn 13 = .ok (.ireturn, 1) := by decide +kernel
theorem dX4_lowestOfGroup_0 : decode cX4_lowestOfGroup 0 = .ok (.aload_n 0, 1) := by decide +kernel
theorem dX4_lowestOfGroup_1 : decode cX4_lowestOfGroup 1 = .ok (.iload_n 1, 1) := by decide +kernel
theorem dX4_lowestOfGroup_2 : decode cX4_lowestOfGroup 2 = .ok (.invokevirtual 129, 3) := by decide +kernel
theorem dX4_lowestOfGroup_5 : decode cX4_lowestOfGroup 5 = .ok (.istore_n 2, 1) := by decide +kernel
theorem dX4_lowestOfGroup_6 : decode cX4_lowestOfGroup 6 = .ok (.iconst 0, 1) := by decide +kernel
theorem dX4_lowestOfGroup_7 : decode cX4_lowestOfGroup 7 = .ok (.istore_n 3, 1) := by decide +kernel
theorem dX4_lowestOfGroup_8 : decode cX4_lowestOfGroup 8 = .ok (.iload_n 3, 1) := by decide +kernel
theorem dX4_lowestOfGroup_9 : decode cX4_lowestOfGroup 9 = .ok (.iload_n 1, 1) := by decide +kernel
theorem dX4_lowestOfGroup_10 : decode cX4_lowestOfGroup 10 = .ok (.if_icmp .ge 17, 3) := by decide +kernel
theorem dX4_lowestOfGroup_13 : decode cX4_lowestOfGroup 13 = .ok (.iload_n 2, 1) := by decide +kernel
theorem dX4_lowestOfGroup_14 : decode cX4_lowestOfGroup 14 = .ok (.iload_n 3, 1) := by decide +kernel
theorem dX4_lowestOfGroup_15 : decode cX4_lowestOfGroup 15 = .ok (.invokestatic 123, 3) := by decide +kernel
theorem dX4_lowestOfGroup_18 : decode cX4_lowestOfGroup 18 = .ok (.ifCond .ne 9, 3) := by decide +kernel
theorem dX4_lowestOfGroup_21 : decode cX4_lowestOfGroup 21 = .ok (.iinc 3 1, 3) := by decide +kernel
theorem dX4_lowestOfGroup_24 : decode cX4_lowestOfGroup 24 = .ok (.goto (-16), 3) := by decide +kernel
theorem dX4_lowestOfGroup_27 : decode cX4_lowestOfGroup 27 = .ok (.iload_n 3, 1) := by decide +kernel
theorem dX4_lowestOfGroup_28 : decode cX4_lowestOfGroup 28 = .ok (.ireturn, 1) := by decide +kernel
theorem dX4_groupsByJoining_0 : decode cX4_groupsByJoining 0 = .ok (.iconst 0, 1) := by decide +kernel
theorem dX4_groupsByJoining_1 : decode cX4_groupsByJoining 1 = .ok (.istore_n 1, 1) := by decide +kernel
theorem dX4_groupsByJoining_2 : decode cX4_groupsByJoining 2 = .ok (.iload_n 1, 1) := by decide +kernel
theorem dX4_groupsByJoining_3 : decode cX4_groupsByJoining 3 = .ok (.bipush 8, 2) := by decide +kernel
theorem dX4_groupsByJoining_5 : decode cX4_groupsByJoining 5 = .ok (.if_icmp .ge 16, 3) := by decide +kernel
theorem dX4_groupsByJoining_8 : decode cX4_groupsByJoining 8 = .ok (.aload_n 0, 1) := by decide +kernel
theorem dX4_groupsByJoining_9 : decode cX4_groupsByJoining 9 = .ok (.getfield 45, 3) := by decide +kernel
theorem dX4_groupsByJoining_12 : decode cX4_groupsByJoining 12 = .ok (.iload_n 1, 1) := by decide +kernel
theorem dX4_groupsByJoining_13 : decode cX4_groupsByJoining 13 = .ok (.iload_n 1, 1) := by decide +kernel
theorem dX4_groupsByJoining_14 : decode cX4_groupsByJoining 14 = .ok (.iastore, 1) := by decide +kernel
theorem dX4_groupsByJoining_15 : decode cX4_groupsByJoining 15 = .ok (.iinc 1 1, 3) := by decide +kernel
theorem dX4_groupsByJoining_18 : decode cX4_groupsByJoining 18 = .ok (.goto (-16), 3) := by decide +kernel
theorem dX4_groupsByJoining_21 : decode cX4_groupsByJoining 21 = .ok (.bipush 8, 2) := by decide +kernel
theorem dX4_groupsByJoining_23 : decode cX4_groupsByJoining 23 = .ok (.istore_n 1, 1) := by decide +kernel
theorem dX4_groupsByJoining_24 : decode cX4_groupsByJoining 24 = .ok (.iconst 0, 1) := by decide +kernel
theorem dX4_groupsByJoining_25 : decode cX4_groupsByJoining 25 = .ok (.istore_n 2, 1) := by decide +kernel
theorem dX4_groupsByJoining_26 : decode cX4_groupsByJoining 26 = .ok (.iload_n 2, 1) := by decide +kernel
theorem dX4_groupsByJoining_27 : decode cX4_groupsByJoining 27 = .ok (.bipush 8, 2) := by decide +kernel
theorem dX4_groupsByJoining_29 : decode cX4_groupsByJoining 29 = .ok (.if_icmp .ge 68, 3) := by decide +kernel
theorem dX4_groupsByJoining_32 : decode cX4_groupsByJoining 32 = .ok (.iload_n 2, 1) := by decide +kernel
theorem dX4_groupsByJoining_33 : decode cX4_groupsByJoining 33 = .ok (.iconst 1, 1) := by decide +kernel
theorem dX4_groupsByJoining_34 : decode cX4_groupsByJoining 34 = .ok (.iadd, 1) := by decide +kernel
theorem dX4_groupsByJoining_35 : decode cX4_groupsByJoining 35 = .ok (.istore_n 3, 1) := by decide +kernel
theorem dX4_groupsByJoining_36 : decode cX4_groupsByJoining 36 = .ok (.iload_n 3, 1) := by decide +kernel
theorem dX4_groupsByJoining_37 : decode cX4_groupsByJoining 37 = .ok (.bipush 8, 2) := by decide +kernel
theorem dX4_groupsByJoining_39 : decode cX4_groupsByJoining 39 = .ok (.if_icmp .ge 52, 3) := by decide +kernel
theorem dX4_groupsByJoining_42 : decode cX4_groupsByJoining 42 = .ok (.aload_n 0, 1) := by decide +kernel
theorem dX4_groupsByJoining_43 : decode cX4_groupsByJoining 43 = .ok (.iload_n 2, 1) := by decide +kernel
theorem dX4_groupsByJoining_44 : decode cX4_groupsByJoining 44 = .ok (.iload_n 3, 1) := by decide +kernel
theorem dX4_groupsByJoining_45 : decode cX4_groupsByJoining 45 = .ok (.invokevirtual 120, 3) := by decide +kernel
theorem dX4_groupsByJoining_48 : decode cX4_groupsByJoining 48 = .ok (.ifCond .eq 37, 3) := by decide +kernel
theorem dX4_groupsByJoining_51 : decode cX4_groupsByJoining 51 = .ok (.aload_n 0, 1) := by decide +kernel
theorem dX4_groupsByJoining_52 : decode cX4_groupsByJoining 52 = .ok (.getfield 45, 3) := by decide +kernel
theorem dX4_groupsByJoining_55 : decode cX4_groupsByJoining 55 = .ok (.iload_n 2, 1) := by decide +kernel
theorem dX4_groupsByJoining_56 : decode cX4_groupsByJoining 56 = .ok (.iaload, 1) := by decide +kernel
theorem dX4_groupsByJoining_57 : decode cX4_groupsByJoining 57 = .ok (.aload_n 0, 1) := by decide +kernel
theorem dX4_groupsByJoining_58 : decode cX4_groupsByJoining 58 = .ok (.getfield 45, 3) := by decide +kernel
theorem dX4_groupsByJoining_61 : decode cX4_groupsByJoining 61 = .ok (.iload_n 3, 1) := by decide +kernel
theorem dX4_groupsByJoining_62 : decode cX4_groupsByJoining 62 = .ok (.iaload, 1) := by decide +kernel
theorem dX4_groupsByJoining_63 : decode cX4_groupsByJoining 63 = .ok (.if_icmp .eq 22, 3) := by decide +kernel
theorem dX4_groupsByJoining_66 : decode cX4_groupsByJoining 66 = .ok (.aload_n 0, 1) := by decide +kernel
theorem dX4_groupsByJoining_67 : decode cX4_groupsByJoining 67 = .ok (.aload_n 0, 1) := by decide +kernel
theorem dX4_groupsByJoining_68 : decode cX4_groupsByJoining 68 = .ok (.getfield 45, 3) := by decide +kernel
theorem dX4_groupsByJoining_71 : decode cX4_groupsByJoining 71 = .ok (.iload_n 2, 1) := by decide +kernel
theorem dX4_groupsByJoining_72 : decode cX4_groupsByJoining 72 = .ok (.iaload, 1) := by decide +kernel
theorem dX4_groupsByJoining_73 : decode cX4_groupsByJoining 73 = .ok (.aload_n 0, 1) := by decide +kernel
theorem dX4_groupsByJoining_74 : decode cX4_groupsByJoining 74 = .ok (.getfield 45, 3) := by decide +kernel
theorem dX4_groupsByJoining_77 : decode cX4_groupsByJoining 77 = .ok (.iload_n 3, 1) := by decide +kernel
theorem dX4_groupsByJoining_78 : decode cX4_groupsByJoining 78 = .ok (.iaload, 1) := by decide +kernel
theorem dX4_groupsByJoining_79 : decode cX4_groupsByJoining 79 = .ok (.invokevirtual 132, 3) := by decide +kernel
theorem dX4_groupsByJoining_82 : decode cX4_groupsByJoining 82 = .ok (.iinc 1 (-1), 3) := by decide +kernel
theorem dX4_groupsByJoining_85 : decode cX4_groupsByJoining 85 = .ok (.iinc 3 1, 3) := by decide +kernel
theorem dX4_groupsByJoining_88 : decode cX4_groupsByJoining 88 = .ok (.goto (-52), 3) := by decide +kernel
theorem dX4_groupsByJoining_91 : decode cX4_groupsByJoining 91 = .ok (.iinc 2 1, 3) := by decide +kernel
theorem dX4_groupsByJoining_94 : decode cX4_groupsByJoining 94 = .ok (.goto (-68), 3) := by decide +kernel
theorem dX4_groupsByJoining_97 : decode cX4_groupsByJoining 97 = .ok (.iload_n 1, 1) := by decide +kernel
theorem dX4_groupsByJoining_98 : decode cX4_groupsByJoining 98 = .ok (.ireturn, 1) := by decide +kernel
theorem dX4_join_0 : decode cX4_join 0 = .ok (.iconst 0, 1) := by decide +kernel
theorem dX4_join_1 : decode cX4_join 1 = .ok (.istore_n 3, 1) := by decide +kernel
theorem dX4_join_2 : decode cX4_join 2 = .ok (.iload_n 3, 1) := by decide +kernel
theorem dX4_join_3 : decode cX4_join 3 = .ok (.bipush 8, 2) := by decide +kernel
theorem dX4_join_5 : decode cX4_join 5 = .ok (.if_icmp .ge 26, 3) := by decide +kernel
theorem dX4_join_8 : decode cX4_join 8 = .ok (.aload_n 0, 1) := by decide +kernel
theorem dX4_join_9 : decode cX4_join 9 = .ok (.getfield 45, 3) := by decide +kernel
theorem dX4_join_12 : decode cX4_join 12 = .ok (.iload_n 3, 1) := by decide +kernel
theorem dX4_join_13 : decode cX4_join 13 = .ok (.iaload, 1) := by decide +kernel
theorem dX4_join_14 : decode cX4_join 14 = .ok (.iload_n 2, 1) := by decide +kernel
theorem dX4_join_15 : decode cX4_join 15 = .ok (.if_icmp .ne 10, 3) := by decide +kernel
theorem dX4_join_18 : decode cX4_join 18 = .ok (.aload_n 0, 1) := by decide +kernel
theorem dX4_join_19 : decode cX4_join 19 = .ok (.getfield 45, 3) := by decide +kernel
theorem dX4_join_22 : decode cX4_join 22 = .ok (.iload_n 3, 1) := by decide +kernel
theorem dX4_join_23 : decode cX4_join 23 = .ok (.iload_n 1, 1) := by decide +kernel
theorem dX4_join_24 : decode cX4_join 24 = .ok (.iastore, 1) := by decide +kernel
theorem dX4_join_25 : decode cX4_join 25 = .ok (.iinc 3 1, 3) := by decide +kernel
theorem dX4_join_28 : decode cX4_join 28 = .ok (.goto (-26), 3) := by decide +kernel
theorem dX4_join_31 : decode cX4_join 31 = .ok (.return_, 1) := by decide +kernel
theorem dX4_groupsByWalking_0 : decode cX4_groupsByWalking 0 = .ok (.iconst 0, 1) := by decide +kernel
theorem dX4_groupsByWalking_1 : decode cX4_groupsByWalking 1 = .ok (.istore_n 1, 1) := by decide +kernel
theorem dX4_groupsByWalking_2 : decode cX4_groupsByWalking 2 = .ok (.iconst 0, 1) := by decide +kernel
theorem dX4_groupsByWalking_3 : decode cX4_groupsByWalking 3 = .ok (.istore_n 2, 1) := by decide +kernel
theorem dX4_groupsByWalking_4 : decode cX4_groupsByWalking 4 = .ok (.iconst 0, 1) := by decide +kernel
theorem dX4_groupsByWalking_5 : decode cX4_groupsByWalking 5 = .ok (.istore_n 3, 1) := by decide +kernel
theorem dX4_groupsByWalking_6 : decode cX4_groupsByWalking 6 = .ok (.iload_n 3, 1) := by decide +kernel
theorem dX4_groupsByWalking_7 : decode cX4_groupsByWalking 7 = .ok (.bipush 8, 2) := by decide +kernel
theorem dX4_groupsByWalking_9 : decode cX4_groupsByWalking 9 = .ok (.if_icmp .ge 28, 3) := by decide +kernel
theorem dX4_groupsByWalking_12 : decode cX4_groupsByWalking 12 = .ok (.iload_n 2, 1) := by decide +kernel
theorem dX4_groupsByWalking_13 : decode cX4_groupsByWalking 13 = .ok (.iload_n 3, 1) := by decide +kernel
theorem dX4_groupsByWalking_14 : decode cX4_groupsByWalking 14 = .ok (.invokestatic 123, 3) := by decide +kernel
theorem dX4_groupsByWalking_17 : decode cX4_groupsByWalking 17 = .ok (.ifCond .ne 14, 3) := by decide +kernel
theorem dX4_groupsByWalking_20 : decode cX4_groupsByWalking 20 = .ok (.iload_n 2, 1) := by decide +kernel
theorem dX4_groupsByWalking_21 : decode cX4_groupsByWalking 21 = .ok (.aload_n 0, 1) := by decide +kernel
theorem dX4_groupsByWalking_22 : decode cX4_groupsByWalking 22 = .ok (.iload_n 3, 1) := by decide +kernel
theorem dX4_groupsByWalking_23 : decode cX4_groupsByWalking 23 = .ok (.invokevirtual 129, 3) := by decide +kernel
theorem dX4_groupsByWalking_26 : decode cX4_groupsByWalking 26 = .ok (.ior, 1) := by decide +kernel
theorem dX4_groupsByWalking_27 : decode cX4_groupsByWalking 27 = .ok (.istore_n 2, 1) := by decide +kernel
theorem dX4_groupsByWalking_28 : decode cX4_groupsByWalking 28 = .ok (.iinc 1 1, 3) := by decide +kernel
theorem dX4_groupsByWalking_31 : decode cX4_groupsByWalking 31 = .ok (.iinc 3 1, 3) := by decide +kernel
theorem dX4_groupsByWalking_34 : decode cX4_groupsByWalking 34 = .ok (.goto (-28), 3) := by decide +kernel
theorem dX4_groupsByWalking_37 : decode cX4_groupsByWalking 37 = .ok (.iload_n 1, 1) := by decide +kernel
theorem dX4_groupsByWalking_38 : decode cX4_groupsByWalking 38 = .ok (.ireturn, 1) := by decide +kernel
theorem dX4_greatestGroup_0 : decode cX4_greatestGroup 0 = .ok (.iconst 0, 1) := by decide +kernel
theorem dX4_greatestGroup_1 : decode cX4_greatestGroup 1 = .ok (.istore_n 1, 1) := by decide +kernel
theorem dX4_greatestGroup_2 : decode cX4_greatestGroup 2 = .ok (.iconst 0, 1) := by decide +kernel
theorem dX4_greatestGroup_3 : decode cX4_greatestGroup 3 = .ok (.istore_n 2, 1) := by decide +kernel
theorem dX4_greatestGroup_4 : decode cX4_greatestGroup 4 = .ok (.iload_n 2, 1) := by decide +kernel
theorem dX4_greatestGroup_5 : decode cX4_greatestGroup 5 = .ok (.bipush 8, 2) := by decide +kernel
theorem dX4_greatestGroup_7 : decode cX4_greatestGroup 7 = .ok (.if_icmp .ge 22, 3) := by decide +kernel
theorem dX4_greatestGroup_10 : decode cX4_greatestGroup 10 = .ok (.iload_n 1, 1) := by decide +kernel
theorem dX4_greatestGroup_11 : decode cX4_greatestGroup 11 = .ok (.aload_n 0, 1) := by decide +kernel
theorem dX4_greatestGroup_12 : decode cX4_greatestGroup 12 = .ok (.iload_n 2, 1) := by decide +kernel
theorem dX4_greatestGroup_13 : decode cX4_greatestGroup 13 = .ok (.invokevirtual 129, 3) := by decide +kernel
theorem dX4_greatestGroup_16 : decode cX4_greatestGroup 16 = .ok (.invokestatic 136, 3) := by decide +kernel
theorem dX4_greatestGroup_19 : decode cX4_greatestGroup 19 = .ok (.invokestatic 82, 3) := by decide +kernel
theorem dX4_greatestGroup_22 : decode cX4_greatestGroup 22 = .ok (.istore_n 1, 1) := by decide +kernel
theorem dX4_greatestGroup_23 : decode cX4_greatestGroup 23 = .ok (.iinc 2 1, 3) := by decide +kernel
theorem dX4_greatestGroup_26 : decode cX4_greatestGroup 26 = .ok (.goto (-22), 3) := by decide +kernel
theorem dX4_greatestGroup_29 : decode cX4_greatestGroup 29 = .ok (.iload_n 1, 1) := by decide +kernel
theorem dX4_greatestGroup_30 : decode cX4_greatestGroup 30 = .ok (.ireturn, 1) := by decide +kernel
theorem dX4_lockedPairs_0 : decode cX4_lockedPairs 0 = .ok (.iconst 0, 1) := by decide +kernel
theorem dX4_lockedPairs_1 : decode cX4_lockedPairs 1 = .ok (.istore_n 1, 1) := by decide +kernel
theorem dX4_lockedPairs_2 : decode cX4_lockedPairs 2 = .ok (.iconst 0, 1) := by decide +kernel
theorem dX4_lockedPairs_3 : decode cX4_lockedPairs 3 = .ok (.istore_n 2, 1) := by decide +kernel
theorem dX4_lockedPairs_4 : decode cX4_lockedPairs 4 = .ok (.iload_n 2, 1) := by decide +kernel
theorem dX4_lockedPairs_5 : decode cX4_lockedPairs 5 = .ok (.bipush 8, 2) := by decide +kernel
theorem dX4_lockedPairs_7 : decode cX4_lockedPairs 7 = .ok (.if_icmp .ge 37, 3) := by decide +kernel
theorem dX4_lockedPairs_10 : decode cX4_lockedPairs 10 = .ok (.iload_n 2, 1) := by decide +kernel
theorem dX4_lockedPairs_11 : decode cX4_lockedPairs 11 = .ok (.iconst 1, 1) := by decide +kernel
theorem dX4_lockedPairs_12 : decode cX4_lockedPairs 12 = .ok (.iadd, 1) := by decide +kernel
theorem dX4_lockedPairs_13 : decode cX4_lockedPairs 13 = .ok (.istore_n 3, 1) := by decide +kernel
theorem dX4_lockedPairs_14 : decode cX4_lockedPairs 14 = .ok (.iload_n 3, 1) := by decide +kernel
theorem dX4_lockedPairs_15 : decode cX4_lockedPairs 15 = .ok (.bipush 8, 2) := by decide +kernel
theorem dX4_lockedPairs_17 : decode cX4_lockedPairs 17 = .ok (.if_icmp .ge 21, 3) := by decide +kernel
theorem dX4_lockedPairs_20 : decode cX4_lockedPairs 20 = .ok (.aload_n 0, 1) := by decide +kernel
theorem dX4_lockedPairs_21 : decode cX4_lockedPairs 21 = .ok (.iload_n 2, 1) := by decide +kernel
theorem dX4_lockedPairs_22 : decode cX4_lockedPairs 22 = .ok (.iload_n 3, 1) := by decide +kernel
theorem dX4_lockedPairs_23 : decode cX4_lockedPairs 23 = .ok (.invokevirtual 120, 3) := by decide +kernel
theorem dX4_lockedPairs_26 : decode cX4_lockedPairs 26 = .ok (.ifCond .eq 6, 3) := by decide +kernel
theorem dX4_lockedPairs_29 : decode cX4_lockedPairs 29 = .ok (.iinc 1 1, 3) := by decide +kernel
theorem dX4_lockedPairs_32 : decode cX4_lockedPairs 32 = .ok (.iinc 3 1, 3) := by decide +kernel
theorem dX4_lockedPairs_35 : decode cX4_lockedPairs 35 = .ok (.goto (-21), 3) := by decide +kernel
theorem dX4_lockedPairs_38 : decode cX4_lockedPairs 38 = .ok (.iinc 2 1, 3) := by decide +kernel
theorem dX4_lockedPairs_41 : decode cX4_lockedPairs 41 = .ok (.goto (-37), 3) := by decide +kernel
theorem dX4_lockedPairs_44 : decode cX4_lockedPairs 44 = .ok (.iload_n 1, 1) := by decide +kernel
theorem dX4_lockedPairs_45 : decode cX4_lockedPairs 45 = .ok (.ireturn, 1) := by decide +kernel
theorem dX4_maskOfBeam_0 : decode cX4_maskOfBeam 0 = .ok (.iconst 0, 1) := by decide +kernel
theorem dX4_maskOfBeam_1 : decode cX4_maskOfBeam 1 = .ok (.istore_n 2, 1) := by decide +kernel
theorem dX4_maskOfBeam_2 : decode cX4_maskOfBeam 2 = .ok (.iconst 0, 1) := by decide +kernel
theorem dX4_maskOfBeam_3 : decode cX4_maskOfBeam 3 = .ok (.istore_n 3, 1) := by decide +kernel
theorem dX4_maskOfBeam_4 : decode cX4_maskOfBeam 4 = .ok (.iload_n 3, 1) := by decide +kernel
theorem dX4_maskOfBeam_5 : decode cX4_maskOfBeam 5 = .ok (.bipush 8, 2) := by decide +kernel
theorem dX4_maskOfBeam_7 : decode cX4_maskOfBeam 7 = .ok (.if_icmp .ge 24, 3) := by decide +kernel
theorem dX4_maskOfBeam_10 : decode cX4_maskOfBeam 10 = .ok (.aload_n 0, 1) := by decide +kernel
theorem dX4_maskOfBeam_11 : decode cX4_maskOfBeam 11 = .ok (.iload_n 3, 1) := by decide +kernel
theorem dX4_maskOfBeam_12 : decode cX4_maskOfBeam 12 = .ok (.iload_n 1, 1) := by decide +kernel
theorem dX4_maskOfBeam_13 : decode cX4_maskOfBeam 13 = .ok (.invokevirtual 108, 3) := by decide +kernel
theorem dX4_maskOfBeam_16 : decode cX4_maskOfBeam 16 = .ok (.ifCond .eq 9, 3) := by decide +kernel
theorem dX4_maskOfBeam_19 : decode cX4_maskOfBeam 19 = .ok (.iload_n 2, 1) := by decide +kernel
theorem dX4_maskOfBeam_20 : decode cX4_maskOfBeam 20 = .ok (.iconst 1, 1) := by decide +kernel
theorem dX4_maskOfBeam_21 : decode cX4_maskOfBeam 21 = .ok (.iload_n 3, 1) := by decide +kernel
theorem dX4_maskOfBeam_22 : decode cX4_maskOfBeam 22 = .ok (.ishl, 1) := by decide +kernel
theorem dX4_maskOfBeam_23 : decode cX4_maskOfBeam 23 = .ok (.ior, 1) := by decide +kernel
theorem dX4_maskOfBeam_24 : decode cX4_maskOfBeam 24 = .ok (.istore_n 2, 1) := by decide +kernel
theorem dX4_maskOfBeam_25 : decode cX4_maskOfBeam 25 = .ok (.iinc 3 1, 3) := by decide +kernel
theorem dX4_maskOfBeam_28 : decode cX4_maskOfBeam 28 = .ok (.goto (-24), 3) := by decide +kernel
theorem dX4_maskOfBeam_31 : decode cX4_maskOfBeam 31 = .ok (.iload_n 2, 1) := by decide +kernel
theorem dX4_maskOfBeam_32 : decode cX4_maskOfBeam 32 = .ok (.ireturn, 1) := by decide +kernel
theorem dX4_goingMask_0 : decode cX4_goingMask 0 = .ok (.iconst 0, 1) := by decide +kernel
theorem dX4_goingMask_1 : decode cX4_goingMask 1 = .ok (.istore_n 1, 1) := by decide +kernel
theorem dX4_goingMask_2 : decode cX4_goingMask 2 = .ok (.iconst 0, 1) := by decide +kernel
theorem dX4_goingMask_3 : decode cX4_goingMask 3 = .ok (.istore_n 2, 1) := by decide +kernel
theorem dX4_goingMask_4 : decode cX4_goingMask 4 = .ok (.iload_n 2, 1) := by decide +kernel
theorem dX4_goingMask_5 : decode cX4_goingMask 5 = .ok (.bipush 8, 2) := by decide +kernel
theorem dX4_goingMask_7 : decode cX4_goingMask 7 = .ok (.if_icmp .ge 23, 3) := by decide +kernel
theorem dX4_goingMask_10 : decode cX4_goingMask 10 = .ok (.aload_n 0, 1) := by decide +kernel
theorem dX4_goingMask_11 : decode cX4_goingMask 11 = .ok (.iload_n 2, 1) := by decide +kernel
theorem dX4_goingMask_12 : decode cX4_goingMask 12 = .ok (.invokevirtual 78, 3) := by decide +kernel
theorem dX4_goingMask_15 : decode cX4_goingMask 15 = .ok (.ifCond .eq 9, 3) := by decide +kernel
theorem dX4_goingMask_18 : decode cX4_goingMask 18 = .ok (.iload_n 1, 1) := by decide +kernel
theorem dX4_goingMask_19 : decode cX4_goingMask 19 = .ok (.iconst 1, 1) := by decide +kernel
theorem dX4_goingMask_20 : decode cX4_goingMask 20 = .ok (.iload_n 2, 1) := by decide +kernel
theorem dX4_goingMask_21 : decode cX4_goingMask 21 = .ok (.ishl, 1) := by decide +kernel
theorem dX4_goingMask_22 : decode cX4_goingMask 22 = .ok (.ior, 1) := by decide +kernel
theorem dX4_goingMask_23 : decode cX4_goingMask 23 = .ok (.istore_n 1, 1) := by decide +kernel
theorem dX4_goingMask_24 : decode cX4_goingMask 24 = .ok (.iinc 2 1, 3) := by decide +kernel
theorem dX4_goingMask_27 : decode cX4_goingMask 27 = .ok (.goto (-23), 3) := by decide +kernel
theorem dX4_goingMask_30 : decode cX4_goingMask 30 = .ok (.iload_n 1, 1) := by decide +kernel
theorem dX4_goingMask_31 : decode cX4_goingMask 31 = .ok (.ireturn, 1) := by decide +kernel
theorem dX4_pullsOfBeam_0 : decode cX4_pullsOfBeam 0 = .ok (.iconst 0, 1) := by decide +kernel
theorem dX4_pullsOfBeam_1 : decode cX4_pullsOfBeam 1 = .ok (.istore_n 2, 1) := by decide +kernel
theorem dX4_pullsOfBeam_2 : decode cX4_pullsOfBeam 2 = .ok (.iconst 0, 1) := by decide +kernel
theorem dX4_pullsOfBeam_3 : decode cX4_pullsOfBeam 3 = .ok (.istore_n 3, 1) := by decide +kernel
theorem dX4_pullsOfBeam_4 : decode cX4_pullsOfBeam 4 = .ok (.iload_n 3, 1) := by decide +kernel
theorem dX4_pullsOfBeam_5 : decode cX4_pullsOfBeam 5 = .ok (.bipush 8, 2) := by decide +kernel
theorem dX4_pullsOfBeam_7 : decode cX4_pullsOfBeam 7 = .ok (.if_icmp .ge 26, 3) := by decide +kernel
theorem dX4_pullsOfBeam_10 : decode cX4_pullsOfBeam 10 = .ok (.aload_n 0, 1) := by decide +kernel
theorem dX4_pullsOfBeam_11 : decode cX4_pullsOfBeam 11 = .ok (.iload_n 3, 1) := by decide +kernel
theorem dX4_pullsOfBeam_12 : decode cX4_pullsOfBeam 12 = .ok (.iload_n 1, 1) := by decide +kernel
theorem dX4_pullsOfBeam_13 : decode cX4_pullsOfBeam 13 = .ok (.invokevirtual 108, 3) := by decide +kernel
theorem dX4_pullsOfBeam_16 : decode cX4_pullsOfBeam 16 = .ok (.ifCond .eq 11, 3) := by decide +kernel
theorem dX4_pullsOfBeam_19 : decode cX4_pullsOfBeam 19 = .ok (.iload_n 2, 1) := by decide +kernel
theorem dX4_pullsOfBeam_20 : decode cX4_pullsOfBeam 20 = .ok (.aload_n 0, 1) := by decide +kernel
theorem dX4_pullsOfBeam_21 : decode cX4_pullsOfBeam 21 = .ok (.iload_n 3, 1) := by decide +kernel
theorem dX4_pullsOfBeam_22 : decode cX4_pullsOfBeam 22 = .ok (.invokevirtual 68, 3) := by decide +kernel
theorem dX4_pullsOfBeam_25 : decode cX4_pullsOfBeam 25 = .ok (.iadd, 1) := by decide +kernel
theorem dX4_pullsOfBeam_26 : decode cX4_pullsOfBeam 26 = .ok (.istore_n 2, 1) := by decide +kernel
theorem dX4_pullsOfBeam_27 : decode cX4_pullsOfBeam 27 = .ok (.iinc 3 1, 3) := by decide +kernel
theorem dX4_pullsOfBeam_30 : decode cX4_pullsOfBeam 30 = .ok (.goto (-26), 3) := by decide +kernel
theorem dX4_pullsOfBeam_33 : decode cX4_pullsOfBeam 33 = .ok (.iload_n 2, 1) := by decide +kernel
theorem dX4_pullsOfBeam_34 : decode cX4_pullsOfBeam 34 = .ok (.ireturn, 1) := by decide +kernel
theorem dX4_widestGap_0 : decode cX4_widestGap 0 = .ok (.aload_n 0, 1) := by decide +kernel
theorem dX4_widestGap_1 : decode cX4_widestGap 1 = .ok (.iload_n 1, 1) := by decide +kernel
theorem dX4_widestGap_2 : decode cX4_widestGap 2 = .ok (.invokevirtual 141, 3) := by decide +kernel
theorem dX4_widestGap_5 : decode cX4_widestGap 5 = .ok (.aload_n 0, 1) := by decide +kernel
theorem dX4_widestGap_6 : decode cX4_widestGap 6 = .ok (.invokevirtual 144, 3) := by decide +kernel
theorem dX4_widestGap_9 : decode cX4_widestGap 9 = .ok (.iand, 1) := by decide +kernel
theorem dX4_widestGap_10 : decode cX4_widestGap 10 = .ok (.istore_n 2, 1) := by decide +kernel
theorem dX4_widestGap_11 : decode cX4_widestGap 11 = .ok (.iconst 0, 1) := by decide +kernel
theorem dX4_widestGap_12 : decode cX4_widestGap 12 = .ok (.istore_n 3, 1) := by decide +kernel
theorem dX4_widestGap_13 : decode cX4_widestGap 13 = .ok (.iconst 0, 1) := by decide +kernel
theorem dX4_widestGap_14 : decode cX4_widestGap 14 = .ok (.istore 4, 2) := by decide +kernel
theorem dX4_widestGap_16 : decode cX4_widestGap 16 = .ok (.iload 4, 2) := by decide +kernel
theorem dX4_widestGap_18 : decode cX4_widestGap 18 = .ok (.bipush 8, 2) := by decide +kernel
theorem dX4_widestGap_20 : decode cX4_widestGap 20 = .ok (.if_icmp .ge 62, 3) := by decide +kernel
theorem dX4_widestGap_23 : decode cX4_widestGap 23 = .ok (.iload 4, 2) := by decide +kernel
theorem dX4_widestGap_25 : decode cX4_widestGap 25 = .ok (.iconst 1, 1) := by decide +kernel
theorem dX4_widestGap_26 : decode cX4_widestGap 26 = .ok (.iadd, 1) := by decide +kernel
theorem dX4_widestGap_27 : decode cX4_widestGap 27 = .ok (.istore 5, 2) := by decide +kernel
theorem dX4_widestGap_29 : decode cX4_widestGap 29 = .ok (.iload 5, 2) := by decide +kernel
theorem dX4_widestGap_31 : decode cX4_widestGap 31 = .ok (.bipush 8, 2) := by decide +kernel
theorem dX4_widestGap_33 : decode cX4_widestGap 33 = .ok (.if_icmp .ge 43, 3) := by decide +kernel
theorem dX4_widestGap_36 : decode cX4_widestGap 36 = .ok (.iload_n 2, 1) := by decide +kernel
theorem dX4_widestGap_37 : decode cX4_widestGap 37 = .ok (.iload 4, 2) := by decide +kernel
theorem dX4_widestGap_39 : decode cX4_widestGap 39 = .ok (.invokestatic 123, 3) := by decide +kernel
theorem dX4_widestGap_42 : decode cX4_widestGap 42 = .ok (.ifCond .eq 28, 3) := by decide +kernel
theorem dX4_widestGap_45 : decode cX4_widestGap 45 = .ok (.iload_n 2, 1) := by decide +kernel
theorem dX4_widestGap_46 : decode cX4_widestGap 46 = .ok (.iload 5, 2) := by decide +kernel
theorem dX4_widestGap_48 : decode cX4_widestGap 48 = .ok (.invokestatic 123, 3) := by decide +kernel
theorem dX4_widestGap_51 : decode cX4_widestGap 51 = .ok (.ifCond .eq 19, 3) := by decide +kernel
theorem dX4_widestGap_54 : decode cX4_widestGap 54 = .ok (.iload_n 3, 1) := by decide +kernel
theorem dX4_widestGap_55 : decode cX4_widestGap 55 = .ok (.aload_n 0, 1) := by decide +kernel
theorem dX4_widestGap_56 : decode cX4_widestGap 56 = .ok (.iload 4, 2) := by decide +kernel
theorem dX4_widestGap_58 : decode cX4_widestGap 58 = .ok (.iload 5, 2) := by decide +kernel
theorem dX4_widestGap_60 : decode cX4_widestGap 60 = .ok (.invokevirtual 111, 3) := by decide +kernel
theorem dX4_widestGap_63 : decode cX4_widestGap 63 = .ok (.invokestatic 117, 3) := by decide +kernel
theorem dX4_widestGap_66 : decode cX4_widestGap 66 = .ok (.invokestatic 82, 3) := by decide +kernel
theorem dX4_widestGap_69 : decode cX4_widestGap 69 = .ok (.istore_n 3, 1) := by decide +kernel
theorem dX4_widestGap_70 : decode cX4_widestGap 70 = .ok (.iinc 5 1, 3) := by decide +kernel
theorem dX4_widestGap_73 : decode cX4_widestGap 73 = .ok (.goto (-44), 3) := by decide +kernel
theorem dX4_widestGap_76 : decode cX4_widestGap 76 = .ok (.iinc 4 1, 3) := by decide +kernel
theorem dX4_widestGap_79 : decode cX4_widestGap 79 = .ok (.goto (-63), 3) := by decide +kernel
theorem dX4_widestGap_82 : decode cX4_widestGap 82 = .ok (.iload_n 3, 1) := by decide +kernel
theorem dX4_widestGap_83 : decode cX4_widestGap 83 = .ok (.ireturn, 1) := by decide +kernel
theorem dX4_numberOfClock_0 : decode cX4_numberOfClock 0 = .ok (.iload_n 2, 1) := by decide +kernel
theorem dX4_numberOfClock_1 : decode cX4_numberOfClock 1 = .ok (.tableswitch 122 0 9 #[55, 62, 69, 76, 83, 90, 96, 103, 110, 116], 55) := by decide +kernel
theorem dX4_numberOfClock_56 : decode cX4_numberOfClock 56 = .ok (.aload_n 0, 1) := by decide +kernel
theorem dX4_numberOfClock_57 : decode cX4_numberOfClock 57 = .ok (.getfield 9, 3) := by decide +kernel
theorem dX4_numberOfClock_60 : decode cX4_numberOfClock 60 = .ok (.iload_n 1, 1) := by decide +kernel
theorem dX4_numberOfClock_61 : decode cX4_numberOfClock 61 = .ok (.iaload, 1) := by decide +kernel
theorem dX4_numberOfClock_62 : decode cX4_numberOfClock 62 = .ok (.ireturn, 1) := by decide +kernel
theorem dX4_numberOfClock_63 : decode cX4_numberOfClock 63 = .ok (.aload_n 0, 1) := by decide +kernel
theorem dX4_numberOfClock_64 : decode cX4_numberOfClock 64 = .ok (.getfield 15, 3) := by decide +kernel
theorem dX4_numberOfClock_67 : decode cX4_numberOfClock 67 = .ok (.iload_n 1, 1) := by decide +kernel
theorem dX4_numberOfClock_68 : decode cX4_numberOfClock 68 = .ok (.iaload, 1) := by decide +kernel
theorem dX4_numberOfClock_69 : decode cX4_numberOfClock 69 = .ok (.ireturn, 1) := by decide +kernel
theorem dX4_numberOfClock_70 : decode cX4_numberOfClock 70 = .ok (.aload_n 0, 1) := by decide +kernel
theorem dX4_numberOfClock_71 : decode cX4_numberOfClock 71 = .ok (.getfield 18, 3) := by decide +kernel
theorem dX4_numberOfClock_74 : decode cX4_numberOfClock 74 = .ok (.iload_n 1, 1) := by decide +kernel
theorem dX4_numberOfClock_75 : decode cX4_numberOfClock 75 = .ok (.iaload, 1) := by decide +kernel
theorem dX4_numberOfClock_76 : decode cX4_numberOfClock 76 = .ok (.ireturn, 1) := by decide +kernel
theorem dX4_numberOfClock_77 : decode cX4_numberOfClock 77 = .ok (.aload_n 0, 1) := by decide +kernel
theorem dX4_numberOfClock_78 : decode cX4_numberOfClock 78 = .ok (.getfield 21, 3) := by decide +kernel
theorem dX4_numberOfClock_81 : decode cX4_numberOfClock 81 = .ok (.iload_n 1, 1) := by decide +kernel
theorem dX4_numberOfClock_82 : decode cX4_numberOfClock 82 = .ok (.iaload, 1) := by decide +kernel
theorem dX4_numberOfClock_83 : decode cX4_numberOfClock 83 = .ok (.ireturn, 1) := by decide +kernel
theorem dX4_numberOfClock_84 : decode cX4_numberOfClock 84 = .ok (.aload_n 0, 1) := by decide +kernel
theorem dX4_numberOfClock_85 : decode cX4_numberOfClock 85 = .ok (.getfield 24, 3) := by decide +kernel
theorem dX4_numberOfClock_88 : decode cX4_numberOfClock 88 = .ok (.iload_n 1, 1) := by decide +kernel
theorem dX4_numberOfClock_89 : decode cX4_numberOfClock 89 = .ok (.iaload, 1) := by decide +kernel
theorem dX4_numberOfClock_90 : decode cX4_numberOfClock 90 = .ok (.ireturn, 1) := by decide +kernel
theorem dX4_numberOfClock_91 : decode cX4_numberOfClock 91 = .ok (.aload_n 0, 1) := by decide +kernel
theorem dX4_numberOfClock_92 : decode cX4_numberOfClock 92 = .ok (.iload_n 1, 1) := by decide +kernel
theorem dX4_numberOfClock_93 : decode cX4_numberOfClock 93 = .ok (.invokevirtual 68, 3) := by decide +kernel
theorem dX4_numberOfClock_96 : decode cX4_numberOfClock 96 = .ok (.ireturn, 1) := by decide +kernel
theorem dX4_numberOfClock_97 : decode cX4_numberOfClock 97 = .ok (.aload_n 0, 1) := by decide +kernel
theorem dX4_numberOfClock_98 : decode cX4_numberOfClock 98 = .ok (.getfield 27, 3) := by decide +kernel
theorem dX4_numberOfClock_101 : decode cX4_numberOfClock 101 = .ok (.iload_n 1, 1) := by decide +kernel
theorem dX4_numberOfClock_102 : decode cX4_numberOfClock 102 = .ok (.iaload, 1) := by decide +kernel
theorem dX4_numberOfClock_103 : decode cX4_numberOfClock 103 = .ok (.ireturn, 1) := by decide +kernel
theorem dX4_numberOfClock_104 : decode cX4_numberOfClock 104 = .ok (.aload_n 0, 1) := by decide +kernel
theorem dX4_numberOfClock_105 : decode cX4_numberOfClock 105 = .ok (.getfield 30, 3) := by decide +kernel
theorem dX4_numberOfClock_108 : decode cX4_numberOfClock 108 = .ok (.iload_n 1, 1) := by decide +kernel
theorem dX4_numberOfClock_109 : decode cX4_numberOfClock 109 = .ok (.iaload, 1) := by decide +kernel
theorem dX4_numberOfClock_110 : decode cX4_numberOfClock 110 = .ok (.ireturn, 1) := by decide +kernel
theorem dX4_numberOfClock_111 : decode cX4_numberOfClock 111 = .ok (.aload_n 0, 1) := by decide +kernel
theorem dX4_numberOfClock_112 : decode cX4_numberOfClock 112 = .ok (.iload_n 1, 1) := by decide +kernel
theorem dX4_numberOfClock_113 : decode cX4_numberOfClock 113 = .ok (.invokevirtual 126, 3) := by decide +kernel
theorem dX4_numberOfClock_116 : decode cX4_numberOfClock 116 = .ok (.ireturn, 1) := by decide +kernel
theorem dX4_numberOfClock_117 : decode cX4_numberOfClock 117 = .ok (.aload_n 0, 1) := by decide +kernel
theorem dX4_numberOfClock_118 : decode cX4_numberOfClock 118 = .ok (.iload_n 1, 1) := by decide +kernel
theorem dX4_numberOfClock_119 : decode cX4_numberOfClock 119 = .ok (.invokevirtual 147, 3) := by decide +kernel
theorem dX4_numberOfClock_122 : decode cX4_numberOfClock 122 = .ok (.ireturn, 1) := by decide +kernel
theorem dX4_numberOfClock_123 : decode cX4_numberOfClock 123 = .ok (.aload_n 0, 1) := by decide +kernel
theorem dX4_numberOfClock_124 : decode cX4_numberOfClock 124 = .ok (.iload_n 1, 1) := by decide +kernel
theorem dX4_numberOfClock_125 : decode cX4_numberOfClock 125 = .ok (.invokevirtual 129, 3) := by decide +kernel
theorem dX4_numberOfClock_128 : decode cX4_numberOfClock 128 = .ok (.ireturn, 1) := by decide +kernel
theorem dX4_numberOfPair_0 : decode cX4_numberOfPair 0 = .ok (.iload_n 3, 1) := by decide +kernel
theorem dX4_numberOfPair_1 : decode cX4_numberOfPair 1 = .ok (.lookupswitch 46 #[(0, 27), (1, 34)], 27) := by decide +kernel
theorem dX4_numberOfPair_28 : decode cX4_numberOfPair 28 = .ok (.aload_n 0, 1) := by decide +kernel
theorem dX4_numberOfPair_29 : decode cX4_numberOfPair 29 = .ok (.iload_n 1, 1) := by decide +kernel
theorem dX4_numberOfPair_30 : decode cX4_numberOfPair 30 = .ok (.iload_n 2, 1) := by decide +kernel
theorem dX4_numberOfPair_31 : decode cX4_numberOfPair 31 = .ok (.invokevirtual 111, 3) := by decide +kernel
theorem dX4_numberOfPair_34 : decode cX4_numberOfPair 34 = .ok (.ireturn, 1) := by decide +kernel
theorem dX4_numberOfPair_35 : decode cX4_numberOfPair 35 = .ok (.aload_n 0, 1) := by decide +kernel
theorem dX4_numberOfPair_36 : decode cX4_numberOfPair 36 = .ok (.getfield 33, 3) := by decide +kernel
theorem dX4_numberOfPair_39 : decode cX4_numberOfPair 39 = .ok (.iload_n 1, 1) := by decide +kernel
theorem dX4_numberOfPair_40 : decode cX4_numberOfPair 40 = .ok (.bipush 8, 2) := by decide +kernel
theorem dX4_numberOfPair_42 : decode cX4_numberOfPair 42 = .ok (.imul, 1) := by decide +kernel
theorem dX4_numberOfPair_43 : decode cX4_numberOfPair 43 = .ok (.iload_n 2, 1) := by decide +kernel
theorem dX4_numberOfPair_44 : decode cX4_numberOfPair 44 = .ok (.iadd, 1) := by decide +kernel
theorem dX4_numberOfPair_45 : decode cX4_numberOfPair 45 = .ok (.iaload, 1) := by decide +kernel
theorem dX4_numberOfPair_46 : decode cX4_numberOfPair 46 = .ok (.ireturn, 1) := by decide +kernel
theorem dX4_numberOfPair_47 : decode cX4_numberOfPair 47 = .ok (.aload_n 0, 1) := by decide +kernel
theorem dX4_numberOfPair_48 : decode cX4_numberOfPair 48 = .ok (.iload_n 1, 1) := by decide +kernel
theorem dX4_numberOfPair_49 : decode cX4_numberOfPair 49 = .ok (.iload_n 2, 1) := by decide +kernel
theorem dX4_numberOfPair_50 : decode cX4_numberOfPair 50 = .ok (.invokevirtual 150, 3) := by decide +kernel
theorem dX4_numberOfPair_53 : decode cX4_numberOfPair 53 = .ok (.ireturn, 1) := by decide +kernel
theorem dX4_numberOfBeam_0 : decode cX4_numberOfBeam 0 = .ok (.iload_n 2, 1) := by decide +kernel
theorem dX4_numberOfBeam_1 : decode cX4_numberOfBeam 1 = .ok (.tableswitch 61 0 3 #[31, 38, 44, 55], 31) := by decide +kernel
theorem dX4_numberOfBeam_32 : decode cX4_numberOfBeam 32 = .ok (.aload_n 0, 1) := by decide +kernel
theorem dX4_numberOfBeam_33 : decode cX4_numberOfBeam 33 = .ok (.getfield 36, 3) := by decide +kernel
theorem dX4_numberOfBeam_36 : decode cX4_numberOfBeam 36 = .ok (.iload_n 1, 1) := by decide +kernel
theorem dX4_numberOfBeam_37 : decode cX4_numberOfBeam 37 = .ok (.iaload, 1) := by decide +kernel
theorem dX4_numberOfBeam_38 : decode cX4_numberOfBeam 38 = .ok (.ireturn, 1) := by decide +kernel
theorem dX4_numberOfBeam_39 : decode cX4_numberOfBeam 39 = .ok (.aload_n 0, 1) := by decide +kernel
theorem dX4_numberOfBeam_40 : decode cX4_numberOfBeam 40 = .ok (.iload_n 1, 1) := by decide +kernel
theorem dX4_numberOfBeam_41 : decode cX4_numberOfBeam 41 = .ok (.invokevirtual 141, 3) := by decide +kernel
theorem dX4_numberOfBeam_44 : decode cX4_numberOfBeam 44 = .ok (.ireturn, 1) := by decide +kernel
theorem dX4_numberOfBeam_45 : decode cX4_numberOfBeam 45 = .ok (.aload_n 0, 1) := by decide +kernel
theorem dX4_numberOfBeam_46 : decode cX4_numberOfBeam 46 = .ok (.iload_n 1, 1) := by decide +kernel
theorem dX4_numberOfBeam_47 : decode cX4_numberOfBeam 47 = .ok (.invokevirtual 141, 3) := by decide +kernel
theorem dX4_numberOfBeam_50 : decode cX4_numberOfBeam 50 = .ok (.aload_n 0, 1) := by decide +kernel
theorem dX4_numberOfBeam_51 : decode cX4_numberOfBeam 51 = .ok (.invokevirtual 144, 3) := by decide +kernel
theorem dX4_numberOfBeam_54 : decode cX4_numberOfBeam 54 = .ok (.iand, 1) := by decide +kernel
theorem dX4_numberOfBeam_55 : decode cX4_numberOfBeam 55 = .ok (.ireturn, 1) := by decide +kernel
theorem dX4_numberOfBeam_56 : decode cX4_numberOfBeam 56 = .ok (.aload_n 0, 1) := by decide +kernel
theorem dX4_numberOfBeam_57 : decode cX4_numberOfBeam 57 = .ok (.iload_n 1, 1) := by decide +kernel
theorem dX4_numberOfBeam_58 : decode cX4_numberOfBeam 58 = .ok (.invokevirtual 153, 3) := by decide +kernel
theorem dX4_numberOfBeam_61 : decode cX4_numberOfBeam 61 = .ok (.ireturn, 1) := by decide +kernel
theorem dX4_numberOfBeam_62 : decode cX4_numberOfBeam 62 = .ok (.aload_n 0, 1) := by decide +kernel
theorem dX4_numberOfBeam_63 : decode cX4_numberOfBeam 63 = .ok (.iload_n 1, 1) := by decide +kernel
theorem dX4_numberOfBeam_64 : decode cX4_numberOfBeam 64 = .ok (.invokevirtual 156, 3) := by decide +kernel
theorem dX4_numberOfBeam_67 : decode cX4_numberOfBeam 67 = .ok (.ireturn, 1) := by decide +kernel
theorem dX4_numberOfAll_0 : decode cX4_numberOfAll 0 = .ok (.iload_n 1, 1) := by decide +kernel
theorem dX4_numberOfAll_1 : decode cX4_numberOfAll 1 = .ok (.tableswitch 99 0 8 #[51, 56, 61, 69, 74, 79, 84, 89, 94], 51) := by decide +kernel
theorem dX4_numberOfAll_52 : decode cX4_numberOfAll 52 = .ok (.aload_n 0, 1) := by decide +kernel
theorem dX4_numberOfAll_53 : decode cX4_numberOfAll 53 = .ok (.getfield 54, 3) := by decide +kernel
theorem dX4_numberOfAll_56 : decode cX4_numberOfAll 56 = .ok (.ireturn, 1) := by decide +kernel
theorem dX4_numberOfAll_57 : decode cX4_numberOfAll 57 = .ok (.aload_n 0, 1) := by decide +kernel
theorem dX4_numberOfAll_58 : decode cX4_numberOfAll 58 = .ok (.invokevirtual 159, 3) := by decide +kernel
theorem dX4_numberOfAll_61 : decode cX4_numberOfAll 61 = .ok (.ireturn, 1) := by decide +kernel
theorem dX4_numberOfAll_62 : decode cX4_numberOfAll 62 = .ok (.aload_n 0, 1) := by decide +kernel
theorem dX4_numberOfAll_63 : decode cX4_numberOfAll 63 = .ok (.invokevirtual 144, 3) := by decide +kernel
theorem dX4_numberOfAll_66 : decode cX4_numberOfAll 66 = .ok (.invokestatic 136, 3) := by decide +kernel
theorem dX4_numberOfAll_69 : decode cX4_numberOfAll 69 = .ok (.ireturn, 1) := by decide +kernel
theorem dX4_numberOfAll_70 : decode cX4_numberOfAll 70 = .ok (.aload_n 0, 1) := by decide +kernel
theorem dX4_numberOfAll_71 : decode cX4_numberOfAll 71 = .ok (.invokevirtual 162, 3) := by decide +kernel
theorem dX4_numberOfAll_74 : decode cX4_numberOfAll 74 = .ok (.ireturn, 1) := by decide +kernel
theorem dX4_numberOfAll_75 : decode cX4_numberOfAll 75 = .ok (.aload_n 0, 1) := by decide +kernel
theorem dX4_numberOfAll_76 : decode cX4_numberOfAll 76 = .ok (.invokevirtual 165, 3) := by decide +kernel
theorem dX4_numberOfAll_79 : decode cX4_numberOfAll 79 = .ok (.ireturn, 1) := by decide +kernel
theorem dX4_numberOfAll_80 : decode cX4_numberOfAll 80 = .ok (.aload_n 0, 1) := by decide +kernel
theorem dX4_numberOfAll_81 : decode cX4_numberOfAll 81 = .ok (.invokevirtual 168, 3) := by decide +kernel
theorem dX4_numberOfAll_84 : decode cX4_numberOfAll 84 = .ok (.ireturn, 1) := by decide +kernel
theorem dX4_numberOfAll_85 : decode cX4_numberOfAll 85 = .ok (.aload_n 0, 1) := by decide +kernel
theorem dX4_numberOfAll_86 : decode cX4_numberOfAll 86 = .ok (.invokevirtual 171, 3) := by decide +kernel
theorem dX4_numberOfAll_89 : decode cX4_numberOfAll 89 = .ok (.ireturn, 1) := by decide +kernel
theorem dX4_numberOfAll_90 : decode cX4_numberOfAll 90 = .ok (.aload_n 0, 1) := by decide +kernel
theorem dX4_numberOfAll_91 : decode cX4_numberOfAll 91 = .ok (.getfield 58, 3) := by decide +kernel
theorem dX4_numberOfAll_94 : decode cX4_numberOfAll 94 = .ok (.ireturn, 1) := by decide +kernel
theorem dX4_numberOfAll_95 : decode cX4_numberOfAll 95 = .ok (.aload_n 0, 1) := by decide +kernel
theorem dX4_numberOfAll_96 : decode cX4_numberOfAll 96 = .ok (.getfield 61, 3) := by decide +kernel
theorem dX4_numberOfAll_99 : decode cX4_numberOfAll 99 = .ok (.ireturn, 1) := by decide +kernel
theorem dX4_numberOfAll_100 : decode cX4_numberOfAll 100 = .ok (.iload_n 2, 1) := by decide +kernel
theorem dX4_numberOfAll_101 : decode cX4_numberOfAll 101 = .ok (.ireturn, 1) := by decide +kernel
theorem dX4_strikesOfAll_0 : decode cX4_strikesOfAll 0 = .ok (.iconst 0, 1) := by decide +kernel
theorem dX4_strikesOfAll_1 : decode cX4_strikesOfAll 1 = .ok (.istore_n 1, 1) := by decide +kernel
theorem dX4_strikesOfAll_2 : decode cX4_strikesOfAll 2 = .ok (.iconst 0, 1) := by decide +kernel
theorem dX4_strikesOfAll_3 : decode cX4_strikesOfAll 3 = .ok (.istore_n 2, 1) := by decide +kernel
theorem dX4_strikesOfAll_4 : decode cX4_strikesOfAll 4 = .ok (.iload_n 2, 1) := by decide +kernel
theorem dX4_strikesOfAll_5 : decode cX4_strikesOfAll 5 = .ok (.bipush 8, 2) := by decide +kernel
theorem dX4_strikesOfAll_7 : decode cX4_strikesOfAll 7 = .ok (.if_icmp .ge 18, 3) := by decide +kernel
theorem dX4_strikesOfAll_10 : decode cX4_strikesOfAll 10 = .ok (.iload_n 1, 1) := by decide +kernel
theorem dX4_strikesOfAll_11 : decode cX4_strikesOfAll 11 = .ok (.aload_n 0, 1) := by decide +kernel
theorem dX4_strikesOfAll_12 : decode cX4_strikesOfAll 12 = .ok (.getfield 24, 3) := by decide +kernel
theorem dX4_strikesOfAll_15 : decode cX4_strikesOfAll 15 = .ok (.iload_n 2, 1) := by decide +kernel
theorem dX4_strikesOfAll_16 : decode cX4_strikesOfAll 16 = .ok (.iaload, 1) := by decide +kernel
theorem dX4_strikesOfAll_17 : decode cX4_strikesOfAll 17 = .ok (.iadd, 1) := by decide +kernel
theorem dX4_strikesOfAll_18 : decode cX4_strikesOfAll 18 = .ok (.istore_n 1, 1) := by decide +kernel
theorem dX4_strikesOfAll_19 : decode cX4_strikesOfAll 19 = .ok (.iinc 2 1, 3) := by decide +kernel
theorem dX4_strikesOfAll_22 : decode cX4_strikesOfAll 22 = .ok (.goto (-18), 3) := by decide +kernel
theorem dX4_strikesOfAll_25 : decode cX4_strikesOfAll 25 = .ok (.iload_n 1, 1) := by decide +kernel
theorem dX4_strikesOfAll_26 : decode cX4_strikesOfAll 26 = .ok (.ireturn, 1) := by decide +kernel
