theorem dX5_init_0 : decode cX5_init 0 = .ok (.aload_n 0, 1) := by decide +kernel
theorem dX5_init_1 : decode cX5_init 1 = .ok (.invokespecial 1, 3) := by decide +kernel
theorem dX5_init_4 : decode cX5_init 4 = .ok (.aload_n 0, 1) := by decide +kernel
theorem dX5_init_5 : decode cX5_init 5 = .ok (.new 7, 3) := by decide +kernel
theorem dX5_init_8 : decode cX5_init 8 = .ok (.dup, 1) := by decide +kernel
theorem dX5_init_9 : decode cX5_init 9 = .ok (.invokespecial 9, 3) := by decide +kernel
theorem dX5_init_12 : decode cX5_init 12 = .ok (.putfield 10, 3) := by decide +kernel
theorem dX5_init_15 : decode cX5_init 15 = .ok (.aload_n 0, 1) := by decide +kernel
theorem dX5_init_16 : decode cX5_init 16 = .ok (.new 7, 3) := by decide +kernel
theorem dX5_init_19 : decode cX5_init 19 = .ok (.dup, 1) := by decide +kernel
theorem dX5_init_20 : decode cX5_init 20 = .ok (.invokespecial 9, 3) := by decide +kernel
theorem dX5_init_23 : decode cX5_init 23 = .ok (.putfield 16, 3) := by decide +kernel
theorem dX5_init_26 : decode cX5_init 26 = .ok (.aload_n 0, 1) := by decide +kernel
theorem dX5_init_27 : decode cX5_init 27 = .ok (.new 7, 3) := by decide +kernel
theorem dX5_init_30 : decode cX5_init 30 = .ok (.dup, 1) := by decide +kernel
theorem dX5_init_31 : decode cX5_init 31 = .ok (.invokespecial 9, 3) := by decide +kernel
theorem dX5_init_34 : decode cX5_init 34 = .ok (.putfield 19, 3) := by decide +kernel
theorem dX5_init_37 : decode cX5_init 37 = .ok (.aload_n 0, 1) := by decide +kernel
theorem dX5_init_38 : decode cX5_init 38 = .ok (.new 22, 3) := by decide +kernel
theorem dX5_init_41 : decode cX5_init 41 = .ok (.dup, 1) := by decide +kernel
theorem dX5_init_42 : decode cX5_init 42 = .ok (.invokespecial 24, 3) := by decide +kernel
theorem dX5_init_45 : decode cX5_init 45 = .ok (.putfield 25, 3) := by decide +kernel
theorem dX5_init_48 : decode cX5_init 48 = .ok (.aload_n 0, 1) := by decide +kernel
theorem dX5_init_49 : decode cX5_init 49 = .ok (.new 29, 3) := by decide +kernel
theorem dX5_init_52 : decode cX5_init 52 = .ok (.dup, 1) := by decide +kernel
theorem dX5_init_53 : decode cX5_init 53 = .ok (.invokespecial 31, 3) := by decide +kernel
theorem dX5_init_56 : decode cX5_init 56 = .ok (.putfield 32, 3) := by decide +kernel
theorem dX5_init_59 : decode cX5_init 59 = .ok (.return_, 1) := by decide +kernel
theorem dX5_pass_0 : decode cX5_pass 0 = .ok (.iload_n 1, 1) := by decide +kernel
theorem dX5_pass_1 : decode cX5_pass 1 = .ok (.invokestatic 36, 3) := by decide +kernel
theorem dX5_pass_4 : decode cX5_pass 4 = .ok (.ifCond .ne 13, 3) := by decide +kernel
theorem dX5_pass_7 : decode cX5_pass 7 = .ok (.new 40, 3) := by decide +kernel
theorem dX5_pass_10 : decode cX5_pass 10 = .ok (.dup, 1) := by decide +kernel
theorem dX5_pass_11 : decode cX5_pass 11 = .ok (.ldc 42, 2) := by decide +kernel
theorem dX5_pass_13 : decode cX5_pass 13 = .ok (.invokespecial 44, 3) := by decide +kernel
theorem dX5_pass_16 : decode cX5_pass 16 = .ok (.athrow, 1) := by decide +kernel
theorem dX5_pass_17 : decode cX5_pass 17 = .ok (.aload_n 0, 1) := by decide +kernel
theorem dX5_pass_18 : decode cX5_pass 18 = .ok (.getfield 25, 3) := by decide +kernel
theorem dX5_pass_21 : decode cX5_pass 21 = .ok (.aload_n 0, 1) := by decide +kernel
theorem dX5_pass_22 : decode cX5_pass 22 = .ok (.getfield 10, 3) := by decide +kernel
theorem dX5_pass_25 : decode cX5_pass 25 = .ok (.invokevirtual 47, 3) := by decide +kernel
theorem dX5_pass_28 : decode cX5_pass 28 = .ok (.aload_n 0, 1) := by decide +kernel
theorem dX5_pass_29 : decode cX5_pass 29 = .ok (.getfield 10, 3) := by decide +kernel
theorem dX5_pass_32 : decode cX5_pass 32 = .ok (.iload_n 1, 1) := by decide +kernel
theorem dX5_pass_33 : decode cX5_pass 33 = .ok (.invokevirtual 51, 3) := by decide +kernel
theorem dX5_pass_36 : decode cX5_pass 36 = .ok (.ireturn, 1) := by decide +kernel
theorem dX5_kick_0 : decode cX5_kick 0 = .ok (.iload_n 1, 1) := by decide +kernel
theorem dX5_kick_1 : decode cX5_kick 1 = .ok (.invokestatic 55, 3) := by decide +kernel
theorem dX5_kick_4 : decode cX5_kick 4 = .ok (.ifCond .ne 13, 3) := by decide +kernel
theorem dX5_kick_7 : decode cX5_kick 7 = .ok (.new 58, 3) := by decide +kernel
theorem dX5_kick_10 : decode cX5_kick 10 = .ok (.dup, 1) := by decide +kernel
theorem dX5_kick_11 : decode cX5_kick 11 = .ok (.ldc 60, 2) := by decide +kernel
theorem dX5_kick_13 : decode cX5_kick 13 = .ok (.invokespecial 62, 3) := by decide +kernel
theorem dX5_kick_16 : decode cX5_kick 16 = .ok (.athrow, 1) := by decide +kernel
theorem dX5_kick_17 : decode cX5_kick 17 = .ok (.iload_n 2, 1) := by decide +kernel
theorem dX5_kick_18 : decode cX5_kick 18 = .ok (.ifCond .eq 17, 3) := by decide +kernel
theorem dX5_kick_21 : decode cX5_kick 21 = .ok (.iload_n 2, 1) := by decide +kernel
theorem dX5_kick_22 : decode cX5_kick 22 = .ok (.sipush (-500), 3) := by decide +kernel
theorem dX5_kick_25 : decode cX5_kick 25 = .ok (.if_icmp .lt 10, 3) := by decide +kernel
theorem dX5_kick_28 : decode cX5_kick 28 = .ok (.iload_n 2, 1) := by decide +kernel
theorem dX5_kick_29 : decode cX5_kick 29 = .ok (.sipush 500, 3) := by decide +kernel
theorem dX5_kick_32 : decode cX5_kick 32 = .ok (.if_icmp .le 13, 3) := by decide +kernel
theorem dX5_kick_35 : decode cX5_kick 35 = .ok (.new 40, 3) := by decide +kernel
theorem dX5_kick_38 : decode cX5_kick 38 = .ok (.dup, 1) := by decide +kernel
theorem dX5_kick_39 : decode cX5_kick 39 = .ok (.ldc 63, 2) := by decide +kernel
theorem dX5_kick_41 : decode cX5_kick 41 = .ok (.invokespecial 44, 3) := by decide +kernel
theorem dX5_kick_44 : decode cX5_kick 44 = .ok (.athrow, 1) := by decide +kernel
theorem dX5_kick_45 : decode cX5_kick 45 = .ok (.aload_n 0, 1) := by decide +kernel
theorem dX5_kick_46 : decode cX5_kick 46 = .ok (.getfield 25, 3) := by decide +kernel
theorem dX5_kick_49 : decode cX5_kick 49 = .ok (.aload_n 0, 1) := by decide +kernel
theorem dX5_kick_50 : decode cX5_kick 50 = .ok (.getfield 10, 3) := by decide +kernel
theorem dX5_kick_53 : decode cX5_kick 53 = .ok (.invokevirtual 47, 3) := by decide +kernel
theorem dX5_kick_56 : decode cX5_kick 56 = .ok (.aload_n 0, 1) := by decide +kernel
theorem dX5_kick_57 : decode cX5_kick 57 = .ok (.getfield 10, 3) := by decide +kernel
theorem dX5_kick_60 : decode cX5_kick 60 = .ok (.iload_n 1, 1) := by decide +kernel
theorem dX5_kick_61 : decode cX5_kick 61 = .ok (.iload_n 2, 1) := by decide +kernel
theorem dX5_kick_62 : decode cX5_kick 62 = .ok (.invokevirtual 65, 3) := by decide +kernel
theorem dX5_kick_65 : decode cX5_kick 65 = .ok (.aload_n 0, 1) := by decide +kernel
theorem dX5_kick_66 : decode cX5_kick 66 = .ok (.getfield 10, 3) := by decide +kernel
theorem dX5_kick_69 : decode cX5_kick 69 = .ok (.getfield 69, 3) := by decide +kernel
theorem dX5_kick_72 : decode cX5_kick 72 = .ok (.iload_n 1, 1) := by decide +kernel
theorem dX5_kick_73 : decode cX5_kick 73 = .ok (.iaload, 1) := by decide +kernel
theorem dX5_kick_74 : decode cX5_kick 74 = .ok (.ireturn, 1) := by decide +kernel
theorem dX5_move_0 : decode cX5_move 0 = .ok (.iload_n 1, 1) := by decide +kernel
theorem dX5_move_1 : decode cX5_move 1 = .ok (.invokestatic 55, 3) := by decide +kernel
theorem dX5_move_4 : decode cX5_move 4 = .ok (.ifCond .ne 13, 3) := by decide +kernel
theorem dX5_move_7 : decode cX5_move 7 = .ok (.new 58, 3) := by decide +kernel
theorem dX5_move_10 : decode cX5_move 10 = .ok (.dup, 1) := by decide +kernel
theorem dX5_move_11 : decode cX5_move 11 = .ok (.ldc 60, 2) := by decide +kernel
theorem dX5_move_13 : decode cX5_move 13 = .ok (.invokespecial 62, 3) := by decide +kernel
theorem dX5_move_16 : decode cX5_move 16 = .ok (.athrow, 1) := by decide +kernel
theorem dX5_move_17 : decode cX5_move 17 = .ok (.iload_n 2, 1) := by decide +kernel
theorem dX5_move_18 : decode cX5_move 18 = .ok (.invokestatic 73, 3) := by decide +kernel
theorem dX5_move_21 : decode cX5_move 21 = .ok (.ifCond .ne 13, 3) := by decide +kernel
theorem dX5_move_24 : decode cX5_move 24 = .ok (.new 58, 3) := by decide +kernel
theorem dX5_move_27 : decode cX5_move 27 = .ok (.dup, 1) := by decide +kernel
theorem dX5_move_28 : decode cX5_move 28 = .ok (.ldc 76, 2) := by decide +kernel
theorem dX5_move_30 : decode cX5_move 30 = .ok (.invokespecial 62, 3) := by decide +kernel
theorem dX5_move_33 : decode cX5_move 33 = .ok (.athrow, 1) := by decide +kernel
theorem dX5_move_34 : decode cX5_move 34 = .ok (.aload_n 0, 1) := by decide +kernel
theorem dX5_move_35 : decode cX5_move 35 = .ok (.getfield 10, 3) := by decide +kernel
theorem dX5_move_38 : decode cX5_move 38 = .ok (.iload_n 1, 1) := by decide +kernel
theorem dX5_move_39 : decode cX5_move 39 = .ok (.iload_n 2, 1) := by decide +kernel
theorem dX5_move_40 : decode cX5_move 40 = .ok (.invokevirtual 78, 3) := by decide +kernel
theorem dX5_move_43 : decode cX5_move 43 = .ok (.ifCond .eq 13, 3) := by decide +kernel
theorem dX5_move_46 : decode cX5_move 46 = .ok (.new 82, 3) := by decide +kernel
theorem dX5_move_49 : decode cX5_move 49 = .ok (.dup, 1) := by decide +kernel
theorem dX5_move_50 : decode cX5_move 50 = .ok (.ldc 84, 2) := by decide +kernel
theorem dX5_move_52 : decode cX5_move 52 = .ok (.invokespecial 86, 3) := by decide +kernel
theorem dX5_move_55 : decode cX5_move 55 = .ok (.athrow, 1) := by decide +kernel
theorem dX5_move_56 : decode cX5_move 56 = .ok (.aload_n 0, 1) := by decide +kernel
theorem dX5_move_57 : decode cX5_move 57 = .ok (.getfield 25, 3) := by decide +kernel
theorem dX5_move_60 : decode cX5_move 60 = .ok (.aload_n 0, 1) := by decide +kernel
theorem dX5_move_61 : decode cX5_move 61 = .ok (.getfield 10, 3) := by decide +kernel
theorem dX5_move_64 : decode cX5_move 64 = .ok (.invokevirtual 47, 3) := by decide +kernel
theorem dX5_move_67 : decode cX5_move 67 = .ok (.aload_n 0, 1) := by decide +kernel
theorem dX5_move_68 : decode cX5_move 68 = .ok (.getfield 10, 3) := by decide +kernel
theorem dX5_move_71 : decode cX5_move 71 = .ok (.iload_n 1, 1) := by decide +kernel
theorem dX5_move_72 : decode cX5_move 72 = .ok (.iload_n 2, 1) := by decide +kernel
theorem dX5_move_73 : decode cX5_move 73 = .ok (.invokevirtual 87, 3) := by decide +kernel
theorem dX5_move_76 : decode cX5_move 76 = .ok (.aload_n 0, 1) := by decide +kernel
theorem dX5_move_77 : decode cX5_move 77 = .ok (.getfield 10, 3) := by decide +kernel
theorem dX5_move_80 : decode cX5_move 80 = .ok (.iload_n 2, 1) := by decide +kernel
theorem dX5_move_81 : decode cX5_move 81 = .ok (.invokevirtual 90, 3) := by decide +kernel
theorem dX5_move_84 : decode cX5_move 84 = .ok (.invokestatic 93, 3) := by decide +kernel
theorem dX5_move_87 : decode cX5_move 87 = .ok (.iconst 1, 1) := by decide +kernel
theorem dX5_move_88 : decode cX5_move 88 = .ok (.isub, 1) := by decide +kernel
theorem dX5_move_89 : decode cX5_move 89 = .ok (.ireturn, 1) := by decide +kernel
theorem dX5_wind_0 : decode cX5_wind 0 = .ok (.iload_n 1, 1) := by decide +kernel
theorem dX5_wind_1 : decode cX5_wind 1 = .ok (.invokestatic 55, 3) := by decide +kernel
theorem dX5_wind_4 : decode cX5_wind 4 = .ok (.ifCond .ne 13, 3) := by decide +kernel
theorem dX5_wind_7 : decode cX5_wind 7 = .ok (.new 58, 3) := by decide +kernel
theorem dX5_wind_10 : decode cX5_wind 10 = .ok (.dup, 1) := by decide +kernel
theorem dX5_wind_11 : decode cX5_wind 11 = .ok (.ldc 60, 2) := by decide +kernel
theorem dX5_wind_13 : decode cX5_wind 13 = .ok (.invokespecial 62, 3) := by decide +kernel
theorem dX5_wind_16 : decode cX5_wind 16 = .ok (.athrow, 1) := by decide +kernel
theorem dX5_wind_17 : decode cX5_wind 17 = .ok (.aload_n 0, 1) := by decide +kernel
theorem dX5_wind_18 : decode cX5_wind 18 = .ok (.getfield 25, 3) := by decide +kernel
theorem dX5_wind_21 : decode cX5_wind 21 = .ok (.aload_n 0, 1) := by decide +kernel
theorem dX5_wind_22 : decode cX5_wind 22 = .ok (.getfield 10, 3) := by decide +kernel
theorem dX5_wind_25 : decode cX5_wind 25 = .ok (.invokevirtual 47, 3) := by decide +kernel
theorem dX5_wind_28 : decode cX5_wind 28 = .ok (.aload_n 0, 1) := by decide +kernel
theorem dX5_wind_29 : decode cX5_wind 29 = .ok (.getfield 10, 3) := by decide +kernel
theorem dX5_wind_32 : decode cX5_wind 32 = .ok (.getfield 98, 3) := by decide +kernel
theorem dX5_wind_35 : decode cX5_wind 35 = .ok (.iload_n 1, 1) := by decide +kernel
theorem dX5_wind_36 : decode cX5_wind 36 = .ok (.iaload, 1) := by decide +kernel
theorem dX5_wind_37 : decode cX5_wind 37 = .ok (.istore_n 2, 1) := by decide +kernel
theorem dX5_wind_38 : decode cX5_wind 38 = .ok (.aload_n 0, 1) := by decide +kernel
theorem dX5_wind_39 : decode cX5_wind 39 = .ok (.getfield 10, 3) := by decide +kernel
theorem dX5_wind_42 : decode cX5_wind 42 = .ok (.iload_n 1, 1) := by decide +kernel
theorem dX5_wind_43 : decode cX5_wind 43 = .ok (.invokevirtual 101, 3) := by decide +kernel
theorem dX5_wind_46 : decode cX5_wind 46 = .ok (.aload_n 0, 1) := by decide +kernel
theorem dX5_wind_47 : decode cX5_wind 47 = .ok (.getfield 10, 3) := by decide +kernel
theorem dX5_wind_50 : decode cX5_wind 50 = .ok (.getfield 98, 3) := by decide +kernel
theorem dX5_wind_53 : decode cX5_wind 53 = .ok (.iload_n 1, 1) := by decide +kernel
theorem dX5_wind_54 : decode cX5_wind 54 = .ok (.iaload, 1) := by decide +kernel
theorem dX5_wind_55 : decode cX5_wind 55 = .ok (.iload_n 2, 1) := by decide +kernel
theorem dX5_wind_56 : decode cX5_wind 56 = .ok (.isub, 1) := by decide +kernel
theorem dX5_wind_57 : decode cX5_wind 57 = .ok (.ireturn, 1) := by decide +kernel
theorem dX5_speed_0 : decode cX5_speed 0 = .ok (.iload_n 1, 1) := by decide +kernel
theorem dX5_speed_1 : decode cX5_speed 1 = .ok (.invokestatic 55, 3) := by decide +kernel
theorem dX5_speed_4 : decode cX5_speed 4 = .ok (.ifCond .ne 13, 3) := by decide +kernel
theorem dX5_speed_7 : decode cX5_speed 7 = .ok (.new 58, 3) := by decide +kernel
theorem dX5_speed_10 : decode cX5_speed 10 = .ok (.dup, 1) := by decide +kernel
theorem dX5_speed_11 : decode cX5_speed 11 = .ok (.ldc 60, 2) := by decide +kernel
theorem dX5_speed_13 : decode cX5_speed 13 = .ok (.invokespecial 62, 3) := by decide +kernel
theorem dX5_speed_16 : decode cX5_speed 16 = .ok (.athrow, 1) := by decide +kernel
theorem dX5_speed_17 : decode cX5_speed 17 = .ok (.iload_n 2, 1) := by decide +kernel
theorem dX5_speed_18 : decode cX5_speed 18 = .ok (.bipush 10, 2) := by decide +kernel
theorem dX5_speed_20 : decode cX5_speed 20 = .ok (.if_icmp .lt 9, 3) := by decide +kernel
theorem dX5_speed_23 : decode cX5_speed 23 = .ok (.iload_n 2, 1) := by decide +kernel
theorem dX5_speed_24 : decode cX5_speed 24 = .ok (.bipush 60, 2) := by decide +kernel
theorem dX5_speed_26 : decode cX5_speed 26 = .ok (.if_icmp .le 13, 3) := by decide +kernel
theorem dX5_speed_29 : decode cX5_speed 29 = .ok (.new 40, 3) := by decide +kernel
theorem dX5_speed_32 : decode cX5_speed 32 = .ok (.dup, 1) := by decide +kernel
theorem dX5_speed_33 : decode cX5_speed 33 = .ok (.ldc 105, 2) := by decide +kernel
theorem dX5_speed_35 : decode cX5_speed 35 = .ok (.invokespecial 44, 3) := by decide +kernel
theorem dX5_speed_38 : decode cX5_speed 38 = .ok (.athrow, 1) := by decide +kernel
theorem dX5_speed_39 : decode cX5_speed 39 = .ok (.aload_n 0, 1) := by decide +kernel
theorem dX5_speed_40 : decode cX5_speed 40 = .ok (.getfield 25, 3) := by decide +kernel
theorem dX5_speed_43 : decode cX5_speed 43 = .ok (.aload_n 0, 1) := by decide +kernel
theorem dX5_speed_44 : decode cX5_speed 44 = .ok (.getfield 10, 3) := by decide +kernel
theorem dX5_speed_47 : decode cX5_speed 47 = .ok (.invokevirtual 47, 3) := by decide +kernel
theorem dX5_speed_50 : decode cX5_speed 50 = .ok (.aload_n 0, 1) := by decide +kernel
theorem dX5_speed_51 : decode cX5_speed 51 = .ok (.getfield 10, 3) := by decide +kernel
theorem dX5_speed_54 : decode cX5_speed 54 = .ok (.getfield 107, 3) := by decide +kernel
theorem dX5_speed_57 : decode cX5_speed 57 = .ok (.iload_n 1, 1) := by decide +kernel
theorem dX5_speed_58 : decode cX5_speed 58 = .ok (.iaload, 1) := by decide +kernel
theorem dX5_speed_59 : decode cX5_speed 59 = .ok (.istore_n 3, 1) := by decide +kernel
theorem dX5_speed_60 : decode cX5_speed 60 = .ok (.aload_n 0, 1) := by decide +kernel
theorem dX5_speed_61 : decode cX5_speed 61 = .ok (.getfield 10, 3) := by decide +kernel
theorem dX5_speed_64 : decode cX5_speed 64 = .ok (.getfield 107, 3) := by decide +kernel
theorem dX5_speed_67 : decode cX5_speed 67 = .ok (.iload_n 1, 1) := by decide +kernel
theorem dX5_speed_68 : decode cX5_speed 68 = .ok (.iload_n 2, 1) := by decide +kernel
theorem dX5_speed_69 : decode cX5_speed 69 = .ok (.iastore, 1) := by decide +kernel
theorem dX5_speed_70 : decode cX5_speed 70 = .ok (.iload_n 3, 1) := by decide +kernel
theorem dX5_speed_71 : decode cX5_speed 71 = .ok (.ireturn, 1) := by decide +kernel
theorem dX5_give_0 : decode cX5_give 0 = .ok (.iload_n 1, 1) := by decide +kernel
theorem dX5_give_1 : decode cX5_give 1 = .ok (.invokestatic 73, 3) := by decide +kernel
theorem dX5_give_4 : decode cX5_give 4 = .ok (.ifCond .ne 13, 3) := by decide +kernel
theorem dX5_give_7 : decode cX5_give 7 = .ok (.new 58, 3) := by decide +kernel
theorem dX5_give_10 : decode cX5_give 10 = .ok (.dup, 1) := by decide +kernel
theorem dX5_give_11 : decode cX5_give 11 = .ok (.ldc 76, 2) := by decide +kernel
theorem dX5_give_13 : decode cX5_give 13 = .ok (.invokespecial 62, 3) := by decide +kernel
theorem dX5_give_16 : decode cX5_give 16 = .ok (.athrow, 1) := by decide +kernel
theorem dX5_give_17 : decode cX5_give 17 = .ok (.iload_n 2, 1) := by decide +kernel
theorem dX5_give_18 : decode cX5_give 18 = .ok (.ifCond .lt 9, 3) := by decide +kernel
theorem dX5_give_21 : decode cX5_give 21 = .ok (.iload_n 2, 1) := by decide +kernel
theorem dX5_give_22 : decode cX5_give 22 = .ok (.bipush 20, 2) := by decide +kernel
theorem dX5_give_24 : decode cX5_give 24 = .ok (.if_icmp .le 13, 3) := by decide +kernel
theorem dX5_give_27 : decode cX5_give 27 = .ok (.new 40, 3) := by decide +kernel
theorem dX5_give_30 : decode cX5_give 30 = .ok (.dup, 1) := by decide +kernel
theorem dX5_give_31 : decode cX5_give 31 = .ok (.ldc 110, 2) := by decide +kernel
theorem dX5_give_33 : decode cX5_give 33 = .ok (.invokespecial 44, 3) := by decide +kernel
theorem dX5_give_36 : decode cX5_give 36 = .ok (.athrow, 1) := by decide +kernel
theorem dX5_give_37 : decode cX5_give 37 = .ok (.aload_n 0, 1) := by decide +kernel
theorem dX5_give_38 : decode cX5_give 38 = .ok (.getfield 25, 3) := by decide +kernel
theorem dX5_give_41 : decode cX5_give 41 = .ok (.aload_n 0, 1) := by decide +kernel
theorem dX5_give_42 : decode cX5_give 42 = .ok (.getfield 10, 3) := by decide +kernel
theorem dX5_give_45 : decode cX5_give 45 = .ok (.invokevirtual 47, 3) := by decide +kernel
theorem dX5_give_48 : decode cX5_give 48 = .ok (.aload_n 0, 1) := by decide +kernel
theorem dX5_give_49 : decode cX5_give 49 = .ok (.getfield 10, 3) := by decide +kernel
theorem dX5_give_52 : decode cX5_give 52 = .ok (.getfield 112, 3) := by decide +kernel
theorem dX5_give_55 : decode cX5_give 55 = .ok (.iload_n 1, 1) := by decide +kernel
theorem dX5_give_56 : decode cX5_give 56 = .ok (.iaload, 1) := by decide +kernel
theorem dX5_give_57 : decode cX5_give 57 = .ok (.istore_n 3, 1) := by decide +kernel
theorem dX5_give_58 : decode cX5_give 58 = .ok (.aload_n 0, 1) := by decide +kernel
theorem dX5_give_59 : decode cX5_give 59 = .ok (.getfield 10, 3) := by decide +kernel
theorem dX5_give_62 : decode cX5_give 62 = .ok (.getfield 112, 3) := by decide +kernel
theorem dX5_give_65 : decode cX5_give 65 = .ok (.iload_n 1, 1) := by decide +kernel
theorem dX5_give_66 : decode cX5_give 66 = .ok (.iload_n 2, 1) := by decide +kernel
theorem dX5_give_67 : decode cX5_give 67 = .ok (.iastore, 1) := by decide +kernel
theorem dX5_give_68 : decode cX5_give 68 = .ok (.iload_n 3, 1) := by decide +kernel
theorem dX5_give_69 : decode cX5_give 69 = .ok (.ireturn, 1) := by decide +kernel
theorem dX5_set_0 : decode cX5_set 0 = .ok (.iload_n 1, 1) := by decide +kernel
theorem dX5_set_1 : decode cX5_set 1 = .ok (.invokestatic 115, 3) := by decide +kernel
theorem dX5_set_4 : decode cX5_set 4 = .ok (.ifCond .ne 13, 3) := by decide +kernel
theorem dX5_set_7 : decode cX5_set 7 = .ok (.new 58, 3) := by decide +kernel
theorem dX5_set_10 : decode cX5_set 10 = .ok (.dup, 1) := by decide +kernel
theorem dX5_set_11 : decode cX5_set 11 = .ok (.ldc 118, 2) := by decide +kernel
theorem dX5_set_13 : decode cX5_set 13 = .ok (.invokespecial 62, 3) := by decide +kernel
theorem dX5_set_16 : decode cX5_set 16 = .ok (.athrow, 1) := by decide +kernel
theorem dX5_set_17 : decode cX5_set 17 = .ok (.iload_n 2, 1) := by decide +kernel
theorem dX5_set_18 : decode cX5_set 18 = .ok (.iload_n 1, 1) := by decide +kernel
theorem dX5_set_19 : decode cX5_set 19 = .ok (.invokestatic 120, 3) := by decide +kernel
theorem dX5_set_22 : decode cX5_set 22 = .ok (.if_icmp .lt 11, 3) := by decide +kernel
theorem dX5_set_25 : decode cX5_set 25 = .ok (.iload_n 2, 1) := by decide +kernel
theorem dX5_set_26 : decode cX5_set 26 = .ok (.iload_n 1, 1) := by decide +kernel
theorem dX5_set_27 : decode cX5_set 27 = .ok (.invokestatic 123, 3) := by decide +kernel
theorem dX5_set_30 : decode cX5_set 30 = .ok (.if_icmp .le 13, 3) := by decide +kernel
theorem dX5_set_33 : decode cX5_set 33 = .ok (.new 40, 3) := by decide +kernel
theorem dX5_set_36 : decode cX5_set 36 = .ok (.dup, 1) := by decide +kernel
theorem dX5_set_37 : decode cX5_set 37 = .ok (.ldc 126, 2) := by decide +kernel
theorem dX5_set_39 : decode cX5_set 39 = .ok (.invokespecial 44, 3) := by decide +kernel
theorem dX5_set_42 : decode cX5_set 42 = .ok (.athrow, 1) := by decide +kernel
theorem dX5_set_43 : decode cX5_set 43 = .ok (.aload_n 0, 1) := by decide +kernel
theorem dX5_set_44 : decode cX5_set 44 = .ok (.getfield 25, 3) := by decide +kernel
theorem dX5_set_47 : decode cX5_set 47 = .ok (.aload_n 0, 1) := by decide +kernel
theorem dX5_set_48 : decode cX5_set 48 = .ok (.getfield 10, 3) := by decide +kernel
theorem dX5_set_51 : decode cX5_set 51 = .ok (.invokevirtual 47, 3) := by decide +kernel
theorem dX5_set_54 : decode cX5_set 54 = .ok (.aload_n 0, 1) := by decide +kernel
theorem dX5_set_55 : decode cX5_set 55 = .ok (.getfield 10, 3) := by decide +kernel
theorem dX5_set_58 : decode cX5_set 58 = .ok (.getfield 128, 3) := by decide +kernel
theorem dX5_set_61 : decode cX5_set 61 = .ok (.iload_n 1, 1) := by decide +kernel
theorem dX5_set_62 : decode cX5_set 62 = .ok (.iaload, 1) := by decide +kernel
theorem dX5_set_63 : decode cX5_set 63 = .ok (.istore_n 3, 1) := by decide +kernel
theorem dX5_set_64 : decode cX5_set 64 = .ok (.aload_n 0, 1) := by decide +kernel
theorem dX5_set_65 : decode cX5_set 65 = .ok (.getfield 10, 3) := by decide +kernel
theorem dX5_set_68 : decode cX5_set 68 = .ok (.getfield 128, 3) := by decide +kernel
theorem dX5_set_71 : decode cX5_set 71 = .ok (.iload_n 1, 1) := by decide +kernel
theorem dX5_set_72 : decode cX5_set 72 = .ok (.iload_n 2, 1) := by decide +kernel
theorem dX5_set_73 : decode cX5_set 73 = .ok (.iastore, 1) := by decide +kernel
theorem dX5_set_74 : decode cX5_set 74 = .ok (.iload_n 3, 1) := by decide +kernel
theorem dX5_set_75 : decode cX5_set 75 = .ok (.ireturn, 1) := by decide +kernel
theorem dX5_append_0 : decode cX5_append 0 = .ok (.iload_n 1, 1) := by decide +kernel
theorem dX5_append_1 : decode cX5_append 1 = .ok (.bipush 33, 2) := by decide +kernel
theorem dX5_append_3 : decode cX5_append 3 = .ok (.if_icmp .lt 9, 3) := by decide +kernel
theorem dX5_append_6 : decode cX5_append 6 = .ok (.iload_n 1, 1) := by decide +kernel
theorem dX5_append_7 : decode cX5_append 7 = .ok (.bipush 126, 2) := by decide +kernel
theorem dX5_append_9 : decode cX5_append 9 = .ok (.if_icmp .le 13, 3) := by decide +kernel
theorem dX5_append_12 : decode cX5_append 12 = .ok (.new 40, 3) := by decide +kernel
theorem dX5_append_15 : decode cX5_append 15 = .ok (.dup, 1) := by decide +kernel
theorem dX5_append_16 : decode cX5_append 16 = .ok (.ldc 131, 2) := by decide +kernel
theorem dX5_append_18 : decode cX5_append 18 = .ok (.invokespecial 44, 3) := by decide +kernel
theorem dX5_append_21 : decode cX5_append 21 = .ok (.athrow, 1) := by decide +kernel
theorem dX5_append_22 : decode cX5_append 22 = .ok (.aload_n 0, 1) := by decide +kernel
theorem dX5_append_23 : decode cX5_append 23 = .ok (.getfield 32, 3) := by decide +kernel
theorem dX5_append_26 : decode cX5_append 26 = .ok (.invokevirtual 133, 3) := by decide +kernel
theorem dX5_append_29 : decode cX5_append 29 = .ok (.ifCond .eq 13, 3) := by decide +kernel
theorem dX5_append_32 : decode cX5_append 32 = .ok (.new 82, 3) := by decide +kernel
theorem dX5_append_35 : decode cX5_append 35 = .ok (.dup, 1) := by decide +kernel
theorem dX5_append_36 : decode cX5_append 36 = .ok (.ldc 137, 2) := by decide +kernel
theorem dX5_append_38 : decode cX5_append 38 = .ok (.invokespecial 86, 3) := by decide +kernel
theorem dX5_append_41 : decode cX5_append 41 = .ok (.athrow, 1) := by decide +kernel
theorem dX5_append_42 : decode cX5_append 42 = .ok (.aload_n 0, 1) := by decide +kernel
theorem dX5_append_43 : decode cX5_append 43 = .ok (.getfield 32, 3) := by decide +kernel
theorem dX5_append_46 : decode cX5_append 46 = .ok (.iload_n 1, 1) := by decide +kernel
theorem dX5_append_47 : decode cX5_append 47 = .ok (.invokevirtual 139, 3) := by decide +kernel
theorem dX5_append_50 : decode cX5_append 50 = .ok (.aload_n 0, 1) := by decide +kernel
theorem dX5_append_51 : decode cX5_append 51 = .ok (.getfield 32, 3) := by decide +kernel
theorem dX5_append_54 : decode cX5_append 54 = .ok (.getfield 142, 3) := by decide +kernel
theorem dX5_append_57 : decode cX5_append 57 = .ok (.ireturn, 1) := by decide +kernel
theorem dX5_clearBuffer_0 : decode cX5_clearBuffer 0 = .ok (.aload_n 0, 1) := by decide +kernel
theorem dX5_clearBuffer_1 : decode cX5_clearBuffer 1 = .ok (.getfield 32, 3) := by decide +kernel
theorem dX5_clearBuffer_4 : decode cX5_clearBuffer 4 = .ok (.getfield 142, 3) := by decide +kernel
theorem dX5_clearBuffer_7 : decode cX5_clearBuffer 7 = .ok (.istore_n 1, 1) := by decide +kernel
theorem dX5_clearBuffer_8 : decode cX5_clearBuffer 8 = .ok (.aload_n 0, 1) := by decide +kernel
theorem dX5_clearBuffer_9 : decode cX5_clearBuffer 9 = .ok (.getfield 32, 3) := by decide +kernel
theorem dX5_clearBuffer_12 : decode cX5_clearBuffer 12 = .ok (.invokevirtual 146, 3) := by decide +kernel
theorem dX5_clearBuffer_15 : decode cX5_clearBuffer 15 = .ok (.iload_n 1, 1) := by decide +kernel
theorem dX5_clearBuffer_16 : decode cX5_clearBuffer 16 = .ok (.ireturn, 1) := by decide +kernel
theorem dX5_firstError_0 : decode cX5_firstError 0 = .ok (.aload_n 0, 1) := by decide +kernel
theorem dX5_firstError_1 : decode cX5_firstError 1 = .ok (.getfield 32, 3) := by decide +kernel
theorem dX5_firstError_4 : decode cX5_firstError 4 = .ok (.invokevirtual 149, 3) := by decide +kernel
theorem dX5_firstError_7 : decode cX5_firstError 7 = .ok (.ireturn, 1) := by decide +kernel
theorem dX5_obey_0 : decode cX5_obey 0 = .ok (.aload_n 0, 1) := by decide +kernel
theorem dX5_obey_1 : decode cX5_obey 1 = .ok (.getfield 32, 3) := by decide +kernel
theorem dX5_obey_4 : decode cX5_obey 4 = .ok (.invokevirtual 153, 3) := by decide +kernel
theorem dX5_obey_7 : decode cX5_obey 7 = .ok (.ifCond .ne 13, 3) := by decide +kernel
theorem dX5_obey_10 : decode cX5_obey 10 = .ok (.new 40, 3) := by decide +kernel
theorem dX5_obey_13 : decode cX5_obey 13 = .ok (.dup, 1) := by decide +kernel
theorem dX5_obey_14 : decode cX5_obey 14 = .ok (.ldc 156, 2) := by decide +kernel
theorem dX5_obey_16 : decode cX5_obey 16 = .ok (.invokespecial 44, 3) := by decide +kernel
theorem dX5_obey_19 : decode cX5_obey 19 = .ok (.athrow, 1) := by decide +kernel
theorem dX5_obey_20 : decode cX5_obey 20 = .ok (.aload_n 0, 1) := by decide +kernel
theorem dX5_obey_21 : decode cX5_obey 21 = .ok (.getfield 25, 3) := by decide +kernel
theorem dX5_obey_24 : decode cX5_obey 24 = .ok (.aload_n 0, 1) := by decide +kernel
theorem dX5_obey_25 : decode cX5_obey 25 = .ok (.getfield 10, 3) := by decide +kernel
theorem dX5_obey_28 : decode cX5_obey 28 = .ok (.invokevirtual 47, 3) := by decide +kernel
theorem dX5_obey_31 : decode cX5_obey 31 = .ok (.iconst 0, 1) := by decide +kernel
theorem dX5_obey_32 : decode cX5_obey 32 = .ok (.istore_n 1, 1) := by decide +kernel
theorem dX5_obey_33 : decode cX5_obey 33 = .ok (.iconst 1, 1) := by decide +kernel
theorem dX5_obey_34 : decode cX5_obey 34 = .ok (.istore_n 2, 1) := by decide +kernel
theorem dX5_obey_35 : decode cX5_obey 35 = .ok (.aload_n 0, 1) := by decide +kernel
theorem dX5_obey_36 : decode cX5_obey 36 = .ok (.getfield 32, 3) := by decide +kernel
theorem dX5_obey_39 : decode cX5_obey 39 = .ok (.invokevirtual 158, 3) := by decide +kernel
theorem dX5_obey_42 : decode cX5_obey 42 = .ok (.iconst 0, 1) := by decide +kernel
theorem dX5_obey_43 : decode cX5_obey 43 = .ok (.istore_n 3, 1) := by decide +kernel
theorem dX5_obey_44 : decode cX5_obey 44 = .ok (.iload_n 3, 1) := by decide +kernel
theorem dX5_obey_45 : decode cX5_obey 45 = .ok (.aload_n 0, 1) := by decide +kernel
theorem dX5_obey_46 : decode cX5_obey 46 = .ok (.getfield 32, 3) := by decide +kernel
theorem dX5_obey_49 : decode cX5_obey 49 = .ok (.getfield 142, 3) := by decide +kernel
theorem dX5_obey_52 : decode cX5_obey 52 = .ok (.if_icmp .ge 57, 3) := by decide +kernel
theorem dX5_obey_55 : decode cX5_obey 55 = .ok (.iload_n 2, 1) := by decide +kernel
theorem dX5_obey_56 : decode cX5_obey 56 = .ok (.ifCond .eq 53, 3) := by decide +kernel
theorem dX5_obey_59 : decode cX5_obey 59 = .ok (.aload_n 0, 1) := by decide +kernel
theorem dX5_obey_60 : decode cX5_obey 60 = .ok (.getfield 32, 3) := by decide +kernel
theorem dX5_obey_63 : decode cX5_obey 63 = .ok (.aload_n 0, 1) := by decide +kernel
theorem dX5_obey_64 : decode cX5_obey 64 = .ok (.getfield 32, 3) := by decide +kernel
theorem dX5_obey_67 : decode cX5_obey 67 = .ok (.iload_n 3, 1) := by decide +kernel
theorem dX5_obey_68 : decode cX5_obey 68 = .ok (.invokevirtual 161, 3) := by decide +kernel
theorem dX5_obey_71 : decode cX5_obey 71 = .ok (.invokevirtual 164, 3) := by decide +kernel
theorem dX5_obey_74 : decode cX5_obey 74 = .ok (.pop, 1) := by decide +kernel
theorem dX5_obey_75 : decode cX5_obey 75 = .ok (.aload_n 0, 1) := by decide +kernel
theorem dX5_obey_76 : decode cX5_obey 76 = .ok (.getfield 32, 3) := by decide +kernel
theorem dX5_obey_79 : decode cX5_obey 79 = .ok (.iload_n 3, 1) := by decide +kernel
theorem dX5_obey_80 : decode cX5_obey 80 = .ok (.invokevirtual 167, 3) := by decide +kernel
theorem dX5_obey_83 : decode cX5_obey 83 = .ok (.ifCond .eq 20, 3) := by decide +kernel
theorem dX5_obey_86 : decode cX5_obey 86 = .ok (.aload_n 0, 1) := by decide +kernel
theorem dX5_obey_87 : decode cX5_obey 87 = .ok (.invokevirtual 170, 3) := by decide +kernel
theorem dX5_obey_90 : decode cX5_obey 90 = .ok (.istore_n 2, 1) := by decide +kernel
theorem dX5_obey_91 : decode cX5_obey 91 = .ok (.iload_n 1, 1) := by decide +kernel
theorem dX5_obey_92 : decode cX5_obey 92 = .ok (.iload_n 2, 1) := by decide +kernel
theorem dX5_obey_93 : decode cX5_obey 93 = .ok (.ifCond .eq 7, 3) := by decide +kernel
theorem dX5_obey_96 : decode cX5_obey 96 = .ok (.iconst 1, 1) := by decide +kernel
theorem dX5_obey_97 : decode cX5_obey 97 = .ok (.goto 4, 3) := by decide +kernel
theorem dX5_obey_100 : decode cX5_obey 100 = .ok (.iconst 0, 1) := by decide +kernel
theorem dX5_obey_101 : decode cX5_obey 101 = .ok (.iadd, 1) := by decide +kernel
theorem dX5_obey_102 : decode cX5_obey 102 = .ok (.istore_n 1, 1) := by decide +kernel
theorem dX5_obey_103 : decode cX5_obey 103 = .ok (.iinc 3 1, 3) := by decide +kernel
theorem dX5_obey_106 : decode cX5_obey 106 = .ok (.goto (-62), 3) := by decide +kernel
theorem dX5_obey_109 : decode cX5_obey 109 = .ok (.aload_n 0, 1) := by decide +kernel
theorem dX5_obey_110 : decode cX5_obey 110 = .ok (.getfield 32, 3) := by decide +kernel
theorem dX5_obey_113 : decode cX5_obey 113 = .ok (.invokevirtual 146, 3) := by decide +kernel
theorem dX5_obey_116 : decode cX5_obey 116 = .ok (.iload_n 1, 1) := by decide +kernel
theorem dX5_obey_117 : decode cX5_obey 117 = .ok (.ireturn, 1) := by decide +kernel
theorem dX5_keep_0 : decode cX5_keep 0 = .ok (.aload_n 0, 1) := by decide +kernel
theorem dX5_keep_1 : decode cX5_keep 1 = .ok (.getfield 19, 3) := by decide +kernel
theorem dX5_keep_4 : decode cX5_keep 4 = .ok (.aload_n 0, 1) := by decide +kernel
theorem dX5_keep_5 : decode cX5_keep 5 = .ok (.getfield 10, 3) := by decide +kernel
theorem dX5_keep_8 : decode cX5_keep 8 = .ok (.invokevirtual 173, 3) := by decide +kernel
theorem dX5_keep_11 : decode cX5_keep 11 = .ok (.aload_n 0, 1) := by decide +kernel
theorem dX5_keep_12 : decode cX5_keep 12 = .ok (.iconst 1, 1) := by decide +kernel
theorem dX5_keep_13 : decode cX5_keep 13 = .ok (.putfield 176, 3) := by decide +kernel
theorem dX5_keep_16 : decode cX5_keep 16 = .ok (.aload_n 0, 1) := by decide +kernel
theorem dX5_keep_17 : decode cX5_keep 17 = .ok (.getfield 10, 3) := by decide +kernel
theorem dX5_keep_20 : decode cX5_keep 20 = .ok (.getfield 180, 3) := by decide +kernel
theorem dX5_keep_23 : decode cX5_keep 23 = .ok (.ireturn, 1) := by decide +kernel
theorem dX5_goBack_0 : decode cX5_goBack 0 = .ok (.aload_n 0, 1) := by decide +kernel
theorem dX5_goBack_1 : decode cX5_goBack 1 = .ok (.getfield 176, 3) := by decide +kernel
theorem dX5_goBack_4 : decode cX5_goBack 4 = .ok (.ifCond .ne 13, 3) := by decide +kernel
theorem dX5_goBack_7 : decode cX5_goBack 7 = .ok (.new 82, 3) := by decide +kernel
theorem dX5_goBack_10 : decode cX5_goBack 10 = .ok (.dup, 1) := by decide +kernel
theorem dX5_goBack_11 : decode cX5_goBack 11 = .ok (.ldc 183, 2) := by decide +kernel
theorem dX5_goBack_13 : decode cX5_goBack 13 = .ok (.invokespecial 86, 3) := by decide +kernel
theorem dX5_goBack_16 : decode cX5_goBack 16 = .ok (.athrow, 1) := by decide +kernel
theorem dX5_goBack_17 : decode cX5_goBack 17 = .ok (.aload_n 0, 1) := by decide +kernel
theorem dX5_goBack_18 : decode cX5_goBack 18 = .ok (.getfield 25, 3) := by decide +kernel
theorem dX5_goBack_21 : decode cX5_goBack 21 = .ok (.aload_n 0, 1) := by decide +kernel
theorem dX5_goBack_22 : decode cX5_goBack 22 = .ok (.getfield 10, 3) := by decide +kernel
theorem dX5_goBack_25 : decode cX5_goBack 25 = .ok (.invokevirtual 47, 3) := by decide +kernel
theorem dX5_goBack_28 : decode cX5_goBack 28 = .ok (.aload_n 0, 1) := by decide +kernel
theorem dX5_goBack_29 : decode cX5_goBack 29 = .ok (.getfield 10, 3) := by decide +kernel
theorem dX5_goBack_32 : decode cX5_goBack 32 = .ok (.aload_n 0, 1) := by decide +kernel
theorem dX5_goBack_33 : decode cX5_goBack 33 = .ok (.getfield 19, 3) := by decide +kernel
theorem dX5_goBack_36 : decode cX5_goBack 36 = .ok (.invokevirtual 173, 3) := by decide +kernel
theorem dX5_goBack_39 : decode cX5_goBack 39 = .ok (.aload_n 0, 1) := by decide +kernel
theorem dX5_goBack_40 : decode cX5_goBack 40 = .ok (.getfield 10, 3) := by decide +kernel
theorem dX5_goBack_43 : decode cX5_goBack 43 = .ok (.getfield 180, 3) := by decide +kernel
theorem dX5_goBack_46 : decode cX5_goBack 46 = .ok (.ireturn, 1) := by decide +kernel
theorem dX5_undo_0 : decode cX5_undo 0 = .ok (.aload_n 0, 1) := by decide +kernel
theorem dX5_undo_1 : decode cX5_undo 1 = .ok (.getfield 25, 3) := by decide +kernel
theorem dX5_undo_4 : decode cX5_undo 4 = .ok (.invokevirtual 185, 3) := by decide +kernel
theorem dX5_undo_7 : decode cX5_undo 7 = .ok (.ifCond .eq 13, 3) := by decide +kernel
theorem dX5_undo_10 : decode cX5_undo 10 = .ok (.new 82, 3) := by decide +kernel
theorem dX5_undo_13 : decode cX5_undo 13 = .ok (.dup, 1) := by decide +kernel
theorem dX5_undo_14 : decode cX5_undo 14 = .ok (.ldc 188, 2) := by decide +kernel
theorem dX5_undo_16 : decode cX5_undo 16 = .ok (.invokespecial 86, 3) := by decide +kernel
theorem dX5_undo_19 : decode cX5_undo 19 = .ok (.athrow, 1) := by decide +kernel
theorem dX5_undo_20 : decode cX5_undo 20 = .ok (.aload_n 0, 1) := by decide +kernel
theorem dX5_undo_21 : decode cX5_undo 21 = .ok (.getfield 25, 3) := by decide +kernel
theorem dX5_undo_24 : decode cX5_undo 24 = .ok (.aload_n 0, 1) := by decide +kernel
theorem dX5_undo_25 : decode cX5_undo 25 = .ok (.getfield 10, 3) := by decide +kernel
theorem dX5_undo_28 : decode cX5_undo 28 = .ok (.invokevirtual 190, 3) := by decide +kernel
theorem dX5_undo_31 : decode cX5_undo 31 = .ok (.aload_n 0, 1) := by decide +kernel
theorem dX5_undo_32 : decode cX5_undo 32 = .ok (.getfield 25, 3) := by decide +kernel
theorem dX5_undo_35 : decode cX5_undo 35 = .ok (.getfield 193, 3) := by decide +kernel
theorem dX5_undo_38 : decode cX5_undo 38 = .ok (.ireturn, 1) := by decide +kernel
theorem dX5_clock_0 : decode cX5_clock 0 = .ok (.iload_n 1, 1) := by decide +kernel
theorem dX5_clock_1 : decode cX5_clock 1 = .ok (.invokestatic 55, 3) := by decide +kernel
theorem dX5_clock_4 : decode cX5_clock 4 = .ok (.ifCond .ne 13, 3) := by decide +kernel
theorem dX5_clock_7 : decode cX5_clock 7 = .ok (.new 58, 3) := by decide +kernel
theorem dX5_clock_10 : decode cX5_clock 10 = .ok (.dup, 1) := by decide +kernel
theorem dX5_clock_11 : decode cX5_clock 11 = .ok (.ldc 60, 2) := by decide +kernel
theorem dX5_clock_13 : decode cX5_clock 13 = .ok (.invokespecial 62, 3) := by decide +kernel
theorem dX5_clock_16 : decode cX5_clock 16 = .ok (.athrow, 1) := by decide +kernel
theorem dX5_clock_17 : decode cX5_clock 17 = .ok (.iload_n 2, 1) := by decide +kernel
theorem dX5_clock_18 : decode cX5_clock 18 = .ok (.ifCond .lt 9, 3) := by decide +kernel
theorem dX5_clock_21 : decode cX5_clock 21 = .ok (.iload_n 2, 1) := by decide +kernel
theorem dX5_clock_22 : decode cX5_clock 22 = .ok (.bipush 10, 2) := by decide +kernel
theorem dX5_clock_24 : decode cX5_clock 24 = .ok (.if_icmp .le 13, 3) := by decide +kernel
theorem dX5_clock_27 : decode cX5_clock 27 = .ok (.new 40, 3) := by decide +kernel
theorem dX5_clock_30 : decode cX5_clock 30 = .ok (.dup, 1) := by decide +kernel
theorem dX5_clock_31 : decode cX5_clock 31 = .ok (.ldc 196, 2) := by decide +kernel
theorem dX5_clock_33 : decode cX5_clock 33 = .ok (.invokespecial 44, 3) := by decide +kernel
theorem dX5_clock_36 : decode cX5_clock 36 = .ok (.athrow, 1) := by decide +kernel
theorem dX5_clock_37 : decode cX5_clock 37 = .ok (.aload_n 0, 1) := by decide +kernel
theorem dX5_clock_38 : decode cX5_clock 38 = .ok (.getfield 10, 3) := by decide +kernel
theorem dX5_clock_41 : decode cX5_clock 41 = .ok (.iload_n 1, 1) := by decide +kernel
theorem dX5_clock_42 : decode cX5_clock 42 = .ok (.iload_n 2, 1) := by decide +kernel
theorem dX5_clock_43 : decode cX5_clock 43 = .ok (.invokevirtual 198, 3) := by decide +kernel
theorem dX5_clock_46 : decode cX5_clock 46 = .ok (.ireturn, 1) := by decide +kernel
theorem dX5_pair_0 : decode cX5_pair 0 = .ok (.iload_n 1, 1) := by decide +kernel
theorem dX5_pair_1 : decode cX5_pair 1 = .ok (.iload_n 2, 1) := by decide +kernel
theorem dX5_pair_2 : decode cX5_pair 2 = .ok (.invokestatic 202, 3) := by decide +kernel
theorem dX5_pair_5 : decode cX5_pair 5 = .ok (.ifCond .ne 13, 3) := by decide +kernel
theorem dX5_pair_8 : decode cX5_pair 8 = .ok (.new 58, 3) := by decide +kernel
theorem dX5_pair_11 : decode cX5_pair 11 = .ok (.dup, 1) := by decide +kernel
theorem dX5_pair_12 : decode cX5_pair 12 = .ok (.ldc 205, 2) := by decide +kernel
theorem dX5_pair_14 : decode cX5_pair 14 = .ok (.invokespecial 62, 3) := by decide +kernel
theorem dX5_pair_17 : decode cX5_pair 17 = .ok (.athrow, 1) := by decide +kernel
theorem dX5_pair_18 : decode cX5_pair 18 = .ok (.iload_n 3, 1) := by decide +kernel
theorem dX5_pair_19 : decode cX5_pair 19 = .ok (.ifCond .lt 8, 3) := by decide +kernel
theorem dX5_pair_22 : decode cX5_pair 22 = .ok (.iload_n 3, 1) := by decide +kernel
theorem dX5_pair_23 : decode cX5_pair 23 = .ok (.iconst 2, 1) := by decide +kernel
theorem dX5_pair_24 : decode cX5_pair 24 = .ok (.if_icmp .le 13, 3) := by decide +kernel
theorem dX5_pair_27 : decode cX5_pair 27 = .ok (.new 40, 3) := by decide +kernel
theorem dX5_pair_30 : decode cX5_pair 30 = .ok (.dup, 1) := by decide +kernel
theorem dX5_pair_31 : decode cX5_pair 31 = .ok (.ldc 207, 2) := by decide +kernel
theorem dX5_pair_33 : decode cX5_pair 33 = .ok (.invokespecial 44, 3) := by decide +kernel
theorem dX5_pair_36 : decode cX5_pair 36 = .ok (.athrow, 1) := by decide +kernel
theorem dX5_pair_37 : decode cX5_pair 37 = .ok (.aload_n 0, 1) := by decide +kernel
theorem dX5_pair_38 : decode cX5_pair 38 = .ok (.getfield 10, 3) := by decide +kernel
theorem dX5_pair_41 : decode cX5_pair 41 = .ok (.iload_n 1, 1) := by decide +kernel
theorem dX5_pair_42 : decode cX5_pair 42 = .ok (.iload_n 2, 1) := by decide +kernel
theorem dX5_pair_43 : decode cX5_pair 43 = .ok (.iload_n 3, 1) := by decide +kernel
theorem dX5_pair_44 : decode cX5_pair 44 = .ok (.invokevirtual 209, 3) := by decide +kernel
theorem dX5_pair_47 : decode cX5_pair 47 = .ok (.ireturn, 1) := by decide +kernel
theorem dX5_beam_0 : decode cX5_beam 0 = .ok (.iload_n 1, 1) := by decide +kernel
theorem dX5_beam_1 : decode cX5_beam 1 = .ok (.invokestatic 73, 3) := by decide +kernel
theorem dX5_beam_4 : decode cX5_beam 4 = .ok (.ifCond .ne 13, 3) := by decide +kernel
theorem dX5_beam_7 : decode cX5_beam 7 = .ok (.new 58, 3) := by decide +kernel
theorem dX5_beam_10 : decode cX5_beam 10 = .ok (.dup, 1) := by decide +kernel
theorem dX5_beam_11 : decode cX5_beam 11 = .ok (.ldc 76, 2) := by decide +kernel
theorem dX5_beam_13 : decode cX5_beam 13 = .ok (.invokespecial 62, 3) := by decide +kernel
theorem dX5_beam_16 : decode cX5_beam 16 = .ok (.athrow, 1) := by decide +kernel
theorem dX5_beam_17 : decode cX5_beam 17 = .ok (.iload_n 2, 1) := by decide +kernel
theorem dX5_beam_18 : decode cX5_beam 18 = .ok (.ifCond .lt 8, 3) := by decide +kernel
theorem dX5_beam_21 : decode cX5_beam 21 = .ok (.iload_n 2, 1) := by decide +kernel
theorem dX5_beam_22 : decode cX5_beam 22 = .ok (.iconst 4, 1) := by decide +kernel
theorem dX5_beam_23 : decode cX5_beam 23 = .ok (.if_icmp .le 13, 3) := by decide +kernel
theorem dX5_beam_26 : decode cX5_beam 26 = .ok (.new 40, 3) := by decide +kernel
theorem dX5_beam_29 : decode cX5_beam 29 = .ok (.dup, 1) := by decide +kernel
theorem dX5_beam_30 : decode cX5_beam 30 = .ok (.ldc 213, 2) := by decide +kernel
theorem dX5_beam_32 : decode cX5_beam 32 = .ok (.invokespecial 44, 3) := by decide +kernel
theorem dX5_beam_35 : decode cX5_beam 35 = .ok (.athrow, 1) := by decide +kernel
theorem dX5_beam_36 : decode cX5_beam 36 = .ok (.aload_n 0, 1) := by decide +kernel
theorem dX5_beam_37 : decode cX5_beam 37 = .ok (.getfield 10, 3) := by decide +kernel
theorem dX5_beam_40 : decode cX5_beam 40 = .ok (.iload_n 1, 1) := by decide +kernel
theorem dX5_beam_41 : decode cX5_beam 41 = .ok (.iload_n 2, 1) := by decide +kernel
theorem dX5_beam_42 : decode cX5_beam 42 = .ok (.invokevirtual 215, 3) := by decide +kernel
theorem dX5_beam_45 : decode cX5_beam 45 = .ok (.ireturn, 1) := by decide +kernel
theorem dX5_count_0 : decode cX5_count 0 = .ok (.iload_n 1, 1) := by decide +kernel
theorem dX5_count_1 : decode cX5_count 1 = .ok (.ifCond .lt 9, 3) := by decide +kernel
theorem dX5_count_4 : decode cX5_count 4 = .ok (.iload_n 1, 1) := by decide +kernel
theorem dX5_count_5 : decode cX5_count 5 = .ok (.bipush 9, 2) := by decide +kernel
theorem dX5_count_7 : decode cX5_count 7 = .ok (.if_icmp .le 13, 3) := by decide +kernel
theorem dX5_count_10 : decode cX5_count 10 = .ok (.new 40, 3) := by decide +kernel
theorem dX5_count_13 : decode cX5_count 13 = .ok (.dup, 1) := by decide +kernel
theorem dX5_count_14 : decode cX5_count 14 = .ok (.ldc 218, 2) := by decide +kernel
theorem dX5_count_16 : decode cX5_count 16 = .ok (.invokespecial 44, 3) := by decide +kernel
theorem dX5_count_19 : decode cX5_count 19 = .ok (.athrow, 1) := by decide +kernel
theorem dX5_count_20 : decode cX5_count 20 = .ok (.aload_n 0, 1) := by decide +kernel
theorem dX5_count_21 : decode cX5_count 21 = .ok (.getfield 10, 3) := by decide +kernel
theorem dX5_count_24 : decode cX5_count 24 = .ok (.iload_n 1, 1) := by decide +kernel
theorem dX5_count_25 : decode cX5_count 25 = .ok (.aload_n 0, 1) := by decide +kernel
theorem dX5_count_26 : decode cX5_count 26 = .ok (.getfield 25, 3) := by decide +kernel
theorem dX5_count_29 : decode cX5_count 29 = .ok (.getfield 193, 3) := by decide +kernel
theorem dX5_count_32 : decode cX5_count 32 = .ok (.invokevirtual 220, 3) := by decide +kernel
theorem dX5_count_35 : decode cX5_count 35 = .ok (.ireturn, 1) := by decide +kernel
theorem dX5_setting_0 : decode cX5_setting 0 = .ok (.iload_n 1, 1) := by decide +kernel
theorem dX5_setting_1 : decode cX5_setting 1 = .ok (.invokestatic 115, 3) := by decide +kernel
theorem dX5_setting_4 : decode cX5_setting 4 = .ok (.ifCond .ne 13, 3) := by decide +kernel
theorem dX5_setting_7 : decode cX5_setting 7 = .ok (.new 58, 3) := by decide +kernel
theorem dX5_setting_10 : decode cX5_setting 10 = .ok (.dup, 1) := by decide +kernel
theorem dX5_setting_11 : decode cX5_setting 11 = .ok (.ldc 118, 2) := by decide +kernel
theorem dX5_setting_13 : decode cX5_setting 13 = .ok (.invokespecial 62, 3) := by decide +kernel
theorem dX5_setting_16 : decode cX5_setting 16 = .ok (.athrow, 1) := by decide +kernel
theorem dX5_setting_17 : decode cX5_setting 17 = .ok (.aload_n 0, 1) := by decide +kernel
theorem dX5_setting_18 : decode cX5_setting 18 = .ok (.getfield 10, 3) := by decide +kernel
theorem dX5_setting_21 : decode cX5_setting 21 = .ok (.getfield 128, 3) := by decide +kernel
theorem dX5_setting_24 : decode cX5_setting 24 = .ok (.iload_n 1, 1) := by decide +kernel
theorem dX5_setting_25 : decode cX5_setting 25 = .ok (.iaload, 1) := by decide +kernel
theorem dX5_setting_26 : decode cX5_setting 26 = .ok (.ireturn, 1) := by decide +kernel
theorem dX5_ifPassed_0 : decode cX5_ifPassed 0 = .ok (.iload_n 2, 1) := by decide +kernel
theorem dX5_ifPassed_1 : decode cX5_ifPassed 1 = .ok (.invokestatic 55, 3) := by decide +kernel
theorem dX5_ifPassed_4 : decode cX5_ifPassed 4 = .ok (.ifCond .ne 13, 3) := by decide +kernel
theorem dX5_ifPassed_7 : decode cX5_ifPassed 7 = .ok (.new 58, 3) := by decide +kernel
theorem dX5_ifPassed_10 : decode cX5_ifPassed 10 = .ok (.dup, 1) := by decide +kernel
theorem dX5_ifPassed_11 : decode cX5_ifPassed 11 = .ok (.ldc 60, 2) := by decide +kernel
theorem dX5_ifPassed_13 : decode cX5_ifPassed 13 = .ok (.invokespecial 62, 3) := by decide +kernel
theorem dX5_ifPassed_16 : decode cX5_ifPassed 16 = .ok (.athrow, 1) := by decide +kernel
theorem dX5_ifPassed_17 : decode cX5_ifPassed 17 = .ok (.iload_n 1, 1) := by decide +kernel
theorem dX5_ifPassed_18 : decode cX5_ifPassed 18 = .ok (.invokestatic 36, 3) := by decide +kernel
theorem dX5_ifPassed_21 : decode cX5_ifPassed 21 = .ok (.ifCond .ne 13, 3) := by decide +kernel
theorem dX5_ifPassed_24 : decode cX5_ifPassed 24 = .ok (.new 40, 3) := by decide +kernel
theorem dX5_ifPassed_27 : decode cX5_ifPassed 27 = .ok (.dup, 1) := by decide +kernel
theorem dX5_ifPassed_28 : decode cX5_ifPassed 28 = .ok (.ldc 42, 2) := by decide +kernel
theorem dX5_ifPassed_30 : decode cX5_ifPassed 30 = .ok (.invokespecial 44, 3) := by decide +kernel
theorem dX5_ifPassed_33 : decode cX5_ifPassed 33 = .ok (.athrow, 1) := by decide +kernel
theorem dX5_ifPassed_34 : decode cX5_ifPassed 34 = .ok (.iload_n 3, 1) := by decide +kernel
theorem dX5_ifPassed_35 : decode cX5_ifPassed 35 = .ok (.ifCond .lt 8, 3) := by decide +kernel
theorem dX5_ifPassed_38 : decode cX5_ifPassed 38 = .ok (.iload_n 3, 1) := by decide +kernel
theorem dX5_ifPassed_39 : decode cX5_ifPassed 39 = .ok (.iconst 2, 1) := by decide +kernel
theorem dX5_ifPassed_40 : decode cX5_ifPassed 40 = .ok (.if_icmp .le 13, 3) := by decide +kernel
theorem dX5_ifPassed_43 : decode cX5_ifPassed 43 = .ok (.new 40, 3) := by decide +kernel
theorem dX5_ifPassed_46 : decode cX5_ifPassed 46 = .ok (.dup, 1) := by decide +kernel
theorem dX5_ifPassed_47 : decode cX5_ifPassed 47 = .ok (.ldc 207, 2) := by decide +kernel
theorem dX5_ifPassed_49 : decode cX5_ifPassed 49 = .ok (.invokespecial 44, 3) := by decide +kernel
theorem dX5_ifPassed_52 : decode cX5_ifPassed 52 = .ok (.athrow, 1) := by decide +kernel
theorem dX5_ifPassed_53 : decode cX5_ifPassed 53 = .ok (.aload_n 0, 1) := by decide +kernel
theorem dX5_ifPassed_54 : decode cX5_ifPassed 54 = .ok (.iload_n 1, 1) := by decide +kernel
theorem dX5_ifPassed_55 : decode cX5_ifPassed 55 = .ok (.invokevirtual 223, 3) := by decide +kernel
theorem dX5_ifPassed_58 : decode cX5_ifPassed 58 = .ok (.aload_n 0, 1) := by decide +kernel
theorem dX5_ifPassed_59 : decode cX5_ifPassed 59 = .ok (.iload_n 2, 1) := by decide +kernel
theorem dX5_ifPassed_60 : decode cX5_ifPassed 60 = .ok (.iload_n 3, 1) := by decide +kernel
theorem dX5_ifPassed_61 : decode cX5_ifPassed 61 = .ok (.invokevirtual 226, 3) := by decide +kernel
theorem dX5_ifPassed_64 : decode cX5_ifPassed 64 = .ok (.ireturn, 1) := by decide +kernel
theorem dX5_lockedIn_0 : decode cX5_lockedIn 0 = .ok (.iload_n 1, 1) := by decide +kernel
theorem dX5_lockedIn_1 : decode cX5_lockedIn 1 = .ok (.iload_n 2, 1) := by decide +kernel
theorem dX5_lockedIn_2 : decode cX5_lockedIn 2 = .ok (.invokestatic 202, 3) := by decide +kernel
theorem dX5_lockedIn_5 : decode cX5_lockedIn 5 = .ok (.ifCond .ne 13, 3) := by decide +kernel
theorem dX5_lockedIn_8 : decode cX5_lockedIn 8 = .ok (.new 58, 3) := by decide +kernel
theorem dX5_lockedIn_11 : decode cX5_lockedIn 11 = .ok (.dup, 1) := by decide +kernel
theorem dX5_lockedIn_12 : decode cX5_lockedIn 12 = .ok (.ldc 205, 2) := by decide +kernel
theorem dX5_lockedIn_14 : decode cX5_lockedIn 14 = .ok (.invokespecial 62, 3) := by decide +kernel
theorem dX5_lockedIn_17 : decode cX5_lockedIn 17 = .ok (.athrow, 1) := by decide +kernel
theorem dX5_lockedIn_18 : decode cX5_lockedIn 18 = .ok (.aload_n 0, 1) := by decide +kernel
theorem dX5_lockedIn_19 : decode cX5_lockedIn 19 = .ok (.iload_n 1, 1) := by decide +kernel
theorem dX5_lockedIn_20 : decode cX5_lockedIn 20 = .ok (.iload_n 2, 1) := by decide +kernel
theorem dX5_lockedIn_21 : decode cX5_lockedIn 21 = .ok (.invokevirtual 229, 3) := by decide +kernel
theorem dX5_lockedIn_24 : decode cX5_lockedIn 24 = .ok (.ireturn, 1) := by decide +kernel
theorem dX5_bestGive_0 : decode cX5_bestGive 0 = .ok (.iload_n 1, 1) := by decide +kernel
theorem dX5_bestGive_1 : decode cX5_bestGive 1 = .ok (.invokestatic 73, 3) := by decide +kernel
theorem dX5_bestGive_4 : decode cX5_bestGive 4 = .ok (.ifCond .ne 13, 3) := by decide +kernel
theorem dX5_bestGive_7 : decode cX5_bestGive 7 = .ok (.new 58, 3) := by decide +kernel
theorem dX5_bestGive_10 : decode cX5_bestGive 10 = .ok (.dup, 1) := by decide +kernel
theorem dX5_bestGive_11 : decode cX5_bestGive 11 = .ok (.ldc 76, 2) := by decide +kernel
theorem dX5_bestGive_13 : decode cX5_bestGive 13 = .ok (.invokespecial 62, 3) := by decide +kernel
theorem dX5_bestGive_16 : decode cX5_bestGive 16 = .ok (.athrow, 1) := by decide +kernel
theorem dX5_bestGive_17 : decode cX5_bestGive 17 = .ok (.iconst 0, 1) := by decide +kernel
theorem dX5_bestGive_18 : decode cX5_bestGive 18 = .ok (.istore_n 2, 1) := by decide +kernel
theorem dX5_bestGive_19 : decode cX5_bestGive 19 = .ok (.bipush 9, 2) := by decide +kernel
theorem dX5_bestGive_21 : decode cX5_bestGive 21 = .ok (.istore_n 3, 1) := by decide +kernel
theorem dX5_bestGive_22 : decode cX5_bestGive 22 = .ok (.iconst 0, 1) := by decide +kernel
theorem dX5_bestGive_23 : decode cX5_bestGive 23 = .ok (.istore 4, 2) := by decide +kernel
theorem dX5_bestGive_25 : decode cX5_bestGive 25 = .ok (.iload 4, 2) := by decide +kernel
theorem dX5_bestGive_27 : decode cX5_bestGive 27 = .ok (.bipush 20, 2) := by decide +kernel
theorem dX5_bestGive_29 : decode cX5_bestGive 29 = .ok (.if_icmp .gt 30, 3) := by decide +kernel
theorem dX5_bestGive_32 : decode cX5_bestGive 32 = .ok (.aload_n 0, 1) := by decide +kernel
theorem dX5_bestGive_33 : decode cX5_bestGive 33 = .ok (.iload_n 1, 1) := by decide +kernel
theorem dX5_bestGive_34 : decode cX5_bestGive 34 = .ok (.iload 4, 2) := by decide +kernel
theorem dX5_bestGive_36 : decode cX5_bestGive 36 = .ok (.invokevirtual 232, 3) := by decide +kernel
theorem dX5_bestGive_39 : decode cX5_bestGive 39 = .ok (.istore 5, 2) := by decide +kernel
theorem dX5_bestGive_41 : decode cX5_bestGive 41 = .ok (.iload 5, 2) := by decide +kernel
theorem dX5_bestGive_43 : decode cX5_bestGive 43 = .ok (.iload_n 3, 1) := by decide +kernel
theorem dX5_bestGive_44 : decode cX5_bestGive 44 = .ok (.if_icmp .ge 9, 3) := by decide +kernel
theorem dX5_bestGive_47 : decode cX5_bestGive 47 = .ok (.iload 5, 2) := by decide +kernel
theorem dX5_bestGive_49 : decode cX5_bestGive 49 = .ok (.istore_n 3, 1) := by decide +kernel
theorem dX5_bestGive_50 : decode cX5_bestGive 50 = .ok (.iload 4, 2) := by decide +kernel
theorem dX5_bestGive_52 : decode cX5_bestGive 52 = .ok (.istore_n 2, 1) := by decide +kernel
theorem dX5_bestGive_53 : decode cX5_bestGive 53 = .ok (.iinc 4 1, 3) := by decide +kernel
theorem dX5_bestGive_56 : decode cX5_bestGive 56 = .ok (.goto (-31), 3) := by decide +kernel
theorem dX5_bestGive_59 : decode cX5_bestGive 59 = .ok (.iload_n 2, 1) := by decide +kernel
theorem dX5_bestGive_60 : decode cX5_bestGive 60 = .ok (.ireturn, 1) := by decide +kernel
theorem dX5_nextStrike_0 : decode cX5_nextStrike 0 = .ok (.aload_n 0, 1) := by decide +kernel
theorem dX5_nextStrike_1 : decode cX5_nextStrike 1 = .ok (.getfield 16, 3) := by decide +kernel
theorem dX5_nextStrike_4 : decode cX5_nextStrike 4 = .ok (.aload_n 0, 1) := by decide +kernel
theorem dX5_nextStrike_5 : decode cX5_nextStrike 5 = .ok (.getfield 10, 3) := by decide +kernel
theorem dX5_nextStrike_8 : decode cX5_nextStrike 8 = .ok (.invokevirtual 173, 3) := by decide +kernel
theorem dX5_nextStrike_11 : decode cX5_nextStrike 11 = .ok (.iconst 1, 1) := by decide +kernel
theorem dX5_nextStrike_12 : decode cX5_nextStrike 12 = .ok (.istore_n 1, 1) := by decide +kernel
theorem dX5_nextStrike_13 : decode cX5_nextStrike 13 = .ok (.iload_n 1, 1) := by decide +kernel
theorem dX5_nextStrike_14 : decode cX5_nextStrike 14 = .ok (.sipush 500, 3) := by decide +kernel
theorem dX5_nextStrike_17 : decode cX5_nextStrike 17 = .ok (.if_icmp .gt 21, 3) := by decide +kernel
theorem dX5_nextStrike_20 : decode cX5_nextStrike 20 = .ok (.aload_n 0, 1) := by decide +kernel
theorem dX5_nextStrike_21 : decode cX5_nextStrike 21 = .ok (.getfield 16, 3) := by decide +kernel
theorem dX5_nextStrike_24 : decode cX5_nextStrike 24 = .ok (.invokevirtual 235, 3) := by decide +kernel
theorem dX5_nextStrike_27 : decode cX5_nextStrike 27 = .ok (.ifCond .le 5, 3) := by decide +kernel
theorem dX5_nextStrike_30 : decode cX5_nextStrike 30 = .ok (.iload_n 1, 1) := by decide +kernel
theorem dX5_nextStrike_31 : decode cX5_nextStrike 31 = .ok (.ireturn, 1) := by decide +kernel
theorem dX5_nextStrike_32 : decode cX5_nextStrike 32 = .ok (.iinc 1 1, 3) := by decide +kernel
theorem dX5_nextStrike_35 : decode cX5_nextStrike 35 = .ok (.goto (-22), 3) := by decide +kernel
theorem dX5_nextStrike_38 : decode cX5_nextStrike 38 = .ok (.iconst (-1), 1) := by decide +kernel
theorem dX5_nextStrike_39 : decode cX5_nextStrike 39 = .ok (.ireturn, 1) := by decide +kernel
theorem dX5_stepShare_0 : decode cX5_stepShare 0 = .ok (.aload_n 0, 1) := by decide +kernel
theorem dX5_stepShare_1 : decode cX5_stepShare 1 = .ok (.getfield 10, 3) := by decide +kernel
theorem dX5_stepShare_4 : decode cX5_stepShare 4 = .ok (.invokevirtual 238, 3) := by decide +kernel
theorem dX5_stepShare_7 : decode cX5_stepShare 7 = .ok (.i2d, 1) := by decide +kernel
theorem dX5_stepShare_8 : decode cX5_stepShare 8 = .ok (.ldc2_w 241, 3) := by decide +kernel
theorem dX5_stepShare_11 : decode cX5_stepShare 11 = .ok (.ddiv, 1) := by decide +kernel
theorem dX5_stepShare_12 : decode cX5_stepShare 12 = .ok (.dreturn, 1) := by decide +kernel
theorem dX5_meanGap_0 : decode cX5_meanGap 0 = .ok (.iconst 0, 1) := by decide +kernel
theorem dX5_meanGap_1 : decode cX5_meanGap 1 = .ok (.istore_n 1, 1) := by decide +kernel
theorem dX5_meanGap_2 : decode cX5_meanGap 2 = .ok (.iconst 0, 1) := by decide +kernel
theorem dX5_meanGap_3 : decode cX5_meanGap 3 = .ok (.istore_n 2, 1) := by decide +kernel
theorem dX5_meanGap_4 : decode cX5_meanGap 4 = .ok (.iload_n 2, 1) := by decide +kernel
theorem dX5_meanGap_5 : decode cX5_meanGap 5 = .ok (.iconst 3, 1) := by decide +kernel
theorem dX5_meanGap_6 : decode cX5_meanGap 6 = .ok (.if_icmp .ge 20, 3) := by decide +kernel
theorem dX5_meanGap_9 : decode cX5_meanGap 9 = .ok (.iload_n 1, 1) := by decide +kernel
theorem dX5_meanGap_10 : decode cX5_meanGap 10 = .ok (.aload_n 0, 1) := by decide +kernel
theorem dX5_meanGap_11 : decode cX5_meanGap 11 = .ok (.getfield 10, 3) := by decide +kernel
theorem dX5_meanGap_14 : decode cX5_meanGap 14 = .ok (.iload_n 2, 1) := by decide +kernel
theorem dX5_meanGap_15 : decode cX5_meanGap 15 = .ok (.invokevirtual 243, 3) := by decide +kernel
theorem dX5_meanGap_18 : decode cX5_meanGap 18 = .ok (.iadd, 1) := by decide +kernel
theorem dX5_meanGap_19 : decode cX5_meanGap 19 = .ok (.istore_n 1, 1) := by decide +kernel
theorem dX5_meanGap_20 : decode cX5_meanGap 20 = .ok (.iinc 2 1, 3) := by decide +kernel
theorem dX5_meanGap_23 : decode cX5_meanGap 23 = .ok (.goto (-19), 3) := by decide +kernel
theorem dX5_meanGap_26 : decode cX5_meanGap 26 = .ok (.iload_n 1, 1) := by decide +kernel
theorem dX5_meanGap_27 : decode cX5_meanGap 27 = .ok (.i2f, 1) := by decide +kernel
theorem dX5_meanGap_28 : decode cX5_meanGap 28 = .ok (.ldc 246, 2) := by decide +kernel
theorem dX5_meanGap_30 : decode cX5_meanGap 30 = .ok (.fdiv, 1) := by decide +kernel
theorem dX5_meanGap_31 : decode cX5_meanGap 31 = .ok (.freturn, 1) := by decide +kernel
theorem dX5_digest_0 : decode cX5_digest 0 = .ok (.aload_n 0, 1) := by decide +kernel
theorem dX5_digest_1 : decode cX5_digest 1 = .ok (.ldc2_w 247, 3) := by decide +kernel
theorem dX5_digest_4 : decode cX5_digest 4 = .ok (.invokevirtual 249, 3) := by decide +kernel
theorem dX5_digest_7 : decode cX5_digest 7 = .ok (.lstore_n 1, 1) := by decide +kernel
theorem dX5_digest_8 : decode cX5_digest 8 = .ok (.aload_n 0, 1) := by decide +kernel
theorem dX5_digest_9 : decode cX5_digest 9 = .ok (.lload_n 1, 1) := by decide +kernel
theorem dX5_digest_10 : decode cX5_digest 10 = .ok (.invokevirtual 253, 3) := by decide +kernel
theorem dX5_digest_13 : decode cX5_digest 13 = .ok (.lstore_n 1, 1) := by decide +kernel
theorem dX5_digest_14 : decode cX5_digest 14 = .ok (.aload_n 0, 1) := by decide +kernel
theorem dX5_digest_15 : decode cX5_digest 15 = .ok (.bipush 20, 2) := by decide +kernel
theorem dX5_digest_17 : decode cX5_digest 17 = .ok (.invokevirtual 223, 3) := by decide +kernel
theorem dX5_digest_20 : decode cX5_digest 20 = .ok (.aload_n 0, 1) := by decide +kernel
theorem dX5_digest_21 : decode cX5_digest 21 = .ok (.lload_n 1, 1) := by decide +kernel
theorem dX5_digest_22 : decode cX5_digest 22 = .ok (.invokevirtual 256, 3) := by decide +kernel
theorem dX5_digest_25 : decode cX5_digest 25 = .ok (.lstore_n 1, 1) := by decide +kernel
theorem dX5_digest_26 : decode cX5_digest 26 = .ok (.lload_n 1, 1) := by decide +kernel
theorem dX5_digest_27 : decode cX5_digest 27 = .ok (.aload_n 0, 1) := by decide +kernel
theorem dX5_digest_28 : decode cX5_digest 28 = .ok (.iconst 0, 1) := by decide +kernel
theorem dX5_digest_29 : decode cX5_digest 29 = .ok (.iconst 3, 1) := by decide +kernel
theorem dX5_digest_30 : decode cX5_digest 30 = .ok (.invokevirtual 229, 3) := by decide +kernel
theorem dX5_digest_33 : decode cX5_digest 33 = .ok (.i2l, 1) := by decide +kernel
theorem dX5_digest_34 : decode cX5_digest 34 = .ok (.invokestatic 259, 3) := by decide +kernel
theorem dX5_digest_37 : decode cX5_digest 37 = .ok (.lstore_n 1, 1) := by decide +kernel
theorem dX5_digest_38 : decode cX5_digest 38 = .ok (.lload_n 1, 1) := by decide +kernel
theorem dX5_digest_39 : decode cX5_digest 39 = .ok (.aload_n 0, 1) := by decide +kernel
theorem dX5_digest_40 : decode cX5_digest 40 = .ok (.invokevirtual 263, 3) := by decide +kernel
theorem dX5_digest_43 : decode cX5_digest 43 = .ok (.i2l, 1) := by decide +kernel
theorem dX5_digest_44 : decode cX5_digest 44 = .ok (.invokestatic 259, 3) := by decide +kernel
theorem dX5_digest_47 : decode cX5_digest 47 = .ok (.lstore_n 1, 1) := by decide +kernel
theorem dX5_digest_48 : decode cX5_digest 48 = .ok (.lload_n 1, 1) := by decide +kernel
theorem dX5_digest_49 : decode cX5_digest 49 = .ok (.aload_n 0, 1) := by decide +kernel
theorem dX5_digest_50 : decode cX5_digest 50 = .ok (.invokevirtual 266, 3) := by decide +kernel
theorem dX5_digest_53 : decode cX5_digest 53 = .ok (.invokestatic 270, 3) := by decide +kernel
theorem dX5_digest_56 : decode cX5_digest 56 = .ok (.invokestatic 259, 3) := by decide +kernel
theorem dX5_digest_59 : decode cX5_digest 59 = .ok (.lstore_n 1, 1) := by decide +kernel
theorem dX5_digest_60 : decode cX5_digest 60 = .ok (.lload_n 1, 1) := by decide +kernel
theorem dX5_digest_61 : decode cX5_digest 61 = .ok (.aload_n 0, 1) := by decide +kernel
theorem dX5_digest_62 : decode cX5_digest 62 = .ok (.invokevirtual 274, 3) := by decide +kernel
theorem dX5_digest_65 : decode cX5_digest 65 = .ok (.invokestatic 278, 3) := by decide +kernel
theorem dX5_digest_68 : decode cX5_digest 68 = .ok (.i2l, 1) := by decide +kernel
theorem dX5_digest_69 : decode cX5_digest 69 = .ok (.invokestatic 259, 3) := by decide +kernel
theorem dX5_digest_72 : decode cX5_digest 72 = .ok (.lstore_n 1, 1) := by decide +kernel
theorem dX5_digest_73 : decode cX5_digest 73 = .ok (.lload_n 1, 1) := by decide +kernel
theorem dX5_digest_74 : decode cX5_digest 74 = .ok (.aload_n 0, 1) := by decide +kernel
theorem dX5_digest_75 : decode cX5_digest 75 = .ok (.getfield 176, 3) := by decide +kernel
theorem dX5_digest_78 : decode cX5_digest 78 = .ok (.ifCond .eq 7, 3) := by decide +kernel
theorem dX5_digest_81 : decode cX5_digest 81 = .ok (.lconst 1, 1) := by decide +kernel
theorem dX5_digest_82 : decode cX5_digest 82 = .ok (.goto 4, 3) := by decide +kernel
theorem dX5_digest_85 : decode cX5_digest 85 = .ok (.lconst 0, 1) := by decide +kernel
theorem dX5_digest_86 : decode cX5_digest 86 = .ok (.invokestatic 259, 3) := by decide +kernel
theorem dX5_digest_89 : decode cX5_digest 89 = .ok (.lstore_n 1, 1) := by decide +kernel
theorem dX5_digest_90 : decode cX5_digest 90 = .ok (.aload_n 0, 1) := by decide +kernel
theorem dX5_digest_91 : decode cX5_digest 91 = .ok (.lload_n 1, 1) := by decide +kernel
theorem dX5_digest_92 : decode cX5_digest 92 = .ok (.invokevirtual 282, 3) := by decide +kernel
theorem dX5_digest_95 : decode cX5_digest 95 = .ok (.lreturn, 1) := by decide +kernel
theorem dX5_isClock_0 : decode cX5_isClock 0 = .ok (.iload_n 0, 1) := by decide +kernel
theorem dX5_isClock_1 : decode cX5_isClock 1 = .ok (.ifCond .lt 13, 3) := by decide +kernel
theorem dX5_isClock_4 : decode cX5_isClock 4 = .ok (.iload_n 0, 1) := by decide +kernel
theorem dX5_isClock_5 : decode cX5_isClock 5 = .ok (.bipush 8, 2) := by decide +kernel
theorem dX5_isClock_7 : decode cX5_isClock 7 = .ok (.if_icmp .ge 7, 3) := by decide +kernel
theorem dX5_isClock_10 : decode cX5_isClock 10 = .ok (.iconst 1, 1) := by decide +kernel
theorem dX5_isClock_11 : decode cX5_isClock 11 = .ok (.goto 4, 3) := by decide +kernel
theorem dX5_isClock_14 : decode cX5_isClock 14 = .ok (.iconst 0, 1) := by decide +kernel
theorem dX5_isClock_15 : decode cX5_isClock 15 = .ok (.ireturn, 1) := by decide +kernel
theorem dX5_isPair_0 : decode cX5_isPair 0 = .ok (.iload_n 0, 1) := by decide +kernel
theorem dX5_isPair_1 : decode cX5_isPair 1 = .ok (.invokestatic 55, 3) := by decide +kernel
theorem dX5_isPair_4 : decode cX5_isPair 4 = .ok (.ifCond .eq 19, 3) := by decide +kernel
theorem dX5_isPair_7 : decode cX5_isPair 7 = .ok (.iload_n 1, 1) := by decide +kernel
theorem dX5_isPair_8 : decode cX5_isPair 8 = .ok (.invokestatic 55, 3) := by decide +kernel
theorem dX5_isPair_11 : decode cX5_isPair 11 = .ok (.ifCond .eq 12, 3) := by decide +kernel
theorem dX5_isPair_14 : decode cX5_isPair 14 = .ok (.iload_n 0, 1) := by decide +kernel
theorem dX5_isPair_15 : decode cX5_isPair 15 = .ok (.iload_n 1, 1) := by decide +kernel
theorem dX5_isPair_16 : decode cX5_isPair 16 = .ok (.if_icmp .eq 7, 3) := by decide +kernel
theorem dX5_isPair_19 : decode cX5_isPair 19 = .ok (.iconst 1, 1) := by decide +kernel
theorem dX5_isPair_20 : decode cX5_isPair 20 = .ok (.goto 4, 3) := by decide +kernel
theorem dX5_isPair_23 : decode cX5_isPair 23 = .ok (.iconst 0, 1) := by decide +kernel
theorem dX5_isPair_24 : decode cX5_isPair 24 = .ok (.ireturn, 1) := by decide +kernel
theorem dX5_isBeam_0 : decode cX5_isBeam 0 = .ok (.iload_n 0, 1) := by decide +kernel
theorem dX5_isBeam_1 : decode cX5_isBeam 1 = .ok (.ifCond .lt 12, 3) := by decide +kernel
theorem dX5_isBeam_4 : decode cX5_isBeam 4 = .ok (.iload_n 0, 1) := by decide +kernel
theorem dX5_isBeam_5 : decode cX5_isBeam 5 = .ok (.iconst 3, 1) := by decide +kernel
theorem dX5_isBeam_6 : decode cX5_isBeam 6 = .ok (.if_icmp .ge 7, 3) := by decide +kernel
theorem dX5_isBeam_9 : decode cX5_isBeam 9 = .ok (.iconst 1, 1) := by decide +kernel
theorem dX5_isBeam_10 : decode cX5_isBeam 10 = .ok (.goto 4, 3) := by decide +kernel
theorem dX5_isBeam_13 : decode cX5_isBeam 13 = .ok (.iconst 0, 1) := by decide +kernel
theorem dX5_isBeam_14 : decode cX5_isBeam 14 = .ok (.ireturn, 1) := by decide +kernel
theorem dX5_isSetting_0 : decode cX5_isSetting 0 = .ok (.iload_n 0, 1) := by decide +kernel
theorem dX5_isSetting_1 : decode cX5_isSetting 1 = .ok (.ifCond .lt 12, 3) := by decide +kernel
theorem dX5_isSetting_4 : decode cX5_isSetting 4 = .ok (.iload_n 0, 1) := by decide +kernel
theorem dX5_isSetting_5 : decode cX5_isSetting 5 = .ok (.iconst 3, 1) := by decide +kernel
theorem dX5_isSetting_6 : decode cX5_isSetting 6 = .ok (.if_icmp .ge 7, 3) := by decide +kernel
theorem dX5_isSetting_9 : decode cX5_isSetting 9 = .ok (.iconst 1, 1) := by decide +kernel
theorem dX5_isSetting_10 : decode cX5_isSetting 10 = .ok (.goto 4, 3) := by decide +kernel
theorem dX5_isSetting_13 : decode cX5_isSetting 13 = .ok (.iconst 0, 1) := by decide +kernel
theorem dX5_isSetting_14 : decode cX5_isSetting 14 = .ok (.ireturn, 1) := by decide +kernel
theorem dX5_areTicksOfACall_0 : decode cX5_areTicksOfACall 0 = .ok (.iload_n 0, 1) := by decide +kernel
theorem dX5_areTicksOfACall_1 : decode cX5_areTicksOfACall 1 = .ok (.iconst 1, 1) := by decide +kernel
theorem dX5_areTicksOfACall_2 : decode cX5_areTicksOfACall 2 = .ok (.if_icmp .lt 14, 3) := by decide +kernel
theorem dX5_areTicksOfACall_5 : decode cX5_areTicksOfACall 5 = .ok (.iload_n 0, 1) := by decide +kernel
theorem dX5_areTicksOfACall_6 : decode cX5_areTicksOfACall 6 = .ok (.sipush 200, 3) := by decide +kernel
theorem dX5_areTicksOfACall_9 : decode cX5_areTicksOfACall 9 = .ok (.if_icmp .gt 7, 3) := by decide +kernel
theorem dX5_areTicksOfACall_12 : decode cX5_areTicksOfACall 12 = .ok (.iconst 1, 1) := by decide +kernel
theorem dX5_areTicksOfACall_13 : decode cX5_areTicksOfACall 13 = .ok (.goto 4, 3) := by decide +kernel
theorem dX5_areTicksOfACall_16 : decode cX5_areTicksOfACall 16 = .ok (.iconst 0, 1) := by decide +kernel
theorem dX5_areTicksOfACall_17 : decode cX5_areTicksOfACall 17 = .ok (.ireturn, 1) := by decide +kernel
theorem dX5_leastOfSetting_0 : decode cX5_leastOfSetting 0 = .ok (.iload_n 0, 1) := by decide +kernel
theorem dX5_leastOfSetting_1 : decode cX5_leastOfSetting 1 = .ok (.iconst 2, 1) := by decide +kernel
theorem dX5_leastOfSetting_2 : decode cX5_leastOfSetting 2 = .ok (.if_icmp .ne 7, 3) := by decide +kernel
theorem dX5_leastOfSetting_5 : decode cX5_leastOfSetting 5 = .ok (.iconst 1, 1) := by decide +kernel
theorem dX5_leastOfSetting_6 : decode cX5_leastOfSetting 6 = .ok (.goto 4, 3) := by decide +kernel
theorem dX5_leastOfSetting_9 : decode cX5_leastOfSetting 9 = .ok (.iconst 0, 1) := by decide +kernel
theorem dX5_leastOfSetting_10 : decode cX5_leastOfSetting 10 = .ok (.ireturn, 1) := by decide +kernel
theorem dX5_mostOfSetting_0 : decode cX5_mostOfSetting 0 = .ok (.iload_n 0, 1) := by decide +kernel
theorem dX5_mostOfSetting_1 : decode cX5_mostOfSetting 1 = .ok (.iconst 1, 1) := by decide +kernel
theorem dX5_mostOfSetting_2 : decode cX5_mostOfSetting 2 = .ok (.if_icmp .ne 9, 3) := by decide +kernel
theorem dX5_mostOfSetting_5 : decode cX5_mostOfSetting 5 = .ok (.sipush 200, 3) := by decide +kernel
theorem dX5_mostOfSetting_8 : decode cX5_mostOfSetting 8 = .ok (.goto 5, 3) := by decide +kernel
theorem dX5_mostOfSetting_11 : decode cX5_mostOfSetting 11 = .ok (.bipush 50, 2) := by decide +kernel
theorem dX5_mostOfSetting_13 : decode cX5_mostOfSetting 13 = .ok (.ireturn, 1) := by decide +kernel
theorem dX5_doesOrder_0 : decode cX5_doesOrder 0 = .ok (.aload_n 0, 1) := by decide +kernel
theorem dX5_doesOrder_1 : decode cX5_doesOrder 1 = .ok (.getfield 32, 3) := by decide +kernel
theorem dX5_doesOrder_4 : decode cX5_doesOrder 4 = .ok (.getfield 285, 3) := by decide +kernel
theorem dX5_doesOrder_7 : decode cX5_doesOrder 7 = .ok (.istore_n 1, 1) := by decide +kernel
theorem dX5_doesOrder_8 : decode cX5_doesOrder 8 = .ok (.aload_n 0, 1) := by decide +kernel
theorem dX5_doesOrder_9 : decode cX5_doesOrder 9 = .ok (.getfield 32, 3) := by decide +kernel
theorem dX5_doesOrder_12 : decode cX5_doesOrder 12 = .ok (.getfield 288, 3) := by decide +kernel
theorem dX5_doesOrder_15 : decode cX5_doesOrder 15 = .ok (.istore_n 2, 1) := by decide +kernel
theorem dX5_doesOrder_16 : decode cX5_doesOrder 16 = .ok (.aload_n 0, 1) := by decide +kernel
theorem dX5_doesOrder_17 : decode cX5_doesOrder 17 = .ok (.getfield 32, 3) := by decide +kernel
theorem dX5_doesOrder_20 : decode cX5_doesOrder 20 = .ok (.getfield 291, 3) := by decide +kernel
theorem dX5_doesOrder_23 : decode cX5_doesOrder 23 = .ok (.lookupswitch 101 #[(98, 59), (107, 33), (119, 91)], 33) := by decide +kernel
theorem dX5_doesOrder_56 : decode cX5_doesOrder 56 = .ok (.aload_n 0, 1) := by decide +kernel
theorem dX5_doesOrder_57 : decode cX5_doesOrder 57 = .ok (.getfield 10, 3) := by decide +kernel
theorem dX5_doesOrder_60 : decode cX5_doesOrder 60 = .ok (.iload_n 1, 1) := by decide +kernel
theorem dX5_doesOrder_61 : decode cX5_doesOrder 61 = .ok (.aload_n 0, 1) := by decide +kernel
theorem dX5_doesOrder_62 : decode cX5_doesOrder 62 = .ok (.getfield 32, 3) := by decide +kernel
theorem dX5_doesOrder_65 : decode cX5_doesOrder 65 = .ok (.getfield 294, 3) := by decide +kernel
theorem dX5_doesOrder_68 : decode cX5_doesOrder 68 = .ok (.ifCond .eq 8, 3) := by decide +kernel
theorem dX5_doesOrder_71 : decode cX5_doesOrder 71 = .ok (.iload_n 2, 1) := by decide +kernel
theorem dX5_doesOrder_72 : decode cX5_doesOrder 72 = .ok (.ineg, 1) := by decide +kernel
theorem dX5_doesOrder_73 : decode cX5_doesOrder 73 = .ok (.goto 4, 3) := by decide +kernel
theorem dX5_doesOrder_76 : decode cX5_doesOrder 76 = .ok (.iload_n 2, 1) := by decide +kernel
theorem dX5_doesOrder_77 : decode cX5_doesOrder 77 = .ok (.invokevirtual 65, 3) := by decide +kernel
theorem dX5_doesOrder_80 : decode cX5_doesOrder 80 = .ok (.iconst 1, 1) := by decide +kernel
theorem dX5_doesOrder_81 : decode cX5_doesOrder 81 = .ok (.ireturn, 1) := by decide +kernel
theorem dX5_doesOrder_82 : decode cX5_doesOrder 82 = .ok (.iload_n 2, 1) := by decide +kernel
theorem dX5_doesOrder_83 : decode cX5_doesOrder 83 = .ok (.invokestatic 73, 3) := by decide +kernel
theorem dX5_doesOrder_86 : decode cX5_doesOrder 86 = .ok (.ifCond .eq 15, 3) := by decide +kernel
theorem dX5_doesOrder_89 : decode cX5_doesOrder 89 = .ok (.aload_n 0, 1) := by decide +kernel
theorem dX5_doesOrder_90 : decode cX5_doesOrder 90 = .ok (.getfield 10, 3) := by decide +kernel
theorem dX5_doesOrder_93 : decode cX5_doesOrder 93 = .ok (.iload_n 1, 1) := by decide +kernel
theorem dX5_doesOrder_94 : decode cX5_doesOrder 94 = .ok (.iload_n 2, 1) := by decide +kernel
theorem dX5_doesOrder_95 : decode cX5_doesOrder 95 = .ok (.invokevirtual 78, 3) := by decide +kernel
theorem dX5_doesOrder_98 : decode cX5_doesOrder 98 = .ok (.ifCond .eq 5, 3) := by decide +kernel
theorem dX5_doesOrder_101 : decode cX5_doesOrder 101 = .ok (.iconst 0, 1) := by decide +kernel
theorem dX5_doesOrder_102 : decode cX5_doesOrder 102 = .ok (.ireturn, 1) := by decide +kernel
theorem dX5_doesOrder_103 : decode cX5_doesOrder 103 = .ok (.aload_n 0, 1) := by decide +kernel
theorem dX5_doesOrder_104 : decode cX5_doesOrder 104 = .ok (.getfield 10, 3) := by decide +kernel
theorem dX5_doesOrder_107 : decode cX5_doesOrder 107 = .ok (.iload_n 1, 1) := by decide +kernel
theorem dX5_doesOrder_108 : decode cX5_doesOrder 108 = .ok (.iload_n 2, 1) := by decide +kernel
theorem dX5_doesOrder_109 : decode cX5_doesOrder 109 = .ok (.invokevirtual 87, 3) := by decide +kernel
theorem dX5_doesOrder_112 : decode cX5_doesOrder 112 = .ok (.iconst 1, 1) := by decide +kernel
theorem dX5_doesOrder_113 : decode cX5_doesOrder 113 = .ok (.ireturn, 1) := by decide +kernel
theorem dX5_doesOrder_114 : decode cX5_doesOrder 114 = .ok (.aload_n 0, 1) := by decide +kernel
theorem dX5_doesOrder_115 : decode cX5_doesOrder 115 = .ok (.getfield 10, 3) := by decide +kernel
theorem dX5_doesOrder_118 : decode cX5_doesOrder 118 = .ok (.iload_n 1, 1) := by decide +kernel
theorem dX5_doesOrder_119 : decode cX5_doesOrder 119 = .ok (.invokevirtual 101, 3) := by decide +kernel
theorem dX5_doesOrder_122 : decode cX5_doesOrder 122 = .ok (.iconst 1, 1) := by decide +kernel
theorem dX5_doesOrder_123 : decode cX5_doesOrder 123 = .ok (.ireturn, 1) := by decide +kernel
theorem dX5_doesOrder_124 : decode cX5_doesOrder 124 = .ok (.aload_n 0, 1) := by decide +kernel
theorem dX5_doesOrder_125 : decode cX5_doesOrder 125 = .ok (.getfield 10, 3) := by decide +kernel
theorem dX5_doesOrder_128 : decode cX5_doesOrder 128 = .ok (.iload_n 2, 1) := by decide +kernel
theorem dX5_doesOrder_129 : decode cX5_doesOrder 129 = .ok (.invokevirtual 51, 3) := by decide +kernel
theorem dX5_doesOrder_132 : decode cX5_doesOrder 132 = .ok (.pop, 1) := by decide +kernel
theorem dX5_doesOrder_133 : decode cX5_doesOrder 133 = .ok (.iconst 1, 1) := by decide +kernel
theorem dX5_doesOrder_134 : decode cX5_doesOrder 134 = .ok (.ireturn, 1) := by decide +kernel
theorem dX5_tryTicks_0 : decode cX5_tryTicks 0 = .ok (.aload_n 0, 1) := by decide +kernel
theorem dX5_tryTicks_1 : decode cX5_tryTicks 1 = .ok (.getfield 16, 3) := by decide +kernel
theorem dX5_tryTicks_4 : decode cX5_tryTicks 4 = .ok (.aload_n 0, 1) := by decide +kernel
theorem dX5_tryTicks_5 : decode cX5_tryTicks 5 = .ok (.getfield 10, 3) := by decide +kernel
theorem dX5_tryTicks_8 : decode cX5_tryTicks 8 = .ok (.invokevirtual 173, 3) := by decide +kernel
theorem dX5_tryTicks_11 : decode cX5_tryTicks 11 = .ok (.aload_n 0, 1) := by decide +kernel
theorem dX5_tryTicks_12 : decode cX5_tryTicks 12 = .ok (.getfield 16, 3) := by decide +kernel
theorem dX5_tryTicks_15 : decode cX5_tryTicks 15 = .ok (.iload_n 1, 1) := by decide +kernel
theorem dX5_tryTicks_16 : decode cX5_tryTicks 16 = .ok (.invokevirtual 51, 3) := by decide +kernel
theorem dX5_tryTicks_19 : decode cX5_tryTicks 19 = .ok (.pop, 1) := by decide +kernel
theorem dX5_tryTicks_20 : decode cX5_tryTicks 20 = .ok (.return_, 1) := by decide +kernel
theorem dX5_triedNumber_0 : decode cX5_triedNumber 0 = .ok (.iload_n 2, 1) := by decide +kernel
theorem dX5_triedNumber_1 : decode cX5_triedNumber 1 = .ok (.lookupswitch 57 #[(0, 27), (1, 37)], 27) := by decide +kernel
theorem dX5_triedNumber_28 : decode cX5_triedNumber 28 = .ok (.aload_n 0, 1) := by decide +kernel
theorem dX5_triedNumber_29 : decode cX5_triedNumber 29 = .ok (.getfield 16, 3) := by decide +kernel
theorem dX5_triedNumber_32 : decode cX5_triedNumber 32 = .ok (.getfield 69, 3) := by decide +kernel
theorem dX5_triedNumber_35 : decode cX5_triedNumber 35 = .ok (.iload_n 1, 1) := by decide +kernel
theorem dX5_triedNumber_36 : decode cX5_triedNumber 36 = .ok (.iaload, 1) := by decide +kernel
theorem dX5_triedNumber_37 : decode cX5_triedNumber 37 = .ok (.ireturn, 1) := by decide +kernel
theorem dX5_triedNumber_38 : decode cX5_triedNumber 38 = .ok (.aload_n 0, 1) := by decide +kernel
theorem dX5_triedNumber_39 : decode cX5_triedNumber 39 = .ok (.getfield 16, 3) := by decide +kernel
theorem dX5_triedNumber_42 : decode cX5_triedNumber 42 = .ok (.getfield 297, 3) := by decide +kernel
theorem dX5_triedNumber_45 : decode cX5_triedNumber 45 = .ok (.iload_n 1, 1) := by decide +kernel
theorem dX5_triedNumber_46 : decode cX5_triedNumber 46 = .ok (.iaload, 1) := by decide +kernel
theorem dX5_triedNumber_47 : decode cX5_triedNumber 47 = .ok (.aload_n 0, 1) := by decide +kernel
theorem dX5_triedNumber_48 : decode cX5_triedNumber 48 = .ok (.getfield 10, 3) := by decide +kernel
theorem dX5_triedNumber_51 : decode cX5_triedNumber 51 = .ok (.getfield 297, 3) := by decide +kernel
theorem dX5_triedNumber_54 : decode cX5_triedNumber 54 = .ok (.iload_n 1, 1) := by decide +kernel
theorem dX5_triedNumber_55 : decode cX5_triedNumber 55 = .ok (.iaload, 1) := by decide +kernel
theorem dX5_triedNumber_56 : decode cX5_triedNumber 56 = .ok (.isub, 1) := by decide +kernel
theorem dX5_triedNumber_57 : decode cX5_triedNumber 57 = .ok (.ireturn, 1) := by decide +kernel
theorem dX5_triedNumber_58 : decode cX5_triedNumber 58 = .ok (.aload_n 0, 1) := by decide +kernel
theorem dX5_triedNumber_59 : decode cX5_triedNumber 59 = .ok (.getfield 16, 3) := by decide +kernel
theorem dX5_triedNumber_62 : decode cX5_triedNumber 62 = .ok (.iload_n 1, 1) := by decide +kernel
theorem dX5_triedNumber_63 : decode cX5_triedNumber 63 = .ok (.invokevirtual 300, 3) := by decide +kernel
theorem dX5_triedNumber_66 : decode cX5_triedNumber 66 = .ok (.ireturn, 1) := by decide +kernel
theorem dX5_ticksUntilLocked_0 : decode cX5_ticksUntilLocked 0 = .ok (.aload_n 0, 1) := by decide +kernel
theorem dX5_ticksUntilLocked_1 : decode cX5_ticksUntilLocked 1 = .ok (.getfield 16, 3) := by decide +kernel
theorem dX5_ticksUntilLocked_4 : decode cX5_ticksUntilLocked 4 = .ok (.aload_n 0, 1) := by decide +kernel
theorem dX5_ticksUntilLocked_5 : decode cX5_ticksUntilLocked 5 = .ok (.getfield 10, 3) := by decide +kernel
theorem dX5_ticksUntilLocked_8 : decode cX5_ticksUntilLocked 8 = .ok (.invokevirtual 173, 3) := by decide +kernel
theorem dX5_ticksUntilLocked_11 : decode cX5_ticksUntilLocked 11 = .ok (.iconst 0, 1) := by decide +kernel
theorem dX5_ticksUntilLocked_12 : decode cX5_ticksUntilLocked 12 = .ok (.istore_n 3, 1) := by decide +kernel
theorem dX5_ticksUntilLocked_13 : decode cX5_ticksUntilLocked 13 = .ok (.iload_n 3, 1) := by decide +kernel
theorem dX5_ticksUntilLocked_14 : decode cX5_ticksUntilLocked 14 = .ok (.sipush 500, 3) := by decide +kernel
theorem dX5_ticksUntilLocked_17 : decode cX5_ticksUntilLocked 17 = .ok (.if_icmp .ge 31, 3) := by decide +kernel
theorem dX5_ticksUntilLocked_20 : decode cX5_ticksUntilLocked 20 = .ok (.aload_n 0, 1) := by decide +kernel
theorem dX5_ticksUntilLocked_21 : decode cX5_ticksUntilLocked 21 = .ok (.getfield 16, 3) := by decide +kernel
theorem dX5_ticksUntilLocked_24 : decode cX5_ticksUntilLocked 24 = .ok (.iload_n 1, 1) := by decide +kernel
theorem dX5_ticksUntilLocked_25 : decode cX5_ticksUntilLocked 25 = .ok (.iload_n 2, 1) := by decide +kernel
theorem dX5_ticksUntilLocked_26 : decode cX5_ticksUntilLocked 26 = .ok (.invokevirtual 303, 3) := by decide +kernel
theorem dX5_ticksUntilLocked_29 : decode cX5_ticksUntilLocked 29 = .ok (.ifCond .eq 5, 3) := by decide +kernel
theorem dX5_ticksUntilLocked_32 : decode cX5_ticksUntilLocked 32 = .ok (.iload_n 3, 1) := by decide +kernel
theorem dX5_ticksUntilLocked_33 : decode cX5_ticksUntilLocked 33 = .ok (.ireturn, 1) := by decide +kernel
theorem dX5_ticksUntilLocked_34 : decode cX5_ticksUntilLocked 34 = .ok (.aload_n 0, 1) := by decide +kernel
theorem dX5_ticksUntilLocked_35 : decode cX5_ticksUntilLocked 35 = .ok (.getfield 16, 3) := by decide +kernel
theorem dX5_ticksUntilLocked_38 : decode cX5_ticksUntilLocked 38 = .ok (.invokevirtual 235, 3) := by decide +kernel
theorem dX5_ticksUntilLocked_41 : decode cX5_ticksUntilLocked 41 = .ok (.pop, 1) := by decide +kernel
theorem dX5_ticksUntilLocked_42 : decode cX5_ticksUntilLocked 42 = .ok (.iinc 3 1, 3) := by decide +kernel
theorem dX5_ticksUntilLocked_45 : decode cX5_ticksUntilLocked 45 = .ok (.goto (-32), 3) := by decide +kernel
theorem dX5_ticksUntilLocked_48 : decode cX5_ticksUntilLocked 48 = .ok (.aload_n 0, 1) := by decide +kernel
theorem dX5_ticksUntilLocked_49 : decode cX5_ticksUntilLocked 49 = .ok (.getfield 16, 3) := by decide +kernel
theorem dX5_ticksUntilLocked_52 : decode cX5_ticksUntilLocked 52 = .ok (.iload_n 1, 1) := by decide +kernel
theorem dX5_ticksUntilLocked_53 : decode cX5_ticksUntilLocked 53 = .ok (.iload_n 2, 1) := by decide +kernel
theorem dX5_ticksUntilLocked_54 : decode cX5_ticksUntilLocked 54 = .ok (.invokevirtual 303, 3) := by decide +kernel
theorem dX5_ticksUntilLocked_57 : decode cX5_ticksUntilLocked 57 = .ok (.ifCond .eq 9, 3) := by decide +kernel
theorem dX5_ticksUntilLocked_60 : decode cX5_ticksUntilLocked 60 = .ok (.sipush 500, 3) := by decide +kernel
theorem dX5_ticksUntilLocked_63 : decode cX5_ticksUntilLocked 63 = .ok (.goto 4, 3) := by decide +kernel
theorem dX5_ticksUntilLocked_66 : decode cX5_ticksUntilLocked 66 = .ok (.iconst (-1), 1) := by decide +kernel
theorem dX5_ticksUntilLocked_67 : decode cX5_ticksUntilLocked 67 = .ok (.ireturn, 1) := by decide +kernel
theorem dX5_groupsWithGive_0 : decode cX5_groupsWithGive 0 = .ok (.aload_n 0, 1) := by decide +kernel
theorem dX5_groupsWithGive_1 : decode cX5_groupsWithGive 1 = .ok (.getfield 16, 3) := by decide +kernel
theorem dX5_groupsWithGive_4 : decode cX5_groupsWithGive 4 = .ok (.aload_n 0, 1) := by decide +kernel
theorem dX5_groupsWithGive_5 : decode cX5_groupsWithGive 5 = .ok (.getfield 10, 3) := by decide +kernel
theorem dX5_groupsWithGive_8 : decode cX5_groupsWithGive 8 = .ok (.invokevirtual 173, 3) := by decide +kernel
theorem dX5_groupsWithGive_11 : decode cX5_groupsWithGive 11 = .ok (.aload_n 0, 1) := by decide +kernel
theorem dX5_groupsWithGive_12 : decode cX5_groupsWithGive 12 = .ok (.getfield 16, 3) := by decide +kernel
theorem dX5_groupsWithGive_15 : decode cX5_groupsWithGive 15 = .ok (.getfield 112, 3) := by decide +kernel
theorem dX5_groupsWithGive_18 : decode cX5_groupsWithGive 18 = .ok (.iload_n 1, 1) := by decide +kernel
theorem dX5_groupsWithGive_19 : decode cX5_groupsWithGive 19 = .ok (.iload_n 2, 1) := by decide +kernel
theorem dX5_groupsWithGive_20 : decode cX5_groupsWithGive 20 = .ok (.iastore, 1) := by decide +kernel
theorem dX5_groupsWithGive_21 : decode cX5_groupsWithGive 21 = .ok (.aload_n 0, 1) := by decide +kernel
theorem dX5_groupsWithGive_22 : decode cX5_groupsWithGive 22 = .ok (.getfield 16, 3) := by decide +kernel
theorem dX5_groupsWithGive_25 : decode cX5_groupsWithGive 25 = .ok (.bipush 100, 2) := by decide +kernel
theorem dX5_groupsWithGive_27 : decode cX5_groupsWithGive 27 = .ok (.invokevirtual 51, 3) := by decide +kernel
theorem dX5_groupsWithGive_30 : decode cX5_groupsWithGive 30 = .ok (.pop, 1) := by decide +kernel
theorem dX5_groupsWithGive_31 : decode cX5_groupsWithGive 31 = .ok (.aload_n 0, 1) := by decide +kernel
theorem dX5_groupsWithGive_32 : decode cX5_groupsWithGive 32 = .ok (.getfield 16, 3) := by decide +kernel
theorem dX5_groupsWithGive_35 : decode cX5_groupsWithGive 35 = .ok (.invokevirtual 306, 3) := by decide +kernel
theorem dX5_groupsWithGive_38 : decode cX5_groupsWithGive 38 = .ok (.ireturn, 1) := by decide +kernel
theorem dX5_hashWith_0 : decode cX5_hashWith 0 = .ok (.ldc2_w 309, 3) := by decide +kernel
theorem dX5_hashWith_3 : decode cX5_hashWith 3 = .ok (.lload_n 0, 1) := by decide +kernel
theorem dX5_hashWith_4 : decode cX5_hashWith 4 = .ok (.lmul, 1) := by decide +kernel
theorem dX5_hashWith_5 : decode cX5_hashWith 5 = .ok (.lload_n 2, 1) := by decide +kernel
theorem dX5_hashWith_6 : decode cX5_hashWith 6 = .ok (.ladd, 1) := by decide +kernel
theorem dX5_hashWith_7 : decode cX5_hashWith 7 = .ok (.lreturn, 1) := by decide +kernel
theorem dX5_hashOfCounts_0 : decode cX5_hashOfCounts 0 = .ok (.lload_n 1, 1) := by decide +kernel
theorem dX5_hashOfCounts_1 : decode cX5_hashOfCounts 1 = .ok (.lstore_n 3, 1) := by decide +kernel
theorem dX5_hashOfCounts_2 : decode cX5_hashOfCounts 2 = .ok (.iconst 0, 1) := by decide +kernel
theorem dX5_hashOfCounts_3 : decode cX5_hashOfCounts 3 = .ok (.istore 5, 2) := by decide +kernel
theorem dX5_hashOfCounts_5 : decode cX5_hashOfCounts 5 = .ok (.iload 5, 2) := by decide +kernel
theorem dX5_hashOfCounts_7 : decode cX5_hashOfCounts 7 = .ok (.bipush 9, 2) := by decide +kernel
theorem dX5_hashOfCounts_9 : decode cX5_hashOfCounts 9 = .ok (.if_icmp .gt 31, 3) := by decide +kernel
theorem dX5_hashOfCounts_12 : decode cX5_hashOfCounts 12 = .ok (.lload_n 3, 1) := by decide +kernel
theorem dX5_hashOfCounts_13 : decode cX5_hashOfCounts 13 = .ok (.aload_n 0, 1) := by decide +kernel
theorem dX5_hashOfCounts_14 : decode cX5_hashOfCounts 14 = .ok (.getfield 10, 3) := by decide +kernel
theorem dX5_hashOfCounts_17 : decode cX5_hashOfCounts 17 = .ok (.iload 5, 2) := by decide +kernel
theorem dX5_hashOfCounts_19 : decode cX5_hashOfCounts 19 = .ok (.aload_n 0, 1) := by decide +kernel
theorem dX5_hashOfCounts_20 : decode cX5_hashOfCounts 20 = .ok (.getfield 25, 3) := by decide +kernel
theorem dX5_hashOfCounts_23 : decode cX5_hashOfCounts 23 = .ok (.getfield 193, 3) := by decide +kernel
theorem dX5_hashOfCounts_26 : decode cX5_hashOfCounts 26 = .ok (.invokevirtual 220, 3) := by decide +kernel
theorem dX5_hashOfCounts_29 : decode cX5_hashOfCounts 29 = .ok (.i2l, 1) := by decide +kernel
theorem dX5_hashOfCounts_30 : decode cX5_hashOfCounts 30 = .ok (.invokestatic 259, 3) := by decide +kernel
theorem dX5_hashOfCounts_33 : decode cX5_hashOfCounts 33 = .ok (.lstore_n 3, 1) := by decide +kernel
theorem dX5_hashOfCounts_34 : decode cX5_hashOfCounts 34 = .ok (.iinc 5 1, 3) := by decide +kernel
theorem dX5_hashOfCounts_37 : decode cX5_hashOfCounts 37 = .ok (.goto (-32), 3) := by decide +kernel
theorem dX5_hashOfCounts_40 : decode cX5_hashOfCounts 40 = .ok (.iconst 0, 1) := by decide +kernel
theorem dX5_hashOfCounts_41 : decode cX5_hashOfCounts 41 = .ok (.istore 5, 2) := by decide +kernel
theorem dX5_hashOfCounts_43 : decode cX5_hashOfCounts 43 = .ok (.iload 5, 2) := by decide +kernel
theorem dX5_hashOfCounts_45 : decode cX5_hashOfCounts 45 = .ok (.iconst 3, 1) := by decide +kernel
theorem dX5_hashOfCounts_46 : decode cX5_hashOfCounts 46 = .ok (.if_icmp .ge 25, 3) := by decide +kernel
theorem dX5_hashOfCounts_49 : decode cX5_hashOfCounts 49 = .ok (.lload_n 3, 1) := by decide +kernel
theorem dX5_hashOfCounts_50 : decode cX5_hashOfCounts 50 = .ok (.aload_n 0, 1) := by decide +kernel
theorem dX5_hashOfCounts_51 : decode cX5_hashOfCounts 51 = .ok (.getfield 10, 3) := by decide +kernel
theorem dX5_hashOfCounts_54 : decode cX5_hashOfCounts 54 = .ok (.getfield 128, 3) := by decide +kernel
theorem dX5_hashOfCounts_57 : decode cX5_hashOfCounts 57 = .ok (.iload 5, 2) := by decide +kernel
theorem dX5_hashOfCounts_59 : decode cX5_hashOfCounts 59 = .ok (.iaload, 1) := by decide +kernel
theorem dX5_hashOfCounts_60 : decode cX5_hashOfCounts 60 = .ok (.i2l, 1) := by decide +kernel
theorem dX5_hashOfCounts_61 : decode cX5_hashOfCounts 61 = .ok (.invokestatic 259, 3) := by decide +kernel
theorem dX5_hashOfCounts_64 : decode cX5_hashOfCounts 64 = .ok (.lstore_n 3, 1) := by decide +kernel
theorem dX5_hashOfCounts_65 : decode cX5_hashOfCounts 65 = .ok (.iinc 5 1, 3) := by decide +kernel
theorem dX5_hashOfCounts_68 : decode cX5_hashOfCounts 68 = .ok (.goto (-25), 3) := by decide +kernel
theorem dX5_hashOfCounts_71 : decode cX5_hashOfCounts 71 = .ok (.lload_n 3, 1) := by decide +kernel
theorem dX5_hashOfCounts_72 : decode cX5_hashOfCounts 72 = .ok (.lreturn, 1) := by decide +kernel
theorem dX5_hashOfParts_0 : decode cX5_hashOfParts 0 = .ok (.lload_n 1, 1) := by decide +kernel
theorem dX5_hashOfParts_1 : decode cX5_hashOfParts 1 = .ok (.lstore_n 3, 1) := by decide +kernel
theorem dX5_hashOfParts_2 : decode cX5_hashOfParts 2 = .ok (.iconst 0, 1) := by decide +kernel
theorem dX5_hashOfParts_3 : decode cX5_hashOfParts 3 = .ok (.istore 5, 2) := by decide +kernel
theorem dX5_hashOfParts_5 : decode cX5_hashOfParts 5 = .ok (.iload 5, 2) := by decide +kernel
theorem dX5_hashOfParts_7 : decode cX5_hashOfParts 7 = .ok (.bipush 8, 2) := by decide +kernel
theorem dX5_hashOfParts_9 : decode cX5_hashOfParts 9 = .ok (.if_icmp .ge 42, 3) := by decide +kernel
theorem dX5_hashOfParts_12 : decode cX5_hashOfParts 12 = .ok (.iconst 0, 1) := by decide +kernel
theorem dX5_hashOfParts_13 : decode cX5_hashOfParts 13 = .ok (.istore 6, 2) := by decide +kernel
theorem dX5_hashOfParts_15 : decode cX5_hashOfParts 15 = .ok (.iload 6, 2) := by decide +kernel
theorem dX5_hashOfParts_17 : decode cX5_hashOfParts 17 = .ok (.bipush 10, 2) := by decide +kernel
theorem dX5_hashOfParts_19 : decode cX5_hashOfParts 19 = .ok (.if_icmp .gt 26, 3) := by decide +kernel
theorem dX5_hashOfParts_22 : decode cX5_hashOfParts 22 = .ok (.lload_n 3, 1) := by decide +kernel
theorem dX5_hashOfParts_23 : decode cX5_hashOfParts 23 = .ok (.aload_n 0, 1) := by decide +kernel
theorem dX5_hashOfParts_24 : decode cX5_hashOfParts 24 = .ok (.getfield 10, 3) := by decide +kernel
theorem dX5_hashOfParts_27 : decode cX5_hashOfParts 27 = .ok (.iload 5, 2) := by decide +kernel
theorem dX5_hashOfParts_29 : decode cX5_hashOfParts 29 = .ok (.iload 6, 2) := by decide +kernel
theorem dX5_hashOfParts_31 : decode cX5_hashOfParts 31 = .ok (.invokevirtual 198, 3) := by decide +kernel
theorem dX5_hashOfParts_34 : decode cX5_hashOfParts 34 = .ok (.i2l, 1) := by decide +kernel
theorem dX5_hashOfParts_35 : decode cX5_hashOfParts 35 = .ok (.invokestatic 259, 3) := by decide +kernel
theorem dX5_hashOfParts_38 : decode cX5_hashOfParts 38 = .ok (.lstore_n 3, 1) := by decide +kernel
theorem dX5_hashOfParts_39 : decode cX5_hashOfParts 39 = .ok (.iinc 6 1, 3) := by decide +kernel
theorem dX5_hashOfParts_42 : decode cX5_hashOfParts 42 = .ok (.goto (-27), 3) := by decide +kernel
theorem dX5_hashOfParts_45 : decode cX5_hashOfParts 45 = .ok (.iinc 5 1, 3) := by decide +kernel
theorem dX5_hashOfParts_48 : decode cX5_hashOfParts 48 = .ok (.goto (-43), 3) := by decide +kernel
theorem dX5_hashOfParts_51 : decode cX5_hashOfParts 51 = .ok (.iconst 0, 1) := by decide +kernel
theorem dX5_hashOfParts_52 : decode cX5_hashOfParts 52 = .ok (.istore 5, 2) := by decide +kernel
theorem dX5_hashOfParts_54 : decode cX5_hashOfParts 54 = .ok (.iload 5, 2) := by decide +kernel
theorem dX5_hashOfParts_56 : decode cX5_hashOfParts 56 = .ok (.bipush 8, 2) := by decide +kernel
theorem dX5_hashOfParts_58 : decode cX5_hashOfParts 58 = .ok (.if_icmp .ge 62, 3) := by decide +kernel
theorem dX5_hashOfParts_61 : decode cX5_hashOfParts 61 = .ok (.iload 5, 2) := by decide +kernel
theorem dX5_hashOfParts_63 : decode cX5_hashOfParts 63 = .ok (.iconst 1, 1) := by decide +kernel
theorem dX5_hashOfParts_64 : decode cX5_hashOfParts 64 = .ok (.iadd, 1) := by decide +kernel
theorem dX5_hashOfParts_65 : decode cX5_hashOfParts 65 = .ok (.istore 6, 2) := by decide +kernel
theorem dX5_hashOfParts_67 : decode cX5_hashOfParts 67 = .ok (.iload 6, 2) := by decide +kernel
theorem dX5_hashOfParts_69 : decode cX5_hashOfParts 69 = .ok (.bipush 8, 2) := by decide +kernel
theorem dX5_hashOfParts_71 : decode cX5_hashOfParts 71 = .ok (.if_icmp .ge 43, 3) := by decide +kernel
theorem dX5_hashOfParts_74 : decode cX5_hashOfParts 74 = .ok (.iconst 0, 1) := by decide +kernel
theorem dX5_hashOfParts_75 : decode cX5_hashOfParts 75 = .ok (.istore 7, 2) := by decide +kernel
theorem dX5_hashOfParts_77 : decode cX5_hashOfParts 77 = .ok (.iload 7, 2) := by decide +kernel
theorem dX5_hashOfParts_79 : decode cX5_hashOfParts 79 = .ok (.iconst 2, 1) := by decide +kernel
theorem dX5_hashOfParts_80 : decode cX5_hashOfParts 80 = .ok (.if_icmp .gt 28, 3) := by decide +kernel
theorem dX5_hashOfParts_83 : decode cX5_hashOfParts 83 = .ok (.lload_n 3, 1) := by decide +kernel
theorem dX5_hashOfParts_84 : decode cX5_hashOfParts 84 = .ok (.aload_n 0, 1) := by decide +kernel
theorem dX5_hashOfParts_85 : decode cX5_hashOfParts 85 = .ok (.getfield 10, 3) := by decide +kernel
theorem dX5_hashOfParts_88 : decode cX5_hashOfParts 88 = .ok (.iload 5, 2) := by decide +kernel
theorem dX5_hashOfParts_90 : decode cX5_hashOfParts 90 = .ok (.iload 6, 2) := by decide +kernel
theorem dX5_hashOfParts_92 : decode cX5_hashOfParts 92 = .ok (.iload 7, 2) := by decide +kernel
theorem dX5_hashOfParts_94 : decode cX5_hashOfParts 94 = .ok (.invokevirtual 209, 3) := by decide +kernel
theorem dX5_hashOfParts_97 : decode cX5_hashOfParts 97 = .ok (.i2l, 1) := by decide +kernel
theorem dX5_hashOfParts_98 : decode cX5_hashOfParts 98 = .ok (.invokestatic 259, 3) := by decide +kernel
theorem dX5_hashOfParts_101 : decode cX5_hashOfParts 101 = .ok (.lstore_n 3, 1) := by decide +kernel
theorem dX5_hashOfParts_102 : decode cX5_hashOfParts 102 = .ok (.iinc 7 1, 3) := by decide +kernel
theorem dX5_hashOfParts_105 : decode cX5_hashOfParts 105 = .ok (.goto (-28), 3) := by decide +kernel
theorem dX5_hashOfParts_108 : decode cX5_hashOfParts 108 = .ok (.iinc 6 1, 3) := by decide +kernel
theorem dX5_hashOfParts_111 : decode cX5_hashOfParts 111 = .ok (.goto (-44), 3) := by decide +kernel
theorem dX5_hashOfParts_114 : decode cX5_hashOfParts 114 = .ok (.iinc 5 1, 3) := by decide +kernel
theorem dX5_hashOfParts_117 : decode cX5_hashOfParts 117 = .ok (.goto (-63), 3) := by decide +kernel
theorem dX5_hashOfParts_120 : decode cX5_hashOfParts 120 = .ok (.iconst 0, 1) := by decide +kernel
theorem dX5_hashOfParts_121 : decode cX5_hashOfParts 121 = .ok (.istore 5, 2) := by decide +kernel
theorem dX5_hashOfParts_123 : decode cX5_hashOfParts 123 = .ok (.iload 5, 2) := by decide +kernel
theorem dX5_hashOfParts_125 : decode cX5_hashOfParts 125 = .ok (.iconst 3, 1) := by decide +kernel
theorem dX5_hashOfParts_126 : decode cX5_hashOfParts 126 = .ok (.if_icmp .ge 41, 3) := by decide +kernel
theorem dX5_hashOfParts_129 : decode cX5_hashOfParts 129 = .ok (.iconst 0, 1) := by decide +kernel
theorem dX5_hashOfParts_130 : decode cX5_hashOfParts 130 = .ok (.istore 6, 2) := by decide +kernel
theorem dX5_hashOfParts_132 : decode cX5_hashOfParts 132 = .ok (.iload 6, 2) := by decide +kernel
theorem dX5_hashOfParts_134 : decode cX5_hashOfParts 134 = .ok (.iconst 4, 1) := by decide +kernel
theorem dX5_hashOfParts_135 : decode cX5_hashOfParts 135 = .ok (.if_icmp .gt 26, 3) := by decide +kernel
theorem dX5_hashOfParts_138 : decode cX5_hashOfParts 138 = .ok (.lload_n 3, 1) := by decide +kernel
theorem dX5_hashOfParts_139 : decode cX5_hashOfParts 139 = .ok (.aload_n 0, 1) := by decide +kernel
theorem dX5_hashOfParts_140 : decode cX5_hashOfParts 140 = .ok (.getfield 10, 3) := by decide +kernel
theorem dX5_hashOfParts_143 : decode cX5_hashOfParts 143 = .ok (.iload 5, 2) := by decide +kernel
theorem dX5_hashOfParts_145 : decode cX5_hashOfParts 145 = .ok (.iload 6, 2) := by decide +kernel
theorem dX5_hashOfParts_147 : decode cX5_hashOfParts 147 = .ok (.invokevirtual 215, 3) := by decide +kernel
theorem dX5_hashOfParts_150 : decode cX5_hashOfParts 150 = .ok (.i2l, 1) := by decide +kernel
theorem dX5_hashOfParts_151 : decode cX5_hashOfParts 151 = .ok (.invokestatic 259, 3) := by decide +kernel
theorem dX5_hashOfParts_154 : decode cX5_hashOfParts 154 = .ok (.lstore_n 3, 1) := by decide +kernel
theorem dX5_hashOfParts_155 : decode cX5_hashOfParts 155 = .ok (.iinc 6 1, 3) := by decide +kernel
theorem dX5_hashOfParts_158 : decode cX5_hashOfParts 158 = .ok (.goto (-26), 3) := by decide +kernel
theorem dX5_hashOfParts_161 : decode cX5_hashOfParts 161 = .ok (.iinc 5 1, 3) := by decide +kernel
theorem dX5_hashOfParts_164 : decode cX5_hashOfParts 164 = .ok (.goto (-41), 3) := by decide +kernel
theorem dX5_hashOfParts_167 : decode cX5_hashOfParts 167 = .ok (.lload_n 3, 1) := by decide +kernel
theorem dX5_hashOfParts_168 : decode cX5_hashOfParts 168 = .ok (.lreturn, 1) := by decide +kernel
theorem dX5_hashOfTrial_0 : decode cX5_hashOfTrial 0 = .ok (.lload_n 1, 1) := by decide +kernel
theorem dX5_hashOfTrial_1 : decode cX5_hashOfTrial 1 = .ok (.lstore_n 3, 1) := by decide +kernel
theorem dX5_hashOfTrial_2 : decode cX5_hashOfTrial 2 = .ok (.iconst 0, 1) := by decide +kernel
theorem dX5_hashOfTrial_3 : decode cX5_hashOfTrial 3 = .ok (.istore 5, 2) := by decide +kernel
theorem dX5_hashOfTrial_5 : decode cX5_hashOfTrial 5 = .ok (.iload 5, 2) := by decide +kernel
theorem dX5_hashOfTrial_7 : decode cX5_hashOfTrial 7 = .ok (.bipush 8, 2) := by decide +kernel
theorem dX5_hashOfTrial_9 : decode cX5_hashOfTrial 9 = .ok (.if_icmp .ge 38, 3) := by decide +kernel
theorem dX5_hashOfTrial_12 : decode cX5_hashOfTrial 12 = .ok (.iconst 0, 1) := by decide +kernel
theorem dX5_hashOfTrial_13 : decode cX5_hashOfTrial 13 = .ok (.istore 6, 2) := by decide +kernel
theorem dX5_hashOfTrial_15 : decode cX5_hashOfTrial 15 = .ok (.iload 6, 2) := by decide +kernel
theorem dX5_hashOfTrial_17 : decode cX5_hashOfTrial 17 = .ok (.iconst 2, 1) := by decide +kernel
theorem dX5_hashOfTrial_18 : decode cX5_hashOfTrial 18 = .ok (.if_icmp .gt 23, 3) := by decide +kernel
theorem dX5_hashOfTrial_21 : decode cX5_hashOfTrial 21 = .ok (.lload_n 3, 1) := by decide +kernel
theorem dX5_hashOfTrial_22 : decode cX5_hashOfTrial 22 = .ok (.aload_n 0, 1) := by decide +kernel
theorem dX5_hashOfTrial_23 : decode cX5_hashOfTrial 23 = .ok (.iload 5, 2) := by decide +kernel
theorem dX5_hashOfTrial_25 : decode cX5_hashOfTrial 25 = .ok (.iload 6, 2) := by decide +kernel
theorem dX5_hashOfTrial_27 : decode cX5_hashOfTrial 27 = .ok (.invokevirtual 226, 3) := by decide +kernel
theorem dX5_hashOfTrial_30 : decode cX5_hashOfTrial 30 = .ok (.i2l, 1) := by decide +kernel
theorem dX5_hashOfTrial_31 : decode cX5_hashOfTrial 31 = .ok (.invokestatic 259, 3) := by decide +kernel
theorem dX5_hashOfTrial_34 : decode cX5_hashOfTrial 34 = .ok (.lstore_n 3, 1) := by decide +kernel
theorem dX5_hashOfTrial_35 : decode cX5_hashOfTrial 35 = .ok (.iinc 6 1, 3) := by decide +kernel
theorem dX5_hashOfTrial_38 : decode cX5_hashOfTrial 38 = .ok (.goto (-23), 3) := by decide +kernel
theorem dX5_hashOfTrial_41 : decode cX5_hashOfTrial 41 = .ok (.iinc 5 1, 3) := by decide +kernel
theorem dX5_hashOfTrial_44 : decode cX5_hashOfTrial 44 = .ok (.goto (-39), 3) := by decide +kernel
theorem dX5_hashOfTrial_47 : decode cX5_hashOfTrial 47 = .ok (.lload_n 3, 1) := by decide +kernel
theorem dX5_hashOfTrial_48 : decode cX5_hashOfTrial 48 = .ok (.lreturn, 1) := by decide +kernel
theorem dX5_hashOfText_0 : decode cX5_hashOfText 0 = .ok (.lload_n 1, 1) := by decide +kernel
theorem dX5_hashOfText_1 : decode cX5_hashOfText 1 = .ok (.aload_n 0, 1) := by decide +kernel
theorem dX5_hashOfText_2 : decode cX5_hashOfText 2 = .ok (.getfield 32, 3) := by decide +kernel
theorem dX5_hashOfText_5 : decode cX5_hashOfText 5 = .ok (.getfield 142, 3) := by decide +kernel
theorem dX5_hashOfText_8 : decode cX5_hashOfText 8 = .ok (.i2l, 1) := by decide +kernel
theorem dX5_hashOfText_9 : decode cX5_hashOfText 9 = .ok (.invokestatic 259, 3) := by decide +kernel
theorem dX5_hashOfText_12 : decode cX5_hashOfText 12 = .ok (.lstore_n 3, 1) := by decide +kernel
theorem dX5_hashOfText_13 : decode cX5_hashOfText 13 = .ok (.iconst 0, 1) := by decide +kernel
theorem dX5_hashOfText_14 : decode cX5_hashOfText 14 = .ok (.istore 5, 2) := by decide +kernel
theorem dX5_hashOfText_16 : decode cX5_hashOfText 16 = .ok (.iload 5, 2) := by decide +kernel
theorem dX5_hashOfText_18 : decode cX5_hashOfText 18 = .ok (.aload_n 0, 1) := by decide +kernel
theorem dX5_hashOfText_19 : decode cX5_hashOfText 19 = .ok (.getfield 32, 3) := by decide +kernel
theorem dX5_hashOfText_22 : decode cX5_hashOfText 22 = .ok (.getfield 142, 3) := by decide +kernel
theorem dX5_hashOfText_25 : decode cX5_hashOfText 25 = .ok (.if_icmp .ge 24, 3) := by decide +kernel
theorem dX5_hashOfText_28 : decode cX5_hashOfText 28 = .ok (.lload_n 3, 1) := by decide +kernel
theorem dX5_hashOfText_29 : decode cX5_hashOfText 29 = .ok (.aload_n 0, 1) := by decide +kernel
theorem dX5_hashOfText_30 : decode cX5_hashOfText 30 = .ok (.getfield 32, 3) := by decide +kernel
theorem dX5_hashOfText_33 : decode cX5_hashOfText 33 = .ok (.iload 5, 2) := by decide +kernel
theorem dX5_hashOfText_35 : decode cX5_hashOfText 35 = .ok (.invokevirtual 161, 3) := by decide +kernel
theorem dX5_hashOfText_38 : decode cX5_hashOfText 38 = .ok (.i2l, 1) := by decide +kernel
theorem dX5_hashOfText_39 : decode cX5_hashOfText 39 = .ok (.invokestatic 259, 3) := by decide +kernel
theorem dX5_hashOfText_42 : decode cX5_hashOfText 42 = .ok (.lstore_n 3, 1) := by decide +kernel
theorem dX5_hashOfText_43 : decode cX5_hashOfText 43 = .ok (.iinc 5 1, 3) := by decide +kernel
theorem dX5_hashOfText_46 : decode cX5_hashOfText 46 = .ok (.goto (-30), 3) := by decide +kernel
theorem dX5_hashOfText_49 : decode cX5_hashOfText 49 = .ok (.lload_n 3, 1) := by decide +kernel
theorem dX5_hashOfText_50 : decode cX5_hashOfText 50 = .ok (.lreturn, 1) := by decide +kernel
theorem dX5_bitsOfDouble_0 : decode cX5_bitsOfDouble 0 = .ok (.dload_n 0, 1) := by decide +kernel
theorem dX5_bitsOfDouble_1 : decode cX5_bitsOfDouble 1 = .ok (.dstore_n 2, 1) := by decide +kernel
theorem dX5_bitsOfDouble_2 : decode cX5_bitsOfDouble 2 = .ok (.ldc2_w 311, 3) := by decide +kernel
theorem dX5_bitsOfDouble_5 : decode cX5_bitsOfDouble 5 = .ok (.lstore 4, 2) := by decide +kernel
theorem dX5_bitsOfDouble_7 : decode cX5_bitsOfDouble 7 = .ok (.iconst 0, 1) := by decide +kernel
theorem dX5_bitsOfDouble_8 : decode cX5_bitsOfDouble 8 = .ok (.istore 6, 2) := by decide +kernel
theorem dX5_bitsOfDouble_10 : decode cX5_bitsOfDouble 10 = .ok (.iload 6, 2) := by decide +kernel
theorem dX5_bitsOfDouble_12 : decode cX5_bitsOfDouble 12 = .ok (.sipush 1023, 3) := by decide +kernel
theorem dX5_bitsOfDouble_15 : decode cX5_bitsOfDouble 15 = .ok (.if_icmp .ge 27, 3) := by decide +kernel
theorem dX5_bitsOfDouble_18 : decode cX5_bitsOfDouble 18 = .ok (.dload_n 2, 1) := by decide +kernel
theorem dX5_bitsOfDouble_19 : decode cX5_bitsOfDouble 19 = .ok (.dconst 1, 1) := by decide +kernel
theorem dX5_bitsOfDouble_20 : decode cX5_bitsOfDouble 20 = .ok (.dcmp .g, 1) := by decide +kernel
theorem dX5_bitsOfDouble_21 : decode cX5_bitsOfDouble 21 = .ok (.ifCond .ge 21, 3) := by decide +kernel
theorem dX5_bitsOfDouble_24 : decode cX5_bitsOfDouble 24 = .ok (.dload_n 2, 1) := by decide +kernel
theorem dX5_bitsOfDouble_25 : decode cX5_bitsOfDouble 25 = .ok (.ldc2_w 313, 3) := by decide +kernel
theorem dX5_bitsOfDouble_28 : decode cX5_bitsOfDouble 28 = .ok (.dmul, 1) := by decide +kernel
theorem dX5_bitsOfDouble_29 : decode cX5_bitsOfDouble 29 = .ok (.dstore_n 2, 1) := by decide +kernel
theorem dX5_bitsOfDouble_30 : decode cX5_bitsOfDouble 30 = .ok (.lload 4, 2) := by decide +kernel
theorem dX5_bitsOfDouble_32 : decode cX5_bitsOfDouble 32 = .ok (.lconst 1, 1) := by decide +kernel
theorem dX5_bitsOfDouble_33 : decode cX5_bitsOfDouble 33 = .ok (.lsub, 1) := by decide +kernel
theorem dX5_bitsOfDouble_34 : decode cX5_bitsOfDouble 34 = .ok (.lstore 4, 2) := by decide +kernel
theorem dX5_bitsOfDouble_36 : decode cX5_bitsOfDouble 36 = .ok (.iinc 6 1, 3) := by decide +kernel
theorem dX5_bitsOfDouble_39 : decode cX5_bitsOfDouble 39 = .ok (.goto (-29), 3) := by decide +kernel
theorem dX5_bitsOfDouble_42 : decode cX5_bitsOfDouble 42 = .ok (.dload_n 2, 1) := by decide +kernel
theorem dX5_bitsOfDouble_43 : decode cX5_bitsOfDouble 43 = .ok (.dconst 1, 1) := by decide +kernel
theorem dX5_bitsOfDouble_44 : decode cX5_bitsOfDouble 44 = .ok (.dsub, 1) := by decide +kernel
theorem dX5_bitsOfDouble_45 : decode cX5_bitsOfDouble 45 = .ok (.ldc2_w 315, 3) := by decide +kernel
theorem dX5_bitsOfDouble_48 : decode cX5_bitsOfDouble 48 = .ok (.dmul, 1) := by decide +kernel
theorem dX5_bitsOfDouble_49 : decode cX5_bitsOfDouble 49 = .ok (.d2l, 1) := by decide +kernel
theorem dX5_bitsOfDouble_50 : decode cX5_bitsOfDouble 50 = .ok (.lstore 6, 2) := by decide +kernel
theorem dX5_bitsOfDouble_52 : decode cX5_bitsOfDouble 52 = .ok (.lload 4, 2) := by decide +kernel
theorem dX5_bitsOfDouble_54 : decode cX5_bitsOfDouble 54 = .ok (.bipush 52, 2) := by decide +kernel
theorem dX5_bitsOfDouble_56 : decode cX5_bitsOfDouble 56 = .ok (.lshl, 1) := by decide +kernel
theorem dX5_bitsOfDouble_57 : decode cX5_bitsOfDouble 57 = .ok (.lload 6, 2) := by decide +kernel
theorem dX5_bitsOfDouble_59 : decode cX5_bitsOfDouble 59 = .ok (.ladd, 1) := by decide +kernel
theorem dX5_bitsOfDouble_60 : decode cX5_bitsOfDouble 60 = .ok (.lreturn, 1) := by decide +kernel
theorem dX5_bitsOfFloat_0 : decode cX5_bitsOfFloat 0 = .ok (.fload_n 0, 1) := by decide +kernel
theorem dX5_bitsOfFloat_1 : decode cX5_bitsOfFloat 1 = .ok (.fconst 0, 1) := by decide +kernel
theorem dX5_bitsOfFloat_2 : decode cX5_bitsOfFloat 2 = .ok (.fcmp .l, 1) := by decide +kernel
theorem dX5_bitsOfFloat_3 : decode cX5_bitsOfFloat 3 = .ok (.ifCond .gt 5, 3) := by decide +kernel
theorem dX5_bitsOfFloat_6 : decode cX5_bitsOfFloat 6 = .ok (.iconst 0, 1) := by decide +kernel
theorem dX5_bitsOfFloat_7 : decode cX5_bitsOfFloat 7 = .ok (.ireturn, 1) := by decide +kernel
theorem dX5_bitsOfFloat_8 : decode cX5_bitsOfFloat 8 = .ok (.fload_n 0, 1) := by decide +kernel
theorem dX5_bitsOfFloat_9 : decode cX5_bitsOfFloat 9 = .ok (.fstore_n 1, 1) := by decide +kernel
theorem dX5_bitsOfFloat_10 : decode cX5_bitsOfFloat 10 = .ok (.bipush 127, 2) := by decide +kernel
theorem dX5_bitsOfFloat_12 : decode cX5_bitsOfFloat 12 = .ok (.istore_n 2, 1) := by decide +kernel
theorem dX5_bitsOfFloat_13 : decode cX5_bitsOfFloat 13 = .ok (.iconst 0, 1) := by decide +kernel
theorem dX5_bitsOfFloat_14 : decode cX5_bitsOfFloat 14 = .ok (.istore_n 3, 1) := by decide +kernel
theorem dX5_bitsOfFloat_15 : decode cX5_bitsOfFloat 15 = .ok (.iload_n 3, 1) := by decide +kernel
theorem dX5_bitsOfFloat_16 : decode cX5_bitsOfFloat 16 = .ok (.bipush 127, 2) := by decide +kernel
theorem dX5_bitsOfFloat_18 : decode cX5_bitsOfFloat 18 = .ok (.if_icmp .ge 22, 3) := by decide +kernel
theorem dX5_bitsOfFloat_21 : decode cX5_bitsOfFloat 21 = .ok (.fload_n 1, 1) := by decide +kernel
theorem dX5_bitsOfFloat_22 : decode cX5_bitsOfFloat 22 = .ok (.fconst 2, 1) := by decide +kernel
theorem dX5_bitsOfFloat_23 : decode cX5_bitsOfFloat 23 = .ok (.fcmp .l, 1) := by decide +kernel
theorem dX5_bitsOfFloat_24 : decode cX5_bitsOfFloat 24 = .ok (.ifCond .lt 16, 3) := by decide +kernel
theorem dX5_bitsOfFloat_27 : decode cX5_bitsOfFloat 27 = .ok (.fload_n 1, 1) := by decide +kernel
theorem dX5_bitsOfFloat_28 : decode cX5_bitsOfFloat 28 = .ok (.fconst 2, 1) := by decide +kernel
theorem dX5_bitsOfFloat_29 : decode cX5_bitsOfFloat 29 = .ok (.fdiv, 1) := by decide +kernel
theorem dX5_bitsOfFloat_30 : decode cX5_bitsOfFloat 30 = .ok (.fstore_n 1, 1) := by decide +kernel
theorem dX5_bitsOfFloat_31 : decode cX5_bitsOfFloat 31 = .ok (.iinc 2 1, 3) := by decide +kernel
theorem dX5_bitsOfFloat_34 : decode cX5_bitsOfFloat 34 = .ok (.iinc 3 1, 3) := by decide +kernel
theorem dX5_bitsOfFloat_37 : decode cX5_bitsOfFloat 37 = .ok (.goto (-22), 3) := by decide +kernel
theorem dX5_bitsOfFloat_40 : decode cX5_bitsOfFloat 40 = .ok (.iconst 0, 1) := by decide +kernel
theorem dX5_bitsOfFloat_41 : decode cX5_bitsOfFloat 41 = .ok (.istore_n 3, 1) := by decide +kernel
theorem dX5_bitsOfFloat_42 : decode cX5_bitsOfFloat 42 = .ok (.iload_n 3, 1) := by decide +kernel
theorem dX5_bitsOfFloat_43 : decode cX5_bitsOfFloat 43 = .ok (.bipush 127, 2) := by decide +kernel
theorem dX5_bitsOfFloat_45 : decode cX5_bitsOfFloat 45 = .ok (.if_icmp .ge 22, 3) := by decide +kernel
theorem dX5_bitsOfFloat_48 : decode cX5_bitsOfFloat 48 = .ok (.fload_n 1, 1) := by decide +kernel
theorem dX5_bitsOfFloat_49 : decode cX5_bitsOfFloat 49 = .ok (.fconst 1, 1) := by decide +kernel
theorem dX5_bitsOfFloat_50 : decode cX5_bitsOfFloat 50 = .ok (.fcmp .g, 1) := by decide +kernel
theorem dX5_bitsOfFloat_51 : decode cX5_bitsOfFloat 51 = .ok (.ifCond .ge 16, 3) := by decide +kernel
theorem dX5_bitsOfFloat_54 : decode cX5_bitsOfFloat 54 = .ok (.fload_n 1, 1) := by decide +kernel
theorem dX5_bitsOfFloat_55 : decode cX5_bitsOfFloat 55 = .ok (.fconst 2, 1) := by decide +kernel
theorem dX5_bitsOfFloat_56 : decode cX5_bitsOfFloat 56 = .ok (.fmul, 1) := by decide +kernel
theorem dX5_bitsOfFloat_57 : decode cX5_bitsOfFloat 57 = .ok (.fstore_n 1, 1) := by decide +kernel
theorem dX5_bitsOfFloat_58 : decode cX5_bitsOfFloat 58 = .ok (.iinc 2 (-1), 3) := by decide +kernel
theorem dX5_bitsOfFloat_61 : decode cX5_bitsOfFloat 61 = .ok (.iinc 3 1, 3) := by decide +kernel
theorem dX5_bitsOfFloat_64 : decode cX5_bitsOfFloat 64 = .ok (.goto (-22), 3) := by decide +kernel
theorem dX5_bitsOfFloat_67 : decode cX5_bitsOfFloat 67 = .ok (.fload_n 1, 1) := by decide +kernel
theorem dX5_bitsOfFloat_68 : decode cX5_bitsOfFloat 68 = .ok (.fconst 1, 1) := by decide +kernel
theorem dX5_bitsOfFloat_69 : decode cX5_bitsOfFloat 69 = .ok (.fsub, 1) := by decide +kernel
theorem dX5_bitsOfFloat_70 : decode cX5_bitsOfFloat 70 = .ok (.ldc_w 317, 3) := by decide +kernel
theorem dX5_bitsOfFloat_73 : decode cX5_bitsOfFloat 73 = .ok (.fmul, 1) := by decide +kernel
theorem dX5_bitsOfFloat_74 : decode cX5_bitsOfFloat 74 = .ok (.f2i, 1) := by decide +kernel
theorem dX5_bitsOfFloat_75 : decode cX5_bitsOfFloat 75 = .ok (.istore_n 3, 1) := by decide +kernel
theorem dX5_bitsOfFloat_76 : decode cX5_bitsOfFloat 76 = .ok (.iload_n 2, 1) := by decide +kernel
theorem dX5_bitsOfFloat_77 : decode cX5_bitsOfFloat 77 = .ok (.bipush 23, 2) := by decide +kernel
theorem dX5_bitsOfFloat_79 : decode cX5_bitsOfFloat 79 = .ok (.ishl, 1) := by decide +kernel
theorem dX5_bitsOfFloat_80 : decode cX5_bitsOfFloat 80 = .ok (.iload_n 3, 1) := by decide +kernel
theorem dX5_bitsOfFloat_81 : decode cX5_bitsOfFloat 81 = .ok (.iadd, 1) := by decide +kernel
theorem dX5_bitsOfFloat_82 : decode cX5_bitsOfFloat 82 = .ok (.ireturn, 1) := by decide +kernel
