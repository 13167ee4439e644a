theorem dL_draw_0 : decode cL_draw 0 = .ok (.iload_n 1, 1) := by decide +kernel
theorem dL_draw_1 : decode cL_draw 1 = .ok (.aload_n 0, 1) := by decide +kernel
theorem dL_draw_2 : decode cL_draw 2 = .ok (.arraylength, 1) := by decide +kernel
theorem dL_draw_3 : decode cL_draw 3 = .ok (.if_icmp .ge 9, 3) := by decide +kernel
theorem dL_draw_6 : decode cL_draw 6 = .ok (.aload_n 0, 1) := by decide +kernel
theorem dL_draw_7 : decode cL_draw 7 = .ok (.iload_n 1, 1) := by decide +kernel
theorem dL_draw_8 : decode cL_draw 8 = .ok (.iaload, 1) := by decide +kernel
theorem dL_draw_9 : decode cL_draw 9 = .ok (.goto 11, 3) := by decide +kernel
theorem dL_draw_12 : decode cL_draw 12 = .ok (.ldc 7, 2) := by decide +kernel
theorem dL_draw_14 : decode cL_draw 14 = .ok (.iload_n 1, 1) := by decide +kernel
theorem dL_draw_15 : decode cL_draw 15 = .ok (.imul, 1) := by decide +kernel
theorem dL_draw_16 : decode cL_draw 16 = .ok (.sipush 10837, 3) := by decide +kernel
theorem dL_draw_19 : decode cL_draw 19 = .ok (.iadd, 1) := by decide +kernel
theorem dL_draw_20 : decode cL_draw 20 = .ok (.ldc 8, 2) := by decide +kernel
theorem dL_draw_22 : decode cL_draw 22 = .ok (.iand, 1) := by decide +kernel
theorem dL_draw_23 : decode cL_draw 23 = .ok (.ireturn, 1) := by decide +kernel
theorem dL_in_0 : decode cL_in 0 = .ok (.lload_n 0, 1) := by decide +kernel
theorem dL_in_1 : decode cL_in 1 = .ok (.lload_n 2, 1) := by decide +kernel
theorem dL_in_2 : decode cL_in 2 = .ok (.lcmp, 1) := by decide +kernel
theorem dL_in_3 : decode cL_in 3 = .ok (.ifCond .lt 14, 3) := by decide +kernel
theorem dL_in_6 : decode cL_in 6 = .ok (.lload_n 0, 1) := by decide +kernel
theorem dL_in_7 : decode cL_in 7 = .ok (.lload 4, 2) := by decide +kernel
theorem dL_in_9 : decode cL_in 9 = .ok (.lcmp, 1) := by decide +kernel
theorem dL_in_10 : decode cL_in 10 = .ok (.ifCond .gt 7, 3) := by decide +kernel
theorem dL_in_13 : decode cL_in 13 = .ok (.iconst 1, 1) := by decide +kernel
theorem dL_in_14 : decode cL_in 14 = .ok (.goto 4, 3) := by decide +kernel
theorem dL_in_17 : decode cL_in 17 = .ok (.iconst 0, 1) := by decide +kernel
theorem dL_in_18 : decode cL_in 18 = .ok (.ireturn, 1) := by decide +kernel
theorem dL_pass_0 : decode cL_pass 0 = .ok (.aload_n 0, 1) := by decide +kernel
theorem dL_pass_1 : decode cL_pass 1 = .ok (.iload_n 1, 1) := by decide +kernel
theorem dL_pass_2 : decode cL_pass 2 = .ok (.invokevirtual 9, 3) := by decide +kernel
theorem dL_pass_5 : decode cL_pass 5 = .ok (.i2l, 1) := by decide +kernel
theorem dL_pass_6 : decode cL_pass 6 = .ok (.lreturn, 1) := by decide +kernel
theorem dL_pass_7 : decode cL_pass 7 = .ok (.astore_n 2, 1) := by decide +kernel
theorem dL_pass_8 : decode cL_pass 8 = .ok (.ldc2_w 17, 3) := by decide +kernel
theorem dL_pass_11 : decode cL_pass 11 = .ok (.lreturn, 1) := by decide +kernel
theorem dL_kick_0 : decode cL_kick 0 = .ok (.aload_n 0, 1) := by decide +kernel
theorem dL_kick_1 : decode cL_kick 1 = .ok (.iload_n 1, 1) := by decide +kernel
theorem dL_kick_2 : decode cL_kick 2 = .ok (.iload_n 2, 1) := by decide +kernel
theorem dL_kick_3 : decode cL_kick 3 = .ok (.invokevirtual 19, 3) := by decide +kernel
theorem dL_kick_6 : decode cL_kick 6 = .ok (.i2l, 1) := by decide +kernel
theorem dL_kick_7 : decode cL_kick 7 = .ok (.lreturn, 1) := by decide +kernel
theorem dL_kick_8 : decode cL_kick 8 = .ok (.astore_n 3, 1) := by decide +kernel
theorem dL_kick_9 : decode cL_kick 9 = .ok (.ldc2_w 25, 3) := by decide +kernel
theorem dL_kick_12 : decode cL_kick 12 = .ok (.lreturn, 1) := by decide +kernel
theorem dL_kick_13 : decode cL_kick 13 = .ok (.astore_n 3, 1) := by decide +kernel
theorem dL_kick_14 : decode cL_kick 14 = .ok (.ldc2_w 17, 3) := by decide +kernel
theorem dL_kick_17 : decode cL_kick 17 = .ok (.lreturn, 1) := by decide +kernel
theorem dL_move_0 : decode cL_move 0 = .ok (.aload_n 0, 1) := by decide +kernel
theorem dL_move_1 : decode cL_move 1 = .ok (.iload_n 1, 1) := by decide +kernel
theorem dL_move_2 : decode cL_move 2 = .ok (.iload_n 2, 1) := by decide +kernel
theorem dL_move_3 : decode cL_move 3 = .ok (.invokevirtual 27, 3) := by decide +kernel
theorem dL_move_6 : decode cL_move 6 = .ok (.i2l, 1) := by decide +kernel
theorem dL_move_7 : decode cL_move 7 = .ok (.lreturn, 1) := by decide +kernel
theorem dL_move_8 : decode cL_move 8 = .ok (.astore_n 3, 1) := by decide +kernel
theorem dL_move_9 : decode cL_move 9 = .ok (.ldc2_w 25, 3) := by decide +kernel
theorem dL_move_12 : decode cL_move 12 = .ok (.lreturn, 1) := by decide +kernel
theorem dL_move_13 : decode cL_move 13 = .ok (.astore_n 3, 1) := by decide +kernel
theorem dL_move_14 : decode cL_move 14 = .ok (.ldc2_w 32, 3) := by decide +kernel
theorem dL_move_17 : decode cL_move 17 = .ok (.lreturn, 1) := by decide +kernel
theorem dL_wind_0 : decode cL_wind 0 = .ok (.aload_n 0, 1) := by decide +kernel
theorem dL_wind_1 : decode cL_wind 1 = .ok (.iload_n 1, 1) := by decide +kernel
theorem dL_wind_2 : decode cL_wind 2 = .ok (.invokevirtual 34, 3) := by decide +kernel
theorem dL_wind_5 : decode cL_wind 5 = .ok (.i2l, 1) := by decide +kernel
theorem dL_wind_6 : decode cL_wind 6 = .ok (.lreturn, 1) := by decide +kernel
theorem dL_wind_7 : decode cL_wind 7 = .ok (.astore_n 2, 1) := by decide +kernel
theorem dL_wind_8 : decode cL_wind 8 = .ok (.ldc2_w 25, 3) := by decide +kernel
theorem dL_wind_11 : decode cL_wind 11 = .ok (.lreturn, 1) := by decide +kernel
theorem dL_speed_0 : decode cL_speed 0 = .ok (.aload_n 0, 1) := by decide +kernel
theorem dL_speed_1 : decode cL_speed 1 = .ok (.iload_n 1, 1) := by decide +kernel
theorem dL_speed_2 : decode cL_speed 2 = .ok (.iload_n 2, 1) := by decide +kernel
theorem dL_speed_3 : decode cL_speed 3 = .ok (.invokevirtual 37, 3) := by decide +kernel
theorem dL_speed_6 : decode cL_speed 6 = .ok (.i2l, 1) := by decide +kernel
theorem dL_speed_7 : decode cL_speed 7 = .ok (.lreturn, 1) := by decide +kernel
theorem dL_speed_8 : decode cL_speed 8 = .ok (.astore_n 3, 1) := by decide +kernel
theorem dL_speed_9 : decode cL_speed 9 = .ok (.ldc2_w 25, 3) := by decide +kernel
theorem dL_speed_12 : decode cL_speed 12 = .ok (.lreturn, 1) := by decide +kernel
theorem dL_speed_13 : decode cL_speed 13 = .ok (.astore_n 3, 1) := by decide +kernel
theorem dL_speed_14 : decode cL_speed 14 = .ok (.ldc2_w 17, 3) := by decide +kernel
theorem dL_speed_17 : decode cL_speed 17 = .ok (.lreturn, 1) := by decide +kernel
theorem dL_give_0 : decode cL_give 0 = .ok (.aload_n 0, 1) := by decide +kernel
theorem dL_give_1 : decode cL_give 1 = .ok (.iload_n 1, 1) := by decide +kernel
theorem dL_give_2 : decode cL_give 2 = .ok (.iload_n 2, 1) := by decide +kernel
theorem dL_give_3 : decode cL_give 3 = .ok (.invokevirtual 40, 3) := by decide +kernel
theorem dL_give_6 : decode cL_give 6 = .ok (.i2l, 1) := by decide +kernel
theorem dL_give_7 : decode cL_give 7 = .ok (.lreturn, 1) := by decide +kernel
theorem dL_give_8 : decode cL_give 8 = .ok (.astore_n 3, 1) := by decide +kernel
theorem dL_give_9 : decode cL_give 9 = .ok (.ldc2_w 25, 3) := by decide +kernel
theorem dL_give_12 : decode cL_give 12 = .ok (.lreturn, 1) := by decide +kernel
theorem dL_give_13 : decode cL_give 13 = .ok (.astore_n 3, 1) := by decide +kernel
theorem dL_give_14 : decode cL_give 14 = .ok (.ldc2_w 17, 3) := by decide +kernel
theorem dL_give_17 : decode cL_give 17 = .ok (.lreturn, 1) := by decide +kernel
theorem dL_set_0 : decode cL_set 0 = .ok (.aload_n 0, 1) := by decide +kernel
theorem dL_set_1 : decode cL_set 1 = .ok (.iload_n 1, 1) := by decide +kernel
theorem dL_set_2 : decode cL_set 2 = .ok (.iload_n 2, 1) := by decide +kernel
theorem dL_set_3 : decode cL_set 3 = .ok (.invokevirtual 43, 3) := by decide +kernel
theorem dL_set_6 : decode cL_set 6 = .ok (.i2l, 1) := by decide +kernel
theorem dL_set_7 : decode cL_set 7 = .ok (.lreturn, 1) := by decide +kernel
theorem dL_set_8 : decode cL_set 8 = .ok (.astore_n 3, 1) := by decide +kernel
theorem dL_set_9 : decode cL_set 9 = .ok (.ldc2_w 25, 3) := by decide +kernel
theorem dL_set_12 : decode cL_set 12 = .ok (.lreturn, 1) := by decide +kernel
theorem dL_set_13 : decode cL_set 13 = .ok (.astore_n 3, 1) := by decide +kernel
theorem dL_set_14 : decode cL_set 14 = .ok (.ldc2_w 17, 3) := by decide +kernel
theorem dL_set_17 : decode cL_set 17 = .ok (.lreturn, 1) := by decide +kernel
theorem dL_append_0 : decode cL_append 0 = .ok (.aload_n 0, 1) := by decide +kernel
theorem dL_append_1 : decode cL_append 1 = .ok (.iload_n 1, 1) := by decide +kernel
theorem dL_append_2 : decode cL_append 2 = .ok (.invokevirtual 46, 3) := by decide +kernel
theorem dL_append_5 : decode cL_append 5 = .ok (.i2l, 1) := by decide +kernel
theorem dL_append_6 : decode cL_append 6 = .ok (.lreturn, 1) := by decide +kernel
theorem dL_append_7 : decode cL_append 7 = .ok (.astore_n 2, 1) := by decide +kernel
theorem dL_append_8 : decode cL_append 8 = .ok (.ldc2_w 17, 3) := by decide +kernel
theorem dL_append_11 : decode cL_append 11 = .ok (.lreturn, 1) := by decide +kernel
theorem dL_append_12 : decode cL_append 12 = .ok (.astore_n 2, 1) := by decide +kernel
theorem dL_append_13 : decode cL_append 13 = .ok (.ldc2_w 32, 3) := by decide +kernel
theorem dL_append_16 : decode cL_append 16 = .ok (.lreturn, 1) := by decide +kernel
theorem dL_obey_0 : decode cL_obey 0 = .ok (.aload_n 0, 1) := by decide +kernel
theorem dL_obey_1 : decode cL_obey 1 = .ok (.invokevirtual 49, 3) := by decide +kernel
theorem dL_obey_4 : decode cL_obey 4 = .ok (.i2l, 1) := by decide +kernel
theorem dL_obey_5 : decode cL_obey 5 = .ok (.lreturn, 1) := by decide +kernel
theorem dL_obey_6 : decode cL_obey 6 = .ok (.astore_n 1, 1) := by decide +kernel
theorem dL_obey_7 : decode cL_obey 7 = .ok (.ldc2_w 17, 3) := by decide +kernel
theorem dL_obey_10 : decode cL_obey 10 = .ok (.lreturn, 1) := by decide +kernel
theorem dL_goBack_0 : decode cL_goBack 0 = .ok (.aload_n 0, 1) := by decide +kernel
theorem dL_goBack_1 : decode cL_goBack 1 = .ok (.invokevirtual 53, 3) := by decide +kernel
theorem dL_goBack_4 : decode cL_goBack 4 = .ok (.i2l, 1) := by decide +kernel
theorem dL_goBack_5 : decode cL_goBack 5 = .ok (.lreturn, 1) := by decide +kernel
theorem dL_goBack_6 : decode cL_goBack 6 = .ok (.astore_n 1, 1) := by decide +kernel
theorem dL_goBack_7 : decode cL_goBack 7 = .ok (.ldc2_w 32, 3) := by decide +kernel
theorem dL_goBack_10 : decode cL_goBack 10 = .ok (.lreturn, 1) := by decide +kernel
theorem dL_undo_0 : decode cL_undo 0 = .ok (.aload_n 0, 1) := by decide +kernel
theorem dL_undo_1 : decode cL_undo 1 = .ok (.invokevirtual 56, 3) := by decide +kernel
theorem dL_undo_4 : decode cL_undo 4 = .ok (.i2l, 1) := by decide +kernel
theorem dL_undo_5 : decode cL_undo 5 = .ok (.lreturn, 1) := by decide +kernel
theorem dL_undo_6 : decode cL_undo 6 = .ok (.astore_n 1, 1) := by decide +kernel
theorem dL_undo_7 : decode cL_undo 7 = .ok (.ldc2_w 32, 3) := by decide +kernel
theorem dL_undo_10 : decode cL_undo 10 = .ok (.lreturn, 1) := by decide +kernel
theorem dL_clock_0 : decode cL_clock 0 = .ok (.aload_n 0, 1) := by decide +kernel
theorem dL_clock_1 : decode cL_clock 1 = .ok (.iload_n 1, 1) := by decide +kernel
theorem dL_clock_2 : decode cL_clock 2 = .ok (.iload_n 2, 1) := by decide +kernel
theorem dL_clock_3 : decode cL_clock 3 = .ok (.invokevirtual 59, 3) := by decide +kernel
theorem dL_clock_6 : decode cL_clock 6 = .ok (.i2l, 1) := by decide +kernel
theorem dL_clock_7 : decode cL_clock 7 = .ok (.lreturn, 1) := by decide +kernel
theorem dL_clock_8 : decode cL_clock 8 = .ok (.astore_n 3, 1) := by decide +kernel
theorem dL_clock_9 : decode cL_clock 9 = .ok (.ldc2_w 25, 3) := by decide +kernel
theorem dL_clock_12 : decode cL_clock 12 = .ok (.lreturn, 1) := by decide +kernel
theorem dL_clock_13 : decode cL_clock 13 = .ok (.astore_n 3, 1) := by decide +kernel
theorem dL_clock_14 : decode cL_clock 14 = .ok (.ldc2_w 17, 3) := by decide +kernel
theorem dL_clock_17 : decode cL_clock 17 = .ok (.lreturn, 1) := by decide +kernel
theorem dL_pair_0 : decode cL_pair 0 = .ok (.aload_n 0, 1) := by decide +kernel
theorem dL_pair_1 : decode cL_pair 1 = .ok (.iload_n 1, 1) := by decide +kernel
theorem dL_pair_2 : decode cL_pair 2 = .ok (.iload_n 2, 1) := by decide +kernel
theorem dL_pair_3 : decode cL_pair 3 = .ok (.iload_n 3, 1) := by decide +kernel
theorem dL_pair_4 : decode cL_pair 4 = .ok (.invokevirtual 62, 3) := by decide +kernel
theorem dL_pair_7 : decode cL_pair 7 = .ok (.i2l, 1) := by decide +kernel
theorem dL_pair_8 : decode cL_pair 8 = .ok (.lreturn, 1) := by decide +kernel
theorem dL_pair_9 : decode cL_pair 9 = .ok (.astore 4, 2) := by decide +kernel
theorem dL_pair_11 : decode cL_pair 11 = .ok (.ldc2_w 25, 3) := by decide +kernel
theorem dL_pair_14 : decode cL_pair 14 = .ok (.lreturn, 1) := by decide +kernel
theorem dL_pair_15 : decode cL_pair 15 = .ok (.astore 4, 2) := by decide +kernel
theorem dL_pair_17 : decode cL_pair 17 = .ok (.ldc2_w 17, 3) := by decide +kernel
theorem dL_pair_20 : decode cL_pair 20 = .ok (.lreturn, 1) := by decide +kernel
theorem dL_beam_0 : decode cL_beam 0 = .ok (.aload_n 0, 1) := by decide +kernel
theorem dL_beam_1 : decode cL_beam 1 = .ok (.iload_n 1, 1) := by decide +kernel
theorem dL_beam_2 : decode cL_beam 2 = .ok (.iload_n 2, 1) := by decide +kernel
theorem dL_beam_3 : decode cL_beam 3 = .ok (.invokevirtual 66, 3) := by decide +kernel
theorem dL_beam_6 : decode cL_beam 6 = .ok (.i2l, 1) := by decide +kernel
theorem dL_beam_7 : decode cL_beam 7 = .ok (.lreturn, 1) := by decide +kernel
theorem dL_beam_8 : decode cL_beam 8 = .ok (.astore_n 3, 1) := by decide +kernel
theorem dL_beam_9 : decode cL_beam 9 = .ok (.ldc2_w 25, 3) := by decide +kernel
theorem dL_beam_12 : decode cL_beam 12 = .ok (.lreturn, 1) := by decide +kernel
theorem dL_beam_13 : decode cL_beam 13 = .ok (.astore_n 3, 1) := by decide +kernel
theorem dL_beam_14 : decode cL_beam 14 = .ok (.ldc2_w 17, 3) := by decide +kernel
theorem dL_beam_17 : decode cL_beam 17 = .ok (.lreturn, 1) := by decide +kernel
theorem dL_count_0 : decode cL_count 0 = .ok (.aload_n 0, 1) := by decide +kernel
theorem dL_count_1 : decode cL_count 1 = .ok (.iload_n 1, 1) := by decide +kernel
theorem dL_count_2 : decode cL_count 2 = .ok (.invokevirtual 69, 3) := by decide +kernel
theorem dL_count_5 : decode cL_count 5 = .ok (.i2l, 1) := by decide +kernel
theorem dL_count_6 : decode cL_count 6 = .ok (.lreturn, 1) := by decide +kernel
theorem dL_count_7 : decode cL_count 7 = .ok (.astore_n 2, 1) := by decide +kernel
theorem dL_count_8 : decode cL_count 8 = .ok (.ldc2_w 17, 3) := by decide +kernel
theorem dL_count_11 : decode cL_count 11 = .ok (.lreturn, 1) := by decide +kernel
theorem dL_setting_0 : decode cL_setting 0 = .ok (.aload_n 0, 1) := by decide +kernel
theorem dL_setting_1 : decode cL_setting 1 = .ok (.iload_n 1, 1) := by decide +kernel
theorem dL_setting_2 : decode cL_setting 2 = .ok (.invokevirtual 72, 3) := by decide +kernel
theorem dL_setting_5 : decode cL_setting 5 = .ok (.i2l, 1) := by decide +kernel
theorem dL_setting_6 : decode cL_setting 6 = .ok (.lreturn, 1) := by decide +kernel
theorem dL_setting_7 : decode cL_setting 7 = .ok (.astore_n 2, 1) := by decide +kernel
theorem dL_setting_8 : decode cL_setting 8 = .ok (.ldc2_w 25, 3) := by decide +kernel
theorem dL_setting_11 : decode cL_setting 11 = .ok (.lreturn, 1) := by decide +kernel
theorem dL_ifPassed_0 : decode cL_ifPassed 0 = .ok (.aload_n 0, 1) := by decide +kernel
theorem dL_ifPassed_1 : decode cL_ifPassed 1 = .ok (.iload_n 1, 1) := by decide +kernel
theorem dL_ifPassed_2 : decode cL_ifPassed 2 = .ok (.iload_n 2, 1) := by decide +kernel
theorem dL_ifPassed_3 : decode cL_ifPassed 3 = .ok (.iload_n 3, 1) := by decide +kernel
theorem dL_ifPassed_4 : decode cL_ifPassed 4 = .ok (.invokevirtual 75, 3) := by decide +kernel
theorem dL_ifPassed_7 : decode cL_ifPassed 7 = .ok (.i2l, 1) := by decide +kernel
theorem dL_ifPassed_8 : decode cL_ifPassed 8 = .ok (.lreturn, 1) := by decide +kernel
theorem dL_ifPassed_9 : decode cL_ifPassed 9 = .ok (.astore 4, 2) := by decide +kernel
theorem dL_ifPassed_11 : decode cL_ifPassed 11 = .ok (.ldc2_w 25, 3) := by decide +kernel
theorem dL_ifPassed_14 : decode cL_ifPassed 14 = .ok (.lreturn, 1) := by decide +kernel
theorem dL_ifPassed_15 : decode cL_ifPassed 15 = .ok (.astore 4, 2) := by decide +kernel
theorem dL_ifPassed_17 : decode cL_ifPassed 17 = .ok (.ldc2_w 17, 3) := by decide +kernel
theorem dL_ifPassed_20 : decode cL_ifPassed 20 = .ok (.lreturn, 1) := by decide +kernel
theorem dL_lockedIn_0 : decode cL_lockedIn 0 = .ok (.aload_n 0, 1) := by decide +kernel
theorem dL_lockedIn_1 : decode cL_lockedIn 1 = .ok (.iload_n 1, 1) := by decide +kernel
theorem dL_lockedIn_2 : decode cL_lockedIn 2 = .ok (.iload_n 2, 1) := by decide +kernel
theorem dL_lockedIn_3 : decode cL_lockedIn 3 = .ok (.invokevirtual 78, 3) := by decide +kernel
theorem dL_lockedIn_6 : decode cL_lockedIn 6 = .ok (.i2l, 1) := by decide +kernel
theorem dL_lockedIn_7 : decode cL_lockedIn 7 = .ok (.lreturn, 1) := by decide +kernel
theorem dL_lockedIn_8 : decode cL_lockedIn 8 = .ok (.astore_n 3, 1) := by decide +kernel
theorem dL_lockedIn_9 : decode cL_lockedIn 9 = .ok (.ldc2_w 25, 3) := by decide +kernel
theorem dL_lockedIn_12 : decode cL_lockedIn 12 = .ok (.lreturn, 1) := by decide +kernel
theorem dL_bestGive_0 : decode cL_bestGive 0 = .ok (.aload_n 0, 1) := by decide +kernel
theorem dL_bestGive_1 : decode cL_bestGive 1 = .ok (.iload_n 1, 1) := by decide +kernel
theorem dL_bestGive_2 : decode cL_bestGive 2 = .ok (.invokevirtual 81, 3) := by decide +kernel
theorem dL_bestGive_5 : decode cL_bestGive 5 = .ok (.i2l, 1) := by decide +kernel
theorem dL_bestGive_6 : decode cL_bestGive 6 = .ok (.lreturn, 1) := by decide +kernel
theorem dL_bestGive_7 : decode cL_bestGive 7 = .ok (.astore_n 2, 1) := by decide +kernel
theorem dL_bestGive_8 : decode cL_bestGive 8 = .ok (.ldc2_w 25, 3) := by decide +kernel
theorem dL_bestGive_11 : decode cL_bestGive 11 = .ok (.lreturn, 1) := by decide +kernel
theorem dL_now_0 : decode cL_now 0 = .ok (.ldc2_w 84, 3) := by decide +kernel
theorem dL_now_3 : decode cL_now 3 = .ok (.lstore_n 1, 1) := by decide +kernel
theorem dL_now_4 : decode cL_now 4 = .ok (.iconst 0, 1) := by decide +kernel
theorem dL_now_5 : decode cL_now 5 = .ok (.istore_n 3, 1) := by decide +kernel
theorem dL_now_6 : decode cL_now 6 = .ok (.iload_n 3, 1) := by decide +kernel
theorem dL_now_7 : decode cL_now 7 = .ok (.bipush 9, 2) := by decide +kernel
theorem dL_now_9 : decode cL_now 9 = .ok (.if_icmp .ge 21, 3) := by decide +kernel
theorem dL_now_12 : decode cL_now 12 = .ok (.ldc2_w 86, 3) := by decide +kernel
theorem dL_now_15 : decode cL_now 15 = .ok (.lload_n 1, 1) := by decide +kernel
theorem dL_now_16 : decode cL_now 16 = .ok (.lmul, 1) := by decide +kernel
theorem dL_now_17 : decode cL_now 17 = .ok (.aload_n 0, 1) := by decide +kernel
theorem dL_now_18 : decode cL_now 18 = .ok (.iload_n 3, 1) := by decide +kernel
theorem dL_now_19 : decode cL_now 19 = .ok (.invokestatic 88, 3) := by decide +kernel
theorem dL_now_22 : decode cL_now 22 = .ok (.ladd, 1) := by decide +kernel
theorem dL_now_23 : decode cL_now 23 = .ok (.lstore_n 1, 1) := by decide +kernel
theorem dL_now_24 : decode cL_now 24 = .ok (.iinc 3 1, 3) := by decide +kernel
theorem dL_now_27 : decode cL_now 27 = .ok (.goto (-21), 3) := by decide +kernel
theorem dL_now_30 : decode cL_now 30 = .ok (.iconst 0, 1) := by decide +kernel
theorem dL_now_31 : decode cL_now 31 = .ok (.istore_n 3, 1) := by decide +kernel
theorem dL_now_32 : decode cL_now 32 = .ok (.iload_n 3, 1) := by decide +kernel
theorem dL_now_33 : decode cL_now 33 = .ok (.bipush 8, 2) := by decide +kernel
theorem dL_now_35 : decode cL_now 35 = .ok (.if_icmp .ge 69, 3) := by decide +kernel
theorem dL_now_38 : decode cL_now 38 = .ok (.iconst 0, 1) := by decide +kernel
theorem dL_now_39 : decode cL_now 39 = .ok (.istore 4, 2) := by decide +kernel
theorem dL_now_41 : decode cL_now 41 = .ok (.iload 4, 2) := by decide +kernel
theorem dL_now_43 : decode cL_now 43 = .ok (.bipush 11, 2) := by decide +kernel
theorem dL_now_45 : decode cL_now 45 = .ok (.if_icmp .ge 23, 3) := by decide +kernel
theorem dL_now_48 : decode cL_now 48 = .ok (.ldc2_w 86, 3) := by decide +kernel
theorem dL_now_51 : decode cL_now 51 = .ok (.lload_n 1, 1) := by decide +kernel
theorem dL_now_52 : decode cL_now 52 = .ok (.lmul, 1) := by decide +kernel
theorem dL_now_53 : decode cL_now 53 = .ok (.aload_n 0, 1) := by decide +kernel
theorem dL_now_54 : decode cL_now 54 = .ok (.iload_n 3, 1) := by decide +kernel
theorem dL_now_55 : decode cL_now 55 = .ok (.iload 4, 2) := by decide +kernel
theorem dL_now_57 : decode cL_now 57 = .ok (.invokestatic 93, 3) := by decide +kernel
theorem dL_now_60 : decode cL_now 60 = .ok (.ladd, 1) := by decide +kernel
theorem dL_now_61 : decode cL_now 61 = .ok (.lstore_n 1, 1) := by decide +kernel
theorem dL_now_62 : decode cL_now 62 = .ok (.iinc 4 1, 3) := by decide +kernel
theorem dL_now_65 : decode cL_now 65 = .ok (.goto (-24), 3) := by decide +kernel
theorem dL_now_68 : decode cL_now 68 = .ok (.iconst 0, 1) := by decide +kernel
theorem dL_now_69 : decode cL_now 69 = .ok (.istore 4, 2) := by decide +kernel
theorem dL_now_71 : decode cL_now 71 = .ok (.iload 4, 2) := by decide +kernel
theorem dL_now_73 : decode cL_now 73 = .ok (.iload_n 3, 1) := by decide +kernel
theorem dL_now_74 : decode cL_now 74 = .ok (.if_icmp .ge 24, 3) := by decide +kernel
theorem dL_now_77 : decode cL_now 77 = .ok (.ldc2_w 86, 3) := by decide +kernel
theorem dL_now_80 : decode cL_now 80 = .ok (.lload_n 1, 1) := by decide +kernel
theorem dL_now_81 : decode cL_now 81 = .ok (.lmul, 1) := by decide +kernel
theorem dL_now_82 : decode cL_now 82 = .ok (.aload_n 0, 1) := by decide +kernel
theorem dL_now_83 : decode cL_now 83 = .ok (.iload_n 3, 1) := by decide +kernel
theorem dL_now_84 : decode cL_now 84 = .ok (.iload 4, 2) := by decide +kernel
theorem dL_now_86 : decode cL_now 86 = .ok (.iconst 1, 1) := by decide +kernel
theorem dL_now_87 : decode cL_now 87 = .ok (.invokestatic 96, 3) := by decide +kernel
theorem dL_now_90 : decode cL_now 90 = .ok (.ladd, 1) := by decide +kernel
theorem dL_now_91 : decode cL_now 91 = .ok (.lstore_n 1, 1) := by decide +kernel
theorem dL_now_92 : decode cL_now 92 = .ok (.iinc 4 1, 3) := by decide +kernel
theorem dL_now_95 : decode cL_now 95 = .ok (.goto (-24), 3) := by decide +kernel
theorem dL_now_98 : decode cL_now 98 = .ok (.iinc 3 1, 3) := by decide +kernel
theorem dL_now_101 : decode cL_now 101 = .ok (.goto (-69), 3) := by decide +kernel
theorem dL_now_104 : decode cL_now 104 = .ok (.iconst 0, 1) := by decide +kernel
theorem dL_now_105 : decode cL_now 105 = .ok (.istore_n 3, 1) := by decide +kernel
theorem dL_now_106 : decode cL_now 106 = .ok (.iload_n 3, 1) := by decide +kernel
theorem dL_now_107 : decode cL_now 107 = .ok (.iconst 3, 1) := by decide +kernel
theorem dL_now_108 : decode cL_now 108 = .ok (.if_icmp .ge 32, 3) := by decide +kernel
theorem dL_now_111 : decode cL_now 111 = .ok (.ldc2_w 86, 3) := by decide +kernel
theorem dL_now_114 : decode cL_now 114 = .ok (.lload_n 1, 1) := by decide +kernel
theorem dL_now_115 : decode cL_now 115 = .ok (.lmul, 1) := by decide +kernel
theorem dL_now_116 : decode cL_now 116 = .ok (.ldc2_w 99, 3) := by decide +kernel
theorem dL_now_119 : decode cL_now 119 = .ok (.aload_n 0, 1) := by decide +kernel
theorem dL_now_120 : decode cL_now 120 = .ok (.iload_n 3, 1) := by decide +kernel
theorem dL_now_121 : decode cL_now 121 = .ok (.iconst 0, 1) := by decide +kernel
theorem dL_now_122 : decode cL_now 122 = .ok (.invokestatic 101, 3) := by decide +kernel
theorem dL_now_125 : decode cL_now 125 = .ok (.lmul, 1) := by decide +kernel
theorem dL_now_126 : decode cL_now 126 = .ok (.ladd, 1) := by decide +kernel
theorem dL_now_127 : decode cL_now 127 = .ok (.aload_n 0, 1) := by decide +kernel
theorem dL_now_128 : decode cL_now 128 = .ok (.iload_n 3, 1) := by decide +kernel
theorem dL_now_129 : decode cL_now 129 = .ok (.invokestatic 103, 3) := by decide +kernel
theorem dL_now_132 : decode cL_now 132 = .ok (.ladd, 1) := by decide +kernel
theorem dL_now_133 : decode cL_now 133 = .ok (.lstore_n 1, 1) := by decide +kernel
theorem dL_now_134 : decode cL_now 134 = .ok (.iinc 3 1, 3) := by decide +kernel
theorem dL_now_137 : decode cL_now 137 = .ok (.goto (-31), 3) := by decide +kernel
theorem dL_now_140 : decode cL_now 140 = .ok (.lload_n 1, 1) := by decide +kernel
theorem dL_now_141 : decode cL_now 141 = .ok (.lreturn, 1) := by decide +kernel
theorem dL_errors_0 : decode cL_errors 0 = .ok (.aload_n 0, 1) := by decide +kernel
theorem dL_errors_1 : decode cL_errors 1 = .ok (.invokestatic 105, 3) := by decide +kernel
theorem dL_errors_4 : decode cL_errors 4 = .ok (.lstore_n 1, 1) := by decide +kernel
theorem dL_errors_5 : decode cL_errors 5 = .ok (.aload_n 0, 1) := by decide +kernel
theorem dL_errors_6 : decode cL_errors 6 = .ok (.bipush 9, 2) := by decide +kernel
theorem dL_errors_8 : decode cL_errors 8 = .ok (.invokestatic 88, 3) := by decide +kernel
theorem dL_errors_11 : decode cL_errors 11 = .ok (.lstore_n 3, 1) := by decide +kernel
theorem dL_errors_12 : decode cL_errors 12 = .ok (.aload_n 0, 1) := by decide +kernel
theorem dL_errors_13 : decode cL_errors 13 = .ok (.iconst 0, 1) := by decide +kernel
theorem dL_errors_14 : decode cL_errors 14 = .ok (.invokestatic 109, 3) := by decide +kernel
theorem dL_errors_17 : decode cL_errors 17 = .ok (.ldc2_w 17, 3) := by decide +kernel
theorem dL_errors_20 : decode cL_errors 20 = .ok (.lcmp, 1) := by decide +kernel
theorem dL_errors_21 : decode cL_errors 21 = .ok (.ifCond .ne 408, 3) := by decide +kernel
theorem dL_errors_24 : decode cL_errors 24 = .ok (.aload_n 0, 1) := by decide +kernel
theorem dL_errors_25 : decode cL_errors 25 = .ok (.sipush 201, 3) := by decide +kernel
theorem dL_errors_28 : decode cL_errors 28 = .ok (.invokestatic 109, 3) := by decide +kernel
theorem dL_errors_31 : decode cL_errors 31 = .ok (.ldc2_w 17, 3) := by decide +kernel
theorem dL_errors_34 : decode cL_errors 34 = .ok (.lcmp, 1) := by decide +kernel
theorem dL_errors_35 : decode cL_errors 35 = .ok (.ifCond .ne 394, 3) := by decide +kernel
theorem dL_errors_38 : decode cL_errors 38 = .ok (.aload_n 0, 1) := by decide +kernel
theorem dL_errors_39 : decode cL_errors 39 = .ok (.bipush 8, 2) := by decide +kernel
theorem dL_errors_41 : decode cL_errors 41 = .ok (.iconst 0, 1) := by decide +kernel
theorem dL_errors_42 : decode cL_errors 42 = .ok (.invokestatic 111, 3) := by decide +kernel
theorem dL_errors_45 : decode cL_errors 45 = .ok (.ldc2_w 25, 3) := by decide +kernel
theorem dL_errors_48 : decode cL_errors 48 = .ok (.lcmp, 1) := by decide +kernel
theorem dL_errors_49 : decode cL_errors 49 = .ok (.ifCond .ne 380, 3) := by decide +kernel
theorem dL_errors_52 : decode cL_errors 52 = .ok (.aload_n 0, 1) := by decide +kernel
theorem dL_errors_53 : decode cL_errors 53 = .ok (.bipush 7, 2) := by decide +kernel
theorem dL_errors_55 : decode cL_errors 55 = .ok (.iconst 0, 1) := by decide +kernel
theorem dL_errors_56 : decode cL_errors 56 = .ok (.invokestatic 111, 3) := by decide +kernel
theorem dL_errors_59 : decode cL_errors 59 = .ok (.ldc2_w 17, 3) := by decide +kernel
theorem dL_errors_62 : decode cL_errors 62 = .ok (.lcmp, 1) := by decide +kernel
theorem dL_errors_63 : decode cL_errors 63 = .ok (.ifCond .ne 366, 3) := by decide +kernel
theorem dL_errors_66 : decode cL_errors 66 = .ok (.aload_n 0, 1) := by decide +kernel
theorem dL_errors_67 : decode cL_errors 67 = .ok (.iconst 0, 1) := by decide +kernel
theorem dL_errors_68 : decode cL_errors 68 = .ok (.sipush (-501), 3) := by decide +kernel
theorem dL_errors_71 : decode cL_errors 71 = .ok (.invokestatic 111, 3) := by decide +kernel
theorem dL_errors_74 : decode cL_errors 74 = .ok (.ldc2_w 17, 3) := by decide +kernel
theorem dL_errors_77 : decode cL_errors 77 = .ok (.lcmp, 1) := by decide +kernel
theorem dL_errors_78 : decode cL_errors 78 = .ok (.ifCond .ne 351, 3) := by decide +kernel
theorem dL_errors_81 : decode cL_errors 81 = .ok (.aload_n 0, 1) := by decide +kernel
theorem dL_errors_82 : decode cL_errors 82 = .ok (.iconst (-1), 1) := by decide +kernel
theorem dL_errors_83 : decode cL_errors 83 = .ok (.iconst 0, 1) := by decide +kernel
theorem dL_errors_84 : decode cL_errors 84 = .ok (.invokestatic 113, 3) := by decide +kernel
theorem dL_errors_87 : decode cL_errors 87 = .ok (.ldc2_w 25, 3) := by decide +kernel
theorem dL_errors_90 : decode cL_errors 90 = .ok (.lcmp, 1) := by decide +kernel
theorem dL_errors_91 : decode cL_errors 91 = .ok (.ifCond .ne 338, 3) := by decide +kernel
theorem dL_errors_94 : decode cL_errors 94 = .ok (.aload_n 0, 1) := by decide +kernel
theorem dL_errors_95 : decode cL_errors 95 = .ok (.iconst 0, 1) := by decide +kernel
theorem dL_errors_96 : decode cL_errors 96 = .ok (.iconst 3, 1) := by decide +kernel
theorem dL_errors_97 : decode cL_errors 97 = .ok (.invokestatic 113, 3) := by decide +kernel
theorem dL_errors_100 : decode cL_errors 100 = .ok (.ldc2_w 25, 3) := by decide +kernel
theorem dL_errors_103 : decode cL_errors 103 = .ok (.lcmp, 1) := by decide +kernel
theorem dL_errors_104 : decode cL_errors 104 = .ok (.ifCond .ne 325, 3) := by decide +kernel
theorem dL_errors_107 : decode cL_errors 107 = .ok (.aload_n 0, 1) := by decide +kernel
theorem dL_errors_108 : decode cL_errors 108 = .ok (.iconst 5, 1) := by decide +kernel
theorem dL_errors_109 : decode cL_errors 109 = .ok (.aload_n 0, 1) := by decide +kernel
theorem dL_errors_110 : decode cL_errors 110 = .ok (.iconst 5, 1) := by decide +kernel
theorem dL_errors_111 : decode cL_errors 111 = .ok (.iconst 0, 1) := by decide +kernel
theorem dL_errors_112 : decode cL_errors 112 = .ok (.invokestatic 93, 3) := by decide +kernel
theorem dL_errors_115 : decode cL_errors 115 = .ok (.l2i, 1) := by decide +kernel
theorem dL_errors_116 : decode cL_errors 116 = .ok (.invokestatic 113, 3) := by decide +kernel
theorem dL_errors_119 : decode cL_errors 119 = .ok (.ldc2_w 32, 3) := by decide +kernel
theorem dL_errors_122 : decode cL_errors 122 = .ok (.lcmp, 1) := by decide +kernel
theorem dL_errors_123 : decode cL_errors 123 = .ok (.ifCond .ne 306, 3) := by decide +kernel
theorem dL_errors_126 : decode cL_errors 126 = .ok (.aload_n 0, 1) := by decide +kernel
theorem dL_errors_127 : decode cL_errors 127 = .ok (.bipush 8, 2) := by decide +kernel
theorem dL_errors_129 : decode cL_errors 129 = .ok (.invokestatic 115, 3) := by decide +kernel
theorem dL_errors_132 : decode cL_errors 132 = .ok (.ldc2_w 25, 3) := by decide +kernel
theorem dL_errors_135 : decode cL_errors 135 = .ok (.lcmp, 1) := by decide +kernel
theorem dL_errors_136 : decode cL_errors 136 = .ok (.ifCond .ne 293, 3) := by decide +kernel
theorem dL_errors_139 : decode cL_errors 139 = .ok (.aload_n 0, 1) := by decide +kernel
theorem dL_errors_140 : decode cL_errors 140 = .ok (.bipush 8, 2) := by decide +kernel
theorem dL_errors_142 : decode cL_errors 142 = .ok (.bipush 9, 2) := by decide +kernel
theorem dL_errors_144 : decode cL_errors 144 = .ok (.invokestatic 117, 3) := by decide +kernel
theorem dL_errors_147 : decode cL_errors 147 = .ok (.ldc2_w 25, 3) := by decide +kernel
theorem dL_errors_150 : decode cL_errors 150 = .ok (.lcmp, 1) := by decide +kernel
theorem dL_errors_151 : decode cL_errors 151 = .ok (.ifCond .ne 278, 3) := by decide +kernel
theorem dL_errors_154 : decode cL_errors 154 = .ok (.aload_n 0, 1) := by decide +kernel
theorem dL_errors_155 : decode cL_errors 155 = .ok (.iconst 0, 1) := by decide +kernel
theorem dL_errors_156 : decode cL_errors 156 = .ok (.bipush 9, 2) := by decide +kernel
theorem dL_errors_158 : decode cL_errors 158 = .ok (.invokestatic 117, 3) := by decide +kernel
theorem dL_errors_161 : decode cL_errors 161 = .ok (.ldc2_w 17, 3) := by decide +kernel
theorem dL_errors_164 : decode cL_errors 164 = .ok (.lcmp, 1) := by decide +kernel
theorem dL_errors_165 : decode cL_errors 165 = .ok (.ifCond .ne 264, 3) := by decide +kernel
theorem dL_errors_168 : decode cL_errors 168 = .ok (.aload_n 0, 1) := by decide +kernel
theorem dL_errors_169 : decode cL_errors 169 = .ok (.iconst (-1), 1) := by decide +kernel
theorem dL_errors_170 : decode cL_errors 170 = .ok (.bipush 21, 2) := by decide +kernel
theorem dL_errors_172 : decode cL_errors 172 = .ok (.invokestatic 119, 3) := by decide +kernel
theorem dL_errors_175 : decode cL_errors 175 = .ok (.ldc2_w 25, 3) := by decide +kernel
theorem dL_errors_178 : decode cL_errors 178 = .ok (.lcmp, 1) := by decide +kernel
theorem dL_errors_179 : decode cL_errors 179 = .ok (.ifCond .ne 250, 3) := by decide +kernel
theorem dL_errors_182 : decode cL_errors 182 = .ok (.aload_n 0, 1) := by decide +kernel
theorem dL_errors_183 : decode cL_errors 183 = .ok (.iconst 0, 1) := by decide +kernel
theorem dL_errors_184 : decode cL_errors 184 = .ok (.bipush 21, 2) := by decide +kernel
theorem dL_errors_186 : decode cL_errors 186 = .ok (.invokestatic 119, 3) := by decide +kernel
theorem dL_errors_189 : decode cL_errors 189 = .ok (.ldc2_w 17, 3) := by decide +kernel
theorem dL_errors_192 : decode cL_errors 192 = .ok (.lcmp, 1) := by decide +kernel
theorem dL_errors_193 : decode cL_errors 193 = .ok (.ifCond .ne 236, 3) := by decide +kernel
theorem dL_errors_196 : decode cL_errors 196 = .ok (.aload_n 0, 1) := by decide +kernel
theorem dL_errors_197 : decode cL_errors 197 = .ok (.iconst 3, 1) := by decide +kernel
theorem dL_errors_198 : decode cL_errors 198 = .ok (.iconst 0, 1) := by decide +kernel
theorem dL_errors_199 : decode cL_errors 199 = .ok (.invokestatic 121, 3) := by decide +kernel
theorem dL_errors_202 : decode cL_errors 202 = .ok (.ldc2_w 25, 3) := by decide +kernel
theorem dL_errors_205 : decode cL_errors 205 = .ok (.lcmp, 1) := by decide +kernel
theorem dL_errors_206 : decode cL_errors 206 = .ok (.ifCond .ne 223, 3) := by decide +kernel
theorem dL_errors_209 : decode cL_errors 209 = .ok (.aload_n 0, 1) := by decide +kernel
theorem dL_errors_210 : decode cL_errors 210 = .ok (.iconst 0, 1) := by decide +kernel
theorem dL_errors_211 : decode cL_errors 211 = .ok (.bipush 51, 2) := by decide +kernel
theorem dL_errors_213 : decode cL_errors 213 = .ok (.invokestatic 121, 3) := by decide +kernel
theorem dL_errors_216 : decode cL_errors 216 = .ok (.ldc2_w 17, 3) := by decide +kernel
theorem dL_errors_219 : decode cL_errors 219 = .ok (.lcmp, 1) := by decide +kernel
theorem dL_errors_220 : decode cL_errors 220 = .ok (.ifCond .ne 209, 3) := by decide +kernel
theorem dL_errors_223 : decode cL_errors 223 = .ok (.aload_n 0, 1) := by decide +kernel
theorem dL_errors_224 : decode cL_errors 224 = .ok (.iconst 1, 1) := by decide +kernel
theorem dL_errors_225 : decode cL_errors 225 = .ok (.iconst (-1), 1) := by decide +kernel
theorem dL_errors_226 : decode cL_errors 226 = .ok (.invokestatic 121, 3) := by decide +kernel
theorem dL_errors_229 : decode cL_errors 229 = .ok (.ldc2_w 17, 3) := by decide +kernel
theorem dL_errors_232 : decode cL_errors 232 = .ok (.lcmp, 1) := by decide +kernel
theorem dL_errors_233 : decode cL_errors 233 = .ok (.ifCond .ne 196, 3) := by decide +kernel
theorem dL_errors_236 : decode cL_errors 236 = .ok (.aload_n 0, 1) := by decide +kernel
theorem dL_errors_237 : decode cL_errors 237 = .ok (.iconst 2, 1) := by decide +kernel
theorem dL_errors_238 : decode cL_errors 238 = .ok (.bipush 51, 2) := by decide +kernel
theorem dL_errors_240 : decode cL_errors 240 = .ok (.invokestatic 121, 3) := by decide +kernel
theorem dL_errors_243 : decode cL_errors 243 = .ok (.ldc2_w 17, 3) := by decide +kernel
theorem dL_errors_246 : decode cL_errors 246 = .ok (.lcmp, 1) := by decide +kernel
theorem dL_errors_247 : decode cL_errors 247 = .ok (.ifCond .ne 182, 3) := by decide +kernel
theorem dL_errors_250 : decode cL_errors 250 = .ok (.aload_n 0, 1) := by decide +kernel
theorem dL_errors_251 : decode cL_errors 251 = .ok (.bipush 127, 2) := by decide +kernel
theorem dL_errors_253 : decode cL_errors 253 = .ok (.invokestatic 123, 3) := by decide +kernel
theorem dL_errors_256 : decode cL_errors 256 = .ok (.ldc2_w 17, 3) := by decide +kernel
theorem dL_errors_259 : decode cL_errors 259 = .ok (.lcmp, 1) := by decide +kernel
theorem dL_errors_260 : decode cL_errors 260 = .ok (.ifCond .ne 169, 3) := by decide +kernel
theorem dL_errors_263 : decode cL_errors 263 = .ok (.aload_n 0, 1) := by decide +kernel
theorem dL_errors_264 : decode cL_errors 264 = .ok (.bipush 8, 2) := by decide +kernel
theorem dL_errors_266 : decode cL_errors 266 = .ok (.bipush 11, 2) := by decide +kernel
theorem dL_errors_268 : decode cL_errors 268 = .ok (.invokestatic 93, 3) := by decide +kernel
theorem dL_errors_271 : decode cL_errors 271 = .ok (.ldc2_w 25, 3) := by decide +kernel
theorem dL_errors_274 : decode cL_errors 274 = .ok (.lcmp, 1) := by decide +kernel
theorem dL_errors_275 : decode cL_errors 275 = .ok (.ifCond .ne 154, 3) := by decide +kernel
theorem dL_errors_278 : decode cL_errors 278 = .ok (.aload_n 0, 1) := by decide +kernel
theorem dL_errors_279 : decode cL_errors 279 = .ok (.iconst 0, 1) := by decide +kernel
theorem dL_errors_280 : decode cL_errors 280 = .ok (.bipush 11, 2) := by decide +kernel
theorem dL_errors_282 : decode cL_errors 282 = .ok (.invokestatic 93, 3) := by decide +kernel
theorem dL_errors_285 : decode cL_errors 285 = .ok (.ldc2_w 17, 3) := by decide +kernel
theorem dL_errors_288 : decode cL_errors 288 = .ok (.lcmp, 1) := by decide +kernel
theorem dL_errors_289 : decode cL_errors 289 = .ok (.ifCond .ne 140, 3) := by decide +kernel
theorem dL_errors_292 : decode cL_errors 292 = .ok (.aload_n 0, 1) := by decide +kernel
theorem dL_errors_293 : decode cL_errors 293 = .ok (.iconst 2, 1) := by decide +kernel
theorem dL_errors_294 : decode cL_errors 294 = .ok (.iconst 2, 1) := by decide +kernel
theorem dL_errors_295 : decode cL_errors 295 = .ok (.iconst 3, 1) := by decide +kernel
theorem dL_errors_296 : decode cL_errors 296 = .ok (.invokestatic 96, 3) := by decide +kernel
theorem dL_errors_299 : decode cL_errors 299 = .ok (.ldc2_w 25, 3) := by decide +kernel
theorem dL_errors_302 : decode cL_errors 302 = .ok (.lcmp, 1) := by decide +kernel
theorem dL_errors_303 : decode cL_errors 303 = .ok (.ifCond .ne 126, 3) := by decide +kernel
theorem dL_errors_306 : decode cL_errors 306 = .ok (.aload_n 0, 1) := by decide +kernel
theorem dL_errors_307 : decode cL_errors 307 = .ok (.iconst 2, 1) := by decide +kernel
theorem dL_errors_308 : decode cL_errors 308 = .ok (.iconst 3, 1) := by decide +kernel
theorem dL_errors_309 : decode cL_errors 309 = .ok (.iconst 3, 1) := by decide +kernel
theorem dL_errors_310 : decode cL_errors 310 = .ok (.invokestatic 96, 3) := by decide +kernel
theorem dL_errors_313 : decode cL_errors 313 = .ok (.ldc2_w 17, 3) := by decide +kernel
theorem dL_errors_316 : decode cL_errors 316 = .ok (.lcmp, 1) := by decide +kernel
theorem dL_errors_317 : decode cL_errors 317 = .ok (.ifCond .ne 112, 3) := by decide +kernel
theorem dL_errors_320 : decode cL_errors 320 = .ok (.aload_n 0, 1) := by decide +kernel
theorem dL_errors_321 : decode cL_errors 321 = .ok (.iconst 3, 1) := by decide +kernel
theorem dL_errors_322 : decode cL_errors 322 = .ok (.iconst 5, 1) := by decide +kernel
theorem dL_errors_323 : decode cL_errors 323 = .ok (.invokestatic 101, 3) := by decide +kernel
theorem dL_errors_326 : decode cL_errors 326 = .ok (.ldc2_w 25, 3) := by decide +kernel
theorem dL_errors_329 : decode cL_errors 329 = .ok (.lcmp, 1) := by decide +kernel
theorem dL_errors_330 : decode cL_errors 330 = .ok (.ifCond .ne 99, 3) := by decide +kernel
theorem dL_errors_333 : decode cL_errors 333 = .ok (.aload_n 0, 1) := by decide +kernel
theorem dL_errors_334 : decode cL_errors 334 = .ok (.iconst 0, 1) := by decide +kernel
theorem dL_errors_335 : decode cL_errors 335 = .ok (.iconst 5, 1) := by decide +kernel
theorem dL_errors_336 : decode cL_errors 336 = .ok (.invokestatic 101, 3) := by decide +kernel
theorem dL_errors_339 : decode cL_errors 339 = .ok (.ldc2_w 17, 3) := by decide +kernel
theorem dL_errors_342 : decode cL_errors 342 = .ok (.lcmp, 1) := by decide +kernel
theorem dL_errors_343 : decode cL_errors 343 = .ok (.ifCond .ne 86, 3) := by decide +kernel
theorem dL_errors_346 : decode cL_errors 346 = .ok (.aload_n 0, 1) := by decide +kernel
theorem dL_errors_347 : decode cL_errors 347 = .ok (.iconst (-1), 1) := by decide +kernel
theorem dL_errors_348 : decode cL_errors 348 = .ok (.invokestatic 88, 3) := by decide +kernel
theorem dL_errors_351 : decode cL_errors 351 = .ok (.ldc2_w 17, 3) := by decide +kernel
theorem dL_errors_354 : decode cL_errors 354 = .ok (.lcmp, 1) := by decide +kernel
theorem dL_errors_355 : decode cL_errors 355 = .ok (.ifCond .ne 74, 3) := by decide +kernel
theorem dL_errors_358 : decode cL_errors 358 = .ok (.aload_n 0, 1) := by decide +kernel
theorem dL_errors_359 : decode cL_errors 359 = .ok (.iconst 3, 1) := by decide +kernel
theorem dL_errors_360 : decode cL_errors 360 = .ok (.invokestatic 103, 3) := by decide +kernel
theorem dL_errors_363 : decode cL_errors 363 = .ok (.ldc2_w 25, 3) := by decide +kernel
theorem dL_errors_366 : decode cL_errors 366 = .ok (.lcmp, 1) := by decide +kernel
theorem dL_errors_367 : decode cL_errors 367 = .ok (.ifCond .ne 62, 3) := by decide +kernel
theorem dL_errors_370 : decode cL_errors 370 = .ok (.aload_n 0, 1) := by decide +kernel
theorem dL_errors_371 : decode cL_errors 371 = .ok (.iconst 0, 1) := by decide +kernel
theorem dL_errors_372 : decode cL_errors 372 = .ok (.bipush 8, 2) := by decide +kernel
theorem dL_errors_374 : decode cL_errors 374 = .ok (.iconst 0, 1) := by decide +kernel
theorem dL_errors_375 : decode cL_errors 375 = .ok (.invokestatic 125, 3) := by decide +kernel
theorem dL_errors_378 : decode cL_errors 378 = .ok (.ldc2_w 25, 3) := by decide +kernel
theorem dL_errors_381 : decode cL_errors 381 = .ok (.lcmp, 1) := by decide +kernel
theorem dL_errors_382 : decode cL_errors 382 = .ok (.ifCond .ne 47, 3) := by decide +kernel
theorem dL_errors_385 : decode cL_errors 385 = .ok (.aload_n 0, 1) := by decide +kernel
theorem dL_errors_386 : decode cL_errors 386 = .ok (.iconst 0, 1) := by decide +kernel
theorem dL_errors_387 : decode cL_errors 387 = .ok (.iconst 0, 1) := by decide +kernel
theorem dL_errors_388 : decode cL_errors 388 = .ok (.iconst 0, 1) := by decide +kernel
theorem dL_errors_389 : decode cL_errors 389 = .ok (.invokestatic 125, 3) := by decide +kernel
theorem dL_errors_392 : decode cL_errors 392 = .ok (.ldc2_w 17, 3) := by decide +kernel
theorem dL_errors_395 : decode cL_errors 395 = .ok (.lcmp, 1) := by decide +kernel
theorem dL_errors_396 : decode cL_errors 396 = .ok (.ifCond .ne 33, 3) := by decide +kernel
theorem dL_errors_399 : decode cL_errors 399 = .ok (.aload_n 0, 1) := by decide +kernel
theorem dL_errors_400 : decode cL_errors 400 = .ok (.iconst 1, 1) := by decide +kernel
theorem dL_errors_401 : decode cL_errors 401 = .ok (.bipush 8, 2) := by decide +kernel
theorem dL_errors_403 : decode cL_errors 403 = .ok (.invokestatic 127, 3) := by decide +kernel
theorem dL_errors_406 : decode cL_errors 406 = .ok (.ldc2_w 25, 3) := by decide +kernel
theorem dL_errors_409 : decode cL_errors 409 = .ok (.lcmp, 1) := by decide +kernel
theorem dL_errors_410 : decode cL_errors 410 = .ok (.ifCond .ne 19, 3) := by decide +kernel
theorem dL_errors_413 : decode cL_errors 413 = .ok (.aload_n 0, 1) := by decide +kernel
theorem dL_errors_414 : decode cL_errors 414 = .ok (.iconst 3, 1) := by decide +kernel
theorem dL_errors_415 : decode cL_errors 415 = .ok (.invokestatic 129, 3) := by decide +kernel
theorem dL_errors_418 : decode cL_errors 418 = .ok (.ldc2_w 25, 3) := by decide +kernel
theorem dL_errors_421 : decode cL_errors 421 = .ok (.lcmp, 1) := by decide +kernel
theorem dL_errors_422 : decode cL_errors 422 = .ok (.ifCond .ne 7, 3) := by decide +kernel
theorem dL_errors_425 : decode cL_errors 425 = .ok (.iconst 1, 1) := by decide +kernel
theorem dL_errors_426 : decode cL_errors 426 = .ok (.goto 4, 3) := by decide +kernel
theorem dL_errors_429 : decode cL_errors 429 = .ok (.iconst 0, 1) := by decide +kernel
theorem dL_errors_430 : decode cL_errors 430 = .ok (.istore 5, 2) := by decide +kernel
theorem dL_errors_432 : decode cL_errors 432 = .ok (.iload 5, 2) := by decide +kernel
theorem dL_errors_434 : decode cL_errors 434 = .ok (.ifCond .eq 27, 3) := by decide +kernel
theorem dL_errors_437 : decode cL_errors 437 = .ok (.aload_n 0, 1) := by decide +kernel
theorem dL_errors_438 : decode cL_errors 438 = .ok (.invokestatic 105, 3) := by decide +kernel
theorem dL_errors_441 : decode cL_errors 441 = .ok (.lload_n 1, 1) := by decide +kernel
theorem dL_errors_442 : decode cL_errors 442 = .ok (.lcmp, 1) := by decide +kernel
theorem dL_errors_443 : decode cL_errors 443 = .ok (.ifCond .ne 18, 3) := by decide +kernel
theorem dL_errors_446 : decode cL_errors 446 = .ok (.aload_n 0, 1) := by decide +kernel
theorem dL_errors_447 : decode cL_errors 447 = .ok (.bipush 9, 2) := by decide +kernel
theorem dL_errors_449 : decode cL_errors 449 = .ok (.invokestatic 88, 3) := by decide +kernel
theorem dL_errors_452 : decode cL_errors 452 = .ok (.lload_n 3, 1) := by decide +kernel
theorem dL_errors_453 : decode cL_errors 453 = .ok (.lcmp, 1) := by decide +kernel
theorem dL_errors_454 : decode cL_errors 454 = .ok (.ifCond .ne 7, 3) := by decide +kernel
theorem dL_errors_457 : decode cL_errors 457 = .ok (.iconst 1, 1) := by decide +kernel
theorem dL_errors_458 : decode cL_errors 458 = .ok (.goto 4, 3) := by decide +kernel
theorem dL_errors_461 : decode cL_errors 461 = .ok (.iconst 0, 1) := by decide +kernel
theorem dL_errors_462 : decode cL_errors 462 = .ok (.ireturn, 1) := by decide +kernel
theorem dL_kept_0 : decode cL_kept 0 = .ok (.aload_n 0, 1) := by decide +kernel
theorem dL_kept_1 : decode cL_kept 1 = .ok (.iconst 4, 1) := by decide +kernel
theorem dL_kept_2 : decode cL_kept 2 = .ok (.invokestatic 88, 3) := by decide +kernel
theorem dL_kept_5 : decode cL_kept 5 = .ok (.aload_n 0, 1) := by decide +kernel
theorem dL_kept_6 : decode cL_kept 6 = .ok (.iconst 5, 1) := by decide +kernel
theorem dL_kept_7 : decode cL_kept 7 = .ok (.invokestatic 88, 3) := by decide +kernel
theorem dL_kept_10 : decode cL_kept 10 = .ok (.lcmp, 1) := by decide +kernel
theorem dL_kept_11 : decode cL_kept 11 = .ok (.ifCond .ne 69, 3) := by decide +kernel
theorem dL_kept_14 : decode cL_kept 14 = .ok (.aload_n 0, 1) := by decide +kernel
theorem dL_kept_15 : decode cL_kept 15 = .ok (.bipush 6, 2) := by decide +kernel
theorem dL_kept_17 : decode cL_kept 17 = .ok (.invokestatic 88, 3) := by decide +kernel
theorem dL_kept_20 : decode cL_kept 20 = .ok (.lconst 1, 1) := by decide +kernel
theorem dL_kept_21 : decode cL_kept 21 = .ok (.ldc2_w 131, 3) := by decide +kernel
theorem dL_kept_24 : decode cL_kept 24 = .ok (.invokestatic 133, 3) := by decide +kernel
theorem dL_kept_27 : decode cL_kept 27 = .ok (.ifCond .eq 53, 3) := by decide +kernel
theorem dL_kept_30 : decode cL_kept 30 = .ok (.aload_n 0, 1) := by decide +kernel
theorem dL_kept_31 : decode cL_kept 31 = .ok (.bipush 8, 2) := by decide +kernel
theorem dL_kept_33 : decode cL_kept 33 = .ok (.invokestatic 88, 3) := by decide +kernel
theorem dL_kept_36 : decode cL_kept 36 = .ok (.aload_n 0, 1) := by decide +kernel
theorem dL_kept_37 : decode cL_kept 37 = .ok (.iconst 1, 1) := by decide +kernel
theorem dL_kept_38 : decode cL_kept 38 = .ok (.invokestatic 88, 3) := by decide +kernel
theorem dL_kept_41 : decode cL_kept 41 = .ok (.lcmp, 1) := by decide +kernel
theorem dL_kept_42 : decode cL_kept 42 = .ok (.ifCond .gt 38, 3) := by decide +kernel
theorem dL_kept_45 : decode cL_kept 45 = .ok (.aload_n 0, 1) := by decide +kernel
theorem dL_kept_46 : decode cL_kept 46 = .ok (.bipush 8, 2) := by decide +kernel
theorem dL_kept_48 : decode cL_kept 48 = .ok (.invokestatic 88, 3) := by decide +kernel
theorem dL_kept_51 : decode cL_kept 51 = .ok (.aload_n 0, 1) := by decide +kernel
theorem dL_kept_52 : decode cL_kept 52 = .ok (.iconst 0, 1) := by decide +kernel
theorem dL_kept_53 : decode cL_kept 53 = .ok (.invokestatic 88, 3) := by decide +kernel
theorem dL_kept_56 : decode cL_kept 56 = .ok (.lcmp, 1) := by decide +kernel
theorem dL_kept_57 : decode cL_kept 57 = .ok (.ifCond .gt 23, 3) := by decide +kernel
theorem dL_kept_60 : decode cL_kept 60 = .ok (.aload_n 0, 1) := by decide +kernel
theorem dL_kept_61 : decode cL_kept 61 = .ok (.bipush 9, 2) := by decide +kernel
theorem dL_kept_63 : decode cL_kept 63 = .ok (.invokestatic 88, 3) := by decide +kernel
theorem dL_kept_66 : decode cL_kept 66 = .ok (.lconst 0, 1) := by decide +kernel
theorem dL_kept_67 : decode cL_kept 67 = .ok (.ldc2_w 137, 3) := by decide +kernel
theorem dL_kept_70 : decode cL_kept 70 = .ok (.invokestatic 133, 3) := by decide +kernel
theorem dL_kept_73 : decode cL_kept 73 = .ok (.ifCond .eq 7, 3) := by decide +kernel
theorem dL_kept_76 : decode cL_kept 76 = .ok (.iconst 1, 1) := by decide +kernel
theorem dL_kept_77 : decode cL_kept 77 = .ok (.goto 4, 3) := by decide +kernel
theorem dL_kept_80 : decode cL_kept 80 = .ok (.iconst 0, 1) := by decide +kernel
theorem dL_kept_81 : decode cL_kept 81 = .ok (.istore_n 1, 1) := by decide +kernel
theorem dL_kept_82 : decode cL_kept 82 = .ok (.iconst 0, 1) := by decide +kernel
theorem dL_kept_83 : decode cL_kept 83 = .ok (.istore_n 2, 1) := by decide +kernel
theorem dL_kept_84 : decode cL_kept 84 = .ok (.iconst 0, 1) := by decide +kernel
theorem dL_kept_85 : decode cL_kept 85 = .ok (.istore_n 3, 1) := by decide +kernel
theorem dL_kept_86 : decode cL_kept 86 = .ok (.iconst 0, 1) := by decide +kernel
theorem dL_kept_87 : decode cL_kept 87 = .ok (.istore 4, 2) := by decide +kernel
theorem dL_kept_89 : decode cL_kept 89 = .ok (.lconst 0, 1) := by decide +kernel
theorem dL_kept_90 : decode cL_kept 90 = .ok (.lstore 5, 2) := by decide +kernel
theorem dL_kept_92 : decode cL_kept 92 = .ok (.iconst 0, 1) := by decide +kernel
theorem dL_kept_93 : decode cL_kept 93 = .ok (.istore 7, 2) := by decide +kernel
theorem dL_kept_95 : decode cL_kept 95 = .ok (.iload 7, 2) := by decide +kernel
theorem dL_kept_97 : decode cL_kept 97 = .ok (.iconst 3, 1) := by decide +kernel
theorem dL_kept_98 : decode cL_kept 98 = .ok (.if_icmp .ge 84, 3) := by decide +kernel
theorem dL_kept_101 : decode cL_kept 101 = .ok (.iload_n 1, 1) := by decide +kernel
theorem dL_kept_102 : decode cL_kept 102 = .ok (.ifCond .eq 80, 3) := by decide +kernel
theorem dL_kept_105 : decode cL_kept 105 = .ok (.aload_n 0, 1) := by decide +kernel
theorem dL_kept_106 : decode cL_kept 106 = .ok (.iload 7, 2) := by decide +kernel
theorem dL_kept_108 : decode cL_kept 108 = .ok (.iconst 1, 1) := by decide +kernel
theorem dL_kept_109 : decode cL_kept 109 = .ok (.invokestatic 101, 3) := by decide +kernel
theorem dL_kept_112 : decode cL_kept 112 = .ok (.lstore 8, 2) := by decide +kernel
theorem dL_kept_114 : decode cL_kept 114 = .ok (.aload_n 0, 1) := by decide +kernel
theorem dL_kept_115 : decode cL_kept 115 = .ok (.iload 7, 2) := by decide +kernel
theorem dL_kept_117 : decode cL_kept 117 = .ok (.iconst 2, 1) := by decide +kernel
theorem dL_kept_118 : decode cL_kept 118 = .ok (.invokestatic 101, 3) := by decide +kernel
theorem dL_kept_121 : decode cL_kept 121 = .ok (.lstore 10, 2) := by decide +kernel
theorem dL_kept_123 : decode cL_kept 123 = .ok (.iload_n 2, 1) := by decide +kernel
theorem dL_kept_124 : decode cL_kept 124 = .ok (.i2l, 1) := by decide +kernel
theorem dL_kept_125 : decode cL_kept 125 = .ok (.lload 8, 2) := by decide +kernel
theorem dL_kept_127 : decode cL_kept 127 = .ok (.land, 1) := by decide +kernel
theorem dL_kept_128 : decode cL_kept 128 = .ok (.lconst 0, 1) := by decide +kernel
theorem dL_kept_129 : decode cL_kept 129 = .ok (.lcmp, 1) := by decide +kernel
theorem dL_kept_130 : decode cL_kept 130 = .ok (.ifCond .ne 38, 3) := by decide +kernel
theorem dL_kept_133 : decode cL_kept 133 = .ok (.lload 10, 2) := by decide +kernel
theorem dL_kept_135 : decode cL_kept 135 = .ok (.lload 8, 2) := by decide +kernel
theorem dL_kept_137 : decode cL_kept 137 = .ok (.ldc2_w 139, 3) := by decide +kernel
theorem dL_kept_140 : decode cL_kept 140 = .ok (.lxor, 1) := by decide +kernel
theorem dL_kept_141 : decode cL_kept 141 = .ok (.land, 1) := by decide +kernel
theorem dL_kept_142 : decode cL_kept 142 = .ok (.lconst 0, 1) := by decide +kernel
theorem dL_kept_143 : decode cL_kept 143 = .ok (.lcmp, 1) := by decide +kernel
theorem dL_kept_144 : decode cL_kept 144 = .ok (.ifCond .ne 24, 3) := by decide +kernel
theorem dL_kept_147 : decode cL_kept 147 = .ok (.aload_n 0, 1) := by decide +kernel
theorem dL_kept_148 : decode cL_kept 148 = .ok (.iload 7, 2) := by decide +kernel
theorem dL_kept_150 : decode cL_kept 150 = .ok (.iconst 4, 1) := by decide +kernel
theorem dL_kept_151 : decode cL_kept 151 = .ok (.invokestatic 101, 3) := by decide +kernel
theorem dL_kept_154 : decode cL_kept 154 = .ok (.lconst 0, 1) := by decide +kernel
theorem dL_kept_155 : decode cL_kept 155 = .ok (.ldc2_w 141, 3) := by decide +kernel
theorem dL_kept_158 : decode cL_kept 158 = .ok (.invokestatic 133, 3) := by decide +kernel
theorem dL_kept_161 : decode cL_kept 161 = .ok (.ifCond .eq 7, 3) := by decide +kernel
theorem dL_kept_164 : decode cL_kept 164 = .ok (.iconst 1, 1) := by decide +kernel
theorem dL_kept_165 : decode cL_kept 165 = .ok (.goto 4, 3) := by decide +kernel
theorem dL_kept_168 : decode cL_kept 168 = .ok (.iconst 0, 1) := by decide +kernel
theorem dL_kept_169 : decode cL_kept 169 = .ok (.istore_n 1, 1) := by decide +kernel
theorem dL_kept_170 : decode cL_kept 170 = .ok (.iload_n 2, 1) := by decide +kernel
theorem dL_kept_171 : decode cL_kept 171 = .ok (.lload 8, 2) := by decide +kernel
theorem dL_kept_173 : decode cL_kept 173 = .ok (.l2i, 1) := by decide +kernel
theorem dL_kept_174 : decode cL_kept 174 = .ok (.ior, 1) := by decide +kernel
theorem dL_kept_175 : decode cL_kept 175 = .ok (.istore_n 2, 1) := by decide +kernel
theorem dL_kept_176 : decode cL_kept 176 = .ok (.iinc 7 1, 3) := by decide +kernel
theorem dL_kept_179 : decode cL_kept 179 = .ok (.goto (-84), 3) := by decide +kernel
theorem dL_kept_182 : decode cL_kept 182 = .ok (.iload_n 1, 1) := by decide +kernel
theorem dL_kept_183 : decode cL_kept 183 = .ok (.ifCond .eq 14, 3) := by decide +kernel
theorem dL_kept_186 : decode cL_kept 186 = .ok (.iload_n 2, 1) := by decide +kernel
theorem dL_kept_187 : decode cL_kept 187 = .ok (.sipush 255, 3) := by decide +kernel
theorem dL_kept_190 : decode cL_kept 190 = .ok (.if_icmp .ne 7, 3) := by decide +kernel
theorem dL_kept_193 : decode cL_kept 193 = .ok (.iconst 1, 1) := by decide +kernel
theorem dL_kept_194 : decode cL_kept 194 = .ok (.goto 4, 3) := by decide +kernel
theorem dL_kept_197 : decode cL_kept 197 = .ok (.iconst 0, 1) := by decide +kernel
theorem dL_kept_198 : decode cL_kept 198 = .ok (.istore_n 1, 1) := by decide +kernel
theorem dL_kept_199 : decode cL_kept 199 = .ok (.iconst 0, 1) := by decide +kernel
theorem dL_kept_200 : decode cL_kept 200 = .ok (.istore 7, 2) := by decide +kernel
theorem dL_kept_202 : decode cL_kept 202 = .ok (.iload 7, 2) := by decide +kernel
theorem dL_kept_204 : decode cL_kept 204 = .ok (.bipush 8, 2) := by decide +kernel
theorem dL_kept_206 : decode cL_kept 206 = .ok (.if_icmp .ge 527, 3) := by decide +kernel
theorem dL_kept_209 : decode cL_kept 209 = .ok (.iload_n 1, 1) := by decide +kernel
theorem dL_kept_210 : decode cL_kept 210 = .ok (.ifCond .eq 523, 3) := by decide +kernel
theorem dL_kept_213 : decode cL_kept 213 = .ok (.aload_n 0, 1) := by decide +kernel
theorem dL_kept_214 : decode cL_kept 214 = .ok (.iload 7, 2) := by decide +kernel
theorem dL_kept_216 : decode cL_kept 216 = .ok (.iconst 2, 1) := by decide +kernel
theorem dL_kept_217 : decode cL_kept 217 = .ok (.invokestatic 93, 3) := by decide +kernel
theorem dL_kept_220 : decode cL_kept 220 = .ok (.lstore 8, 2) := by decide +kernel
theorem dL_kept_222 : decode cL_kept 222 = .ok (.aload_n 0, 1) := by decide +kernel
theorem dL_kept_223 : decode cL_kept 223 = .ok (.iload 7, 2) := by decide +kernel
theorem dL_kept_225 : decode cL_kept 225 = .ok (.bipush 6, 2) := by decide +kernel
theorem dL_kept_227 : decode cL_kept 227 = .ok (.invokestatic 93, 3) := by decide +kernel
theorem dL_kept_230 : decode cL_kept 230 = .ok (.lstore 10, 2) := by decide +kernel
theorem dL_kept_232 : decode cL_kept 232 = .ok (.aload_n 0, 1) := by decide +kernel
theorem dL_kept_233 : decode cL_kept 233 = .ok (.iload 7, 2) := by decide +kernel
theorem dL_kept_235 : decode cL_kept 235 = .ok (.bipush 10, 2) := by decide +kernel
theorem dL_kept_237 : decode cL_kept 237 = .ok (.invokestatic 93, 3) := by decide +kernel
theorem dL_kept_240 : decode cL_kept 240 = .ok (.lstore 12, 2) := by decide +kernel
theorem dL_kept_242 : decode cL_kept 242 = .ok (.aload_n 0, 1) := by decide +kernel
theorem dL_kept_243 : decode cL_kept 243 = .ok (.iload 7, 2) := by decide +kernel
theorem dL_kept_245 : decode cL_kept 245 = .ok (.bipush 8, 2) := by decide +kernel
theorem dL_kept_247 : decode cL_kept 247 = .ok (.invokestatic 93, 3) := by decide +kernel
theorem dL_kept_250 : decode cL_kept 250 = .ok (.lstore 14, 2) := by decide +kernel
theorem dL_kept_252 : decode cL_kept 252 = .ok (.lload 5, 2) := by decide +kernel
theorem dL_kept_254 : decode cL_kept 254 = .ok (.aload_n 0, 1) := by decide +kernel
theorem dL_kept_255 : decode cL_kept 255 = .ok (.iload 7, 2) := by decide +kernel
theorem dL_kept_257 : decode cL_kept 257 = .ok (.iconst 4, 1) := by decide +kernel
theorem dL_kept_258 : decode cL_kept 258 = .ok (.invokestatic 93, 3) := by decide +kernel
theorem dL_kept_261 : decode cL_kept 261 = .ok (.ladd, 1) := by decide +kernel
theorem dL_kept_262 : decode cL_kept 262 = .ok (.lstore 5, 2) := by decide +kernel
theorem dL_kept_264 : decode cL_kept 264 = .ok (.iload 4, 2) := by decide +kernel
theorem dL_kept_266 : decode cL_kept 266 = .ok (.aload_n 0, 1) := by decide +kernel
theorem dL_kept_267 : decode cL_kept 267 = .ok (.iload 7, 2) := by decide +kernel
theorem dL_kept_269 : decode cL_kept 269 = .ok (.bipush 9, 2) := by decide +kernel
theorem dL_kept_271 : decode cL_kept 271 = .ok (.invokestatic 93, 3) := by decide +kernel
theorem dL_kept_274 : decode cL_kept 274 = .ok (.iload 7, 2) := by decide +kernel
theorem dL_kept_276 : decode cL_kept 276 = .ok (.i2l, 1) := by decide +kernel
theorem dL_kept_277 : decode cL_kept 277 = .ok (.lcmp, 1) := by decide +kernel
theorem dL_kept_278 : decode cL_kept 278 = .ok (.ifCond .ne 7, 3) := by decide +kernel
theorem dL_kept_281 : decode cL_kept 281 = .ok (.iconst 1, 1) := by decide +kernel
theorem dL_kept_282 : decode cL_kept 282 = .ok (.goto 4, 3) := by decide +kernel
theorem dL_kept_285 : decode cL_kept 285 = .ok (.iconst 0, 1) := by decide +kernel
theorem dL_kept_286 : decode cL_kept 286 = .ok (.iadd, 1) := by decide +kernel
theorem dL_kept_287 : decode cL_kept 287 = .ok (.istore 4, 2) := by decide +kernel
theorem dL_kept_289 : decode cL_kept 289 = .ok (.lload 8, 2) := by decide +kernel
theorem dL_kept_291 : decode cL_kept 291 = .ok (.lconst 0, 1) := by decide +kernel
theorem dL_kept_292 : decode cL_kept 292 = .ok (.ldc2_w 143, 3) := by decide +kernel
theorem dL_kept_295 : decode cL_kept 295 = .ok (.invokestatic 133, 3) := by decide +kernel
theorem dL_kept_298 : decode cL_kept 298 = .ok (.ifCond .eq 164, 3) := by decide +kernel
theorem dL_kept_301 : decode cL_kept 301 = .ok (.ldc2_w 145, 3) := by decide +kernel
theorem dL_kept_304 : decode cL_kept 304 = .ok (.iload 7, 2) := by decide +kernel
theorem dL_kept_306 : decode cL_kept 306 = .ok (.i2l, 1) := by decide +kernel
theorem dL_kept_307 : decode cL_kept 307 = .ok (.lmul, 1) := by decide +kernel
theorem dL_kept_308 : decode cL_kept 308 = .ok (.lload 10, 2) := by decide +kernel
theorem dL_kept_310 : decode cL_kept 310 = .ok (.ladd, 1) := by decide +kernel
theorem dL_kept_311 : decode cL_kept 311 = .ok (.aload_n 0, 1) := by decide +kernel
theorem dL_kept_312 : decode cL_kept 312 = .ok (.iload 7, 2) := by decide +kernel
theorem dL_kept_314 : decode cL_kept 314 = .ok (.bipush 7, 2) := by decide +kernel
theorem dL_kept_316 : decode cL_kept 316 = .ok (.invokestatic 93, 3) := by decide +kernel
theorem dL_kept_319 : decode cL_kept 319 = .ok (.ladd, 1) := by decide +kernel
theorem dL_kept_320 : decode cL_kept 320 = .ok (.lload 8, 2) := by decide +kernel
theorem dL_kept_322 : decode cL_kept 322 = .ok (.lsub, 1) := by decide +kernel
theorem dL_kept_323 : decode cL_kept 323 = .ok (.ldc2_w 147, 3) := by decide +kernel
theorem dL_kept_326 : decode cL_kept 326 = .ok (.lrem, 1) := by decide +kernel
theorem dL_kept_327 : decode cL_kept 327 = .ok (.lconst 0, 1) := by decide +kernel
theorem dL_kept_328 : decode cL_kept 328 = .ok (.lcmp, 1) := by decide +kernel
theorem dL_kept_329 : decode cL_kept 329 = .ok (.ifCond .ne 133, 3) := by decide +kernel
theorem dL_kept_332 : decode cL_kept 332 = .ok (.aload_n 0, 1) := by decide +kernel
theorem dL_kept_333 : decode cL_kept 333 = .ok (.iload 7, 2) := by decide +kernel
theorem dL_kept_335 : decode cL_kept 335 = .ok (.iconst 3, 1) := by decide +kernel
theorem dL_kept_336 : decode cL_kept 336 = .ok (.invokestatic 93, 3) := by decide +kernel
theorem dL_kept_339 : decode cL_kept 339 = .ok (.lconst 0, 1) := by decide +kernel
theorem dL_kept_340 : decode cL_kept 340 = .ok (.ldc2_w 149, 3) := by decide +kernel
theorem dL_kept_343 : decode cL_kept 343 = .ok (.invokestatic 133, 3) := by decide +kernel
theorem dL_kept_346 : decode cL_kept 346 = .ok (.ifCond .eq 116, 3) := by decide +kernel
theorem dL_kept_349 : decode cL_kept 349 = .ok (.aload_n 0, 1) := by decide +kernel
theorem dL_kept_350 : decode cL_kept 350 = .ok (.iload 7, 2) := by decide +kernel
theorem dL_kept_352 : decode cL_kept 352 = .ok (.iconst 5, 1) := by decide +kernel
theorem dL_kept_353 : decode cL_kept 353 = .ok (.invokestatic 93, 3) := by decide +kernel
theorem dL_kept_356 : decode cL_kept 356 = .ok (.aload_n 0, 1) := by decide +kernel
theorem dL_kept_357 : decode cL_kept 357 = .ok (.iconst 0, 1) := by decide +kernel
theorem dL_kept_358 : decode cL_kept 358 = .ok (.invokestatic 103, 3) := by decide +kernel
theorem dL_kept_361 : decode cL_kept 361 = .ok (.lneg, 1) := by decide +kernel
theorem dL_kept_362 : decode cL_kept 362 = .ok (.aload_n 0, 1) := by decide +kernel
theorem dL_kept_363 : decode cL_kept 363 = .ok (.iconst 0, 1) := by decide +kernel
theorem dL_kept_364 : decode cL_kept 364 = .ok (.invokestatic 103, 3) := by decide +kernel
theorem dL_kept_367 : decode cL_kept 367 = .ok (.invokestatic 133, 3) := by decide +kernel
theorem dL_kept_370 : decode cL_kept 370 = .ok (.ifCond .eq 92, 3) := by decide +kernel
theorem dL_kept_373 : decode cL_kept 373 = .ok (.aload_n 0, 1) := by decide +kernel
theorem dL_kept_374 : decode cL_kept 374 = .ok (.iload 7, 2) := by decide +kernel
theorem dL_kept_376 : decode cL_kept 376 = .ok (.iconst 3, 1) := by decide +kernel
theorem dL_kept_377 : decode cL_kept 377 = .ok (.invokestatic 93, 3) := by decide +kernel
theorem dL_kept_380 : decode cL_kept 380 = .ok (.lconst 0, 1) := by decide +kernel
theorem dL_kept_381 : decode cL_kept 381 = .ok (.lcmp, 1) := by decide +kernel
theorem dL_kept_382 : decode cL_kept 382 = .ok (.ifCond .gt 15, 3) := by decide +kernel
theorem dL_kept_385 : decode cL_kept 385 = .ok (.aload_n 0, 1) := by decide +kernel
theorem dL_kept_386 : decode cL_kept 386 = .ok (.iload 7, 2) := by decide +kernel
theorem dL_kept_388 : decode cL_kept 388 = .ok (.iconst 5, 1) := by decide +kernel
theorem dL_kept_389 : decode cL_kept 389 = .ok (.invokestatic 93, 3) := by decide +kernel
theorem dL_kept_392 : decode cL_kept 392 = .ok (.lconst 0, 1) := by decide +kernel
theorem dL_kept_393 : decode cL_kept 393 = .ok (.lcmp, 1) := by decide +kernel
theorem dL_kept_394 : decode cL_kept 394 = .ok (.ifCond .ne 68, 3) := by decide +kernel
theorem dL_kept_397 : decode cL_kept 397 = .ok (.lload 12, 2) := by decide +kernel
theorem dL_kept_399 : decode cL_kept 399 = .ok (.iload 7, 2) := by decide +kernel
theorem dL_kept_401 : decode cL_kept 401 = .ok (.lshr, 1) := by decide +kernel
theorem dL_kept_402 : decode cL_kept 402 = .ok (.lconst 1, 1) := by decide +kernel
theorem dL_kept_403 : decode cL_kept 403 = .ok (.land, 1) := by decide +kernel
theorem dL_kept_404 : decode cL_kept 404 = .ok (.lconst 1, 1) := by decide +kernel
theorem dL_kept_405 : decode cL_kept 405 = .ok (.lcmp, 1) := by decide +kernel
theorem dL_kept_406 : decode cL_kept 406 = .ok (.ifCond .ne 56, 3) := by decide +kernel
theorem dL_kept_409 : decode cL_kept 409 = .ok (.lload 14, 2) := by decide +kernel
theorem dL_kept_411 : decode cL_kept 411 = .ok (.lload 12, 2) := by decide +kernel
theorem dL_kept_413 : decode cL_kept 413 = .ok (.ldc2_w 139, 3) := by decide +kernel
theorem dL_kept_416 : decode cL_kept 416 = .ok (.lxor, 1) := by decide +kernel
theorem dL_kept_417 : decode cL_kept 417 = .ok (.land, 1) := by decide +kernel
theorem dL_kept_418 : decode cL_kept 418 = .ok (.lconst 0, 1) := by decide +kernel
theorem dL_kept_419 : decode cL_kept 419 = .ok (.lcmp, 1) := by decide +kernel
theorem dL_kept_420 : decode cL_kept 420 = .ok (.ifCond .ne 42, 3) := by decide +kernel
theorem dL_kept_423 : decode cL_kept 423 = .ok (.lload 14, 2) := by decide +kernel
theorem dL_kept_425 : decode cL_kept 425 = .ok (.iload 7, 2) := by decide +kernel
theorem dL_kept_427 : decode cL_kept 427 = .ok (.lshr, 1) := by decide +kernel
theorem dL_kept_428 : decode cL_kept 428 = .ok (.lconst 1, 1) := by decide +kernel
theorem dL_kept_429 : decode cL_kept 429 = .ok (.land, 1) := by decide +kernel
theorem dL_kept_430 : decode cL_kept 430 = .ok (.lconst 0, 1) := by decide +kernel
theorem dL_kept_431 : decode cL_kept 431 = .ok (.lcmp, 1) := by decide +kernel
theorem dL_kept_432 : decode cL_kept 432 = .ok (.ifCond .ne 30, 3) := by decide +kernel
theorem dL_kept_435 : decode cL_kept 435 = .ok (.aload_n 0, 1) := by decide +kernel
theorem dL_kept_436 : decode cL_kept 436 = .ok (.aload_n 0, 1) := by decide +kernel
theorem dL_kept_437 : decode cL_kept 437 = .ok (.iload 7, 2) := by decide +kernel
theorem dL_kept_439 : decode cL_kept 439 = .ok (.iconst 0, 1) := by decide +kernel
theorem dL_kept_440 : decode cL_kept 440 = .ok (.invokestatic 93, 3) := by decide +kernel
theorem dL_kept_443 : decode cL_kept 443 = .ok (.l2i, 1) := by decide +kernel
theorem dL_kept_444 : decode cL_kept 444 = .ok (.iconst 1, 1) := by decide +kernel
theorem dL_kept_445 : decode cL_kept 445 = .ok (.invokestatic 101, 3) := by decide +kernel
theorem dL_kept_448 : decode cL_kept 448 = .ok (.iload 7, 2) := by decide +kernel
theorem dL_kept_450 : decode cL_kept 450 = .ok (.lshr, 1) := by decide +kernel
theorem dL_kept_451 : decode cL_kept 451 = .ok (.lconst 1, 1) := by decide +kernel
theorem dL_kept_452 : decode cL_kept 452 = .ok (.land, 1) := by decide +kernel
theorem dL_kept_453 : decode cL_kept 453 = .ok (.lconst 1, 1) := by decide +kernel
theorem dL_kept_454 : decode cL_kept 454 = .ok (.lcmp, 1) := by decide +kernel
theorem dL_kept_455 : decode cL_kept 455 = .ok (.ifCond .ne 7, 3) := by decide +kernel
theorem dL_kept_458 : decode cL_kept 458 = .ok (.iconst 1, 1) := by decide +kernel
theorem dL_kept_459 : decode cL_kept 459 = .ok (.goto 4, 3) := by decide +kernel
theorem dL_kept_462 : decode cL_kept 462 = .ok (.iconst 0, 1) := by decide +kernel
theorem dL_kept_463 : decode cL_kept 463 = .ok (.istore_n 1, 1) := by decide +kernel
theorem dL_kept_464 : decode cL_kept 464 = .ok (.iconst 0, 1) := by decide +kernel
theorem dL_kept_465 : decode cL_kept 465 = .ok (.istore 16, 2) := by decide +kernel
theorem dL_kept_467 : decode cL_kept 467 = .ok (.iload 16, 2) := by decide +kernel
theorem dL_kept_469 : decode cL_kept 469 = .ok (.bipush 8, 2) := by decide +kernel
theorem dL_kept_471 : decode cL_kept 471 = .ok (.if_icmp .ge 256, 3) := by decide +kernel
theorem dL_kept_474 : decode cL_kept 474 = .ok (.iload_n 1, 1) := by decide +kernel
theorem dL_kept_475 : decode cL_kept 475 = .ok (.ifCond .eq 252, 3) := by decide +kernel
theorem dL_kept_478 : decode cL_kept 478 = .ok (.iload 7, 2) := by decide +kernel
theorem dL_kept_480 : decode cL_kept 480 = .ok (.iload 16, 2) := by decide +kernel
theorem dL_kept_482 : decode cL_kept 482 = .ok (.if_icmp .eq 239, 3) := by decide +kernel
theorem dL_kept_485 : decode cL_kept 485 = .ok (.aload_n 0, 1) := by decide +kernel
theorem dL_kept_486 : decode cL_kept 486 = .ok (.iload 7, 2) := by decide +kernel
theorem dL_kept_488 : decode cL_kept 488 = .ok (.iload 16, 2) := by decide +kernel
theorem dL_kept_490 : decode cL_kept 490 = .ok (.iconst 0, 1) := by decide +kernel
theorem dL_kept_491 : decode cL_kept 491 = .ok (.invokestatic 96, 3) := by decide +kernel
theorem dL_kept_494 : decode cL_kept 494 = .ok (.lstore 17, 2) := by decide +kernel
theorem dL_kept_496 : decode cL_kept 496 = .ok (.aload_n 0, 1) := by decide +kernel
theorem dL_kept_497 : decode cL_kept 497 = .ok (.iload 16, 2) := by decide +kernel
theorem dL_kept_499 : decode cL_kept 499 = .ok (.iload 7, 2) := by decide +kernel
theorem dL_kept_501 : decode cL_kept 501 = .ok (.iconst 0, 1) := by decide +kernel
theorem dL_kept_502 : decode cL_kept 502 = .ok (.invokestatic 96, 3) := by decide +kernel
theorem dL_kept_505 : decode cL_kept 505 = .ok (.lstore 19, 2) := by decide +kernel
theorem dL_kept_507 : decode cL_kept 507 = .ok (.lload 14, 2) := by decide +kernel
theorem dL_kept_509 : decode cL_kept 509 = .ok (.iload 16, 2) := by decide +kernel
theorem dL_kept_511 : decode cL_kept 511 = .ok (.lshr, 1) := by decide +kernel
theorem dL_kept_512 : decode cL_kept 512 = .ok (.lconst 1, 1) := by decide +kernel
theorem dL_kept_513 : decode cL_kept 513 = .ok (.land, 1) := by decide +kernel
theorem dL_kept_514 : decode cL_kept 514 = .ok (.lconst 1, 1) := by decide +kernel
theorem dL_kept_515 : decode cL_kept 515 = .ok (.lcmp, 1) := by decide +kernel
theorem dL_kept_516 : decode cL_kept 516 = .ok (.ifCond .ne 7, 3) := by decide +kernel
theorem dL_kept_519 : decode cL_kept 519 = .ok (.iconst 1, 1) := by decide +kernel
theorem dL_kept_520 : decode cL_kept 520 = .ok (.goto 4, 3) := by decide +kernel
theorem dL_kept_523 : decode cL_kept 523 = .ok (.iconst 0, 1) := by decide +kernel
theorem dL_kept_524 : decode cL_kept 524 = .ok (.istore 21, 2) := by decide +kernel
theorem dL_kept_526 : decode cL_kept 526 = .ok (.iload_n 3, 1) := by decide +kernel
theorem dL_kept_527 : decode cL_kept 527 = .ok (.iload 21, 2) := by decide +kernel
theorem dL_kept_529 : decode cL_kept 529 = .ok (.ifCond .eq 7, 3) := by decide +kernel
theorem dL_kept_532 : decode cL_kept 532 = .ok (.iconst 1, 1) := by decide +kernel
theorem dL_kept_533 : decode cL_kept 533 = .ok (.goto 4, 3) := by decide +kernel
theorem dL_kept_536 : decode cL_kept 536 = .ok (.iconst 0, 1) := by decide +kernel
theorem dL_kept_537 : decode cL_kept 537 = .ok (.iadd, 1) := by decide +kernel
theorem dL_kept_538 : decode cL_kept 538 = .ok (.istore_n 3, 1) := by decide +kernel
theorem dL_kept_539 : decode cL_kept 539 = .ok (.lload 17, 2) := by decide +kernel
theorem dL_kept_541 : decode cL_kept 541 = .ok (.ldc2_w 151, 3) := by decide +kernel
theorem dL_kept_544 : decode cL_kept 544 = .ok (.ldc2_w 153, 3) := by decide +kernel
theorem dL_kept_547 : decode cL_kept 547 = .ok (.invokestatic 133, 3) := by decide +kernel
theorem dL_kept_550 : decode cL_kept 550 = .ok (.ifCond .eq 169, 3) := by decide +kernel
theorem dL_kept_553 : decode cL_kept 553 = .ok (.lload 17, 2) := by decide +kernel
theorem dL_kept_555 : decode cL_kept 555 = .ok (.lload 19, 2) := by decide +kernel
theorem dL_kept_557 : decode cL_kept 557 = .ok (.lneg, 1) := by decide +kernel
theorem dL_kept_558 : decode cL_kept 558 = .ok (.lcmp, 1) := by decide +kernel
theorem dL_kept_559 : decode cL_kept 559 = .ok (.ifCond .eq 21, 3) := by decide +kernel
theorem dL_kept_562 : decode cL_kept 562 = .ok (.lload 17, 2) := by decide +kernel
theorem dL_kept_564 : decode cL_kept 564 = .ok (.ldc2_w 151, 3) := by decide +kernel
theorem dL_kept_567 : decode cL_kept 567 = .ok (.lcmp, 1) := by decide +kernel
theorem dL_kept_568 : decode cL_kept 568 = .ok (.ifCond .ne 151, 3) := by decide +kernel
theorem dL_kept_571 : decode cL_kept 571 = .ok (.lload 19, 2) := by decide +kernel
theorem dL_kept_573 : decode cL_kept 573 = .ok (.ldc2_w 151, 3) := by decide +kernel
theorem dL_kept_576 : decode cL_kept 576 = .ok (.lcmp, 1) := by decide +kernel
theorem dL_kept_577 : decode cL_kept 577 = .ok (.ifCond .ne 142, 3) := by decide +kernel
theorem dL_kept_580 : decode cL_kept 580 = .ok (.aload_n 0, 1) := by decide +kernel
theorem dL_kept_581 : decode cL_kept 581 = .ok (.iload 16, 2) := by decide +kernel
theorem dL_kept_583 : decode cL_kept 583 = .ok (.iconst 2, 1) := by decide +kernel
theorem dL_kept_584 : decode cL_kept 584 = .ok (.invokestatic 93, 3) := by decide +kernel
theorem dL_kept_587 : decode cL_kept 587 = .ok (.lload 8, 2) := by decide +kernel
theorem dL_kept_589 : decode cL_kept 589 = .ok (.lsub, 1) := by decide +kernel
theorem dL_kept_590 : decode cL_kept 590 = .ok (.lload 17, 2) := by decide +kernel
theorem dL_kept_592 : decode cL_kept 592 = .ok (.lsub, 1) := by decide +kernel
theorem dL_kept_593 : decode cL_kept 593 = .ok (.ldc2_w 147, 3) := by decide +kernel
theorem dL_kept_596 : decode cL_kept 596 = .ok (.lrem, 1) := by decide +kernel
theorem dL_kept_597 : decode cL_kept 597 = .ok (.lconst 0, 1) := by decide +kernel
theorem dL_kept_598 : decode cL_kept 598 = .ok (.lcmp, 1) := by decide +kernel
theorem dL_kept_599 : decode cL_kept 599 = .ok (.ifCond .ne 120, 3) := by decide +kernel
theorem dL_kept_602 : decode cL_kept 602 = .ok (.aload_n 0, 1) := by decide +kernel
theorem dL_kept_603 : decode cL_kept 603 = .ok (.iload 7, 2) := by decide +kernel
theorem dL_kept_605 : decode cL_kept 605 = .ok (.iload 16, 2) := by decide +kernel
theorem dL_kept_607 : decode cL_kept 607 = .ok (.iconst 1, 1) := by decide +kernel
theorem dL_kept_608 : decode cL_kept 608 = .ok (.invokestatic 96, 3) := by decide +kernel
theorem dL_kept_611 : decode cL_kept 611 = .ok (.aload_n 0, 1) := by decide +kernel
theorem dL_kept_612 : decode cL_kept 612 = .ok (.iload 16, 2) := by decide +kernel
theorem dL_kept_614 : decode cL_kept 614 = .ok (.iload 7, 2) := by decide +kernel
theorem dL_kept_616 : decode cL_kept 616 = .ok (.iconst 1, 1) := by decide +kernel
theorem dL_kept_617 : decode cL_kept 617 = .ok (.invokestatic 96, 3) := by decide +kernel
theorem dL_kept_620 : decode cL_kept 620 = .ok (.lcmp, 1) := by decide +kernel
theorem dL_kept_621 : decode cL_kept 621 = .ok (.ifCond .ne 98, 3) := by decide +kernel
theorem dL_kept_624 : decode cL_kept 624 = .ok (.aload_n 0, 1) := by decide +kernel
theorem dL_kept_625 : decode cL_kept 625 = .ok (.iload 7, 2) := by decide +kernel
theorem dL_kept_627 : decode cL_kept 627 = .ok (.iload 16, 2) := by decide +kernel
theorem dL_kept_629 : decode cL_kept 629 = .ok (.iconst 2, 1) := by decide +kernel
theorem dL_kept_630 : decode cL_kept 630 = .ok (.invokestatic 96, 3) := by decide +kernel
theorem dL_kept_633 : decode cL_kept 633 = .ok (.lconst 0, 1) := by decide +kernel
theorem dL_kept_634 : decode cL_kept 634 = .ok (.lcmp, 1) := by decide +kernel
theorem dL_kept_635 : decode cL_kept 635 = .ok (.ifCond .ne 7, 3) := by decide +kernel
theorem dL_kept_638 : decode cL_kept 638 = .ok (.iconst 1, 1) := by decide +kernel
theorem dL_kept_639 : decode cL_kept 639 = .ok (.goto 4, 3) := by decide +kernel
theorem dL_kept_642 : decode cL_kept 642 = .ok (.iconst 0, 1) := by decide +kernel
theorem dL_kept_643 : decode cL_kept 643 = .ok (.iload 21, 2) := by decide +kernel
theorem dL_kept_645 : decode cL_kept 645 = .ok (.if_icmp .ne 74, 3) := by decide +kernel
theorem dL_kept_648 : decode cL_kept 648 = .ok (.iload 21, 2) := by decide +kernel
theorem dL_kept_650 : decode cL_kept 650 = .ok (.aload_n 0, 1) := by decide +kernel
theorem dL_kept_651 : decode cL_kept 651 = .ok (.iload 7, 2) := by decide +kernel
theorem dL_kept_653 : decode cL_kept 653 = .ok (.iload 16, 2) := by decide +kernel
theorem dL_kept_655 : decode cL_kept 655 = .ok (.iconst 1, 1) := by decide +kernel
theorem dL_kept_656 : decode cL_kept 656 = .ok (.invokestatic 96, 3) := by decide +kernel
theorem dL_kept_659 : decode cL_kept 659 = .ok (.aload_n 0, 1) := by decide +kernel
theorem dL_kept_660 : decode cL_kept 660 = .ok (.iconst 2, 1) := by decide +kernel
theorem dL_kept_661 : decode cL_kept 661 = .ok (.invokestatic 103, 3) := by decide +kernel
theorem dL_kept_664 : decode cL_kept 664 = .ok (.lcmp, 1) := by decide +kernel
theorem dL_kept_665 : decode cL_kept 665 = .ok (.ifCond .lt 7, 3) := by decide +kernel
theorem dL_kept_668 : decode cL_kept 668 = .ok (.iconst 1, 1) := by decide +kernel
theorem dL_kept_669 : decode cL_kept 669 = .ok (.goto 4, 3) := by decide +kernel
theorem dL_kept_672 : decode cL_kept 672 = .ok (.iconst 0, 1) := by decide +kernel
theorem dL_kept_673 : decode cL_kept 673 = .ok (.if_icmp .ne 46, 3) := by decide +kernel
theorem dL_kept_676 : decode cL_kept 676 = .ok (.aload_n 0, 1) := by decide +kernel
theorem dL_kept_677 : decode cL_kept 677 = .ok (.iload 16, 2) := by decide +kernel
theorem dL_kept_679 : decode cL_kept 679 = .ok (.bipush 10, 2) := by decide +kernel
theorem dL_kept_681 : decode cL_kept 681 = .ok (.invokestatic 93, 3) := by decide +kernel
theorem dL_kept_684 : decode cL_kept 684 = .ok (.lload 12, 2) := by decide +kernel
theorem dL_kept_686 : decode cL_kept 686 = .ok (.lcmp, 1) := by decide +kernel
theorem dL_kept_687 : decode cL_kept 687 = .ok (.ifCond .ne 7, 3) := by decide +kernel
theorem dL_kept_690 : decode cL_kept 690 = .ok (.iconst 1, 1) := by decide +kernel
theorem dL_kept_691 : decode cL_kept 691 = .ok (.goto 4, 3) := by decide +kernel
theorem dL_kept_694 : decode cL_kept 694 = .ok (.iconst 0, 1) := by decide +kernel
theorem dL_kept_695 : decode cL_kept 695 = .ok (.lload 12, 2) := by decide +kernel
theorem dL_kept_697 : decode cL_kept 697 = .ok (.iload 16, 2) := by decide +kernel
theorem dL_kept_699 : decode cL_kept 699 = .ok (.lshr, 1) := by decide +kernel
theorem dL_kept_700 : decode cL_kept 700 = .ok (.lconst 1, 1) := by decide +kernel
theorem dL_kept_701 : decode cL_kept 701 = .ok (.land, 1) := by decide +kernel
theorem dL_kept_702 : decode cL_kept 702 = .ok (.lconst 1, 1) := by decide +kernel
theorem dL_kept_703 : decode cL_kept 703 = .ok (.lcmp, 1) := by decide +kernel
theorem dL_kept_704 : decode cL_kept 704 = .ok (.ifCond .ne 7, 3) := by decide +kernel
theorem dL_kept_707 : decode cL_kept 707 = .ok (.iconst 1, 1) := by decide +kernel
theorem dL_kept_708 : decode cL_kept 708 = .ok (.goto 4, 3) := by decide +kernel
theorem dL_kept_711 : decode cL_kept 711 = .ok (.iconst 0, 1) := by decide +kernel
theorem dL_kept_712 : decode cL_kept 712 = .ok (.if_icmp .ne 7, 3) := by decide +kernel
theorem dL_kept_715 : decode cL_kept 715 = .ok (.iconst 1, 1) := by decide +kernel
theorem dL_kept_716 : decode cL_kept 716 = .ok (.goto 4, 3) := by decide +kernel
theorem dL_kept_719 : decode cL_kept 719 = .ok (.iconst 0, 1) := by decide +kernel
theorem dL_kept_720 : decode cL_kept 720 = .ok (.istore_n 1, 1) := by decide +kernel
theorem dL_kept_721 : decode cL_kept 721 = .ok (.iinc 16 1, 3) := by decide +kernel
theorem dL_kept_724 : decode cL_kept 724 = .ok (.goto (-257), 3) := by decide +kernel
theorem dL_kept_727 : decode cL_kept 727 = .ok (.iinc 7 1, 3) := by decide +kernel
theorem dL_kept_730 : decode cL_kept 730 = .ok (.goto (-528), 3) := by decide +kernel
theorem dL_kept_733 : decode cL_kept 733 = .ok (.iload_n 1, 1) := by decide +kernel
theorem dL_kept_734 : decode cL_kept 734 = .ok (.ifCond .eq 45, 3) := by decide +kernel
theorem dL_kept_737 : decode cL_kept 737 = .ok (.lload 5, 2) := by decide +kernel
theorem dL_kept_739 : decode cL_kept 739 = .ok (.aload_n 0, 1) := by decide +kernel
theorem dL_kept_740 : decode cL_kept 740 = .ok (.iconst 1, 1) := by decide +kernel
theorem dL_kept_741 : decode cL_kept 741 = .ok (.invokestatic 88, 3) := by decide +kernel
theorem dL_kept_744 : decode cL_kept 744 = .ok (.lcmp, 1) := by decide +kernel
theorem dL_kept_745 : decode cL_kept 745 = .ok (.ifCond .ne 34, 3) := by decide +kernel
theorem dL_kept_748 : decode cL_kept 748 = .ok (.ldc2_w 155, 3) := by decide +kernel
theorem dL_kept_751 : decode cL_kept 751 = .ok (.aload_n 0, 1) := by decide +kernel
theorem dL_kept_752 : decode cL_kept 752 = .ok (.iconst 3, 1) := by decide +kernel
theorem dL_kept_753 : decode cL_kept 753 = .ok (.invokestatic 88, 3) := by decide +kernel
theorem dL_kept_756 : decode cL_kept 756 = .ok (.lmul, 1) := by decide +kernel
theorem dL_kept_757 : decode cL_kept 757 = .ok (.iload_n 3, 1) := by decide +kernel
theorem dL_kept_758 : decode cL_kept 758 = .ok (.i2l, 1) := by decide +kernel
theorem dL_kept_759 : decode cL_kept 759 = .ok (.lcmp, 1) := by decide +kernel
theorem dL_kept_760 : decode cL_kept 760 = .ok (.ifCond .ne 19, 3) := by decide +kernel
theorem dL_kept_763 : decode cL_kept 763 = .ok (.aload_n 0, 1) := by decide +kernel
theorem dL_kept_764 : decode cL_kept 764 = .ok (.iconst 4, 1) := by decide +kernel
theorem dL_kept_765 : decode cL_kept 765 = .ok (.invokestatic 88, 3) := by decide +kernel
theorem dL_kept_768 : decode cL_kept 768 = .ok (.iload 4, 2) := by decide +kernel
theorem dL_kept_770 : decode cL_kept 770 = .ok (.i2l, 1) := by decide +kernel
theorem dL_kept_771 : decode cL_kept 771 = .ok (.lcmp, 1) := by decide +kernel
theorem dL_kept_772 : decode cL_kept 772 = .ok (.ifCond .ne 7, 3) := by decide +kernel
theorem dL_kept_775 : decode cL_kept 775 = .ok (.iconst 1, 1) := by decide +kernel
theorem dL_kept_776 : decode cL_kept 776 = .ok (.goto 4, 3) := by decide +kernel
theorem dL_kept_779 : decode cL_kept 779 = .ok (.iconst 0, 1) := by decide +kernel
theorem dL_kept_780 : decode cL_kept 780 = .ok (.ireturn, 1) := by decide +kernel
theorem dL_follows_0 : decode cL_follows 0 = .ok (.aload_n 0, 1) := by decide +kernel
theorem dL_follows_1 : decode cL_follows 1 = .ok (.invokestatic 105, 3) := by decide +kernel
theorem dL_follows_4 : decode cL_follows 4 = .ok (.lstore_n 2, 1) := by decide +kernel
theorem dL_follows_5 : decode cL_follows 5 = .ok (.iload_n 1, 1) := by decide +kernel
theorem dL_follows_6 : decode cL_follows 6 = .ok (.bipush 8, 2) := by decide +kernel
theorem dL_follows_8 : decode cL_follows 8 = .ok (.irem, 1) := by decide +kernel
theorem dL_follows_9 : decode cL_follows 9 = .ok (.istore 4, 2) := by decide +kernel
theorem dL_follows_11 : decode cL_follows 11 = .ok (.iload 4, 2) := by decide +kernel
theorem dL_follows_13 : decode cL_follows 13 = .ok (.iconst 1, 1) := by decide +kernel
theorem dL_follows_14 : decode cL_follows 14 = .ok (.iadd, 1) := by decide +kernel
theorem dL_follows_15 : decode cL_follows 15 = .ok (.iload_n 1, 1) := by decide +kernel
theorem dL_follows_16 : decode cL_follows 16 = .ok (.bipush 8, 2) := by decide +kernel
theorem dL_follows_18 : decode cL_follows 18 = .ok (.idiv, 1) := by decide +kernel
theorem dL_follows_19 : decode cL_follows 19 = .ok (.bipush 7, 2) := by decide +kernel
theorem dL_follows_21 : decode cL_follows 21 = .ok (.irem, 1) := by decide +kernel
theorem dL_follows_22 : decode cL_follows 22 = .ok (.iadd, 1) := by decide +kernel
theorem dL_follows_23 : decode cL_follows 23 = .ok (.bipush 8, 2) := by decide +kernel
theorem dL_follows_25 : decode cL_follows 25 = .ok (.irem, 1) := by decide +kernel
theorem dL_follows_26 : decode cL_follows 26 = .ok (.istore 5, 2) := by decide +kernel
theorem dL_follows_28 : decode cL_follows 28 = .ok (.iconst 1, 1) := by decide +kernel
theorem dL_follows_29 : decode cL_follows 29 = .ok (.iload_n 1, 1) := by decide +kernel
theorem dL_follows_30 : decode cL_follows 30 = .ok (.bipush 60, 2) := by decide +kernel
theorem dL_follows_32 : decode cL_follows 32 = .ok (.irem, 1) := by decide +kernel
theorem dL_follows_33 : decode cL_follows 33 = .ok (.iadd, 1) := by decide +kernel
theorem dL_follows_34 : decode cL_follows 34 = .ok (.istore 6, 2) := by decide +kernel
theorem dL_follows_36 : decode cL_follows 36 = .ok (.aload_n 0, 1) := by decide +kernel
theorem dL_follows_37 : decode cL_follows 37 = .ok (.iload 6, 2) := by decide +kernel
theorem dL_follows_39 : decode cL_follows 39 = .ok (.iload 4, 2) := by decide +kernel
theorem dL_follows_41 : decode cL_follows 41 = .ok (.iconst 0, 1) := by decide +kernel
theorem dL_follows_42 : decode cL_follows 42 = .ok (.invokestatic 125, 3) := by decide +kernel
theorem dL_follows_45 : decode cL_follows 45 = .ok (.lstore 7, 2) := by decide +kernel
theorem dL_follows_47 : decode cL_follows 47 = .ok (.aload_n 0, 1) := by decide +kernel
theorem dL_follows_48 : decode cL_follows 48 = .ok (.iload 6, 2) := by decide +kernel
theorem dL_follows_50 : decode cL_follows 50 = .ok (.iload 4, 2) := by decide +kernel
theorem dL_follows_52 : decode cL_follows 52 = .ok (.iconst 1, 1) := by decide +kernel
theorem dL_follows_53 : decode cL_follows 53 = .ok (.invokestatic 125, 3) := by decide +kernel
theorem dL_follows_56 : decode cL_follows 56 = .ok (.lstore 9, 2) := by decide +kernel
theorem dL_follows_58 : decode cL_follows 58 = .ok (.aload_n 0, 1) := by decide +kernel
theorem dL_follows_59 : decode cL_follows 59 = .ok (.iload 6, 2) := by decide +kernel
theorem dL_follows_61 : decode cL_follows 61 = .ok (.iload 4, 2) := by decide +kernel
theorem dL_follows_63 : decode cL_follows 63 = .ok (.iconst 2, 1) := by decide +kernel
theorem dL_follows_64 : decode cL_follows 64 = .ok (.invokestatic 125, 3) := by decide +kernel
theorem dL_follows_67 : decode cL_follows 67 = .ok (.lstore 11, 2) := by decide +kernel
theorem dL_follows_69 : decode cL_follows 69 = .ok (.aload_n 0, 1) := by decide +kernel
theorem dL_follows_70 : decode cL_follows 70 = .ok (.iload 4, 2) := by decide +kernel
theorem dL_follows_72 : decode cL_follows 72 = .ok (.iconst 4, 1) := by decide +kernel
theorem dL_follows_73 : decode cL_follows 73 = .ok (.invokestatic 93, 3) := by decide +kernel
theorem dL_follows_76 : decode cL_follows 76 = .ok (.lstore 13, 2) := by decide +kernel
theorem dL_follows_78 : decode cL_follows 78 = .ok (.aload_n 0, 1) := by decide +kernel
theorem dL_follows_79 : decode cL_follows 79 = .ok (.iload 4, 2) := by decide +kernel
theorem dL_follows_81 : decode cL_follows 81 = .ok (.iload 5, 2) := by decide +kernel
theorem dL_follows_83 : decode cL_follows 83 = .ok (.invokestatic 127, 3) := by decide +kernel
theorem dL_follows_86 : decode cL_follows 86 = .ok (.lstore 15, 2) := by decide +kernel
theorem dL_follows_88 : decode cL_follows 88 = .ok (.aload_n 0, 1) := by decide +kernel
theorem dL_follows_89 : decode cL_follows 89 = .ok (.invokevirtual 157, 3) := by decide +kernel
theorem dL_follows_92 : decode cL_follows 92 = .ok (.istore 17, 2) := by decide +kernel
theorem dL_follows_94 : decode cL_follows 94 = .ok (.aload_n 0, 1) := by decide +kernel
theorem dL_follows_95 : decode cL_follows 95 = .ok (.iconst 1, 1) := by decide +kernel
theorem dL_follows_96 : decode cL_follows 96 = .ok (.invokestatic 88, 3) := by decide +kernel
theorem dL_follows_99 : decode cL_follows 99 = .ok (.lstore 18, 2) := by decide +kernel
theorem dL_follows_101 : decode cL_follows 101 = .ok (.aload_n 0, 1) := by decide +kernel
theorem dL_follows_102 : decode cL_follows 102 = .ok (.invokestatic 105, 3) := by decide +kernel
theorem dL_follows_105 : decode cL_follows 105 = .ok (.lload_n 2, 1) := by decide +kernel
theorem dL_follows_106 : decode cL_follows 106 = .ok (.lcmp, 1) := by decide +kernel
theorem dL_follows_107 : decode cL_follows 107 = .ok (.ifCond .ne 86, 3) := by decide +kernel
theorem dL_follows_110 : decode cL_follows 110 = .ok (.aload_n 0, 1) := by decide +kernel
theorem dL_follows_111 : decode cL_follows 111 = .ok (.iload 6, 2) := by decide +kernel
theorem dL_follows_113 : decode cL_follows 113 = .ok (.invokestatic 109, 3) := by decide +kernel
theorem dL_follows_116 : decode cL_follows 116 = .ok (.aload_n 0, 1) := by decide +kernel
theorem dL_follows_117 : decode cL_follows 117 = .ok (.iconst 1, 1) := by decide +kernel
theorem dL_follows_118 : decode cL_follows 118 = .ok (.invokestatic 88, 3) := by decide +kernel
theorem dL_follows_121 : decode cL_follows 121 = .ok (.lload 18, 2) := by decide +kernel
theorem dL_follows_123 : decode cL_follows 123 = .ok (.lsub, 1) := by decide +kernel
theorem dL_follows_124 : decode cL_follows 124 = .ok (.lcmp, 1) := by decide +kernel
theorem dL_follows_125 : decode cL_follows 125 = .ok (.ifCond .ne 68, 3) := by decide +kernel
theorem dL_follows_128 : decode cL_follows 128 = .ok (.aload_n 0, 1) := by decide +kernel
theorem dL_follows_129 : decode cL_follows 129 = .ok (.iload 4, 2) := by decide +kernel
theorem dL_follows_131 : decode cL_follows 131 = .ok (.iconst 2, 1) := by decide +kernel
theorem dL_follows_132 : decode cL_follows 132 = .ok (.invokestatic 93, 3) := by decide +kernel
theorem dL_follows_135 : decode cL_follows 135 = .ok (.lload 7, 2) := by decide +kernel
theorem dL_follows_137 : decode cL_follows 137 = .ok (.lcmp, 1) := by decide +kernel
theorem dL_follows_138 : decode cL_follows 138 = .ok (.ifCond .ne 55, 3) := by decide +kernel
theorem dL_follows_141 : decode cL_follows 141 = .ok (.aload_n 0, 1) := by decide +kernel
theorem dL_follows_142 : decode cL_follows 142 = .ok (.iload 4, 2) := by decide +kernel
theorem dL_follows_144 : decode cL_follows 144 = .ok (.iconst 4, 1) := by decide +kernel
theorem dL_follows_145 : decode cL_follows 145 = .ok (.invokestatic 93, 3) := by decide +kernel
theorem dL_follows_148 : decode cL_follows 148 = .ok (.lload 13, 2) := by decide +kernel
theorem dL_follows_150 : decode cL_follows 150 = .ok (.lload 9, 2) := by decide +kernel
theorem dL_follows_152 : decode cL_follows 152 = .ok (.ladd, 1) := by decide +kernel
theorem dL_follows_153 : decode cL_follows 153 = .ok (.lcmp, 1) := by decide +kernel
theorem dL_follows_154 : decode cL_follows 154 = .ok (.ifCond .ne 39, 3) := by decide +kernel
theorem dL_follows_157 : decode cL_follows 157 = .ok (.aload_n 0, 1) := by decide +kernel
theorem dL_follows_158 : decode cL_follows 158 = .ok (.iload 4, 2) := by decide +kernel
theorem dL_follows_160 : decode cL_follows 160 = .ok (.bipush 10, 2) := by decide +kernel
theorem dL_follows_162 : decode cL_follows 162 = .ok (.invokestatic 93, 3) := by decide +kernel
theorem dL_follows_165 : decode cL_follows 165 = .ok (.lload 11, 2) := by decide +kernel
theorem dL_follows_167 : decode cL_follows 167 = .ok (.lcmp, 1) := by decide +kernel
theorem dL_follows_168 : decode cL_follows 168 = .ok (.ifCond .ne 25, 3) := by decide +kernel
theorem dL_follows_171 : decode cL_follows 171 = .ok (.aload_n 0, 1) := by decide +kernel
theorem dL_follows_172 : decode cL_follows 172 = .ok (.invokestatic 160, 3) := by decide +kernel
theorem dL_follows_175 : decode cL_follows 175 = .ok (.lconst 0, 1) := by decide +kernel
theorem dL_follows_176 : decode cL_follows 176 = .ok (.lcmp, 1) := by decide +kernel
theorem dL_follows_177 : decode cL_follows 177 = .ok (.ifCond .lt 16, 3) := by decide +kernel
theorem dL_follows_180 : decode cL_follows 180 = .ok (.aload_n 0, 1) := by decide +kernel
theorem dL_follows_181 : decode cL_follows 181 = .ok (.invokestatic 105, 3) := by decide +kernel
theorem dL_follows_184 : decode cL_follows 184 = .ok (.lload_n 2, 1) := by decide +kernel
theorem dL_follows_185 : decode cL_follows 185 = .ok (.lcmp, 1) := by decide +kernel
theorem dL_follows_186 : decode cL_follows 186 = .ok (.ifCond .ne 7, 3) := by decide +kernel
theorem dL_follows_189 : decode cL_follows 189 = .ok (.iconst 1, 1) := by decide +kernel
theorem dL_follows_190 : decode cL_follows 190 = .ok (.goto 4, 3) := by decide +kernel
theorem dL_follows_193 : decode cL_follows 193 = .ok (.iconst 0, 1) := by decide +kernel
theorem dL_follows_194 : decode cL_follows 194 = .ok (.istore 20, 2) := by decide +kernel
theorem dL_follows_196 : decode cL_follows 196 = .ok (.iload 6, 2) := by decide +kernel
theorem dL_follows_198 : decode cL_follows 198 = .ok (.iconst 1, 1) := by decide +kernel
theorem dL_follows_199 : decode cL_follows 199 = .ok (.if_icmp .le 68, 3) := by decide +kernel
theorem dL_follows_202 : decode cL_follows 202 = .ok (.iload 20, 2) := by decide +kernel
theorem dL_follows_204 : decode cL_follows 204 = .ok (.ifCond .eq 63, 3) := by decide +kernel
theorem dL_follows_207 : decode cL_follows 207 = .ok (.aload_n 0, 1) := by decide +kernel
theorem dL_follows_208 : decode cL_follows 208 = .ok (.iconst 1, 1) := by decide +kernel
theorem dL_follows_209 : decode cL_follows 209 = .ok (.invokestatic 109, 3) := by decide +kernel
theorem dL_follows_212 : decode cL_follows 212 = .ok (.lconst 0, 1) := by decide +kernel
theorem dL_follows_213 : decode cL_follows 213 = .ok (.lcmp, 1) := by decide +kernel
theorem dL_follows_214 : decode cL_follows 214 = .ok (.ifCond .lt 50, 3) := by decide +kernel
theorem dL_follows_217 : decode cL_follows 217 = .ok (.aload_n 0, 1) := by decide +kernel
theorem dL_follows_218 : decode cL_follows 218 = .ok (.iload 6, 2) := by decide +kernel
theorem dL_follows_220 : decode cL_follows 220 = .ok (.iconst 1, 1) := by decide +kernel
theorem dL_follows_221 : decode cL_follows 221 = .ok (.isub, 1) := by decide +kernel
theorem dL_follows_222 : decode cL_follows 222 = .ok (.iload 4, 2) := by decide +kernel
theorem dL_follows_224 : decode cL_follows 224 = .ok (.iconst 0, 1) := by decide +kernel
theorem dL_follows_225 : decode cL_follows 225 = .ok (.invokestatic 125, 3) := by decide +kernel
theorem dL_follows_228 : decode cL_follows 228 = .ok (.lload 7, 2) := by decide +kernel
theorem dL_follows_230 : decode cL_follows 230 = .ok (.lcmp, 1) := by decide +kernel
theorem dL_follows_231 : decode cL_follows 231 = .ok (.ifCond .ne 33, 3) := by decide +kernel
theorem dL_follows_234 : decode cL_follows 234 = .ok (.aload_n 0, 1) := by decide +kernel
theorem dL_follows_235 : decode cL_follows 235 = .ok (.iload 6, 2) := by decide +kernel
theorem dL_follows_237 : decode cL_follows 237 = .ok (.iconst 1, 1) := by decide +kernel
theorem dL_follows_238 : decode cL_follows 238 = .ok (.isub, 1) := by decide +kernel
theorem dL_follows_239 : decode cL_follows 239 = .ok (.iload 4, 2) := by decide +kernel
theorem dL_follows_241 : decode cL_follows 241 = .ok (.iconst 2, 1) := by decide +kernel
theorem dL_follows_242 : decode cL_follows 242 = .ok (.invokestatic 125, 3) := by decide +kernel
theorem dL_follows_245 : decode cL_follows 245 = .ok (.lload 11, 2) := by decide +kernel
theorem dL_follows_247 : decode cL_follows 247 = .ok (.lcmp, 1) := by decide +kernel
theorem dL_follows_248 : decode cL_follows 248 = .ok (.ifCond .ne 16, 3) := by decide +kernel
theorem dL_follows_251 : decode cL_follows 251 = .ok (.aload_n 0, 1) := by decide +kernel
theorem dL_follows_252 : decode cL_follows 252 = .ok (.invokestatic 160, 3) := by decide +kernel
theorem dL_follows_255 : decode cL_follows 255 = .ok (.lconst 0, 1) := by decide +kernel
theorem dL_follows_256 : decode cL_follows 256 = .ok (.lcmp, 1) := by decide +kernel
theorem dL_follows_257 : decode cL_follows 257 = .ok (.ifCond .lt 7, 3) := by decide +kernel
theorem dL_follows_260 : decode cL_follows 260 = .ok (.iconst 1, 1) := by decide +kernel
theorem dL_follows_261 : decode cL_follows 261 = .ok (.goto 4, 3) := by decide +kernel
theorem dL_follows_264 : decode cL_follows 264 = .ok (.iconst 0, 1) := by decide +kernel
theorem dL_follows_265 : decode cL_follows 265 = .ok (.istore 20, 2) := by decide +kernel
theorem dL_follows_267 : decode cL_follows 267 = .ok (.lload 15, 2) := by decide +kernel
theorem dL_follows_269 : decode cL_follows 269 = .ok (.lconst 0, 1) := by decide +kernel
theorem dL_follows_270 : decode cL_follows 270 = .ok (.lcmp, 1) := by decide +kernel
theorem dL_follows_271 : decode cL_follows 271 = .ok (.ifCond .le 102, 3) := by decide +kernel
theorem dL_follows_274 : decode cL_follows 274 = .ok (.lload 15, 2) := by decide +kernel
theorem dL_follows_276 : decode cL_follows 276 = .ok (.ldc2_w 162, 3) := by decide +kernel
theorem dL_follows_279 : decode cL_follows 279 = .ok (.lcmp, 1) := by decide +kernel
theorem dL_follows_280 : decode cL_follows 280 = .ok (.ifCond .gt 93, 3) := by decide +kernel
theorem dL_follows_283 : decode cL_follows 283 = .ok (.iload 20, 2) := by decide +kernel
theorem dL_follows_285 : decode cL_follows 285 = .ok (.ifCond .eq 88, 3) := by decide +kernel
theorem dL_follows_288 : decode cL_follows 288 = .ok (.aload_n 0, 1) := by decide +kernel
theorem dL_follows_289 : decode cL_follows 289 = .ok (.lload 15, 2) := by decide +kernel
theorem dL_follows_291 : decode cL_follows 291 = .ok (.l2i, 1) := by decide +kernel
theorem dL_follows_292 : decode cL_follows 292 = .ok (.invokestatic 109, 3) := by decide +kernel
theorem dL_follows_295 : decode cL_follows 295 = .ok (.lconst 0, 1) := by decide +kernel
theorem dL_follows_296 : decode cL_follows 296 = .ok (.lcmp, 1) := by decide +kernel
theorem dL_follows_297 : decode cL_follows 297 = .ok (.ifCond .lt 73, 3) := by decide +kernel
theorem dL_follows_300 : decode cL_follows 300 = .ok (.aload_n 0, 1) := by decide +kernel
theorem dL_follows_301 : decode cL_follows 301 = .ok (.iload 4, 2) := by decide +kernel
theorem dL_follows_303 : decode cL_follows 303 = .ok (.iload 5, 2) := by decide +kernel
theorem dL_follows_305 : decode cL_follows 305 = .ok (.invokestatic 127, 3) := by decide +kernel
theorem dL_follows_308 : decode cL_follows 308 = .ok (.lconst 0, 1) := by decide +kernel
theorem dL_follows_309 : decode cL_follows 309 = .ok (.lcmp, 1) := by decide +kernel
theorem dL_follows_310 : decode cL_follows 310 = .ok (.ifCond .ne 60, 3) := by decide +kernel
theorem dL_follows_313 : decode cL_follows 313 = .ok (.aload_n 0, 1) := by decide +kernel
theorem dL_follows_314 : decode cL_follows 314 = .ok (.invokestatic 160, 3) := by decide +kernel
theorem dL_follows_317 : decode cL_follows 317 = .ok (.lconst 0, 1) := by decide +kernel
theorem dL_follows_318 : decode cL_follows 318 = .ok (.lcmp, 1) := by decide +kernel
theorem dL_follows_319 : decode cL_follows 319 = .ok (.ifCond .lt 51, 3) := by decide +kernel
theorem dL_follows_322 : decode cL_follows 322 = .ok (.lload 15, 2) := by decide +kernel
theorem dL_follows_324 : decode cL_follows 324 = .ok (.lconst 1, 1) := by decide +kernel
theorem dL_follows_325 : decode cL_follows 325 = .ok (.lcmp, 1) := by decide +kernel
theorem dL_follows_326 : decode cL_follows 326 = .ok (.ifCond .eq 40, 3) := by decide +kernel
theorem dL_follows_329 : decode cL_follows 329 = .ok (.aload_n 0, 1) := by decide +kernel
theorem dL_follows_330 : decode cL_follows 330 = .ok (.lload 15, 2) := by decide +kernel
theorem dL_follows_332 : decode cL_follows 332 = .ok (.l2i, 1) := by decide +kernel
theorem dL_follows_333 : decode cL_follows 333 = .ok (.iconst 1, 1) := by decide +kernel
theorem dL_follows_334 : decode cL_follows 334 = .ok (.isub, 1) := by decide +kernel
theorem dL_follows_335 : decode cL_follows 335 = .ok (.invokestatic 109, 3) := by decide +kernel
theorem dL_follows_338 : decode cL_follows 338 = .ok (.lconst 0, 1) := by decide +kernel
theorem dL_follows_339 : decode cL_follows 339 = .ok (.lcmp, 1) := by decide +kernel
theorem dL_follows_340 : decode cL_follows 340 = .ok (.ifCond .lt 30, 3) := by decide +kernel
theorem dL_follows_343 : decode cL_follows 343 = .ok (.aload_n 0, 1) := by decide +kernel
theorem dL_follows_344 : decode cL_follows 344 = .ok (.iload 4, 2) := by decide +kernel
theorem dL_follows_346 : decode cL_follows 346 = .ok (.iload 5, 2) := by decide +kernel
theorem dL_follows_348 : decode cL_follows 348 = .ok (.iconst 2, 1) := by decide +kernel
theorem dL_follows_349 : decode cL_follows 349 = .ok (.invokestatic 96, 3) := by decide +kernel
theorem dL_follows_352 : decode cL_follows 352 = .ok (.lconst 0, 1) := by decide +kernel
theorem dL_follows_353 : decode cL_follows 353 = .ok (.lcmp, 1) := by decide +kernel
theorem dL_follows_354 : decode cL_follows 354 = .ok (.ifCond .eq 16, 3) := by decide +kernel
theorem dL_follows_357 : decode cL_follows 357 = .ok (.aload_n 0, 1) := by decide +kernel
theorem dL_follows_358 : decode cL_follows 358 = .ok (.invokestatic 160, 3) := by decide +kernel
theorem dL_follows_361 : decode cL_follows 361 = .ok (.lconst 0, 1) := by decide +kernel
theorem dL_follows_362 : decode cL_follows 362 = .ok (.lcmp, 1) := by decide +kernel
theorem dL_follows_363 : decode cL_follows 363 = .ok (.ifCond .lt 7, 3) := by decide +kernel
theorem dL_follows_366 : decode cL_follows 366 = .ok (.iconst 1, 1) := by decide +kernel
theorem dL_follows_367 : decode cL_follows 367 = .ok (.goto 4, 3) := by decide +kernel
theorem dL_follows_370 : decode cL_follows 370 = .ok (.iconst 0, 1) := by decide +kernel
theorem dL_follows_371 : decode cL_follows 371 = .ok (.istore 20, 2) := by decide +kernel
theorem dL_follows_373 : decode cL_follows 373 = .ok (.iload 17, 2) := by decide +kernel
theorem dL_follows_375 : decode cL_follows 375 = .ok (.ifCond .le 71, 3) := by decide +kernel
theorem dL_follows_378 : decode cL_follows 378 = .ok (.iload 17, 2) := by decide +kernel
theorem dL_follows_380 : decode cL_follows 380 = .ok (.sipush 200, 3) := by decide +kernel
theorem dL_follows_383 : decode cL_follows 383 = .ok (.if_icmp .gt 63, 3) := by decide +kernel
theorem dL_follows_386 : decode cL_follows 386 = .ok (.iload 20, 2) := by decide +kernel
theorem dL_follows_388 : decode cL_follows 388 = .ok (.ifCond .eq 58, 3) := by decide +kernel
theorem dL_follows_391 : decode cL_follows 391 = .ok (.aload_n 0, 1) := by decide +kernel
theorem dL_follows_392 : decode cL_follows 392 = .ok (.iload 17, 2) := by decide +kernel
theorem dL_follows_394 : decode cL_follows 394 = .ok (.invokestatic 109, 3) := by decide +kernel
theorem dL_follows_397 : decode cL_follows 397 = .ok (.lconst 0, 1) := by decide +kernel
theorem dL_follows_398 : decode cL_follows 398 = .ok (.lcmp, 1) := by decide +kernel
theorem dL_follows_399 : decode cL_follows 399 = .ok (.ifCond .le 44, 3) := by decide +kernel
theorem dL_follows_402 : decode cL_follows 402 = .ok (.aload_n 0, 1) := by decide +kernel
theorem dL_follows_403 : decode cL_follows 403 = .ok (.invokestatic 160, 3) := by decide +kernel
theorem dL_follows_406 : decode cL_follows 406 = .ok (.lconst 0, 1) := by decide +kernel
theorem dL_follows_407 : decode cL_follows 407 = .ok (.lcmp, 1) := by decide +kernel
theorem dL_follows_408 : decode cL_follows 408 = .ok (.ifCond .lt 35, 3) := by decide +kernel
theorem dL_follows_411 : decode cL_follows 411 = .ok (.iload 17, 2) := by decide +kernel
theorem dL_follows_413 : decode cL_follows 413 = .ok (.iconst 1, 1) := by decide +kernel
theorem dL_follows_414 : decode cL_follows 414 = .ok (.if_icmp .eq 25, 3) := by decide +kernel
theorem dL_follows_417 : decode cL_follows 417 = .ok (.aload_n 0, 1) := by decide +kernel
theorem dL_follows_418 : decode cL_follows 418 = .ok (.iload 17, 2) := by decide +kernel
theorem dL_follows_420 : decode cL_follows 420 = .ok (.iconst 1, 1) := by decide +kernel
theorem dL_follows_421 : decode cL_follows 421 = .ok (.isub, 1) := by decide +kernel
theorem dL_follows_422 : decode cL_follows 422 = .ok (.invokestatic 109, 3) := by decide +kernel
theorem dL_follows_425 : decode cL_follows 425 = .ok (.lconst 0, 1) := by decide +kernel
theorem dL_follows_426 : decode cL_follows 426 = .ok (.lcmp, 1) := by decide +kernel
theorem dL_follows_427 : decode cL_follows 427 = .ok (.ifCond .ne 16, 3) := by decide +kernel
theorem dL_follows_430 : decode cL_follows 430 = .ok (.aload_n 0, 1) := by decide +kernel
theorem dL_follows_431 : decode cL_follows 431 = .ok (.invokestatic 160, 3) := by decide +kernel
theorem dL_follows_434 : decode cL_follows 434 = .ok (.lconst 0, 1) := by decide +kernel
theorem dL_follows_435 : decode cL_follows 435 = .ok (.lcmp, 1) := by decide +kernel
theorem dL_follows_436 : decode cL_follows 436 = .ok (.ifCond .lt 7, 3) := by decide +kernel
theorem dL_follows_439 : decode cL_follows 439 = .ok (.iconst 1, 1) := by decide +kernel
theorem dL_follows_440 : decode cL_follows 440 = .ok (.goto 4, 3) := by decide +kernel
theorem dL_follows_443 : decode cL_follows 443 = .ok (.iconst 0, 1) := by decide +kernel
theorem dL_follows_444 : decode cL_follows 444 = .ok (.istore 20, 2) := by decide +kernel
theorem dL_follows_446 : decode cL_follows 446 = .ok (.aload_n 0, 1) := by decide +kernel
theorem dL_follows_447 : decode cL_follows 447 = .ok (.iload 4, 2) := by decide +kernel
theorem dL_follows_449 : decode cL_follows 449 = .ok (.iconst 2, 1) := by decide +kernel
theorem dL_follows_450 : decode cL_follows 450 = .ok (.invokestatic 93, 3) := by decide +kernel
theorem dL_follows_453 : decode cL_follows 453 = .ok (.lstore 21, 2) := by decide +kernel
theorem dL_follows_455 : decode cL_follows 455 = .ok (.iload 20, 2) := by decide +kernel
theorem dL_follows_457 : decode cL_follows 457 = .ok (.ifCond .eq 62, 3) := by decide +kernel
theorem dL_follows_460 : decode cL_follows 460 = .ok (.aload_n 0, 1) := by decide +kernel
theorem dL_follows_461 : decode cL_follows 461 = .ok (.iload 4, 2) := by decide +kernel
theorem dL_follows_463 : decode cL_follows 463 = .ok (.iconst 1, 1) := by decide +kernel
theorem dL_follows_464 : decode cL_follows 464 = .ok (.iload_n 1, 1) := by decide +kernel
theorem dL_follows_465 : decode cL_follows 465 = .ok (.sipush 499, 3) := by decide +kernel
theorem dL_follows_468 : decode cL_follows 468 = .ok (.irem, 1) := by decide +kernel
theorem dL_follows_469 : decode cL_follows 469 = .ok (.iadd, 1) := by decide +kernel
theorem dL_follows_470 : decode cL_follows 470 = .ok (.invokestatic 111, 3) := by decide +kernel
theorem dL_follows_473 : decode cL_follows 473 = .ok (.lconst 0, 1) := by decide +kernel
theorem dL_follows_474 : decode cL_follows 474 = .ok (.lcmp, 1) := by decide +kernel
theorem dL_follows_475 : decode cL_follows 475 = .ok (.ifCond .lt 44, 3) := by decide +kernel
theorem dL_follows_478 : decode cL_follows 478 = .ok (.aload_n 0, 1) := by decide +kernel
theorem dL_follows_479 : decode cL_follows 479 = .ok (.iload 4, 2) := by decide +kernel
theorem dL_follows_481 : decode cL_follows 481 = .ok (.iconst (-1), 1) := by decide +kernel
theorem dL_follows_482 : decode cL_follows 482 = .ok (.iload_n 1, 1) := by decide +kernel
theorem dL_follows_483 : decode cL_follows 483 = .ok (.sipush 499, 3) := by decide +kernel
theorem dL_follows_486 : decode cL_follows 486 = .ok (.irem, 1) := by decide +kernel
theorem dL_follows_487 : decode cL_follows 487 = .ok (.isub, 1) := by decide +kernel
theorem dL_follows_488 : decode cL_follows 488 = .ok (.invokestatic 111, 3) := by decide +kernel
theorem dL_follows_491 : decode cL_follows 491 = .ok (.lload 21, 2) := by decide +kernel
theorem dL_follows_493 : decode cL_follows 493 = .ok (.lcmp, 1) := by decide +kernel
theorem dL_follows_494 : decode cL_follows 494 = .ok (.ifCond .ne 25, 3) := by decide +kernel
theorem dL_follows_497 : decode cL_follows 497 = .ok (.aload_n 0, 1) := by decide +kernel
theorem dL_follows_498 : decode cL_follows 498 = .ok (.invokestatic 160, 3) := by decide +kernel
theorem dL_follows_501 : decode cL_follows 501 = .ok (.lconst 0, 1) := by decide +kernel
theorem dL_follows_502 : decode cL_follows 502 = .ok (.lcmp, 1) := by decide +kernel
theorem dL_follows_503 : decode cL_follows 503 = .ok (.ifCond .lt 16, 3) := by decide +kernel
theorem dL_follows_506 : decode cL_follows 506 = .ok (.aload_n 0, 1) := by decide +kernel
theorem dL_follows_507 : decode cL_follows 507 = .ok (.invokestatic 160, 3) := by decide +kernel
theorem dL_follows_510 : decode cL_follows 510 = .ok (.lconst 0, 1) := by decide +kernel
theorem dL_follows_511 : decode cL_follows 511 = .ok (.lcmp, 1) := by decide +kernel
theorem dL_follows_512 : decode cL_follows 512 = .ok (.ifCond .lt 7, 3) := by decide +kernel
theorem dL_follows_515 : decode cL_follows 515 = .ok (.iconst 1, 1) := by decide +kernel
theorem dL_follows_516 : decode cL_follows 516 = .ok (.goto 4, 3) := by decide +kernel
theorem dL_follows_519 : decode cL_follows 519 = .ok (.iconst 0, 1) := by decide +kernel
theorem dL_follows_520 : decode cL_follows 520 = .ok (.istore 20, 2) := by decide +kernel
theorem dL_follows_522 : decode cL_follows 522 = .ok (.iload 20, 2) := by decide +kernel
theorem dL_follows_524 : decode cL_follows 524 = .ok (.ifCond .eq 45, 3) := by decide +kernel
theorem dL_follows_527 : decode cL_follows 527 = .ok (.aload_n 0, 1) := by decide +kernel
theorem dL_follows_528 : decode cL_follows 528 = .ok (.iload_n 1, 1) := by decide +kernel
theorem dL_follows_529 : decode cL_follows 529 = .ok (.iconst 3, 1) := by decide +kernel
theorem dL_follows_530 : decode cL_follows 530 = .ok (.irem, 1) := by decide +kernel
theorem dL_follows_531 : decode cL_follows 531 = .ok (.invokestatic 129, 3) := by decide +kernel
theorem dL_follows_534 : decode cL_follows 534 = .ok (.lconst 0, 1) := by decide +kernel
theorem dL_follows_535 : decode cL_follows 535 = .ok (.ldc2_w 164, 3) := by decide +kernel
theorem dL_follows_538 : decode cL_follows 538 = .ok (.invokestatic 133, 3) := by decide +kernel
theorem dL_follows_541 : decode cL_follows 541 = .ok (.ifCond .eq 28, 3) := by decide +kernel
theorem dL_follows_544 : decode cL_follows 544 = .ok (.aload_n 0, 1) := by decide +kernel
theorem dL_follows_545 : decode cL_follows 545 = .ok (.invokestatic 105, 3) := by decide +kernel
theorem dL_follows_548 : decode cL_follows 548 = .ok (.lload_n 2, 1) := by decide +kernel
theorem dL_follows_549 : decode cL_follows 549 = .ok (.lcmp, 1) := by decide +kernel
theorem dL_follows_550 : decode cL_follows 550 = .ok (.ifCond .ne 19, 3) := by decide +kernel
theorem dL_follows_553 : decode cL_follows 553 = .ok (.aload_n 0, 1) := by decide +kernel
theorem dL_follows_554 : decode cL_follows 554 = .ok (.invokevirtual 166, 3) := by decide +kernel
theorem dL_follows_557 : decode cL_follows 557 = .ok (.aload_n 0, 1) := by decide +kernel
theorem dL_follows_558 : decode cL_follows 558 = .ok (.invokevirtual 166, 3) := by decide +kernel
theorem dL_follows_561 : decode cL_follows 561 = .ok (.lcmp, 1) := by decide +kernel
theorem dL_follows_562 : decode cL_follows 562 = .ok (.ifCond .ne 7, 3) := by decide +kernel
theorem dL_follows_565 : decode cL_follows 565 = .ok (.iconst 1, 1) := by decide +kernel
theorem dL_follows_566 : decode cL_follows 566 = .ok (.goto 4, 3) := by decide +kernel
theorem dL_follows_569 : decode cL_follows 569 = .ok (.iconst 0, 1) := by decide +kernel
theorem dL_follows_570 : decode cL_follows 570 = .ok (.ireturn, 1) := by decide +kernel
theorem dL_alike_0 : decode cL_alike 0 = .ok (.aload_n 0, 1) := by decide +kernel
theorem dL_alike_1 : decode cL_alike 1 = .ok (.invokevirtual 166, 3) := by decide +kernel
theorem dL_alike_4 : decode cL_alike 4 = .ok (.aload_n 1, 1) := by decide +kernel
theorem dL_alike_5 : decode cL_alike 5 = .ok (.invokevirtual 166, 3) := by decide +kernel
theorem dL_alike_8 : decode cL_alike 8 = .ok (.lcmp, 1) := by decide +kernel
theorem dL_alike_9 : decode cL_alike 9 = .ok (.ifCond .ne 74, 3) := by decide +kernel
theorem dL_alike_12 : decode cL_alike 12 = .ok (.aload_n 0, 1) := by decide +kernel
theorem dL_alike_13 : decode cL_alike 13 = .ok (.invokevirtual 170, 3) := by decide +kernel
theorem dL_alike_16 : decode cL_alike 16 = .ok (.aload_n 1, 1) := by decide +kernel
theorem dL_alike_17 : decode cL_alike 17 = .ok (.invokevirtual 170, 3) := by decide +kernel
theorem dL_alike_20 : decode cL_alike 20 = .ok (.if_icmp .ne 63, 3) := by decide +kernel
theorem dL_alike_23 : decode cL_alike 23 = .ok (.aload_n 0, 1) := by decide +kernel
theorem dL_alike_24 : decode cL_alike 24 = .ok (.iload_n 2, 1) := by decide +kernel
theorem dL_alike_25 : decode cL_alike 25 = .ok (.iconst 3, 1) := by decide +kernel
theorem dL_alike_26 : decode cL_alike 26 = .ok (.irem, 1) := by decide +kernel
theorem dL_alike_27 : decode cL_alike 27 = .ok (.invokestatic 129, 3) := by decide +kernel
theorem dL_alike_30 : decode cL_alike 30 = .ok (.aload_n 1, 1) := by decide +kernel
theorem dL_alike_31 : decode cL_alike 31 = .ok (.iload_n 2, 1) := by decide +kernel
theorem dL_alike_32 : decode cL_alike 32 = .ok (.iconst 3, 1) := by decide +kernel
theorem dL_alike_33 : decode cL_alike 33 = .ok (.irem, 1) := by decide +kernel
theorem dL_alike_34 : decode cL_alike 34 = .ok (.invokestatic 129, 3) := by decide +kernel
theorem dL_alike_37 : decode cL_alike 37 = .ok (.lcmp, 1) := by decide +kernel
theorem dL_alike_38 : decode cL_alike 38 = .ok (.ifCond .ne 45, 3) := by decide +kernel
theorem dL_alike_41 : decode cL_alike 41 = .ok (.aload_n 0, 1) := by decide +kernel
theorem dL_alike_42 : decode cL_alike 42 = .ok (.iload_n 2, 1) := by decide +kernel
theorem dL_alike_43 : decode cL_alike 43 = .ok (.bipush 8, 2) := by decide +kernel
theorem dL_alike_45 : decode cL_alike 45 = .ok (.irem, 1) := by decide +kernel
theorem dL_alike_46 : decode cL_alike 46 = .ok (.iload_n 2, 1) := by decide +kernel
theorem dL_alike_47 : decode cL_alike 47 = .ok (.bipush 8, 2) := by decide +kernel
theorem dL_alike_49 : decode cL_alike 49 = .ok (.irem, 1) := by decide +kernel
theorem dL_alike_50 : decode cL_alike 50 = .ok (.iconst 1, 1) := by decide +kernel
theorem dL_alike_51 : decode cL_alike 51 = .ok (.iadd, 1) := by decide +kernel
theorem dL_alike_52 : decode cL_alike 52 = .ok (.bipush 8, 2) := by decide +kernel
theorem dL_alike_54 : decode cL_alike 54 = .ok (.irem, 1) := by decide +kernel
theorem dL_alike_55 : decode cL_alike 55 = .ok (.invokestatic 127, 3) := by decide +kernel
theorem dL_alike_58 : decode cL_alike 58 = .ok (.aload_n 1, 1) := by decide +kernel
theorem dL_alike_59 : decode cL_alike 59 = .ok (.iload_n 2, 1) := by decide +kernel
theorem dL_alike_60 : decode cL_alike 60 = .ok (.bipush 8, 2) := by decide +kernel
theorem dL_alike_62 : decode cL_alike 62 = .ok (.irem, 1) := by decide +kernel
theorem dL_alike_63 : decode cL_alike 63 = .ok (.iload_n 2, 1) := by decide +kernel
theorem dL_alike_64 : decode cL_alike 64 = .ok (.bipush 8, 2) := by decide +kernel
theorem dL_alike_66 : decode cL_alike 66 = .ok (.irem, 1) := by decide +kernel
theorem dL_alike_67 : decode cL_alike 67 = .ok (.iconst 1, 1) := by decide +kernel
theorem dL_alike_68 : decode cL_alike 68 = .ok (.iadd, 1) := by decide +kernel
theorem dL_alike_69 : decode cL_alike 69 = .ok (.bipush 8, 2) := by decide +kernel
theorem dL_alike_71 : decode cL_alike 71 = .ok (.irem, 1) := by decide +kernel
theorem dL_alike_72 : decode cL_alike 72 = .ok (.invokestatic 127, 3) := by decide +kernel
theorem dL_alike_75 : decode cL_alike 75 = .ok (.lcmp, 1) := by decide +kernel
theorem dL_alike_76 : decode cL_alike 76 = .ok (.ifCond .ne 7, 3) := by decide +kernel
theorem dL_alike_79 : decode cL_alike 79 = .ok (.iconst 1, 1) := by decide +kernel
theorem dL_alike_80 : decode cL_alike 80 = .ok (.goto 4, 3) := by decide +kernel
theorem dL_alike_83 : decode cL_alike 83 = .ok (.iconst 0, 1) := by decide +kernel
theorem dL_alike_84 : decode cL_alike 84 = .ok (.ireturn, 1) := by decide +kernel
theorem dL_says_0 : decode cL_says 0 = .ok (.aload_n 0, 1) := by decide +kernel
theorem dL_says_1 : decode cL_says 1 = .ok (.iload_n 1, 1) := by decide +kernel
theorem dL_says_2 : decode cL_says 2 = .ok (.invokestatic 123, 3) := by decide +kernel
theorem dL_says_5 : decode cL_says 5 = .ok (.lconst 0, 1) := by decide +kernel
theorem dL_says_6 : decode cL_says 6 = .ok (.lcmp, 1) := by decide +kernel
theorem dL_says_7 : decode cL_says 7 = .ok (.ifCond .le 27, 3) := by decide +kernel
theorem dL_says_10 : decode cL_says 10 = .ok (.aload_n 0, 1) := by decide +kernel
theorem dL_says_11 : decode cL_says 11 = .ok (.iload_n 2, 1) := by decide +kernel
theorem dL_says_12 : decode cL_says 12 = .ok (.invokestatic 123, 3) := by decide +kernel
theorem dL_says_15 : decode cL_says 15 = .ok (.lconst 0, 1) := by decide +kernel
theorem dL_says_16 : decode cL_says 16 = .ok (.lcmp, 1) := by decide +kernel
theorem dL_says_17 : decode cL_says 17 = .ok (.ifCond .le 17, 3) := by decide +kernel
theorem dL_says_20 : decode cL_says 20 = .ok (.aload_n 0, 1) := by decide +kernel
theorem dL_says_21 : decode cL_says 21 = .ok (.iload_n 3, 1) := by decide +kernel
theorem dL_says_22 : decode cL_says 22 = .ok (.invokestatic 123, 3) := by decide +kernel
theorem dL_says_25 : decode cL_says 25 = .ok (.lconst 0, 1) := by decide +kernel
theorem dL_says_26 : decode cL_says 26 = .ok (.lcmp, 1) := by decide +kernel
theorem dL_says_27 : decode cL_says 27 = .ok (.ifCond .le 7, 3) := by decide +kernel
theorem dL_says_30 : decode cL_says 30 = .ok (.iconst 1, 1) := by decide +kernel
theorem dL_says_31 : decode cL_says 31 = .ok (.goto 4, 3) := by decide +kernel
theorem dL_says_34 : decode cL_says 34 = .ok (.iconst 0, 1) := by decide +kernel
theorem dL_says_35 : decode cL_says 35 = .ok (.ireturn, 1) := by decide +kernel
theorem dL_told_0 : decode cL_told 0 = .ok (.aload_n 0, 1) := by decide +kernel
theorem dL_told_1 : decode cL_told 1 = .ok (.invokevirtual 173, 3) := by decide +kernel
theorem dL_told_4 : decode cL_told 4 = .ok (.ifCond .lt 7, 3) := by decide +kernel
theorem dL_told_7 : decode cL_told 7 = .ok (.iconst 1, 1) := by decide +kernel
theorem dL_told_8 : decode cL_told 8 = .ok (.goto 4, 3) := by decide +kernel
theorem dL_told_11 : decode cL_told 11 = .ok (.iconst 0, 1) := by decide +kernel
theorem dL_told_12 : decode cL_told 12 = .ok (.istore_n 2, 1) := by decide +kernel
theorem dL_told_13 : decode cL_told 13 = .ok (.iconst 0, 1) := by decide +kernel
theorem dL_told_14 : decode cL_told 14 = .ok (.istore_n 3, 1) := by decide +kernel
theorem dL_told_15 : decode cL_told 15 = .ok (.iload_n 3, 1) := by decide +kernel
theorem dL_told_16 : decode cL_told 16 = .ok (.iconst 1, 1) := by decide +kernel
theorem dL_told_17 : decode cL_told 17 = .ok (.iload_n 1, 1) := by decide +kernel
theorem dL_told_18 : decode cL_told 18 = .ok (.iconst 3, 1) := by decide +kernel
theorem dL_told_19 : decode cL_told 19 = .ok (.irem, 1) := by decide +kernel
theorem dL_told_20 : decode cL_told 20 = .ok (.iadd, 1) := by decide +kernel
theorem dL_told_21 : decode cL_told 21 = .ok (.if_icmp .ge 142, 3) := by decide +kernel
theorem dL_told_24 : decode cL_told 24 = .ok (.iload_n 2, 1) := by decide +kernel
theorem dL_told_25 : decode cL_told 25 = .ok (.ifCond .eq 138, 3) := by decide +kernel
theorem dL_told_28 : decode cL_told 28 = .ok (.iload_n 1, 1) := by decide +kernel
theorem dL_told_29 : decode cL_told 29 = .ok (.iload_n 3, 1) := by decide +kernel
theorem dL_told_30 : decode cL_told 30 = .ok (.ishr, 1) := by decide +kernel
theorem dL_told_31 : decode cL_told 31 = .ok (.istore 4, 2) := by decide +kernel
theorem dL_told_33 : decode cL_told 33 = .ok (.aload_n 0, 1) := by decide +kernel
theorem dL_told_34 : decode cL_told 34 = .ok (.bipush 107, 2) := by decide +kernel
theorem dL_told_36 : decode cL_told 36 = .ok (.bipush 48, 2) := by decide +kernel
theorem dL_told_38 : decode cL_told 38 = .ok (.iload 4, 2) := by decide +kernel
theorem dL_told_40 : decode cL_told 40 = .ok (.bipush 8, 2) := by decide +kernel
theorem dL_told_42 : decode cL_told 42 = .ok (.irem, 1) := by decide +kernel
theorem dL_told_43 : decode cL_told 43 = .ok (.iadd, 1) := by decide +kernel
theorem dL_told_44 : decode cL_told 44 = .ok (.iload 4, 2) := by decide +kernel
theorem dL_told_46 : decode cL_told 46 = .ok (.iconst 3, 1) := by decide +kernel
theorem dL_told_47 : decode cL_told 47 = .ok (.irem, 1) := by decide +kernel
theorem dL_told_48 : decode cL_told 48 = .ok (.ifCond .ne 8, 3) := by decide +kernel
theorem dL_told_51 : decode cL_told 51 = .ok (.bipush 45, 2) := by decide +kernel
theorem dL_told_53 : decode cL_told 53 = .ok (.goto 5, 3) := by decide +kernel
theorem dL_told_56 : decode cL_told 56 = .ok (.bipush 43, 2) := by decide +kernel
theorem dL_told_58 : decode cL_told 58 = .ok (.invokestatic 176, 3) := by decide +kernel
theorem dL_told_61 : decode cL_told 61 = .ok (.ifCond .eq 94, 3) := by decide +kernel
theorem dL_told_64 : decode cL_told 64 = .ok (.aload_n 0, 1) := by decide +kernel
theorem dL_told_65 : decode cL_told 65 = .ok (.bipush 49, 2) := by decide +kernel
theorem dL_told_67 : decode cL_told 67 = .ok (.iload 4, 2) := by decide +kernel
theorem dL_told_69 : decode cL_told 69 = .ok (.bipush 9, 2) := by decide +kernel
theorem dL_told_71 : decode cL_told 71 = .ok (.irem, 1) := by decide +kernel
theorem dL_told_72 : decode cL_told 72 = .ok (.iadd, 1) := by decide +kernel
theorem dL_told_73 : decode cL_told 73 = .ok (.bipush 59, 2) := by decide +kernel
theorem dL_told_75 : decode cL_told 75 = .ok (.bipush 119, 2) := by decide +kernel
theorem dL_told_77 : decode cL_told 77 = .ok (.invokestatic 176, 3) := by decide +kernel
theorem dL_told_80 : decode cL_told 80 = .ok (.ifCond .eq 75, 3) := by decide +kernel
theorem dL_told_83 : decode cL_told 83 = .ok (.aload_n 0, 1) := by decide +kernel
theorem dL_told_84 : decode cL_told 84 = .ok (.bipush 48, 2) := by decide +kernel
theorem dL_told_86 : decode cL_told 86 = .ok (.iload 4, 2) := by decide +kernel
theorem dL_told_88 : decode cL_told 88 = .ok (.iconst 2, 1) := by decide +kernel
theorem dL_told_89 : decode cL_told 89 = .ok (.idiv, 1) := by decide +kernel
theorem dL_told_90 : decode cL_told 90 = .ok (.bipush 8, 2) := by decide +kernel
theorem dL_told_92 : decode cL_told 92 = .ok (.irem, 1) := by decide +kernel
theorem dL_told_93 : decode cL_told 93 = .ok (.iadd, 1) := by decide +kernel
theorem dL_told_94 : decode cL_told 94 = .ok (.bipush 59, 2) := by decide +kernel
theorem dL_told_96 : decode cL_told 96 = .ok (.bipush 116, 2) := by decide +kernel
theorem dL_told_98 : decode cL_told 98 = .ok (.invokestatic 176, 3) := by decide +kernel
theorem dL_told_101 : decode cL_told 101 = .ok (.ifCond .eq 54, 3) := by decide +kernel
theorem dL_told_104 : decode cL_told 104 = .ok (.aload_n 0, 1) := by decide +kernel
theorem dL_told_105 : decode cL_told 105 = .ok (.bipush 49, 2) := by decide +kernel
theorem dL_told_107 : decode cL_told 107 = .ok (.iload 4, 2) := by decide +kernel
theorem dL_told_109 : decode cL_told 109 = .ok (.iconst 3, 1) := by decide +kernel
theorem dL_told_110 : decode cL_told 110 = .ok (.idiv, 1) := by decide +kernel
theorem dL_told_111 : decode cL_told 111 = .ok (.bipush 9, 2) := by decide +kernel
theorem dL_told_113 : decode cL_told 113 = .ok (.irem, 1) := by decide +kernel
theorem dL_told_114 : decode cL_told 114 = .ok (.iadd, 1) := by decide +kernel
theorem dL_told_115 : decode cL_told 115 = .ok (.bipush 59, 2) := by decide +kernel
theorem dL_told_117 : decode cL_told 117 = .ok (.bipush 98, 2) := by decide +kernel
theorem dL_told_119 : decode cL_told 119 = .ok (.invokestatic 176, 3) := by decide +kernel
theorem dL_told_122 : decode cL_told 122 = .ok (.ifCond .eq 33, 3) := by decide +kernel
theorem dL_told_125 : decode cL_told 125 = .ok (.aload_n 0, 1) := by decide +kernel
theorem dL_told_126 : decode cL_told 126 = .ok (.bipush 48, 2) := by decide +kernel
theorem dL_told_128 : decode cL_told 128 = .ok (.iload 4, 2) := by decide +kernel
theorem dL_told_130 : decode cL_told 130 = .ok (.iconst 5, 1) := by decide +kernel
theorem dL_told_131 : decode cL_told 131 = .ok (.idiv, 1) := by decide +kernel
theorem dL_told_132 : decode cL_told 132 = .ok (.bipush 8, 2) := by decide +kernel
theorem dL_told_134 : decode cL_told 134 = .ok (.irem, 1) := by decide +kernel
theorem dL_told_135 : decode cL_told 135 = .ok (.iadd, 1) := by decide +kernel
theorem dL_told_136 : decode cL_told 136 = .ok (.bipush 48, 2) := by decide +kernel
theorem dL_told_138 : decode cL_told 138 = .ok (.iload 4, 2) := by decide +kernel
theorem dL_told_140 : decode cL_told 140 = .ok (.iconst 3, 1) := by decide +kernel
theorem dL_told_141 : decode cL_told 141 = .ok (.irem, 1) := by decide +kernel
theorem dL_told_142 : decode cL_told 142 = .ok (.iadd, 1) := by decide +kernel
theorem dL_told_143 : decode cL_told 143 = .ok (.bipush 59, 2) := by decide +kernel
theorem dL_told_145 : decode cL_told 145 = .ok (.invokestatic 176, 3) := by decide +kernel
theorem dL_told_148 : decode cL_told 148 = .ok (.ifCond .eq 7, 3) := by decide +kernel
theorem dL_told_151 : decode cL_told 151 = .ok (.iconst 1, 1) := by decide +kernel
theorem dL_told_152 : decode cL_told 152 = .ok (.goto 4, 3) := by decide +kernel
theorem dL_told_155 : decode cL_told 155 = .ok (.iconst 0, 1) := by decide +kernel
theorem dL_told_156 : decode cL_told 156 = .ok (.istore_n 2, 1) := by decide +kernel
theorem dL_told_157 : decode cL_told 157 = .ok (.iinc 3 1, 3) := by decide +kernel
theorem dL_told_160 : decode cL_told 160 = .ok (.goto (-145), 3) := by decide +kernel
theorem dL_told_163 : decode cL_told 163 = .ok (.iload_n 2, 1) := by decide +kernel
theorem dL_told_164 : decode cL_told 164 = .ok (.ifCond .eq 54, 3) := by decide +kernel
theorem dL_told_167 : decode cL_told 167 = .ok (.aload_n 0, 1) := by decide +kernel
theorem dL_told_168 : decode cL_told 168 = .ok (.bipush 116, 2) := by decide +kernel
theorem dL_told_170 : decode cL_told 170 = .ok (.invokestatic 123, 3) := by decide +kernel
theorem dL_told_173 : decode cL_told 173 = .ok (.lconst 0, 1) := by decide +kernel
theorem dL_told_174 : decode cL_told 174 = .ok (.lcmp, 1) := by decide +kernel
theorem dL_told_175 : decode cL_told 175 = .ok (.ifCond .le 43, 3) := by decide +kernel
theorem dL_told_178 : decode cL_told 178 = .ok (.aload_n 0, 1) := by decide +kernel
theorem dL_told_179 : decode cL_told 179 = .ok (.bipush 49, 2) := by decide +kernel
theorem dL_told_181 : decode cL_told 181 = .ok (.iload_n 1, 1) := by decide +kernel
theorem dL_told_182 : decode cL_told 182 = .ok (.bipush 9, 2) := by decide +kernel
theorem dL_told_184 : decode cL_told 184 = .ok (.irem, 1) := by decide +kernel
theorem dL_told_185 : decode cL_told 185 = .ok (.iadd, 1) := by decide +kernel
theorem dL_told_186 : decode cL_told 186 = .ok (.invokestatic 123, 3) := by decide +kernel
theorem dL_told_189 : decode cL_told 189 = .ok (.lconst 0, 1) := by decide +kernel
theorem dL_told_190 : decode cL_told 190 = .ok (.lcmp, 1) := by decide +kernel
theorem dL_told_191 : decode cL_told 191 = .ok (.ifCond .le 27, 3) := by decide +kernel
theorem dL_told_194 : decode cL_told 194 = .ok (.aload_n 0, 1) := by decide +kernel
theorem dL_told_195 : decode cL_told 195 = .ok (.invokevirtual 170, 3) := by decide +kernel
theorem dL_told_198 : decode cL_told 198 = .ok (.iconst 2, 1) := by decide +kernel
theorem dL_told_199 : decode cL_told 199 = .ok (.bipush 15, 2) := by decide +kernel
theorem dL_told_201 : decode cL_told 201 = .ok (.iconst 1, 1) := by decide +kernel
theorem dL_told_202 : decode cL_told 202 = .ok (.iload_n 1, 1) := by decide +kernel
theorem dL_told_203 : decode cL_told 203 = .ok (.iconst 3, 1) := by decide +kernel
theorem dL_told_204 : decode cL_told 204 = .ok (.irem, 1) := by decide +kernel
theorem dL_told_205 : decode cL_told 205 = .ok (.iadd, 1) := by decide +kernel
theorem dL_told_206 : decode cL_told 206 = .ok (.imul, 1) := by decide +kernel
theorem dL_told_207 : decode cL_told 207 = .ok (.iadd, 1) := by decide +kernel
theorem dL_told_208 : decode cL_told 208 = .ok (.if_icmp .ne 10, 3) := by decide +kernel
theorem dL_told_211 : decode cL_told 211 = .ok (.aload_n 0, 1) := by decide +kernel
theorem dL_told_212 : decode cL_told 212 = .ok (.invokestatic 180, 3) := by decide +kernel
theorem dL_told_215 : decode cL_told 215 = .ok (.goto 6, 3) := by decide +kernel
theorem dL_told_218 : decode cL_told 218 = .ok (.ldc2_w 139, 3) := by decide +kernel
theorem dL_told_221 : decode cL_told 221 = .ok (.lreturn, 1) := by decide +kernel
theorem dL_act_0 : decode cL_act 0 = .ok (.iload_n 2, 1) := by decide +kernel
theorem dL_act_1 : decode cL_act 1 = .ok (.bipush 32, 2) := by decide +kernel
theorem dL_act_3 : decode cL_act 3 = .ok (.idiv, 1) := by decide +kernel
theorem dL_act_4 : decode cL_act 4 = .ok (.istore_n 3, 1) := by decide +kernel
theorem dL_act_5 : decode cL_act 5 = .ok (.iload_n 1, 1) := by decide +kernel
theorem dL_act_6 : decode cL_act 6 = .ok (.bipush 20, 2) := by decide +kernel
theorem dL_act_8 : decode cL_act 8 = .ok (.irem, 1) := by decide +kernel
theorem dL_act_9 : decode cL_act 9 = .ok (.tableswitch 220 0 18 #[91, 91, 91, 91, 91, 91, 114, 114, 132, 132, 144, 153, 153, 179, 191, 203, 209, 209, 214], 91) := by decide +kernel
theorem dL_act_100 : decode cL_act 100 = .ok (.aload_n 0, 1) := by decide +kernel
theorem dL_act_101 : decode cL_act 101 = .ok (.iconst 1, 1) := by decide +kernel
theorem dL_act_102 : decode cL_act 102 = .ok (.iload_n 2, 1) := by decide +kernel
theorem dL_act_103 : decode cL_act 103 = .ok (.iload_n 3, 1) := by decide +kernel
theorem dL_act_104 : decode cL_act 104 = .ok (.iconst 5, 1) := by decide +kernel
theorem dL_act_105 : decode cL_act 105 = .ok (.irem, 1) := by decide +kernel
theorem dL_act_106 : decode cL_act 106 = .ok (.ifCond .ne 9, 3) := by decide +kernel
theorem dL_act_109 : decode cL_act 109 = .ok (.sipush 200, 3) := by decide +kernel
theorem dL_act_112 : decode cL_act 112 = .ok (.goto 5, 3) := by decide +kernel
theorem dL_act_115 : decode cL_act 115 = .ok (.bipush 12, 2) := by decide +kernel
theorem dL_act_117 : decode cL_act 117 = .ok (.irem, 1) := by decide +kernel
theorem dL_act_118 : decode cL_act 118 = .ok (.iadd, 1) := by decide +kernel
theorem dL_act_119 : decode cL_act 119 = .ok (.invokestatic 109, 3) := by decide +kernel
theorem dL_act_122 : decode cL_act 122 = .ok (.lreturn, 1) := by decide +kernel
theorem dL_act_123 : decode cL_act 123 = .ok (.aload_n 0, 1) := by decide +kernel
theorem dL_act_124 : decode cL_act 124 = .ok (.iload_n 2, 1) := by decide +kernel
theorem dL_act_125 : decode cL_act 125 = .ok (.bipush 8, 2) := by decide +kernel
theorem dL_act_127 : decode cL_act 127 = .ok (.irem, 1) := by decide +kernel
theorem dL_act_128 : decode cL_act 128 = .ok (.iload_n 3, 1) := by decide +kernel
theorem dL_act_129 : decode cL_act 129 = .ok (.sipush 1001, 3) := by decide +kernel
theorem dL_act_132 : decode cL_act 132 = .ok (.irem, 1) := by decide +kernel
theorem dL_act_133 : decode cL_act 133 = .ok (.sipush 500, 3) := by decide +kernel
theorem dL_act_136 : decode cL_act 136 = .ok (.isub, 1) := by decide +kernel
theorem dL_act_137 : decode cL_act 137 = .ok (.invokestatic 111, 3) := by decide +kernel
theorem dL_act_140 : decode cL_act 140 = .ok (.lreturn, 1) := by decide +kernel
theorem dL_act_141 : decode cL_act 141 = .ok (.aload_n 0, 1) := by decide +kernel
theorem dL_act_142 : decode cL_act 142 = .ok (.iload_n 2, 1) := by decide +kernel
theorem dL_act_143 : decode cL_act 143 = .ok (.bipush 8, 2) := by decide +kernel
theorem dL_act_145 : decode cL_act 145 = .ok (.irem, 1) := by decide +kernel
theorem dL_act_146 : decode cL_act 146 = .ok (.iload_n 3, 1) := by decide +kernel
theorem dL_act_147 : decode cL_act 147 = .ok (.iconst 3, 1) := by decide +kernel
theorem dL_act_148 : decode cL_act 148 = .ok (.irem, 1) := by decide +kernel
theorem dL_act_149 : decode cL_act 149 = .ok (.invokestatic 113, 3) := by decide +kernel
theorem dL_act_152 : decode cL_act 152 = .ok (.lreturn, 1) := by decide +kernel
theorem dL_act_153 : decode cL_act 153 = .ok (.aload_n 0, 1) := by decide +kernel
theorem dL_act_154 : decode cL_act 154 = .ok (.iload_n 2, 1) := by decide +kernel
theorem dL_act_155 : decode cL_act 155 = .ok (.bipush 8, 2) := by decide +kernel
theorem dL_act_157 : decode cL_act 157 = .ok (.irem, 1) := by decide +kernel
theorem dL_act_158 : decode cL_act 158 = .ok (.invokestatic 115, 3) := by decide +kernel
theorem dL_act_161 : decode cL_act 161 = .ok (.lreturn, 1) := by decide +kernel
theorem dL_act_162 : decode cL_act 162 = .ok (.aload_n 0, 1) := by decide +kernel
theorem dL_act_163 : decode cL_act 163 = .ok (.iload_n 2, 1) := by decide +kernel
theorem dL_act_164 : decode cL_act 164 = .ok (.bipush 8, 2) := by decide +kernel
theorem dL_act_166 : decode cL_act 166 = .ok (.irem, 1) := by decide +kernel
theorem dL_act_167 : decode cL_act 167 = .ok (.bipush 10, 2) := by decide +kernel
theorem dL_act_169 : decode cL_act 169 = .ok (.iload_n 3, 1) := by decide +kernel
theorem dL_act_170 : decode cL_act 170 = .ok (.iload_n 2, 1) := by decide +kernel
theorem dL_act_171 : decode cL_act 171 = .ok (.iconst 3, 1) := by decide +kernel
theorem dL_act_172 : decode cL_act 172 = .ok (.irem, 1) := by decide +kernel
theorem dL_act_173 : decode cL_act 173 = .ok (.ifCond .ne 8, 3) := by decide +kernel
theorem dL_act_176 : decode cL_act 176 = .ok (.bipush 51, 2) := by decide +kernel
theorem dL_act_178 : decode cL_act 178 = .ok (.goto 4, 3) := by decide +kernel
theorem dL_act_181 : decode cL_act 181 = .ok (.iconst 4, 1) := by decide +kernel
theorem dL_act_182 : decode cL_act 182 = .ok (.irem, 1) := by decide +kernel
theorem dL_act_183 : decode cL_act 183 = .ok (.iadd, 1) := by decide +kernel
theorem dL_act_184 : decode cL_act 184 = .ok (.invokestatic 117, 3) := by decide +kernel
theorem dL_act_187 : decode cL_act 187 = .ok (.lreturn, 1) := by decide +kernel
theorem dL_act_188 : decode cL_act 188 = .ok (.aload_n 0, 1) := by decide +kernel
theorem dL_act_189 : decode cL_act 189 = .ok (.iload_n 2, 1) := by decide +kernel
theorem dL_act_190 : decode cL_act 190 = .ok (.iconst 3, 1) := by decide +kernel
theorem dL_act_191 : decode cL_act 191 = .ok (.irem, 1) := by decide +kernel
theorem dL_act_192 : decode cL_act 192 = .ok (.iload_n 3, 1) := by decide +kernel
theorem dL_act_193 : decode cL_act 193 = .ok (.bipush 21, 2) := by decide +kernel
theorem dL_act_195 : decode cL_act 195 = .ok (.irem, 1) := by decide +kernel
theorem dL_act_196 : decode cL_act 196 = .ok (.invokestatic 119, 3) := by decide +kernel
theorem dL_act_199 : decode cL_act 199 = .ok (.lreturn, 1) := by decide +kernel
theorem dL_act_200 : decode cL_act 200 = .ok (.aload_n 0, 1) := by decide +kernel
theorem dL_act_201 : decode cL_act 201 = .ok (.iload_n 2, 1) := by decide +kernel
theorem dL_act_202 : decode cL_act 202 = .ok (.iconst 3, 1) := by decide +kernel
theorem dL_act_203 : decode cL_act 203 = .ok (.irem, 1) := by decide +kernel
theorem dL_act_204 : decode cL_act 204 = .ok (.iload_n 3, 1) := by decide +kernel
theorem dL_act_205 : decode cL_act 205 = .ok (.bipush 60, 2) := by decide +kernel
theorem dL_act_207 : decode cL_act 207 = .ok (.irem, 1) := by decide +kernel
theorem dL_act_208 : decode cL_act 208 = .ok (.invokestatic 121, 3) := by decide +kernel
theorem dL_act_211 : decode cL_act 211 = .ok (.lreturn, 1) := by decide +kernel
theorem dL_act_212 : decode cL_act 212 = .ok (.aload_n 0, 1) := by decide +kernel
theorem dL_act_213 : decode cL_act 213 = .ok (.iload_n 2, 1) := by decide +kernel
theorem dL_act_214 : decode cL_act 214 = .ok (.invokestatic 182, 3) := by decide +kernel
theorem dL_act_217 : decode cL_act 217 = .ok (.lreturn, 1) := by decide +kernel
theorem dL_act_218 : decode cL_act 218 = .ok (.aload_n 0, 1) := by decide +kernel
theorem dL_act_219 : decode cL_act 219 = .ok (.invokestatic 160, 3) := by decide +kernel
theorem dL_act_222 : decode cL_act 222 = .ok (.lreturn, 1) := by decide +kernel
theorem dL_act_223 : decode cL_act 223 = .ok (.aload_n 0, 1) := by decide +kernel
theorem dL_act_224 : decode cL_act 224 = .ok (.invokevirtual 185, 3) := by decide +kernel
theorem dL_act_227 : decode cL_act 227 = .ok (.i2l, 1) := by decide +kernel
theorem dL_act_228 : decode cL_act 228 = .ok (.lreturn, 1) := by decide +kernel
theorem dL_act_229 : decode cL_act 229 = .ok (.aload_n 0, 1) := by decide +kernel
theorem dL_act_230 : decode cL_act 230 = .ok (.invokestatic 188, 3) := by decide +kernel
theorem dL_act_233 : decode cL_act 233 = .ok (.lreturn, 1) := by decide +kernel
theorem dL_law_0 : decode cL_law 0 = .ok (.new 10, 3) := by decide +kernel
theorem dL_law_3 : decode cL_law 3 = .ok (.dup, 1) := by decide +kernel
theorem dL_law_4 : decode cL_law 4 = .ok (.invokespecial 190, 3) := by decide +kernel
theorem dL_law_7 : decode cL_law 7 = .ok (.astore_n 1, 1) := by decide +kernel
theorem dL_law_8 : decode cL_law 8 = .ok (.new 10, 3) := by decide +kernel
theorem dL_law_11 : decode cL_law 11 = .ok (.dup, 1) := by decide +kernel
theorem dL_law_12 : decode cL_law 12 = .ok (.invokespecial 190, 3) := by decide +kernel
theorem dL_law_15 : decode cL_law 15 = .ok (.astore_n 2, 1) := by decide +kernel
theorem dL_law_16 : decode cL_law 16 = .ok (.aload_n 1, 1) := by decide +kernel
theorem dL_law_17 : decode cL_law 17 = .ok (.aload_n 2, 1) := by decide +kernel
theorem dL_law_18 : decode cL_law 18 = .ok (.aload_n 0, 1) := by decide +kernel
theorem dL_law_19 : decode cL_law 19 = .ok (.iconst 0, 1) := by decide +kernel
theorem dL_law_20 : decode cL_law 20 = .ok (.invokestatic 191, 3) := by decide +kernel
theorem dL_law_23 : decode cL_law 23 = .ok (.invokestatic 195, 3) := by decide +kernel
theorem dL_law_26 : decode cL_law 26 = .ok (.ifCond .eq 21, 3) := by decide +kernel
theorem dL_law_29 : decode cL_law 29 = .ok (.aload_n 1, 1) := by decide +kernel
theorem dL_law_30 : decode cL_law 30 = .ok (.invokestatic 199, 3) := by decide +kernel
theorem dL_law_33 : decode cL_law 33 = .ok (.ifCond .eq 14, 3) := by decide +kernel
theorem dL_law_36 : decode cL_law 36 = .ok (.aload_n 1, 1) := by decide +kernel
theorem dL_law_37 : decode cL_law 37 = .ok (.invokestatic 203, 3) := by decide +kernel
theorem dL_law_40 : decode cL_law 40 = .ok (.ifCond .eq 7, 3) := by decide +kernel
theorem dL_law_43 : decode cL_law 43 = .ok (.iconst 1, 1) := by decide +kernel
theorem dL_law_44 : decode cL_law 44 = .ok (.goto 4, 3) := by decide +kernel
theorem dL_law_47 : decode cL_law 47 = .ok (.iconst 0, 1) := by decide +kernel
theorem dL_law_48 : decode cL_law 48 = .ok (.istore_n 3, 1) := by decide +kernel
theorem dL_law_49 : decode cL_law 49 = .ok (.iconst 0, 1) := by decide +kernel
theorem dL_law_50 : decode cL_law 50 = .ok (.istore 4, 2) := by decide +kernel
theorem dL_law_52 : decode cL_law 52 = .ok (.iload 4, 2) := by decide +kernel
theorem dL_law_54 : decode cL_law 54 = .ok (.bipush 36, 2) := by decide +kernel
theorem dL_law_56 : decode cL_law 56 = .ok (.if_icmp .ge 165, 3) := by decide +kernel
theorem dL_law_59 : decode cL_law 59 = .ok (.iload_n 3, 1) := by decide +kernel
theorem dL_law_60 : decode cL_law 60 = .ok (.ifCond .eq 161, 3) := by decide +kernel
theorem dL_law_63 : decode cL_law 63 = .ok (.aload_n 0, 1) := by decide +kernel
theorem dL_law_64 : decode cL_law 64 = .ok (.iconst 2, 1) := by decide +kernel
theorem dL_law_65 : decode cL_law 65 = .ok (.iload 4, 2) := by decide +kernel
theorem dL_law_67 : decode cL_law 67 = .ok (.imul, 1) := by decide +kernel
theorem dL_law_68 : decode cL_law 68 = .ok (.invokestatic 191, 3) := by decide +kernel
theorem dL_law_71 : decode cL_law 71 = .ok (.istore 5, 2) := by decide +kernel
theorem dL_law_73 : decode cL_law 73 = .ok (.aload_n 0, 1) := by decide +kernel
theorem dL_law_74 : decode cL_law 74 = .ok (.iconst 2, 1) := by decide +kernel
theorem dL_law_75 : decode cL_law 75 = .ok (.iload 4, 2) := by decide +kernel
theorem dL_law_77 : decode cL_law 77 = .ok (.imul, 1) := by decide +kernel
theorem dL_law_78 : decode cL_law 78 = .ok (.iconst 1, 1) := by decide +kernel
theorem dL_law_79 : decode cL_law 79 = .ok (.iadd, 1) := by decide +kernel
theorem dL_law_80 : decode cL_law 80 = .ok (.invokestatic 191, 3) := by decide +kernel
theorem dL_law_83 : decode cL_law 83 = .ok (.istore 6, 2) := by decide +kernel
theorem dL_law_85 : decode cL_law 85 = .ok (.aload_n 1, 1) := by decide +kernel
theorem dL_law_86 : decode cL_law 86 = .ok (.iload 5, 2) := by decide +kernel
theorem dL_law_88 : decode cL_law 88 = .ok (.iload 6, 2) := by decide +kernel
theorem dL_law_90 : decode cL_law 90 = .ok (.invokestatic 206, 3) := by decide +kernel
theorem dL_law_93 : decode cL_law 93 = .ok (.aload_n 2, 1) := by decide +kernel
theorem dL_law_94 : decode cL_law 94 = .ok (.iload 5, 2) := by decide +kernel
theorem dL_law_96 : decode cL_law 96 = .ok (.iload 6, 2) := by decide +kernel
theorem dL_law_98 : decode cL_law 98 = .ok (.invokestatic 206, 3) := by decide +kernel
theorem dL_law_101 : decode cL_law 101 = .ok (.lcmp, 1) := by decide +kernel
theorem dL_law_102 : decode cL_law 102 = .ok (.ifCond .ne 7, 3) := by decide +kernel
theorem dL_law_105 : decode cL_law 105 = .ok (.iconst 1, 1) := by decide +kernel
theorem dL_law_106 : decode cL_law 106 = .ok (.goto 4, 3) := by decide +kernel
theorem dL_law_109 : decode cL_law 109 = .ok (.iconst 0, 1) := by decide +kernel
theorem dL_law_110 : decode cL_law 110 = .ok (.istore_n 3, 1) := by decide +kernel
theorem dL_law_111 : decode cL_law 111 = .ok (.iload 4, 2) := by decide +kernel
theorem dL_law_113 : decode cL_law 113 = .ok (.bipush 6, 2) := by decide +kernel
theorem dL_law_115 : decode cL_law 115 = .ok (.irem, 1) := by decide +kernel
theorem dL_law_116 : decode cL_law 116 = .ok (.iconst 3, 1) := by decide +kernel
theorem dL_law_117 : decode cL_law 117 = .ok (.if_icmp .ne 27, 3) := by decide +kernel
theorem dL_law_120 : decode cL_law 120 = .ok (.iload_n 3, 1) := by decide +kernel
theorem dL_law_121 : decode cL_law 121 = .ok (.ifCond .eq 21, 3) := by decide +kernel
theorem dL_law_124 : decode cL_law 124 = .ok (.aload_n 2, 1) := by decide +kernel
theorem dL_law_125 : decode cL_law 125 = .ok (.invokestatic 199, 3) := by decide +kernel
theorem dL_law_128 : decode cL_law 128 = .ok (.ifCond .eq 14, 3) := by decide +kernel
theorem dL_law_131 : decode cL_law 131 = .ok (.aload_n 2, 1) := by decide +kernel
theorem dL_law_132 : decode cL_law 132 = .ok (.invokestatic 203, 3) := by decide +kernel
theorem dL_law_135 : decode cL_law 135 = .ok (.ifCond .eq 7, 3) := by decide +kernel
theorem dL_law_138 : decode cL_law 138 = .ok (.iconst 1, 1) := by decide +kernel
theorem dL_law_139 : decode cL_law 139 = .ok (.goto 4, 3) := by decide +kernel
theorem dL_law_142 : decode cL_law 142 = .ok (.iconst 0, 1) := by decide +kernel
theorem dL_law_143 : decode cL_law 143 = .ok (.istore_n 3, 1) := by decide +kernel
theorem dL_law_144 : decode cL_law 144 = .ok (.iload 4, 2) := by decide +kernel
theorem dL_law_146 : decode cL_law 146 = .ok (.bipush 12, 2) := by decide +kernel
theorem dL_law_148 : decode cL_law 148 = .ok (.irem, 1) := by decide +kernel
theorem dL_law_149 : decode cL_law 149 = .ok (.bipush 11, 2) := by decide +kernel
theorem dL_law_151 : decode cL_law 151 = .ok (.if_icmp .ne 36, 3) := by decide +kernel
theorem dL_law_154 : decode cL_law 154 = .ok (.iload_n 3, 1) := by decide +kernel
theorem dL_law_155 : decode cL_law 155 = .ok (.ifCond .eq 30, 3) := by decide +kernel
theorem dL_law_158 : decode cL_law 158 = .ok (.aload_n 2, 1) := by decide +kernel
theorem dL_law_159 : decode cL_law 159 = .ok (.iload 6, 2) := by decide +kernel
theorem dL_law_161 : decode cL_law 161 = .ok (.invokestatic 209, 3) := by decide +kernel
theorem dL_law_164 : decode cL_law 164 = .ok (.ifCond .eq 21, 3) := by decide +kernel
theorem dL_law_167 : decode cL_law 167 = .ok (.aload_n 1, 1) := by decide +kernel
theorem dL_law_168 : decode cL_law 168 = .ok (.invokestatic 213, 3) := by decide +kernel
theorem dL_law_171 : decode cL_law 171 = .ok (.ifCond .eq 14, 3) := by decide +kernel
theorem dL_law_174 : decode cL_law 174 = .ok (.aload_n 2, 1) := by decide +kernel
theorem dL_law_175 : decode cL_law 175 = .ok (.invokestatic 213, 3) := by decide +kernel
theorem dL_law_178 : decode cL_law 178 = .ok (.ifCond .eq 7, 3) := by decide +kernel
theorem dL_law_181 : decode cL_law 181 = .ok (.iconst 1, 1) := by decide +kernel
theorem dL_law_182 : decode cL_law 182 = .ok (.goto 4, 3) := by decide +kernel
theorem dL_law_185 : decode cL_law 185 = .ok (.iconst 0, 1) := by decide +kernel
theorem dL_law_186 : decode cL_law 186 = .ok (.istore_n 3, 1) := by decide +kernel
theorem dL_law_187 : decode cL_law 187 = .ok (.iload_n 3, 1) := by decide +kernel
theorem dL_law_188 : decode cL_law 188 = .ok (.ifCond .eq 25, 3) := by decide +kernel
theorem dL_law_191 : decode cL_law 191 = .ok (.iload 4, 2) := by decide +kernel
theorem dL_law_193 : decode cL_law 193 = .ok (.bipush 9, 2) := by decide +kernel
theorem dL_law_195 : decode cL_law 195 = .ok (.irem, 1) := by decide +kernel
theorem dL_law_196 : decode cL_law 196 = .ok (.ifCond .gt 13, 3) := by decide +kernel
theorem dL_law_199 : decode cL_law 199 = .ok (.aload_n 1, 1) := by decide +kernel
theorem dL_law_200 : decode cL_law 200 = .ok (.aload_n 2, 1) := by decide +kernel
theorem dL_law_201 : decode cL_law 201 = .ok (.iload 6, 2) := by decide +kernel
theorem dL_law_203 : decode cL_law 203 = .ok (.invokestatic 195, 3) := by decide +kernel
theorem dL_law_206 : decode cL_law 206 = .ok (.ifCond .eq 7, 3) := by decide +kernel
theorem dL_law_209 : decode cL_law 209 = .ok (.iconst 1, 1) := by decide +kernel
theorem dL_law_210 : decode cL_law 210 = .ok (.goto 4, 3) := by decide +kernel
theorem dL_law_213 : decode cL_law 213 = .ok (.iconst 0, 1) := by decide +kernel
theorem dL_law_214 : decode cL_law 214 = .ok (.istore_n 3, 1) := by decide +kernel
theorem dL_law_215 : decode cL_law 215 = .ok (.iinc 4 1, 3) := by decide +kernel
theorem dL_law_218 : decode cL_law 218 = .ok (.goto (-166), 3) := by decide +kernel
theorem dL_law_221 : decode cL_law 221 = .ok (.iload_n 3, 1) := by decide +kernel
theorem dL_law_222 : decode cL_law 222 = .ok (.ifCond .eq 18, 3) := by decide +kernel
theorem dL_law_225 : decode cL_law 225 = .ok (.aload_n 1, 1) := by decide +kernel
theorem dL_law_226 : decode cL_law 226 = .ok (.aload_n 2, 1) := by decide +kernel
theorem dL_law_227 : decode cL_law 227 = .ok (.sipush 10837, 3) := by decide +kernel
theorem dL_law_230 : decode cL_law 230 = .ok (.invokestatic 195, 3) := by decide +kernel
theorem dL_law_233 : decode cL_law 233 = .ok (.ifCond .eq 7, 3) := by decide +kernel
theorem dL_law_236 : decode cL_law 236 = .ok (.iconst 1, 1) := by decide +kernel
theorem dL_law_237 : decode cL_law 237 = .ok (.goto 4, 3) := by decide +kernel
theorem dL_law_240 : decode cL_law 240 = .ok (.iconst 0, 1) := by decide +kernel
theorem dL_law_241 : decode cL_law 241 = .ok (.ireturn, 1) := by decide +kernel
theorem dL_wipes_0 : decode cL_wipes 0 = .ok (.iconst 1, 1) := by decide +kernel
theorem dL_wipes_1 : decode cL_wipes 1 = .ok (.istore_n 1, 1) := by decide +kernel
theorem dL_wipes_2 : decode cL_wipes 2 = .ok (.iconst 0, 1) := by decide +kernel
theorem dL_wipes_3 : decode cL_wipes 3 = .ok (.istore_n 2, 1) := by decide +kernel
theorem dL_wipes_4 : decode cL_wipes 4 = .ok (.iload_n 2, 1) := by decide +kernel
theorem dL_wipes_5 : decode cL_wipes 5 = .ok (.bipush 6, 2) := by decide +kernel
theorem dL_wipes_7 : decode cL_wipes 7 = .ok (.if_icmp .ge 29, 3) := by decide +kernel
theorem dL_wipes_10 : decode cL_wipes 10 = .ok (.iload_n 1, 1) := by decide +kernel
theorem dL_wipes_11 : decode cL_wipes 11 = .ok (.ifCond .eq 17, 3) := by decide +kernel
theorem dL_wipes_14 : decode cL_wipes 14 = .ok (.aload_n 0, 1) := by decide +kernel
theorem dL_wipes_15 : decode cL_wipes 15 = .ok (.iload_n 2, 1) := by decide +kernel
theorem dL_wipes_16 : decode cL_wipes 16 = .ok (.invokestatic 115, 3) := by decide +kernel
theorem dL_wipes_19 : decode cL_wipes 19 = .ok (.lconst 0, 1) := by decide +kernel
theorem dL_wipes_20 : decode cL_wipes 20 = .ok (.lcmp, 1) := by decide +kernel
theorem dL_wipes_21 : decode cL_wipes 21 = .ok (.ifCond .lt 7, 3) := by decide +kernel
theorem dL_wipes_24 : decode cL_wipes 24 = .ok (.iconst 1, 1) := by decide +kernel
theorem dL_wipes_25 : decode cL_wipes 25 = .ok (.goto 4, 3) := by decide +kernel
theorem dL_wipes_28 : decode cL_wipes 28 = .ok (.iconst 0, 1) := by decide +kernel
theorem dL_wipes_29 : decode cL_wipes 29 = .ok (.istore_n 1, 1) := by decide +kernel
theorem dL_wipes_30 : decode cL_wipes 30 = .ok (.iinc 2 1, 3) := by decide +kernel
theorem dL_wipes_33 : decode cL_wipes 33 = .ok (.goto (-29), 3) := by decide +kernel
theorem dL_wipes_36 : decode cL_wipes 36 = .ok (.iload_n 1, 1) := by decide +kernel
theorem dL_wipes_37 : decode cL_wipes 37 = .ok (.ifCond .eq 20, 3) := by decide +kernel
theorem dL_wipes_40 : decode cL_wipes 40 = .ok (.aload_n 0, 1) := by decide +kernel
theorem dL_wipes_41 : decode cL_wipes 41 = .ok (.bipush 9, 2) := by decide +kernel
theorem dL_wipes_43 : decode cL_wipes 43 = .ok (.invokestatic 88, 3) := by decide +kernel
theorem dL_wipes_46 : decode cL_wipes 46 = .ok (.ldc2_w 137, 3) := by decide +kernel
theorem dL_wipes_49 : decode cL_wipes 49 = .ok (.lcmp, 1) := by decide +kernel
theorem dL_wipes_50 : decode cL_wipes 50 = .ok (.ifCond .ne 7, 3) := by decide +kernel
theorem dL_wipes_53 : decode cL_wipes 53 = .ok (.iconst 1, 1) := by decide +kernel
theorem dL_wipes_54 : decode cL_wipes 54 = .ok (.goto 4, 3) := by decide +kernel
theorem dL_wipes_57 : decode cL_wipes 57 = .ok (.iconst 0, 1) := by decide +kernel
theorem dL_wipes_58 : decode cL_wipes 58 = .ok (.ireturn, 1) := by decide +kernel
