theorem aw_iniL : Cond.initialized RL ∈ AW := aw_35
theorem cpS_draw : CpS yL_draw cL_draw 2 (some .int) 2 := ⟨aw_193, aw_192, aw_iniL, by decide +kernel⟩
theorem cpS_errors : CpS yL_errors cL_errors 6 (some .boolean) 1 := ⟨aw_198, aw_197, aw_iniL, by decide +kernel⟩
theorem cpS_now : CpS yL_now cL_now 5 (some .long) 1 := ⟨aw_201, aw_200, aw_iniL, by decide +kernel⟩
theorem cw_count : Cond.codeWith yL_count cL_count 3 (some .long) [(0, 6, 7, 15)] ∈ AW := aw_mem (i := 206) (by decide +kernel) (by decide +kernel)
theorem cpH_count : CpH yL_count cL_count 3 (some .long) [(0, 6, 7, 15)] 2 := ⟨cw_count, aw_205, aw_iniL, by decide +kernel⟩
theorem cw_clock : Cond.codeWith yL_clock cL_clock 4 (some .long) [(0, 7, 8, 23), (0, 7, 13, 15)] ∈ AW := aw_mem (i := 343) (by decide +kernel) (by decide +kernel)
theorem cpH_clock : CpH yL_clock cL_clock 4 (some .long) [(0, 7, 8, 23), (0, 7, 13, 15)] 3 := ⟨cw_clock, aw_342, aw_iniL, by decide +kernel⟩
theorem cw_pair : Cond.codeWith yL_pair cL_pair 5 (some .long) [(0, 8, 9, 23), (0, 8, 15, 15)] ∈ AW := aw_mem (i := 398) (by decide +kernel) (by decide +kernel)
theorem cpH_pair : CpH yL_pair cL_pair 5 (some .long) [(0, 8, 9, 23), (0, 8, 15, 15)] 4 := ⟨cw_pair, aw_397, aw_iniL, by decide +kernel⟩
theorem cw_beam : Cond.codeWith yL_beam cL_beam 4 (some .long) [(0, 7, 8, 23), (0, 7, 13, 15)] ∈ AW := aw_mem (i := 430) (by decide +kernel) (by decide +kernel)
theorem cpH_beam : CpH yL_beam cL_beam 4 (some .long) [(0, 7, 8, 23), (0, 7, 13, 15)] 3 := ⟨cw_beam, aw_429, aw_iniL, by decide +kernel⟩
theorem cw_setting : Cond.codeWith yL_setting cL_setting 3 (some .long) [(0, 6, 7, 23)] ∈ AW := aw_mem (i := 456) (by decide +kernel) (by decide +kernel)
theorem cpH_setting : CpH yL_setting cL_setting 3 (some .long) [(0, 6, 7, 23)] 2 := ⟨cw_setting, aw_455, aw_iniL, by decide +kernel⟩
theorem cw_pass : Cond.codeWith yL_pass cL_pass 3 (some .long) [(0, 6, 7, 15)] ∈ AW := aw_mem (i := 467) (by decide +kernel) (by decide +kernel)
theorem cpH_pass : CpH yL_pass cL_pass 3 (some .long) [(0, 6, 7, 15)] 2 := ⟨cw_pass, aw_466, aw_iniL, by decide +kernel⟩
theorem cw_kick : Cond.codeWith yL_kick cL_kick 4 (some .long) [(0, 7, 8, 23), (0, 7, 13, 15)] ∈ AW := aw_mem (i := 517) (by decide +kernel) (by decide +kernel)
theorem cpH_kick : CpH yL_kick cL_kick 4 (some .long) [(0, 7, 8, 23), (0, 7, 13, 15)] 3 := ⟨cw_kick, aw_516, aw_iniL, by decide +kernel⟩
theorem cw_move : Cond.codeWith yL_move cL_move 4 (some .long) [(0, 7, 8, 23), (0, 7, 13, 30)] ∈ AW := aw_mem (i := 532) (by decide +kernel) (by decide +kernel)
theorem cpH_move : CpH yL_move cL_move 4 (some .long) [(0, 7, 8, 23), (0, 7, 13, 30)] 3 := ⟨cw_move, aw_531, aw_iniL, by decide +kernel⟩
theorem cw_wind : Cond.codeWith yL_wind cL_wind 3 (some .long) [(0, 6, 7, 23)] ∈ AW := aw_mem (i := 564) (by decide +kernel) (by decide +kernel)
theorem cpH_wind : CpH yL_wind cL_wind 3 (some .long) [(0, 6, 7, 23)] 2 := ⟨cw_wind, aw_563, aw_iniL, by decide +kernel⟩
theorem cw_speed : Cond.codeWith yL_speed cL_speed 4 (some .long) [(0, 7, 8, 23), (0, 7, 13, 15)] ∈ AW := aw_mem (i := 575) (by decide +kernel) (by decide +kernel)
theorem cpH_speed : CpH yL_speed cL_speed 4 (some .long) [(0, 7, 8, 23), (0, 7, 13, 15)] 3 := ⟨cw_speed, aw_574, aw_iniL, by decide +kernel⟩
theorem cw_give : Cond.codeWith yL_give cL_give 4 (some .long) [(0, 7, 8, 23), (0, 7, 13, 15)] ∈ AW := aw_mem (i := 583) (by decide +kernel) (by decide +kernel)
theorem cpH_give : CpH yL_give cL_give 4 (some .long) [(0, 7, 8, 23), (0, 7, 13, 15)] 3 := ⟨cw_give, aw_582, aw_iniL, by decide +kernel⟩
theorem cw_set : Cond.codeWith yL_set cL_set 4 (some .long) [(0, 7, 8, 23), (0, 7, 13, 15)] ∈ AW := aw_mem (i := 591) (by decide +kernel) (by decide +kernel)
theorem cpH_set : CpH yL_set cL_set 4 (some .long) [(0, 7, 8, 23), (0, 7, 13, 15)] 3 := ⟨cw_set, aw_590, aw_iniL, by decide +kernel⟩
theorem cw_append : Cond.codeWith yL_append cL_append 3 (some .long) [(0, 6, 7, 15), (0, 6, 12, 30)] ∈ AW := aw_mem (i := 605) (by decide +kernel) (by decide +kernel)
theorem cpH_append : CpH yL_append cL_append 3 (some .long) [(0, 6, 7, 15), (0, 6, 12, 30)] 2 := ⟨cw_append, aw_604, aw_iniL, by decide +kernel⟩
theorem cw_ifPassed : Cond.codeWith yL_ifPassed cL_ifPassed 5 (some .long) [(0, 8, 9, 23), (0, 8, 15, 15)] ∈ AW := aw_mem (i := 623) (by decide +kernel) (by decide +kernel)
theorem cpH_ifPassed : CpH yL_ifPassed cL_ifPassed 5 (some .long) [(0, 8, 9, 23), (0, 8, 15, 15)] 4 := ⟨cw_ifPassed, aw_622, aw_iniL, by decide +kernel⟩
theorem cw_lockedIn : Cond.codeWith yL_lockedIn cL_lockedIn 4 (some .long) [(0, 7, 8, 23)] ∈ AW := aw_mem (i := 640) (by decide +kernel) (by decide +kernel)
theorem cpH_lockedIn : CpH yL_lockedIn cL_lockedIn 4 (some .long) [(0, 7, 8, 23)] 3 := ⟨cw_lockedIn, aw_639, aw_iniL, by decide +kernel⟩
theorem cw_bestGive : Cond.codeWith yL_bestGive cL_bestGive 3 (some .long) [(0, 6, 7, 23)] ∈ AW := aw_mem (i := 653) (by decide +kernel) (by decide +kernel)
theorem cpH_bestGive : CpH yL_bestGive cL_bestGive 3 (some .long) [(0, 6, 7, 23)] 2 := ⟨cw_bestGive, aw_652, aw_iniL, by decide +kernel⟩
theorem cpS_kept : CpS yL_kept cL_kept 22 (some .boolean) 1 := ⟨aw_665, aw_664, aw_iniL, by decide +kernel⟩
theorem cpS_in : CpS yL_in cL_in 6 (some .boolean) 3 := ⟨aw_669, aw_668, aw_iniL, by decide +kernel⟩
theorem cpS_follows : CpS yL_follows cL_follows 23 (some .boolean) 2 := ⟨aw_682, aw_681, aw_iniL, by decide +kernel⟩
theorem cw_undo : Cond.codeWith yL_undo cL_undo 2 (some .long) [(0, 5, 6, 30)] ∈ AW := aw_mem (i := 689) (by decide +kernel) (by decide +kernel)
theorem cpH_undo : CpH yL_undo cL_undo 2 (some .long) [(0, 5, 6, 30)] 1 := ⟨cw_undo, aw_688, aw_iniL, by decide +kernel⟩
theorem cpS_alike : CpS yL_alike cL_alike 3 (some .boolean) 3 := ⟨aw_760, aw_759, aw_iniL, by decide +kernel⟩
theorem cpS_act : CpS yL_act cL_act 4 (some .long) 3 := ⟨aw_830, aw_829, aw_iniL, by decide +kernel⟩
theorem cpS_told : CpS yL_told cL_told 5 (some .long) 2 := ⟨aw_833, aw_832, aw_iniL, by decide +kernel⟩
theorem cpS_says : CpS yL_says cL_says 4 (some .boolean) 4 := ⟨aw_844, aw_843, aw_iniL, by decide +kernel⟩
theorem cw_obey : Cond.codeWith yL_obey cL_obey 2 (some .long) [(0, 5, 6, 15)] ∈ AW := aw_mem (i := 847) (by decide +kernel) (by decide +kernel)
theorem cpH_obey : CpH yL_obey cL_obey 2 (some .long) [(0, 5, 6, 15)] 1 := ⟨cw_obey, aw_846, aw_iniL, by decide +kernel⟩
theorem cw_goBack : Cond.codeWith yL_goBack cL_goBack 2 (some .long) [(0, 5, 6, 30)] ∈ AW := aw_mem (i := 874) (by decide +kernel) (by decide +kernel)
theorem cpH_goBack : CpH yL_goBack cL_goBack 2 (some .long) [(0, 5, 6, 30)] 1 := ⟨cw_goBack, aw_873, aw_iniL, by decide +kernel⟩
theorem cpS_wipes : CpS yL_wipes cL_wipes 3 (some .boolean) 1 := ⟨aw_882, aw_881, aw_iniL, by decide +kernel⟩
