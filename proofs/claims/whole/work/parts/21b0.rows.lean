/-! rows of the law's calls -/
theorem hrf0 {w : Int32} (h : w = 0) : ¬ (f_X6_refused w).1 = true := by rw [h]; decide
theorem hrf1 {w : Int32} (h : w = 1) : (f_X6_refused w).1 = true := by rw [h]; decide
theorem hrf2 {w : Int32} (h : w = 2) : (f_X6_refused w).1 = true := by rw [h]; decide
theorem pair_of {a b : Int32} (h : f_X5_isPair a b = true) : ∃ k o : Nat, k < 8 ∧ o < 8 ∧ k ≠ o ∧ a = nI k ∧ b = nI o := by
  unfold f_X5_isPair at h
  by_cases c1 : f_X5_isClock a = true
  · rw [if_pos c1] at h
    by_cases c2 : f_X5_isClock b = true
    · rw [if_pos c2] at h
      by_cases c3 : a = b
      · rw [if_pos c3] at h
        cases h
      · obtain ⟨k, hk, e1⟩ := vp_in_of (vp_isClock c1) (by decide)
        obtain ⟨o, ho, e2⟩ := vp_in_of (vp_isClock c2) (by decide)
        exact ⟨k, o, hk, ho, fun q => c3 (by rw [e1, e2, q]), e1, e2⟩
    · rw [if_neg c2] at h
      cases h
  · rw [if_neg c1] at h
    cases h
theorem cpw_X6_pass : CpV yX6_pass cX6_pass 2 (some (Jvm.ClassFile.FieldType.int)) 1 := ⟨aw_924, aw_922, aw_923, aw_73, by decide +kernel⟩
theorem cpw_X6_kick : CpV yX6_kick cX6_kick 3 (some (Jvm.ClassFile.FieldType.int)) 2 := ⟨aw_972, aw_970, aw_971, aw_73, by decide +kernel⟩
theorem cpw_X6_move : CpV yX6_move cX6_move 4 (some (Jvm.ClassFile.FieldType.int)) 2 := ⟨aw_986, aw_984, aw_985, aw_73, by decide +kernel⟩
theorem cpw_X6_wind : CpV yX6_wind cX6_wind 2 (some (Jvm.ClassFile.FieldType.int)) 1 := ⟨aw_998, aw_996, aw_997, aw_73, by decide +kernel⟩
theorem cpw_X6_speed : CpV yX6_speed cX6_speed 3 (some (Jvm.ClassFile.FieldType.int)) 2 := ⟨aw_1006, aw_1004, aw_1005, aw_73, by decide +kernel⟩
theorem cpw_X6_give : CpV yX6_give cX6_give 3 (some (Jvm.ClassFile.FieldType.int)) 2 := ⟨aw_1016, aw_1014, aw_1015, aw_73, by decide +kernel⟩
theorem cpw_X6_set : CpV yX6_set cX6_set 3 (some (Jvm.ClassFile.FieldType.int)) 2 := ⟨aw_1021, aw_1019, aw_1020, aw_73, by decide +kernel⟩
theorem cpw_X6_append : CpV yX6_append cX6_append 2 (some (Jvm.ClassFile.FieldType.int)) 1 := ⟨aw_1029, aw_1027, aw_1028, aw_73, by decide +kernel⟩
theorem cpw_X6_obey : CpV yX6_obey cX6_obey 2 (some (Jvm.ClassFile.FieldType.int)) 0 := ⟨aw_1069, aw_1067, aw_1068, aw_73, by decide +kernel⟩
theorem cpw_X6_goBack : CpV yX6_goBack cX6_goBack 1 (some (Jvm.ClassFile.FieldType.int)) 0 := ⟨aw_1080, aw_1078, aw_1079, aw_73, by decide +kernel⟩
theorem cpw_X6_undo : CpV yX6_undo cX6_undo 2 (some (Jvm.ClassFile.FieldType.int)) 0 := ⟨aw_1084, aw_1082, aw_1083, aw_73, by decide +kernel⟩
theorem cpw_X6_clock : CpV yX6_clock cX6_clock 3 (some (Jvm.ClassFile.FieldType.int)) 2 := ⟨aw_1088, aw_1086, aw_1087, aw_73, by decide +kernel⟩
theorem cpw_X6_pair : CpV yX6_pair cX6_pair 4 (some (Jvm.ClassFile.FieldType.int)) 3 := ⟨aw_1111, aw_1109, aw_1110, aw_73, by decide +kernel⟩
theorem cpw_X6_beam : CpV yX6_beam cX6_beam 3 (some (Jvm.ClassFile.FieldType.int)) 2 := ⟨aw_1126, aw_1124, aw_1125, aw_73, by decide +kernel⟩
theorem cpw_X6_count : CpV yX6_count cX6_count 2 (some (Jvm.ClassFile.FieldType.int)) 1 := ⟨aw_1135, aw_1133, aw_1134, aw_73, by decide +kernel⟩
theorem cpw_X6_setting : CpV yX6_setting cX6_setting 2 (some (Jvm.ClassFile.FieldType.int)) 1 := ⟨aw_1167, aw_1165, aw_1166, aw_73, by decide +kernel⟩
theorem cpw_X6_ifPassed : CpV yX6_ifPassed cX6_ifPassed 4 (some (Jvm.ClassFile.FieldType.int)) 3 := ⟨aw_1171, aw_1169, aw_1170, aw_73, by decide +kernel⟩
theorem cpw_X6_lockedIn : CpV yX6_lockedIn cX6_lockedIn 3 (some (Jvm.ClassFile.FieldType.int)) 2 := ⟨aw_1179, aw_1177, aw_1178, aw_73, by decide +kernel⟩
theorem cpw_X6_bestGive : CpV yX6_bestGive cX6_bestGive 8 (some (Jvm.ClassFile.FieldType.int)) 1 := ⟨aw_1187, aw_1185, aw_1186, aw_73, by decide +kernel⟩
theorem cpw_X5_clearBuffer : CpV yX5_clearBuffer cX5_clearBuffer 2 (some (Jvm.ClassFile.FieldType.int)) 0 := ⟨aw_228, aw_226, aw_227, aw_67, by decide +kernel⟩
theorem cpw_X6_clearBuffer : CpV yX6_clearBuffer cX6_clearBuffer 2 (some (Jvm.ClassFile.FieldType.int)) 0 := ⟨aw_1035, aw_1033, aw_1034, aw_73, by decide +kernel⟩
theorem cpw_X5_firstError : CpV yX5_firstError cX5_firstError 1 (some (Jvm.ClassFile.FieldType.int)) 0 := ⟨aw_236, aw_234, aw_235, aw_67, by decide +kernel⟩
theorem cpw_X6_firstError : CpV yX6_firstError cX6_firstError 1 (some (Jvm.ClassFile.FieldType.int)) 0 := ⟨aw_1039, aw_1037, aw_1038, aw_73, by decide +kernel⟩
theorem cpw_X5_keep : CpV yX5_keep cX5_keep 1 (some (Jvm.ClassFile.FieldType.int)) 0 := ⟨aw_310, aw_308, aw_309, aw_67, by decide +kernel⟩
theorem cpw_X6_keep : CpV yX6_keep cX6_keep 1 (some (Jvm.ClassFile.FieldType.int)) 0 := ⟨aw_1073, aw_1071, aw_1072, aw_73, by decide +kernel⟩
theorem cpw_X5_nextStrike : CpV yX5_nextStrike cX5_nextStrike 2 (some (Jvm.ClassFile.FieldType.int)) 0 := ⟨aw_321, aw_319, aw_320, aw_67, by decide +kernel⟩
theorem cpw_X6_nextStrike : CpV yX6_nextStrike cX6_nextStrike 1 (some (Jvm.ClassFile.FieldType.int)) 0 := ⟨aw_1191, aw_1189, aw_1190, aw_73, by decide +kernel⟩
theorem cpw_X5_stepShare : CpV yX5_stepShare cX5_stepShare 1 (some (Jvm.ClassFile.FieldType.double)) 0 := ⟨aw_379, aw_377, aw_378, aw_67, by decide +kernel⟩
theorem cpw_X6_stepShare : CpV yX6_stepShare cX6_stepShare 1 (some (Jvm.ClassFile.FieldType.double)) 0 := ⟨aw_1199, aw_1197, aw_1198, aw_73, by decide +kernel⟩
theorem cpw_X5_meanGap : CpV yX5_meanGap cX5_meanGap 3 (some (Jvm.ClassFile.FieldType.float)) 0 := ⟨aw_409, aw_407, aw_408, aw_67, by decide +kernel⟩
theorem cpw_X6_meanGap : CpV yX6_meanGap cX6_meanGap 1 (some (Jvm.ClassFile.FieldType.float)) 0 := ⟨aw_1204, aw_1202, aw_1203, aw_73, by decide +kernel⟩
theorem cpw_X5_digest : CpV yX5_digest cX5_digest 3 (some (Jvm.ClassFile.FieldType.long)) 0 := ⟨aw_426, aw_424, aw_425, aw_67, by decide +kernel⟩
theorem cpw_X6_digest : CpV yX6_digest cX6_digest 6 (some (Jvm.ClassFile.FieldType.long)) 0 := ⟨aw_1213, aw_1211, aw_1212, aw_73, by decide +kernel⟩
theorem sel_0_1_4_14 (b0 b1 b2 b3 b4 b5 b6 b7 b8 b9 b10 b11 b12 b13 b14 : va_W) : [0, 1, 4, 14].map (fun k => ([b0, b1, b2, b3, b4, b5, b6, b7, b8, b9, b10, b11, b12, b13, b14] : List va_W)[k]?) = [b0, b1, b4, b14].map some := rfl
theorem put_0_1_4_14 (b0 b1 b2 b3 b4 b5 b6 b7 b8 b9 b10 b11 b12 b13 b14 c0 c1 c4 c14 : va_W) : bput [b0, b1, b2, b3, b4, b5, b6, b7, b8, b9, b10, b11, b12, b13, b14] [0, 1, 4, 14] [c0, c1, c4, c14] = [c0, c1, b2, b3, c4, b5, b6, b7, b8, b9, b10, b11, b12, b13, c14] := rfl
theorem sel_6_7_10_11 (b0 b1 b2 b3 b4 b5 b6 b7 b8 b9 b10 b11 b12 b13 b14 : va_W) : [6, 7, 10, 11].map (fun k => ([b0, b1, b2, b3, b4, b5, b6, b7, b8, b9, b10, b11, b12, b13, b14] : List va_W)[k]?) = [b6, b7, b10, b11].map some := rfl
theorem put_6_7_10_11 (b0 b1 b2 b3 b4 b5 b6 b7 b8 b9 b10 b11 b12 b13 b14 c6 c7 c10 c11 : va_W) : bput [b0, b1, b2, b3, b4, b5, b6, b7, b8, b9, b10, b11, b12, b13, b14] [6, 7, 10, 11] [c6, c7, c10, c11] = [b0, b1, b2, b3, b4, b5, c6, c7, b8, b9, c10, c11, b12, b13, b14] := rfl
theorem sel_6_7_10 (b0 b1 b2 b3 b4 b5 b6 b7 b8 b9 b10 b11 b12 b13 b14 : va_W) : [6, 7, 10].map (fun k => ([b0, b1, b2, b3, b4, b5, b6, b7, b8, b9, b10, b11, b12, b13, b14] : List va_W)[k]?) = [b6, b7, b10].map some := rfl
theorem put_6_7_10 (b0 b1 b2 b3 b4 b5 b6 b7 b8 b9 b10 b11 b12 b13 b14 c6 c7 c10 : va_W) : bput [b0, b1, b2, b3, b4, b5, b6, b7, b8, b9, b10, b11, b12, b13, b14] [6, 7, 10] [c6, c7, c10] = [b0, b1, b2, b3, b4, b5, c6, c7, b8, b9, c10, b11, b12, b13, b14] := rfl
theorem sel_0_5_14 (b0 b1 b2 b3 b4 b5 b6 b7 b8 b9 b10 b11 b12 b13 b14 : va_W) : [0, 5, 14].map (fun k => ([b0, b1, b2, b3, b4, b5, b6, b7, b8, b9, b10, b11, b12, b13, b14] : List va_W)[k]?) = [b0, b5, b14].map some := rfl
theorem put_0_5_14 (b0 b1 b2 b3 b4 b5 b6 b7 b8 b9 b10 b11 b12 b13 b14 c0 c5 c14 : va_W) : bput [b0, b1, b2, b3, b4, b5, b6, b7, b8, b9, b10, b11, b12, b13, b14] [0, 5, 14] [c0, c5, c14] = [c0, b1, b2, b3, b4, c5, b6, b7, b8, b9, b10, b11, b12, b13, c14] := rfl
theorem sel_6_13 (b0 b1 b2 b3 b4 b5 b6 b7 b8 b9 b10 b11 b12 b13 b14 : va_W) : [6, 13].map (fun k => ([b0, b1, b2, b3, b4, b5, b6, b7, b8, b9, b10, b11, b12, b13, b14] : List va_W)[k]?) = [b6, b13].map some := rfl
theorem put_6_13 (b0 b1 b2 b3 b4 b5 b6 b7 b8 b9 b10 b11 b12 b13 b14 c6 c13 : va_W) : bput [b0, b1, b2, b3, b4, b5, b6, b7, b8, b9, b10, b11, b12, b13, b14] [6, 13] [c6, c13] = [b0, b1, b2, b3, b4, b5, c6, b7, b8, b9, b10, b11, b12, c13, b14] := rfl
theorem sel_0_1_4_5_14 (b0 b1 b2 b3 b4 b5 b6 b7 b8 b9 b10 b11 b12 b13 b14 : va_W) : [0, 1, 4, 5, 14].map (fun k => ([b0, b1, b2, b3, b4, b5, b6, b7, b8, b9, b10, b11, b12, b13, b14] : List va_W)[k]?) = [b0, b1, b4, b5, b14].map some := rfl
theorem put_0_1_4_5_14 (b0 b1 b2 b3 b4 b5 b6 b7 b8 b9 b10 b11 b12 b13 b14 c0 c1 c4 c5 c14 : va_W) : bput [b0, b1, b2, b3, b4, b5, b6, b7, b8, b9, b10, b11, b12, b13, b14] [0, 1, 4, 5, 14] [c0, c1, c4, c5, c14] = [c0, c1, b2, b3, c4, c5, b6, b7, b8, b9, b10, b11, b12, b13, c14] := rfl
theorem sel_6_7_10_11_13 (b0 b1 b2 b3 b4 b5 b6 b7 b8 b9 b10 b11 b12 b13 b14 : va_W) : [6, 7, 10, 11, 13].map (fun k => ([b0, b1, b2, b3, b4, b5, b6, b7, b8, b9, b10, b11, b12, b13, b14] : List va_W)[k]?) = [b6, b7, b10, b11, b13].map some := rfl
theorem put_6_7_10_11_13 (b0 b1 b2 b3 b4 b5 b6 b7 b8 b9 b10 b11 b12 b13 b14 c6 c7 c10 c11 c13 : va_W) : bput [b0, b1, b2, b3, b4, b5, b6, b7, b8, b9, b10, b11, b12, b13, b14] [6, 7, 10, 11, 13] [c6, c7, c10, c11, c13] = [b0, b1, b2, b3, b4, b5, c6, c7, b8, b9, c10, c11, b12, c13, b14] := rfl
theorem sel_0_1_3_4_14 (b0 b1 b2 b3 b4 b5 b6 b7 b8 b9 b10 b11 b12 b13 b14 : va_W) : [0, 1, 3, 4, 14].map (fun k => ([b0, b1, b2, b3, b4, b5, b6, b7, b8, b9, b10, b11, b12, b13, b14] : List va_W)[k]?) = [b0, b1, b3, b4, b14].map some := rfl
theorem put_0_1_3_4_14 (b0 b1 b2 b3 b4 b5 b6 b7 b8 b9 b10 b11 b12 b13 b14 c0 c1 c3 c4 c14 : va_W) : bput [b0, b1, b2, b3, b4, b5, b6, b7, b8, b9, b10, b11, b12, b13, b14] [0, 1, 3, 4, 14] [c0, c1, c3, c4, c14] = [c0, c1, b2, c3, c4, b5, b6, b7, b8, b9, b10, b11, b12, b13, c14] := rfl
theorem sel_6_7_9_10 (b0 b1 b2 b3 b4 b5 b6 b7 b8 b9 b10 b11 b12 b13 b14 : va_W) : [6, 7, 9, 10].map (fun k => ([b0, b1, b2, b3, b4, b5, b6, b7, b8, b9, b10, b11, b12, b13, b14] : List va_W)[k]?) = [b6, b7, b9, b10].map some := rfl
theorem put_6_7_9_10 (b0 b1 b2 b3 b4 b5 b6 b7 b8 b9 b10 b11 b12 b13 b14 c6 c7 c9 c10 : va_W) : bput [b0, b1, b2, b3, b4, b5, b6, b7, b8, b9, b10, b11, b12, b13, b14] [6, 7, 9, 10] [c6, c7, c9, c10] = [b0, b1, b2, b3, b4, b5, c6, c7, b8, c9, c10, b11, b12, b13, b14] := rfl
theorem sel_0_1_14 (b0 b1 b2 b3 b4 b5 b6 b7 b8 b9 b10 b11 b12 b13 b14 : va_W) : [0, 1, 14].map (fun k => ([b0, b1, b2, b3, b4, b5, b6, b7, b8, b9, b10, b11, b12, b13, b14] : List va_W)[k]?) = [b0, b1, b14].map some := rfl
theorem put_0_1_14 (b0 b1 b2 b3 b4 b5 b6 b7 b8 b9 b10 b11 b12 b13 b14 c0 c1 c14 : va_W) : bput [b0, b1, b2, b3, b4, b5, b6, b7, b8, b9, b10, b11, b12, b13, b14] [0, 1, 14] [c0, c1, c14] = [c0, c1, b2, b3, b4, b5, b6, b7, b8, b9, b10, b11, b12, b13, c14] := rfl
theorem sel_6_7_12 (b0 b1 b2 b3 b4 b5 b6 b7 b8 b9 b10 b11 b12 b13 b14 : va_W) : [6, 7, 12].map (fun k => ([b0, b1, b2, b3, b4, b5, b6, b7, b8, b9, b10, b11, b12, b13, b14] : List va_W)[k]?) = [b6, b7, b12].map some := rfl
theorem put_6_7_12 (b0 b1 b2 b3 b4 b5 b6 b7 b8 b9 b10 b11 b12 b13 b14 c6 c7 c12 : va_W) : bput [b0, b1, b2, b3, b4, b5, b6, b7, b8, b9, b10, b11, b12, b13, b14] [6, 7, 12] [c6, c7, c12] = [b0, b1, b2, b3, b4, b5, c6, c7, b8, b9, b10, b11, c12, b13, b14] := rfl
theorem sel_6_7 (b0 b1 b2 b3 b4 b5 b6 b7 b8 b9 b10 b11 b12 b13 b14 : va_W) : [6, 7].map (fun k => ([b0, b1, b2, b3, b4, b5, b6, b7, b8, b9, b10, b11, b12, b13, b14] : List va_W)[k]?) = [b6, b7].map some := rfl
theorem put_6_7 (b0 b1 b2 b3 b4 b5 b6 b7 b8 b9 b10 b11 b12 b13 b14 c6 c7 : va_W) : bput [b0, b1, b2, b3, b4, b5, b6, b7, b8, b9, b10, b11, b12, b13, b14] [6, 7] [c6, c7] = [b0, b1, b2, b3, b4, b5, c6, c7, b8, b9, b10, b11, b12, b13, b14] := rfl
theorem sel_0_1_2_14 (b0 b1 b2 b3 b4 b5 b6 b7 b8 b9 b10 b11 b12 b13 b14 : va_W) : [0, 1, 2, 14].map (fun k => ([b0, b1, b2, b3, b4, b5, b6, b7, b8, b9, b10, b11, b12, b13, b14] : List va_W)[k]?) = [b0, b1, b2, b14].map some := rfl
theorem put_0_1_2_14 (b0 b1 b2 b3 b4 b5 b6 b7 b8 b9 b10 b11 b12 b13 b14 c0 c1 c2 c14 : va_W) : bput [b0, b1, b2, b3, b4, b5, b6, b7, b8, b9, b10, b11, b12, b13, b14] [0, 1, 2, 14] [c0, c1, c2, c14] = [c0, c1, c2, b3, b4, b5, b6, b7, b8, b9, b10, b11, b12, b13, c14] := rfl
theorem sel_6_7_8_11_12 (b0 b1 b2 b3 b4 b5 b6 b7 b8 b9 b10 b11 b12 b13 b14 : va_W) : [6, 7, 8, 11, 12].map (fun k => ([b0, b1, b2, b3, b4, b5, b6, b7, b8, b9, b10, b11, b12, b13, b14] : List va_W)[k]?) = [b6, b7, b8, b11, b12].map some := rfl
theorem put_6_7_8_11_12 (b0 b1 b2 b3 b4 b5 b6 b7 b8 b9 b10 b11 b12 b13 b14 c6 c7 c8 c11 c12 : va_W) : bput [b0, b1, b2, b3, b4, b5, b6, b7, b8, b9, b10, b11, b12, b13, b14] [6, 7, 8, 11, 12] [c6, c7, c8, c11, c12] = [b0, b1, b2, b3, b4, b5, c6, c7, c8, b9, b10, c11, c12, b13, b14] := rfl
theorem sel_6_7_8_11 (b0 b1 b2 b3 b4 b5 b6 b7 b8 b9 b10 b11 b12 b13 b14 : va_W) : [6, 7, 8, 11].map (fun k => ([b0, b1, b2, b3, b4, b5, b6, b7, b8, b9, b10, b11, b12, b13, b14] : List va_W)[k]?) = [b6, b7, b8, b11].map some := rfl
theorem put_6_7_8_11 (b0 b1 b2 b3 b4 b5 b6 b7 b8 b9 b10 b11 b12 b13 b14 c6 c7 c8 c11 : va_W) : bput [b0, b1, b2, b3, b4, b5, b6, b7, b8, b9, b10, b11, b12, b13, b14] [6, 7, 8, 11] [c6, c7, c8, c11] = [b0, b1, b2, b3, b4, b5, c6, c7, c8, b9, b10, c11, b12, b13, b14] := rfl
theorem sel_0_5 (b0 b1 b2 b3 b4 b5 b6 b7 b8 b9 b10 b11 b12 b13 b14 : va_W) : [0, 5].map (fun k => ([b0, b1, b2, b3, b4, b5, b6, b7, b8, b9, b10, b11, b12, b13, b14] : List va_W)[k]?) = [b0, b5].map some := rfl
theorem put_0_5 (b0 b1 b2 b3 b4 b5 b6 b7 b8 b9 b10 b11 b12 b13 b14 c0 c5 : va_W) : bput [b0, b1, b2, b3, b4, b5, b6, b7, b8, b9, b10, b11, b12, b13, b14] [0, 5] [c0, c5] = [c0, b1, b2, b3, b4, c5, b6, b7, b8, b9, b10, b11, b12, b13, b14] := rfl
theorem sel_6 (b0 b1 b2 b3 b4 b5 b6 b7 b8 b9 b10 b11 b12 b13 b14 : va_W) : [6].map (fun k => ([b0, b1, b2, b3, b4, b5, b6, b7, b8, b9, b10, b11, b12, b13, b14] : List va_W)[k]?) = [b6].map some := rfl
theorem put_6 (b0 b1 b2 b3 b4 b5 b6 b7 b8 b9 b10 b11 b12 b13 b14 c6 : va_W) : bput [b0, b1, b2, b3, b4, b5, b6, b7, b8, b9, b10, b11, b12, b13, b14] [6] [c6] = [b0, b1, b2, b3, b4, b5, c6, b7, b8, b9, b10, b11, b12, b13, b14] := rfl
theorem sel_6_7_11_13 (b0 b1 b2 b3 b4 b5 b6 b7 b8 b9 b10 b11 b12 b13 b14 : va_W) : [6, 7, 11, 13].map (fun k => ([b0, b1, b2, b3, b4, b5, b6, b7, b8, b9, b10, b11, b12, b13, b14] : List va_W)[k]?) = [b6, b7, b11, b13].map some := rfl
theorem put_6_7_11_13 (b0 b1 b2 b3 b4 b5 b6 b7 b8 b9 b10 b11 b12 b13 b14 c6 c7 c11 c13 : va_W) : bput [b0, b1, b2, b3, b4, b5, b6, b7, b8, b9, b10, b11, b12, b13, b14] [6, 7, 11, 13] [c6, c7, c11, c13] = [b0, b1, b2, b3, b4, b5, c6, c7, b8, b9, b10, c11, b12, c13, b14] := rfl
theorem sel_0_1_3 (b0 b1 b2 b3 b4 b5 b6 b7 b8 b9 b10 b11 b12 b13 b14 : va_W) : [0, 1, 3].map (fun k => ([b0, b1, b2, b3, b4, b5, b6, b7, b8, b9, b10, b11, b12, b13, b14] : List va_W)[k]?) = [b0, b1, b3].map some := rfl
theorem put_0_1_3 (b0 b1 b2 b3 b4 b5 b6 b7 b8 b9 b10 b11 b12 b13 b14 c0 c1 c3 : va_W) : bput [b0, b1, b2, b3, b4, b5, b6, b7, b8, b9, b10, b11, b12, b13, b14] [0, 1, 3] [c0, c1, c3] = [c0, c1, b2, c3, b4, b5, b6, b7, b8, b9, b10, b11, b12, b13, b14] := rfl
theorem sel_6_7_9 (b0 b1 b2 b3 b4 b5 b6 b7 b8 b9 b10 b11 b12 b13 b14 : va_W) : [6, 7, 9].map (fun k => ([b0, b1, b2, b3, b4, b5, b6, b7, b8, b9, b10, b11, b12, b13, b14] : List va_W)[k]?) = [b6, b7, b9].map some := rfl
theorem put_6_7_9 (b0 b1 b2 b3 b4 b5 b6 b7 b8 b9 b10 b11 b12 b13 b14 c6 c7 c9 : va_W) : bput [b0, b1, b2, b3, b4, b5, b6, b7, b8, b9, b10, b11, b12, b13, b14] [6, 7, 9] [c6, c7, c9] = [b0, b1, b2, b3, b4, b5, c6, c7, b8, c9, b10, b11, b12, b13, b14] := rfl
theorem sel_0_1_2 (b0 b1 b2 b3 b4 b5 b6 b7 b8 b9 b10 b11 b12 b13 b14 : va_W) : [0, 1, 2].map (fun k => ([b0, b1, b2, b3, b4, b5, b6, b7, b8, b9, b10, b11, b12, b13, b14] : List va_W)[k]?) = [b0, b1, b2].map some := rfl
theorem put_0_1_2 (b0 b1 b2 b3 b4 b5 b6 b7 b8 b9 b10 b11 b12 b13 b14 c0 c1 c2 : va_W) : bput [b0, b1, b2, b3, b4, b5, b6, b7, b8, b9, b10, b11, b12, b13, b14] [0, 1, 2] [c0, c1, c2] = [c0, c1, c2, b3, b4, b5, b6, b7, b8, b9, b10, b11, b12, b13, b14] := rfl
theorem sel_0_1 (b0 b1 b2 b3 b4 b5 b6 b7 b8 b9 b10 b11 b12 b13 b14 : va_W) : [0, 1].map (fun k => ([b0, b1, b2, b3, b4, b5, b6, b7, b8, b9, b10, b11, b12, b13, b14] : List va_W)[k]?) = [b0, b1].map some := rfl
theorem put_0_1 (b0 b1 b2 b3 b4 b5 b6 b7 b8 b9 b10 b11 b12 b13 b14 c0 c1 : va_W) : bput [b0, b1, b2, b3, b4, b5, b6, b7, b8, b9, b10, b11, b12, b13, b14] [0, 1] [c0, c1] = [c0, c1, b2, b3, b4, b5, b6, b7, b8, b9, b10, b11, b12, b13, b14] := rfl
theorem sel_0_1_2_4_5 (b0 b1 b2 b3 b4 b5 b6 b7 b8 b9 b10 b11 b12 b13 b14 : va_W) : [0, 1, 2, 4, 5].map (fun k => ([b0, b1, b2, b3, b4, b5, b6, b7, b8, b9, b10, b11, b12, b13, b14] : List va_W)[k]?) = [b0, b1, b2, b4, b5].map some := rfl
theorem put_0_1_2_4_5 (b0 b1 b2 b3 b4 b5 b6 b7 b8 b9 b10 b11 b12 b13 b14 c0 c1 c2 c4 c5 : va_W) : bput [b0, b1, b2, b3, b4, b5, b6, b7, b8, b9, b10, b11, b12, b13, b14] [0, 1, 2, 4, 5] [c0, c1, c2, c4, c5] = [c0, c1, c2, b3, c4, c5, b6, b7, b8, b9, b10, b11, b12, b13, b14] := rfl
theorem sel_6_7_8_11_12_13 (b0 b1 b2 b3 b4 b5 b6 b7 b8 b9 b10 b11 b12 b13 b14 : va_W) : [6, 7, 8, 11, 12, 13].map (fun k => ([b0, b1, b2, b3, b4, b5, b6, b7, b8, b9, b10, b11, b12, b13, b14] : List va_W)[k]?) = [b6, b7, b8, b11, b12, b13].map some := rfl
theorem put_6_7_8_11_12_13 (b0 b1 b2 b3 b4 b5 b6 b7 b8 b9 b10 b11 b12 b13 b14 c6 c7 c8 c11 c12 c13 : va_W) : bput [b0, b1, b2, b3, b4, b5, b6, b7, b8, b9, b10, b11, b12, b13, b14] [6, 7, 8, 11, 12, 13] [c6, c7, c8, c11, c12, c13] = [b0, b1, b2, b3, b4, b5, c6, c7, c8, b9, b10, c11, c12, c13, b14] := rfl
