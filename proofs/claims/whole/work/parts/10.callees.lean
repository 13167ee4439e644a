theorem nw_102 : Cond.fieldLinkNest RX5 107 "TandemClocks$State" "speeds" "[I" RX5 ∈ NWl := nw_mem (i := 102) (by decide +kernel) rfl
theorem nw_104 : Cond.fieldLinkNest RX5 69 "TandemClocks$State" "phases" "[I" RX5 ∈ NWl := nw_mem (i := 104) (by decide +kernel) rfl
theorem nw_106 : Cond.fieldLinkNest RX5 98 "TandemClocks$State" "springs" "[I" RX5 ∈ NWl := nw_mem (i := 106) (by decide +kernel) rfl
theorem nw_108 : Cond.fieldLinkNest RX5 297 "TandemClocks$State" "strikes" "[I" RX5 ∈ NWl := nw_mem (i := 108) (by decide +kernel) rfl
theorem nw_113 : Cond.fieldLinkNest RX5 112 "TandemClocks$State" "gives" "[I" RX5 ∈ NWl := nw_mem (i := 113) (by decide +kernel) rfl
theorem nw_115 : Cond.fieldLinkNest RX5 128 "TandemClocks$State" "settings" "[I" RX5 ∈ NWl := nw_mem (i := 115) (by decide +kernel) rfl
theorem nw_117 : Cond.fieldLinkNest RX5 180 "TandemClocks$State" "ticks" "I" RX5 ∈ NWl := nw_mem (i := 117) (by decide +kernel) rfl
theorem nw_165 : Cond.fieldLinkNest RX5 193 "TandemClocks$History" "size" "I" RX5 ∈ NWl := nw_mem (i := 165) (by decide +kernel) rfl
theorem nw_173 : Cond.methodLinkNest RX5 31 yX3_init RX5 ∈ NWl := nw_mem (i := 173) (by decide +kernel) rfl
theorem nw_181 : Cond.fieldLinkNest RX5 142 "TandemClocks$OrderText" "length" "I" RX5 ∈ NWl := nw_mem (i := 181) (by decide +kernel) rfl
theorem nw_184 : Cond.fieldLinkNest RX5 291 "TandemClocks$OrderText" "letter" "I" RX5 ∈ NWl := nw_mem (i := 184) (by decide +kernel) rfl
theorem nw_186 : Cond.fieldLinkNest RX5 285 "TandemClocks$OrderText" "clock" "I" RX5 ∈ NWl := nw_mem (i := 186) (by decide +kernel) rfl
theorem nw_188 : Cond.fieldLinkNest RX5 294 "TandemClocks$OrderText" "isBackwards" "Z" RX5 ∈ NWl := nw_mem (i := 188) (by decide +kernel) rfl
theorem nw_190 : Cond.fieldLinkNest RX5 288 "TandemClocks$OrderText" "number" "I" RX5 ∈ NWl := nw_mem (i := 190) (by decide +kernel) rfl
theorem nw_273 : Cond.methodLinkNest RX3 91 yX5_isClock RX5 ∈ NWl := nw_mem (i := 273) (by decide +kernel) rfl
theorem nw_290 : Cond.methodLinkNest RX3 107 yX5_isBeam RX5 ∈ NWl := nw_mem (i := 290) (by decide +kernel) rfl
theorem nw_334 : Cond.methodLinkNest RX4 105 yX5_isBeam RX5 ∈ NWl := nw_mem (i := 334) (by decide +kernel) rfl
theorem cp_X2_dropOldest : CpV yX2_dropOldest cX2_dropOldest 3 none 0 := ⟨aw_617, aw_616, aw_32, aw_69, by decide +kernel⟩
theorem cp_X2_isEmpty : CpV yX2_isEmpty cX2_isEmpty 1 (some (Jvm.ClassFile.FieldType.boolean)) 0 := ⟨aw_789, aw_787, aw_788, aw_69, by decide +kernel⟩
theorem cp_X2_restoreLatest : CpV yX2_restoreLatest cX2_restoreLatest 2 none 1 := ⟨aw_794, aw_792, aw_793, aw_69, by decide +kernel⟩
theorem cp_X2_save : CpV yX2_save cX2_save 2 none 1 := ⟨aw_613, aw_611, aw_612, aw_69, by decide +kernel⟩
theorem cp_X3_add : CpV yX3_add cX3_add 2 none 1 := ⟨aw_746, aw_744, aw_745, aw_70, by decide +kernel⟩
theorem cp_X3_codeAt : CpV yX3_codeAt cX3_codeAt 2 (some (Jvm.ClassFile.FieldType.int)) 1 := ⟨aw_248, aw_246, aw_247, aw_70, by decide +kernel⟩
theorem cp_X3_empty : CpV yX3_empty cX3_empty 1 none 0 := ⟨aw_232, aw_230, aw_231, aw_70, by decide +kernel⟩
theorem cp_X3_endsOrderBehind : CpV yX3_endsOrderBehind cX3_endsOrderBehind 2 (some (Jvm.ClassFile.FieldType.boolean)) 1 := ⟨aw_766, aw_764, aw_765, aw_70, by decide +kernel⟩
theorem cp_X3_indexOfError : CpV yX3_indexOfError cX3_indexOfError 2 (some (Jvm.ClassFile.FieldType.int)) 0 := ⟨aw_240, aw_238, aw_239, aw_70, by decide +kernel⟩
theorem cp_X3_isComplete : CpV yX3_isComplete cX3_isComplete 1 (some (Jvm.ClassFile.FieldType.boolean)) 0 := ⟨aw_758, aw_756, aw_757, aw_70, by decide +kernel⟩
theorem cp_X3_isFull : CpV yX3_isFull cX3_isFull 1 (some (Jvm.ClassFile.FieldType.boolean)) 0 := ⟨aw_741, aw_739, aw_740, aw_70, by decide +kernel⟩
theorem cp_X3_startReading : CpV yX3_startReading cX3_startReading 1 none 0 := ⟨aw_244, aw_242, aw_243, aw_70, by decide +kernel⟩
theorem cp_X3_takes : CpV yX3_takes cX3_takes 2 (some (Jvm.ClassFile.FieldType.boolean)) 1 := ⟨aw_252, aw_250, aw_251, aw_70, by decide +kernel⟩
theorem cp_X3_takesBeam : CpV yX3_takesBeam cX3_takesBeam 2 (some (Jvm.ClassFile.FieldType.boolean)) 1 := ⟨aw_289, aw_288, aw_3, aw_70, by decide +kernel⟩
theorem cp_X3_takesClock : CpV yX3_takesClock cX3_takesClock 2 (some (Jvm.ClassFile.FieldType.boolean)) 1 := ⟨aw_272, aw_271, aw_1, aw_70, by decide +kernel⟩
theorem cp_X3_takesEnd : CpV yX3_takesEnd cX3_takesEnd 2 (some (Jvm.ClassFile.FieldType.boolean)) 1 := ⟨aw_302, aw_301, aw_5, aw_70, by decide +kernel⟩
theorem cp_X3_takesFirstDigit : CpV yX3_takesFirstDigit cX3_takesFirstDigit 2 (some (Jvm.ClassFile.FieldType.boolean)) 1 := ⟨aw_296, aw_295, aw_4, aw_70, by decide +kernel⟩
theorem cp_X3_takesLetter : CpV yX3_takesLetter cX3_takesLetter 2 (some (Jvm.ClassFile.FieldType.boolean)) 1 := ⟨aw_264, aw_263, aw_0, aw_70, by decide +kernel⟩
theorem cp_X3_takesNextDigit : CpV yX3_takesNextDigit cX3_takesNextDigit 3 (some (Jvm.ClassFile.FieldType.boolean)) 1 := ⟨aw_306, aw_305, aw_6, aw_70, by decide +kernel⟩
theorem cp_X3_takesSign : CpV yX3_takesSign cX3_takesSign 2 (some (Jvm.ClassFile.FieldType.boolean)) 1 := ⟨aw_285, aw_284, aw_2, aw_70, by decide +kernel⟩
theorem cp_X4_areLocked : CpV yX4_areLocked cX4_areLocked 3 (some (Jvm.ClassFile.FieldType.boolean)) 2 := ⟨aw_398, aw_396, aw_397, aw_68, by decide +kernel⟩
theorem cp_X4_areNear : CpV yX4_areNear cX4_areNear 3 (some (Jvm.ClassFile.FieldType.boolean)) 2 := ⟨aw_368, aw_367, aw_13, aw_68, by decide +kernel⟩
theorem cp_X4_copyFrom : CpV yX4_copyFrom cX4_copyFrom 2 none 1 := ⟨aw_314, aw_312, aw_313, aw_68, by decide +kernel⟩
theorem cp_X4_gapFrom : CpV yX4_gapFrom cX4_gapFrom 4 (some (Jvm.ClassFile.FieldType.int)) 2 := ⟨aw_342, aw_341, aw_8, aw_68, by decide +kernel⟩
theorem cp_X4_goOn : CpV yX4_goOn cX4_goOn 3 (some (Jvm.ClassFile.FieldType.int)) 0 := ⟨aw_352, aw_351, aw_9, aw_68, by decide +kernel⟩
theorem cp_X4_goes : CpV yX4_goes cX4_goes 2 (some (Jvm.ClassFile.FieldType.boolean)) 1 := ⟨aw_333, aw_331, aw_332, aw_68, by decide +kernel⟩
theorem cp_X4_goingMask : CpV yX4_goingMask cX4_goingMask 3 (some (Jvm.ClassFile.FieldType.int)) 0 := ⟨aw_421, aw_420, aw_16, aw_68, by decide +kernel⟩
theorem cp_X4_greatestGroup : CpV yX4_greatestGroup cX4_greatestGroup 3 (some (Jvm.ClassFile.FieldType.int)) 0 := ⟨aw_383, aw_381, aw_382, aw_68, by decide +kernel⟩
theorem cp_X4_groupMask : CpV yX4_groupMask cX4_groupMask 5 (some (Jvm.ClassFile.FieldType.int)) 1 := ⟨aw_387, aw_385, aw_386, aw_68, by decide +kernel⟩
theorem cp_X4_groupsByJoining : CpV yX4_groupsByJoining cX4_groupsByJoining 4 (some (Jvm.ClassFile.FieldType.int)) 0 := ⟨aw_447, aw_445, aw_446, aw_68, by decide +kernel⟩
theorem cp_X4_groupsByWalking : CpV yX4_groupsByWalking cX4_groupsByWalking 4 (some (Jvm.ClassFile.FieldType.int)) 0 := ⟨aw_455, aw_454, aw_21, aw_68, by decide +kernel⟩
theorem cp_X4_hangOn : CpV yX4_hangOn cX4_hangOn 4 none 2 := ⟨aw_682, aw_680, aw_681, aw_68, by decide +kernel⟩
theorem cp_X4_hangTogether : CpV yX4_hangTogether cX4_hangTogether 3 (some (Jvm.ClassFile.FieldType.boolean)) 2 := ⟨aw_364, aw_363, aw_12, aw_68, by decide +kernel⟩
theorem cp_X4_hangsOn : CpV yX4_hangsOn cX4_hangsOn 3 (some (Jvm.ClassFile.FieldType.boolean)) 2 := ⟨aw_338, aw_336, aw_337, aw_68, by decide +kernel⟩
theorem cp_X4_join : CpV yX4_join cX4_join 4 none 2 := ⟨aw_451, aw_450, aw_20, aw_68, by decide +kernel⟩
theorem cp_X4_kickBy : CpV yX4_kickBy cX4_kickBy 3 none 2 := ⟨aw_648, aw_646, aw_647, aw_68, by decide +kernel⟩
theorem cp_X4_letPass : CpV yX4_letPass cX4_letPass 4 (some (Jvm.ClassFile.FieldType.int)) 1 := ⟨aw_497, aw_495, aw_496, aw_68, by decide +kernel⟩
theorem cp_X4_lockedMask : CpV yX4_lockedMask cX4_lockedMask 4 (some (Jvm.ClassFile.FieldType.int)) 1 := ⟨aw_394, aw_393, aw_15, aw_68, by decide +kernel⟩
theorem cp_X4_lockedPairs : CpV yX4_lockedPairs cX4_lockedPairs 4 (some (Jvm.ClassFile.FieldType.int)) 0 := ⟨aw_443, aw_442, aw_19, aw_68, by decide +kernel⟩
theorem cp_X4_lookAtPairs : CpV yX4_lookAtPairs cX4_lookAtPairs 4 none 0 := ⟨aw_360, aw_359, aw_11, aw_68, by decide +kernel⟩
theorem cp_X4_lowestOfGroup : CpV yX4_lowestOfGroup cX4_lowestOfGroup 4 (some (Jvm.ClassFile.FieldType.int)) 1 := ⟨aw_472, aw_471, aw_23, aw_68, by decide +kernel⟩
theorem cp_X4_maskOfBeam : CpV yX4_maskOfBeam cX4_maskOfBeam 4 (some (Jvm.ClassFile.FieldType.int)) 1 := ⟨aw_417, aw_415, aw_416, aw_68, by decide +kernel⟩
theorem cp_X4_numberOfAll : CpV yX4_numberOfAll cX4_numberOfAll 3 (some (Jvm.ClassFile.FieldType.int)) 2 := ⟨aw_435, aw_433, aw_434, aw_68, by decide +kernel⟩
theorem cp_X4_numberOfBeam : CpV yX4_numberOfBeam cX4_numberOfBeam 3 (some (Jvm.ClassFile.FieldType.int)) 2 := ⟨aw_484, aw_482, aw_483, aw_68, by decide +kernel⟩
theorem cp_X4_numberOfClock : CpV yX4_numberOfClock cX4_numberOfClock 3 (some (Jvm.ClassFile.FieldType.int)) 2 := ⟨aw_468, aw_466, aw_467, aw_68, by decide +kernel⟩
theorem cp_X4_numberOfPair : CpV yX4_numberOfPair cX4_numberOfPair 4 (some (Jvm.ClassFile.FieldType.int)) 3 := ⟨aw_476, aw_474, aw_475, aw_68, by decide +kernel⟩
theorem cp_X4_pullOf : CpV yX4_pullOf cX4_pullOf 5 (some (Jvm.ClassFile.FieldType.int)) 1 := ⟨aw_329, aw_328, aw_7, aw_68, by decide +kernel⟩
theorem cp_X4_pullsOfBeam : CpV yX4_pullsOfBeam cX4_pullsOfBeam 4 (some (Jvm.ClassFile.FieldType.int)) 1 := ⟨aw_488, aw_487, aw_25, aw_68, by decide +kernel⟩
theorem cp_X4_setTicksNear : CpV yX4_setTicksNear cX4_setTicksNear 4 none 3 := ⟨aw_375, aw_374, aw_14, aw_68, by decide +kernel⟩
theorem cp_X4_strikesBy : CpV yX4_strikesBy cX4_strikesBy 3 (some (Jvm.ClassFile.FieldType.boolean)) 2 := ⟨aw_356, aw_355, aw_10, aw_68, by decide +kernel⟩
theorem cp_X4_strikesOfAll : CpV yX4_strikesOfAll cX4_strikesOfAll 3 (some (Jvm.ClassFile.FieldType.int)) 0 := ⟨aw_439, aw_438, aw_18, aw_68, by decide +kernel⟩
theorem cp_X4_tick : CpV yX4_tick cX4_tick 2 (some (Jvm.ClassFile.FieldType.int)) 0 := ⟨aw_325, aw_323, aw_324, aw_68, by decide +kernel⟩
theorem cp_X4_whyNotLocked : CpV yX4_whyNotLocked cX4_whyNotLocked 3 (some (Jvm.ClassFile.FieldType.int)) 2 := ⟨aw_480, aw_479, aw_24, aw_68, by decide +kernel⟩
theorem cp_X4_widestGap : CpV yX4_widestGap cX4_widestGap 6 (some (Jvm.ClassFile.FieldType.int)) 1 := ⟨aw_413, aw_411, aw_412, aw_68, by decide +kernel⟩
theorem cp_X4_windUp : CpV yX4_windUp cX4_windUp 2 none 1 := ⟨aw_695, aw_693, aw_694, aw_68, by decide +kernel⟩
theorem cp_X5_doesOrder : CpV yX5_doesOrder cX5_doesOrder 3 (some (Jvm.ClassFile.FieldType.boolean)) 0 := ⟨aw_770, aw_769, aw_33, aw_67, by decide +kernel⟩
theorem cp_X5_groupsWithGive : CpV yX5_groupsWithGive cX5_groupsWithGive 3 (some (Jvm.ClassFile.FieldType.int)) 2 := ⟨aw_863, aw_862, aw_34, aw_67, by decide +kernel⟩
theorem cp_X5_hashOfCounts : CpV yX5_hashOfCounts cX5_hashOfCounts 6 (some (Jvm.ClassFile.FieldType.long)) 1 := ⟨aw_431, aw_430, aw_17, aw_67, by decide +kernel⟩
theorem cp_X5_hashOfParts : CpV yX5_hashOfParts cX5_hashOfParts 8 (some (Jvm.ClassFile.FieldType.long)) 1 := ⟨aw_464, aw_463, aw_22, aw_67, by decide +kernel⟩
theorem cp_X5_hashOfText : CpV yX5_hashOfText cX5_hashOfText 6 (some (Jvm.ClassFile.FieldType.long)) 1 := ⟨aw_529, aw_528, aw_30, aw_67, by decide +kernel⟩
theorem cp_X5_hashOfTrial : CpV yX5_hashOfTrial cX5_hashOfTrial 7 (some (Jvm.ClassFile.FieldType.long)) 1 := ⟨aw_502, aw_501, aw_27, aw_67, by decide +kernel⟩
theorem cp_X5_meanGap : CpV yX5_meanGap cX5_meanGap 3 (some (Jvm.ClassFile.FieldType.float)) 0 := ⟨aw_409, aw_407, aw_408, aw_67, by decide +kernel⟩
theorem cp_X5_nextStrike : CpV yX5_nextStrike cX5_nextStrike 2 (some (Jvm.ClassFile.FieldType.int)) 0 := ⟨aw_321, aw_319, aw_320, aw_67, by decide +kernel⟩
theorem cp_X5_stepShare : CpV yX5_stepShare cX5_stepShare 1 (some (Jvm.ClassFile.FieldType.double)) 0 := ⟨aw_379, aw_377, aw_378, aw_67, by decide +kernel⟩
theorem cp_X5_ticksUntilLocked : CpV yX5_ticksUntilLocked cX5_ticksUntilLocked 4 (some (Jvm.ClassFile.FieldType.int)) 2 := ⟨aw_511, aw_510, aw_29, aw_67, by decide +kernel⟩
theorem cp_X5_triedNumber : CpV yX5_triedNumber cX5_triedNumber 3 (some (Jvm.ClassFile.FieldType.int)) 2 := ⟨aw_506, aw_505, aw_28, aw_67, by decide +kernel⟩
theorem cp_X5_tryTicks : CpV yX5_tryTicks cX5_tryTicks 2 none 1 := ⟨aw_493, aw_492, aw_26, aw_67, by decide +kernel⟩
theorem cp_X6_allGaps : CpV yX6_allGaps cX6_allGaps 1 (some (Jvm.ClassFile.FieldType.int)) 0 := ⟨aw_1208, aw_1207, aw_65, aw_73, by decide +kernel⟩
theorem cp_X6_allStrikes : CpV yX6_allStrikes cX6_allStrikes 3 (some (Jvm.ClassFile.FieldType.int)) 0 := ⟨aw_1144, aw_1143, aw_57, aw_73, by decide +kernel⟩
theorem cp_X6_doKick : CpV yX6_doKick cX6_doKick 5 (some (Jvm.ClassFile.FieldType.int)) 2 := ⟨aw_982, aw_981, aw_39, aw_73, by decide +kernel⟩
theorem cp_X6_doMove : CpV yX6_doMove cX6_doMove 5 (some (Jvm.ClassFile.FieldType.int)) 2 := ⟨aw_994, aw_993, aw_40, aw_73, by decide +kernel⟩
theorem cp_X6_doWind : CpV yX6_doWind cX6_doWind 3 (some (Jvm.ClassFile.FieldType.int)) 1 := ⟨aw_1002, aw_1001, aw_41, aw_73, by decide +kernel⟩
theorem cp_X6_goTicks : CpV yX6_goTicks cX6_goTicks 5 (some (Jvm.ClassFile.FieldType.int)) 2 := ⟨aw_940, aw_939, aw_37, aw_73, by decide +kernel⟩
theorem cp_X6_going : CpV yX6_going cX6_going 3 (some (Jvm.ClassFile.FieldType.int)) 0 := ⟨aw_1148, aw_1147, aw_58, aw_73, by decide +kernel⟩
theorem cp_X6_greatest : CpV yX6_greatest cX6_greatest 7 (some (Jvm.ClassFile.FieldType.int)) 1 := ⟨aw_1163, aw_1162, aw_61, aw_73, by decide +kernel⟩
theorem cp_X6_groupSet : CpV yX6_groupSet cX6_groupSet 5 (some (Jvm.ClassFile.FieldType.int)) 2 := ⟨aw_1107, aw_1106, aw_52, aw_73, by decide +kernel⟩
theorem cp_X6_groups : CpV yX6_groups cX6_groups 4 (some (Jvm.ClassFile.FieldType.int)) 1 := ⟨aw_1156, aw_1155, aw_60, aw_73, by decide +kernel⟩
theorem cp_X6_layGroups : CpV yX6_layGroups cX6_layGroups 7 none 1 := ⟨aw_1103, aw_1102, aw_51, aw_73, by decide +kernel⟩
theorem cp_X6_lockedBehind : CpV yX6_lockedBehind cX6_lockedBehind 5 (some (Jvm.ClassFile.FieldType.int)) 2 := ⟨aw_1183, aw_1182, aw_63, aw_73, by decide +kernel⟩
theorem cp_X6_lockedPairs : CpV yX6_lockedPairs cX6_lockedPairs 4 (some (Jvm.ClassFile.FieldType.int)) 0 := ⟨aw_1152, aw_1151, aw_59, aw_73, by decide +kernel⟩
theorem cp_X6_lockedSet : CpV yX6_lockedSet cX6_lockedSet 4 (some (Jvm.ClassFile.FieldType.int)) 1 := ⟨aw_1096, aw_1095, aw_50, aw_73, by decide +kernel⟩
theorem cp_X6_put : CpV yX6_put cX6_put 4 (some (Jvm.ClassFile.FieldType.int)) 2 := ⟨aw_1012, aw_1011, aw_42, aw_73, by decide +kernel⟩
theorem cp_X6_refused : CpV yX6_refused cX6_refused 2 (some (Jvm.ClassFile.FieldType.boolean)) 1 := ⟨aw_932, aw_931, aw_35, aw_73, by decide +kernel⟩
theorem cp_X6_save : CpV yX6_save cX6_save 2 none 0 := ⟨aw_936, aw_935, aw_36, aw_73, by decide +kernel⟩
theorem cp_X6_soonest : CpV yX6_soonest cX6_soonest 2 (some (Jvm.ClassFile.FieldType.int)) 0 := ⟨aw_1195, aw_1194, aw_64, aw_73, by decide +kernel⟩
theorem cp_X6_tellBeam : CpV yX6_tellBeam cX6_tellBeam 12 (some (Jvm.ClassFile.FieldType.int)) 2 := ⟨aw_1131, aw_1130, aw_55, aw_73, by decide +kernel⟩
theorem cp_X6_tellClock : CpV yX6_tellClock cX6_tellClock 4 (some (Jvm.ClassFile.FieldType.int)) 2 := ⟨aw_1092, aw_1091, aw_49, aw_73, by decide +kernel⟩
theorem cp_X6_tellCount : CpV yX6_tellCount cX6_tellCount 2 (some (Jvm.ClassFile.FieldType.int)) 1 := ⟨aw_1140, aw_1139, aw_56, aw_73, by decide +kernel⟩
theorem cp_X6_tellPair : CpV yX6_tellPair cX6_tellPair 4 (some (Jvm.ClassFile.FieldType.int)) 3 := ⟨aw_1118, aw_1117, aw_53, aw_73, by decide +kernel⟩
theorem cp_X6_tick : CpV yX6_tick cX6_tick 7 (some (Jvm.ClassFile.FieldType.int)) 1 := ⟨aw_944, aw_943, aw_38, aw_73, by decide +kernel⟩
theorem cp_X6_whyNot : CpV yX6_whyNot cX6_whyNot 3 (some (Jvm.ClassFile.FieldType.int)) 2 := ⟨aw_1122, aw_1121, aw_54, aw_73, by decide +kernel⟩
theorem cp_X6_wouldBe : CpV yX6_wouldBe cX6_wouldBe 6 (some (Jvm.ClassFile.FieldType.int)) 3 := ⟨aw_1175, aw_1174, aw_62, aw_73, by decide +kernel⟩
theorem cq_J6_bitCount_0f7a4 : CpS yJ6_bitCount_0f7a4 cJ6_bitCount_0f7a4 1 (some (Jvm.ClassFile.FieldType.int)) 1 := ⟨aw_401, aw_400, aw_82, by decide +kernel⟩
theorem cq_J9_floorMod_7cf53 : CpS yJ9_floorMod_7cf53 cJ9_floorMod_7cf53 3 (some (Jvm.ClassFile.FieldType.int)) 2 := ⟨aw_651, aw_650, aw_79, by decide +kernel⟩
theorem cq_Jxe99ae_doubleToLongBits_ccdee : CpS yJxe99ae_doubleToLongBits_ccdee cJxe99ae_doubleToLongBits_ccdee 2 (some (Jvm.ClassFile.FieldType.long)) 1 := ⟨aw_1218, aw_1217, aw_84, by decide +kernel⟩
theorem cq_Jxe99ae_isNaN_b9ae7 : CpS yJxe99ae_isNaN_b9ae7 cJxe99ae_isNaN_b9ae7 2 (some (Jvm.ClassFile.FieldType.boolean)) 1 := ⟨aw_1221, aw_1220, aw_84, by decide +kernel⟩
theorem cq_Jxf58ca_floatToIntBits_5c35a : CpS yJxf58ca_floatToIntBits_5c35a cJxf58ca_floatToIntBits_5c35a 1 (some (Jvm.ClassFile.FieldType.int)) 1 := ⟨aw_1228, aw_1227, aw_85, by decide +kernel⟩
theorem cq_Jxf58ca_isNaN_12338 : CpS yJxf58ca_isNaN_12338 cJxf58ca_isNaN_12338 1 (some (Jvm.ClassFile.FieldType.boolean)) 1 := ⟨aw_1231, aw_1230, aw_85, by decide +kernel⟩
theorem cq_X4_isIn : CpS yX4_isIn cX4_isIn 2 (some (Jvm.ClassFile.FieldType.boolean)) 2 := ⟨aw_390, aw_389, aw_68, by decide +kernel⟩
theorem cq_X5_areTicksOfACall : CpS yX5_areTicksOfACall cX5_areTicksOfACall 1 (some (Jvm.ClassFile.FieldType.boolean)) 1 := ⟨aw_541, aw_540, aw_67, by decide +kernel⟩
theorem cq_X5_bitsOfDouble : CpS yX5_bitsOfDouble cX5_bitsOfDouble 8 (some (Jvm.ClassFile.FieldType.long)) 1 := ⟨aw_517, aw_516, aw_67, by decide +kernel⟩
theorem cq_X5_bitsOfFloat : CpS yX5_bitsOfFloat cX5_bitsOfFloat 4 (some (Jvm.ClassFile.FieldType.int)) 1 := ⟨aw_524, aw_523, aw_67, by decide +kernel⟩
theorem cq_X5_hashWith : CpS yX5_hashWith cX5_hashWith 4 (some (Jvm.ClassFile.FieldType.long)) 2 := ⟨aw_459, aw_458, aw_67, by decide +kernel⟩
theorem cq_X5_isBeam : CpS yX5_isBeam cX5_isBeam 1 (some (Jvm.ClassFile.FieldType.boolean)) 1 := ⟨aw_292, aw_291, aw_67, by decide +kernel⟩
theorem cq_X5_isClock : CpS yX5_isClock cX5_isClock 1 (some (Jvm.ClassFile.FieldType.boolean)) 1 := ⟨aw_275, aw_274, aw_67, by decide +kernel⟩
theorem cq_X5_isPair : CpS yX5_isPair cX5_isPair 2 (some (Jvm.ClassFile.FieldType.boolean)) 2 := ⟨aw_813, aw_812, aw_67, by decide +kernel⟩
theorem cq_X5_isSetting : CpS yX5_isSetting cX5_isSetting 1 (some (Jvm.ClassFile.FieldType.boolean)) 1 := ⟨aw_721, aw_720, aw_67, by decide +kernel⟩
theorem cq_X5_leastOfSetting : CpS yX5_leastOfSetting cX5_leastOfSetting 1 (some (Jvm.ClassFile.FieldType.int)) 1 := ⟨aw_725, aw_724, aw_67, by decide +kernel⟩
theorem cq_X5_mostOfSetting : CpS yX5_mostOfSetting cX5_mostOfSetting 1 (some (Jvm.ClassFile.FieldType.int)) 1 := ⟨aw_728, aw_727, aw_67, by decide +kernel⟩
theorem cq_X6_beamOf : CpS yX6_beamOf cX6_beamOf 2 (some (Jvm.ClassFile.FieldType.int)) 2 := ⟨aw_956, aw_955, aw_73, by decide +kernel⟩
theorem cq_X6_copy : CpS yX6_copy cX6_copy 3 none 2 := ⟨aw_1076, aw_1075, aw_73, by decide +kernel⟩
theorem cq_X6_gap : CpS yX6_gap cX6_gap 4 (some (Jvm.ClassFile.FieldType.int)) 3 := ⟨aw_959, aw_958, aw_73, by decide +kernel⟩
theorem cq_X6_goes : CpS yX6_goes cX6_goes 2 (some (Jvm.ClassFile.FieldType.boolean)) 2 := ⟨aw_950, aw_949, aw_73, by decide +kernel⟩
theorem cq_X6_in : CpS yX6_in cX6_in 6 (some (Jvm.ClassFile.FieldType.boolean)) 3 := ⟨aw_928, aw_927, aw_73, by decide +kernel⟩
theorem cq_X6_isBeam : CpS yX6_isBeam cX6_isBeam 1 (some (Jvm.ClassFile.FieldType.boolean)) 1 := ⟨aw_989, aw_988, aw_73, by decide +kernel⟩
theorem cq_X6_isClock : CpS yX6_isClock cX6_isClock 1 (some (Jvm.ClassFile.FieldType.boolean)) 1 := ⟨aw_975, aw_974, aw_73, by decide +kernel⟩
theorem cq_X6_isLocked : CpS yX6_isLocked cX6_isLocked 3 (some (Jvm.ClassFile.FieldType.boolean)) 3 := ⟨aw_1099, aw_1098, aw_73, by decide +kernel⟩
theorem cq_X6_isNear : CpS yX6_isNear cX6_isNear 3 (some (Jvm.ClassFile.FieldType.boolean)) 3 := ⟨aw_965, aw_964, aw_73, by decide +kernel⟩
theorem cq_X6_isPair : CpS yX6_isPair cX6_isPair 2 (some (Jvm.ClassFile.FieldType.boolean)) 2 := ⟨aw_1114, aw_1113, aw_73, by decide +kernel⟩
theorem cq_X6_isSet : CpS yX6_isSet cX6_isSet 2 (some (Jvm.ClassFile.FieldType.boolean)) 2 := ⟨aw_1024, aw_1023, aw_73, by decide +kernel⟩
theorem cq_X6_near : CpS yX6_near cX6_near 2 (some (Jvm.ClassFile.FieldType.int)) 2 := ⟨aw_962, aw_961, aw_73, by decide +kernel⟩
theorem cq_X6_pull : CpS yX6_pull cX6_pull 4 (some (Jvm.ClassFile.FieldType.int)) 2 := ⟨aw_947, aw_946, aw_73, by decide +kernel⟩
theorem cq_X6_size : CpS yX6_size cX6_size 1 (some (Jvm.ClassFile.FieldType.int)) 1 := ⟨aw_968, aw_967, aw_73, by decide +kernel⟩
theorem cq_X6_spot : CpS yX6_spot cX6_spot 1 (some (Jvm.ClassFile.FieldType.int)) 1 := ⟨aw_953, aw_952, aw_73, by decide +kernel⟩
theorem cq_X6_walked : CpS yX6_walked cX6_walked 8 (some (Jvm.ClassFile.FieldType.int)) 1 := ⟨aw_1159, aw_1158, aw_73, by decide +kernel⟩
