theorem nw_68 : Cond.fieldLinkNest RX5 107 "TandemClocks$State" "speeds" "[I" RX5 ∈ NWl := nw_mem (i := 68) (by decide +kernel) rfl
theorem nw_70 : Cond.fieldLinkNest RX5 69 "TandemClocks$State" "phases" "[I" RX5 ∈ NWl := nw_mem (i := 70) (by decide +kernel) rfl
theorem nw_72 : Cond.fieldLinkNest RX5 98 "TandemClocks$State" "springs" "[I" RX5 ∈ NWl := nw_mem (i := 72) (by decide +kernel) rfl
theorem nw_74 : Cond.fieldLinkNest RX5 297 "TandemClocks$State" "strikes" "[I" RX5 ∈ NWl := nw_mem (i := 74) (by decide +kernel) rfl
theorem nw_79 : Cond.fieldLinkNest RX5 112 "TandemClocks$State" "gives" "[I" RX5 ∈ NWl := nw_mem (i := 79) (by decide +kernel) rfl
theorem nw_81 : Cond.fieldLinkNest RX5 128 "TandemClocks$State" "settings" "[I" RX5 ∈ NWl := nw_mem (i := 81) (by decide +kernel) rfl
theorem nw_83 : Cond.fieldLinkNest RX5 180 "TandemClocks$State" "ticks" "I" RX5 ∈ NWl := nw_mem (i := 83) (by decide +kernel) rfl
theorem nw_131 : Cond.fieldLinkNest RX5 193 "TandemClocks$History" "size" "I" RX5 ∈ NWl := nw_mem (i := 131) (by decide +kernel) rfl
theorem nw_139 : Cond.methodLinkNest RX5 31 yX3_init RX5 ∈ NWl := nw_mem (i := 139) (by decide +kernel) rfl
theorem nw_147 : Cond.fieldLinkNest RX5 142 "TandemClocks$OrderText" "length" "I" RX5 ∈ NWl := nw_mem (i := 147) (by decide +kernel) rfl
theorem nw_150 : Cond.fieldLinkNest RX5 291 "TandemClocks$OrderText" "letter" "I" RX5 ∈ NWl := nw_mem (i := 150) (by decide +kernel) rfl
theorem nw_152 : Cond.fieldLinkNest RX5 285 "TandemClocks$OrderText" "clock" "I" RX5 ∈ NWl := nw_mem (i := 152) (by decide +kernel) rfl
theorem nw_154 : Cond.fieldLinkNest RX5 294 "TandemClocks$OrderText" "isBackwards" "Z" RX5 ∈ NWl := nw_mem (i := 154) (by decide +kernel) rfl
theorem nw_156 : Cond.fieldLinkNest RX5 288 "TandemClocks$OrderText" "number" "I" RX5 ∈ NWl := nw_mem (i := 156) (by decide +kernel) rfl
theorem nw_377 : Cond.methodLinkNest RX4 105 yX5_isBeam RX5 ∈ NWl := nw_mem (i := 377) (by decide +kernel) rfl
theorem nw_798 : Cond.methodLinkNest RX3 91 yX5_isClock RX5 ∈ NWl := nw_mem (i := 798) (by decide +kernel) rfl
theorem nw_813 : Cond.methodLinkNest RX3 107 yX5_isBeam RX5 ∈ NWl := nw_mem (i := 813) (by decide +kernel) rfl
theorem cp_X2_dropOldest : CpV yX2_dropOldest cX2_dropOldest 3 none 0 := ⟨aw_483, aw_482, aw_14, aw_38, by decide +kernel⟩
theorem cp_X2_isEmpty : CpV yX2_isEmpty cX2_isEmpty 1 (some (Jvm.ClassFile.FieldType.boolean)) 0 := ⟨aw_697, aw_695, aw_696, aw_38, by decide +kernel⟩
theorem cp_X2_restoreLatest : CpV yX2_restoreLatest cX2_restoreLatest 2 none 1 := ⟨aw_702, aw_700, aw_701, aw_38, by decide +kernel⟩
theorem cp_X2_save : CpV yX2_save cX2_save 2 none 1 := ⟨aw_479, aw_477, aw_478, aw_38, by decide +kernel⟩
theorem cp_X3_add : CpV yX3_add cX3_add 2 none 1 := ⟨aw_619, aw_617, aw_618, aw_39, by decide +kernel⟩
theorem cp_X3_codeAt : CpV yX3_codeAt cX3_codeAt 2 (some (Jvm.ClassFile.FieldType.int)) 1 := ⟨aw_757, aw_755, aw_756, aw_39, by decide +kernel⟩
theorem cp_X3_empty : CpV yX3_empty cX3_empty 1 none 0 := ⟨aw_841, aw_839, aw_840, aw_39, by decide +kernel⟩
theorem cp_X3_endsOrderBehind : CpV yX3_endsOrderBehind cX3_endsOrderBehind 2 (some (Jvm.ClassFile.FieldType.boolean)) 1 := ⟨aw_863, aw_861, aw_862, aw_39, by decide +kernel⟩
theorem cp_X3_indexOfError : CpV yX3_indexOfError cX3_indexOfError 2 (some (Jvm.ClassFile.FieldType.int)) 0 := ⟨aw_768, aw_766, aw_767, aw_39, by decide +kernel⟩
theorem cp_X3_isComplete : CpV yX3_isComplete cX3_isComplete 1 (some (Jvm.ClassFile.FieldType.boolean)) 0 := ⟨aw_855, aw_853, aw_854, aw_39, by decide +kernel⟩
theorem cp_X3_isFull : CpV yX3_isFull cX3_isFull 1 (some (Jvm.ClassFile.FieldType.boolean)) 0 := ⟨aw_614, aw_612, aw_613, aw_39, by decide +kernel⟩
theorem cp_X3_startReading : CpV yX3_startReading cX3_startReading 1 none 0 := ⟨aw_772, aw_770, aw_771, aw_39, by decide +kernel⟩
theorem cp_X3_takes : CpV yX3_takes cX3_takes 2 (some (Jvm.ClassFile.FieldType.boolean)) 1 := ⟨aw_777, aw_775, aw_776, aw_39, by decide +kernel⟩
theorem cp_X3_takesBeam : CpV yX3_takesBeam cX3_takesBeam 2 (some (Jvm.ClassFile.FieldType.boolean)) 1 := ⟨aw_812, aw_811, aw_30, aw_39, by decide +kernel⟩
theorem cp_X3_takesClock : CpV yX3_takesClock cX3_takesClock 2 (some (Jvm.ClassFile.FieldType.boolean)) 1 := ⟨aw_797, aw_796, aw_28, aw_39, by decide +kernel⟩
theorem cp_X3_takesEnd : CpV yX3_takesEnd cX3_takesEnd 2 (some (Jvm.ClassFile.FieldType.boolean)) 1 := ⟨aw_823, aw_822, aw_32, aw_39, by decide +kernel⟩
theorem cp_X3_takesFirstDigit : CpV yX3_takesFirstDigit cX3_takesFirstDigit 2 (some (Jvm.ClassFile.FieldType.boolean)) 1 := ⟨aw_817, aw_816, aw_31, aw_39, by decide +kernel⟩
theorem cp_X3_takesLetter : CpV yX3_takesLetter cX3_takesLetter 2 (some (Jvm.ClassFile.FieldType.boolean)) 1 := ⟨aw_789, aw_788, aw_27, aw_39, by decide +kernel⟩
theorem cp_X3_takesNextDigit : CpV yX3_takesNextDigit cX3_takesNextDigit 3 (some (Jvm.ClassFile.FieldType.boolean)) 1 := ⟨aw_827, aw_826, aw_33, aw_39, by decide +kernel⟩
theorem cp_X3_takesSign : CpV yX3_takesSign cX3_takesSign 2 (some (Jvm.ClassFile.FieldType.boolean)) 1 := ⟨aw_808, aw_807, aw_29, aw_39, by decide +kernel⟩
theorem cp_X4_areLocked : CpV yX4_areLocked cX4_areLocked 3 (some (Jvm.ClassFile.FieldType.boolean)) 2 := ⟨aw_309, aw_307, aw_308, aw_37, by decide +kernel⟩
theorem cp_X4_areNear : CpV yX4_areNear cX4_areNear 3 (some (Jvm.ClassFile.FieldType.boolean)) 2 := ⟨aw_423, aw_422, aw_12, aw_37, by decide +kernel⟩
theorem cp_X4_copyFrom : CpV yX4_copyFrom cX4_copyFrom 2 none 1 := ⟨aw_487, aw_485, aw_486, aw_37, by decide +kernel⟩
theorem cp_X4_gapFrom : CpV yX4_gapFrom cX4_gapFrom 4 (some (Jvm.ClassFile.FieldType.int)) 2 := ⟨aw_387, aw_386, aw_8, aw_37, by decide +kernel⟩
theorem cp_X4_goOn : CpV yX4_goOn cX4_goOn 3 (some (Jvm.ClassFile.FieldType.int)) 0 := ⟨aw_502, aw_501, aw_15, aw_37, by decide +kernel⟩
theorem cp_X4_goes : CpV yX4_goes cX4_goes 2 (some (Jvm.ClassFile.FieldType.boolean)) 1 := ⟨aw_295, aw_293, aw_294, aw_37, by decide +kernel⟩
theorem cp_X4_goingMask : CpV yX4_goingMask cX4_goingMask 3 (some (Jvm.ClassFile.FieldType.int)) 0 := ⟨aw_291, aw_290, aw_2, aw_37, by decide +kernel⟩
theorem cp_X4_greatestGroup : CpV yX4_greatestGroup cX4_greatestGroup 3 (some (Jvm.ClassFile.FieldType.int)) 0 := ⟨aw_336, aw_334, aw_335, aw_37, by decide +kernel⟩
theorem cp_X4_groupMask : CpV yX4_groupMask cX4_groupMask 5 (some (Jvm.ClassFile.FieldType.int)) 1 := ⟨aw_328, aw_326, aw_327, aw_37, by decide +kernel⟩
theorem cp_X4_groupsByJoining : CpV yX4_groupsByJoining cX4_groupsByJoining 4 (some (Jvm.ClassFile.FieldType.int)) 0 := ⟨aw_313, aw_311, aw_312, aw_37, by decide +kernel⟩
theorem cp_X4_groupsByWalking : CpV yX4_groupsByWalking cX4_groupsByWalking 4 (some (Jvm.ClassFile.FieldType.int)) 0 := ⟨aw_321, aw_320, aw_5, aw_37, by decide +kernel⟩
theorem cp_X4_hangOn : CpV yX4_hangOn cX4_hangOn 4 none 2 := ⟨aw_558, aw_556, aw_557, aw_37, by decide +kernel⟩
theorem cp_X4_hangTogether : CpV yX4_hangTogether cX4_hangTogether 3 (some (Jvm.ClassFile.FieldType.boolean)) 2 := ⟨aw_419, aw_418, aw_11, aw_37, by decide +kernel⟩
theorem cp_X4_hangsOn : CpV yX4_hangsOn cX4_hangsOn 3 (some (Jvm.ClassFile.FieldType.boolean)) 2 := ⟨aw_383, aw_381, aw_382, aw_37, by decide +kernel⟩
theorem cp_X4_join : CpV yX4_join cX4_join 4 none 2 := ⟨aw_317, aw_316, aw_4, aw_37, by decide +kernel⟩
theorem cp_X4_kickBy : CpV yX4_kickBy cX4_kickBy 3 none 2 := ⟨aw_526, aw_524, aw_525, aw_37, by decide +kernel⟩
theorem cp_X4_letPass : CpV yX4_letPass cX4_letPass 4 (some (Jvm.ClassFile.FieldType.int)) 1 := ⟨aw_494, aw_492, aw_493, aw_37, by decide +kernel⟩
theorem cp_X4_lockedMask : CpV yX4_lockedMask cX4_lockedMask 4 (some (Jvm.ClassFile.FieldType.int)) 1 := ⟨aw_332, aw_331, aw_6, aw_37, by decide +kernel⟩
theorem cp_X4_lockedPairs : CpV yX4_lockedPairs cX4_lockedPairs 4 (some (Jvm.ClassFile.FieldType.int)) 0 := ⟨aw_305, aw_304, aw_3, aw_37, by decide +kernel⟩
theorem cp_X4_lookAtPairs : CpV yX4_lookAtPairs cX4_lookAtPairs 4 none 0 := ⟨aw_510, aw_509, aw_17, aw_37, by decide +kernel⟩
theorem cp_X4_lowestOfGroup : CpV yX4_lowestOfGroup cX4_lowestOfGroup 4 (some (Jvm.ClassFile.FieldType.int)) 1 := ⟨aw_394, aw_393, aw_9, aw_37, by decide +kernel⟩
theorem cp_X4_maskOfBeam : CpV yX4_maskOfBeam cX4_maskOfBeam 4 (some (Jvm.ClassFile.FieldType.int)) 1 := ⟨aw_445, aw_443, aw_444, aw_37, by decide +kernel⟩
theorem cp_X4_numberOfAll : CpV yX4_numberOfAll cX4_numberOfAll 3 (some (Jvm.ClassFile.FieldType.int)) 2 := ⟨aw_283, aw_281, aw_282, aw_37, by decide +kernel⟩
theorem cp_X4_numberOfBeam : CpV yX4_numberOfBeam cX4_numberOfBeam 3 (some (Jvm.ClassFile.FieldType.int)) 2 := ⟨aw_441, aw_439, aw_440, aw_37, by decide +kernel⟩
theorem cp_X4_numberOfClock : CpV yX4_numberOfClock cX4_numberOfClock 3 (some (Jvm.ClassFile.FieldType.int)) 2 := ⟨aw_372, aw_370, aw_371, aw_37, by decide +kernel⟩
theorem cp_X4_numberOfPair : CpV yX4_numberOfPair cX4_numberOfPair 4 (some (Jvm.ClassFile.FieldType.int)) 3 := ⟨aw_411, aw_409, aw_410, aw_37, by decide +kernel⟩
theorem cp_X4_pullOf : CpV yX4_pullOf cX4_pullOf 5 (some (Jvm.ClassFile.FieldType.int)) 1 := ⟨aw_376, aw_375, aw_7, aw_37, by decide +kernel⟩
theorem cp_X4_pullsOfBeam : CpV yX4_pullsOfBeam cX4_pullsOfBeam 4 (some (Jvm.ClassFile.FieldType.int)) 1 := ⟨aw_449, aw_448, aw_13, aw_37, by decide +kernel⟩
theorem cp_X4_setTicksNear : CpV yX4_setTicksNear cX4_setTicksNear 4 none 3 := ⟨aw_514, aw_513, aw_18, aw_37, by decide +kernel⟩
theorem cp_X4_strikesBy : CpV yX4_strikesBy cX4_strikesBy 3 (some (Jvm.ClassFile.FieldType.boolean)) 2 := ⟨aw_506, aw_505, aw_16, aw_37, by decide +kernel⟩
theorem cp_X4_strikesOfAll : CpV yX4_strikesOfAll cX4_strikesOfAll 3 (some (Jvm.ClassFile.FieldType.int)) 0 := ⟨aw_287, aw_286, aw_1, aw_37, by decide +kernel⟩
theorem cp_X4_tick : CpV yX4_tick cX4_tick 2 (some (Jvm.ClassFile.FieldType.int)) 0 := ⟨aw_498, aw_496, aw_497, aw_37, by decide +kernel⟩
theorem cp_X4_whyNotLocked : CpV yX4_whyNotLocked cX4_whyNotLocked 3 (some (Jvm.ClassFile.FieldType.int)) 2 := ⟨aw_415, aw_414, aw_10, aw_37, by decide +kernel⟩
theorem cp_X4_widestGap : CpV yX4_widestGap cX4_widestGap 6 (some (Jvm.ClassFile.FieldType.int)) 1 := ⟨aw_453, aw_451, aw_452, aw_37, by decide +kernel⟩
theorem cp_X4_windUp : CpV yX4_windUp cX4_windUp 2 none 1 := ⟨aw_572, aw_570, aw_571, aw_37, by decide +kernel⟩
theorem cp_X5_doesOrder : CpV yX5_doesOrder cX5_doesOrder 3 (some (Jvm.ClassFile.FieldType.boolean)) 0 := ⟨aw_867, aw_866, aw_34, aw_36, by decide +kernel⟩
theorem cp_X5_groupsWithGive : CpV yX5_groupsWithGive cX5_groupsWithGive 3 (some (Jvm.ClassFile.FieldType.int)) 2 := ⟨aw_661, aw_660, aw_22, aw_36, by decide +kernel⟩
theorem cp_X5_hashOfCounts : CpV yX5_hashOfCounts cX5_hashOfCounts 6 (some (Jvm.ClassFile.FieldType.long)) 1 := ⟨aw_714, aw_713, aw_23, aw_36, by decide +kernel⟩
theorem cp_X5_hashOfParts : CpV yX5_hashOfParts cX5_hashOfParts 8 (some (Jvm.ClassFile.FieldType.long)) 1 := ⟨aw_722, aw_721, aw_24, aw_36, by decide +kernel⟩
theorem cp_X5_hashOfText : CpV yX5_hashOfText cX5_hashOfText 6 (some (Jvm.ClassFile.FieldType.long)) 1 := ⟨aw_753, aw_752, aw_26, aw_36, by decide +kernel⟩
theorem cp_X5_hashOfTrial : CpV yX5_hashOfTrial cX5_hashOfTrial 7 (some (Jvm.ClassFile.FieldType.long)) 1 := ⟨aw_726, aw_725, aw_25, aw_36, by decide +kernel⟩
theorem cp_X5_meanGap : CpV yX5_meanGap cX5_meanGap 3 (some (Jvm.ClassFile.FieldType.float)) 0 := ⟨aw_743, aw_741, aw_742, aw_36, by decide +kernel⟩
theorem cp_X5_nextStrike : CpV yX5_nextStrike cX5_nextStrike 2 (some (Jvm.ClassFile.FieldType.int)) 0 := ⟨aw_686, aw_684, aw_685, aw_36, by decide +kernel⟩
theorem cp_X5_stepShare : CpV yX5_stepShare cX5_stepShare 1 (some (Jvm.ClassFile.FieldType.double)) 0 := ⟨aw_731, aw_729, aw_730, aw_36, by decide +kernel⟩
theorem cp_X5_ticksUntilLocked : CpV yX5_ticksUntilLocked cX5_ticksUntilLocked 4 (some (Jvm.ClassFile.FieldType.int)) 2 := ⟨aw_648, aw_647, aw_21, aw_36, by decide +kernel⟩
theorem cp_X5_triedNumber : CpV yX5_triedNumber cX5_triedNumber 3 (some (Jvm.ClassFile.FieldType.int)) 2 := ⟨aw_636, aw_635, aw_20, aw_36, by decide +kernel⟩
theorem cp_X5_tryTicks : CpV yX5_tryTicks cX5_tryTicks 2 none 1 := ⟨aw_631, aw_630, aw_19, aw_36, by decide +kernel⟩
theorem cq_J6_bitCount_0f7a4 : CpS yJ6_bitCount_0f7a4 cJ6_bitCount_0f7a4 1 (some (Jvm.ClassFile.FieldType.int)) 1 := ⟨aw_298, aw_297, aw_42, by decide +kernel⟩
theorem cq_J9_floorMod_7cf53 : CpS yJ9_floorMod_7cf53 cJ9_floorMod_7cf53 3 (some (Jvm.ClassFile.FieldType.int)) 2 := ⟨aw_529, aw_528, aw_43, by decide +kernel⟩
theorem cq_X4_isIn : CpS yX4_isIn cX4_isIn 2 (some (Jvm.ClassFile.FieldType.boolean)) 2 := ⟨aw_324, aw_323, aw_37, by decide +kernel⟩
theorem cq_X5_areTicksOfACall : CpS yX5_areTicksOfACall cX5_areTicksOfACall 1 (some (Jvm.ClassFile.FieldType.boolean)) 1 := ⟨aw_474, aw_473, aw_36, by decide +kernel⟩
theorem cq_X5_bitsOfDouble : CpS yX5_bitsOfDouble cX5_bitsOfDouble 8 (some (Jvm.ClassFile.FieldType.long)) 1 := ⟨aw_736, aw_735, aw_36, by decide +kernel⟩
theorem cq_X5_bitsOfFloat : CpS yX5_bitsOfFloat cX5_bitsOfFloat 4 (some (Jvm.ClassFile.FieldType.int)) 1 := ⟨aw_748, aw_747, aw_36, by decide +kernel⟩
theorem cq_X5_hashWith : CpS yX5_hashWith cX5_hashWith 4 (some (Jvm.ClassFile.FieldType.long)) 2 := ⟨aw_717, aw_716, aw_36, by decide +kernel⟩
theorem cq_X5_isBeam : CpS yX5_isBeam cX5_isBeam 1 (some (Jvm.ClassFile.FieldType.boolean)) 1 := ⟨aw_379, aw_378, aw_36, by decide +kernel⟩
theorem cq_X5_isClock : CpS yX5_isClock cX5_isClock 1 (some (Jvm.ClassFile.FieldType.boolean)) 1 := ⟨aw_351, aw_350, aw_36, by decide +kernel⟩
theorem cq_X5_isPair : CpS yX5_isPair cX5_isPair 2 (some (Jvm.ClassFile.FieldType.boolean)) 2 := ⟨aw_405, aw_404, aw_36, by decide +kernel⟩
theorem cq_X5_isSetting : CpS yX5_isSetting cX5_isSetting 1 (some (Jvm.ClassFile.FieldType.boolean)) 1 := ⟨aw_463, aw_462, aw_36, by decide +kernel⟩
theorem cq_X5_leastOfSetting : CpS yX5_leastOfSetting cX5_leastOfSetting 1 (some (Jvm.ClassFile.FieldType.int)) 1 := ⟨aw_598, aw_597, aw_36, by decide +kernel⟩
theorem cq_X5_mostOfSetting : CpS yX5_mostOfSetting cX5_mostOfSetting 1 (some (Jvm.ClassFile.FieldType.int)) 1 := ⟨aw_601, aw_600, aw_36, by decide +kernel⟩
